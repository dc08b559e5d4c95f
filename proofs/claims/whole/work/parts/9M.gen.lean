/-! Trees while not all is made yet: the same steps over any kinds -/
abbrev x_hk (nc : Nat) (kd : Nat → Nat × Nat) (I : x_M Int32) (J : x_M Int64) (R : x_M (Option Nat)) : x_H := (nc, kd, I, J, R)
def isTk (kd : Nat → Nat × Nat) (R : x_M (Option Nat)) (t : Nat) : Prop := kd t = (1008, 0) ∧ kd (t + 1) = (1, 4) ∧ kd (t + 2) = (6, 128) ∧ kd (t + 3) = (1, 128) ∧ kd (t + 4) = (1, 128) ∧ kd (t + 5) = (1, 128) ∧ kd (t + 6) = (1, 128) ∧ kd (t + 7) = (1, 128) ∧ kd (t + 8) = (1, 128) ∧ kd (t + 9) = (1, 128) ∧ kd (t + 10) = (6, 3) ∧ kd (t + 11) = (1, 384) ∧ R 1514 t 0 = some (t + 1) ∧ R 1515 t 0 = some (t + 2) ∧ R 1516 t 0 = some (t + 3) ∧ R 1517 t 0 = some (t + 4) ∧ R 1518 t 0 = some (t + 5) ∧ R 1519 t 0 = some (t + 6) ∧ R 1520 t 0 = some (t + 7) ∧ R 1521 t 0 = some (t + 8) ∧ R 1522 t 0 = some (t + 9) ∧ R 1523 t 0 = some (t + 10) ∧ R 1524 t 0 = some (t + 11)
section
variable {E : x_E} {P : x_Pr} {d rc rs : Nat} {I : x_M Int32} {J : x_M Int64} {R : x_M (Option Nat)} {Q : x_Q} {t : Nat} {T : x_T} {nc : Nat} {kd : Nat → Nat × Nat}
theorem g_hasRoomM (hP : x_closed E P) (ht : isTk kd R t) (hc : ctm I J t T) (h4 : tD T ≤ 4) (h30 : ∀ d, d < tD T → tS T d ≤ 30) (k : Q (some (.int (bI (decide (0 < tD T ∧ tS T (tD T - 1) < 30))))) (x_hk nc kd I J R)) : P 12 d 0 (x_la 0 [.ref t]) [] (x_hk nc kd I J R) rc rs Q := by
  obtain ⟨t0, t1, t2, t3, t4, t5, t6, t7, t8, t9, t10, t11, u1, u2, u3, u4, u5, u6, u7, u8, u9, u10, u11⟩ := ht
  obtain ⟨h1, h2, h3, hh4, h5⟩ := hc
  first | refine x_aload_n hP rfl rfl ?_ | refine x_aload_nN hP rfl rfl ?_
  refine x_getI hP rfl (by first | assumption | rfl) (by first | assumption | exact hR _ _ _ _ rfl | exact hR1 _ _ _ _ rfl | exact hR2 _ _ _ _ rfl | rfl) ?_
  refine z_if_le hP rfl (by omega) (fun c4 => ?_) (fun c4 => ?_)
  · rw [decide_eq_false (by omega)] at k
    refine x_iconst hP rfl ?_
    refine x_zret hP rfl rfl (by first | exact Or.inl iI_0 | exact Or.inr iI_1 | exact bI_or _ | assumption) ?_
    exact k
  · have v2 := h30 (tD T - 1) (by omega)
    have e : ((tD T : Int) - 1).toNat = tD T - 1 := by omega
    have v : I 1 (t + 1) ((tD T : Int) - 1).toNat = iI (tS T (tD T - 1)) := by rw [e]; exact h3 (tD T - 1) (by omega)
    first | refine x_aload_n hP rfl rfl ?_ | refine x_aload_nN hP rfl rfl ?_
    refine x_getR hP rfl (by first | assumption | rfl) (by first | assumption | exact hR _ _ _ _ rfl | exact hR1 _ _ _ _ rfl | exact hR2 _ _ _ _ rfl | rfl) ?_
    first | refine x_aload_n hP rfl rfl ?_ | refine x_aload_nN hP rfl rfl ?_
    refine x_getI hP rfl (by first | assumption | rfl) (by first | assumption | exact hR _ _ _ _ rfl | exact hR1 _ _ _ _ rfl | exact hR2 _ _ _ _ rfl | rfl) ?_
    refine x_iconst hP rfl ?_
    first | refine z_isub hP rfl ?_ | refine x_isub hP rfl ?_
    refine z_iald hP rfl (by first | assumption | rfl) (by first | decide | omega) (by omega) (by first | assumption | exact hR _ _ _ _ rfl | exact hR1 _ _ _ _ rfl | exact hR2 _ _ _ _ rfl | rfl) ?_
    refine x_bipush hP rfl ?_
    refine z_icmp_ge hP rfl (by omega) (by omega) (fun c20 => ?_) (fun c20 => ?_)
    · rw [decide_eq_false (by omega)] at k
      refine x_iconst hP rfl ?_
      refine x_zret hP rfl rfl (by first | exact Or.inl iI_0 | exact Or.inr iI_1 | exact bI_or _ | assumption) ?_
      exact k
    · rw [decide_eq_true (by omega)] at k
      refine x_iconst hP rfl ?_
      refine x_goto hP rfl ?_
      refine x_zret hP rfl rfl (by first | exact Or.inl iI_0 | exact Or.inr iI_1 | exact bI_or _ | assumption) ?_
      exact k
theorem g_addMember (hP : x_closed E P) (ht : isTk kd R t) (hc : ctm I J t T) (h0 : 0 < tD T) (hd4 : tD T ≤ 4) (hs : tS T (tD T - 1) < 30) (h30 : ∀ d, d < tD T → tS T d ≤ 30) {v : Int64} {x : Int} (hx : x = -1 ∨ 0 ≤ x ∧ x < tS T (tD T - 1)) (k : ∀ I' J', ctm I' J' t (tAdd T v x) → frP (gT t) I I' → frP (gT t) J J' → Q none (x_hk nc kd I' J' R)) : P 11 (d + 1) 0 (x_la 0 [.ref t, .long v, .int (iI x)]) [] (x_hk nc kd I J R) rc rs Q := by
  have ht' := ht
  obtain ⟨t0, t1, t2, t3, t4, t5, t6, t7, t8, t9, t10, t11, u1, u2, u3, u4, u5, u6, u7, u8, u9, u10, u11⟩ := ht
  have hc' := hc
  obtain ⟨h1, h2, h3, h4, h5⟩ := hc
  have e : (tD T : Int) - 1 = ((tD T - 1 : Nat) : Int) := by omega
  have g3 : t + 1 ≤ t + 3 ∧ t + 3 ≤ t + 10 := by omega
  have g4 : t + 1 ≤ t + 4 ∧ t + 4 ≤ t + 10 := by omega
  have g1 : t + 1 ≤ t + 1 ∧ t + 1 ≤ t + 10 := by omega
  have g2 : t + 1 ≤ t + 2 ∧ t + 2 ≤ t + 10 := by omega
  first | refine x_aload_n hP rfl rfl ?_ | refine x_aload_nN hP rfl rfl ?_
  refine x_callV0 (ci := 8) hP 0 0 rfl rfl rfl (by first | assumption | rfl) rfl rfl rfl (Nat.zero_le _) (Nat.zero_le _) ?_
  refine g_hasRoomM hP ht' hc' hd4 h30 ?_
  first | refine zb_if_ne hP rfl (fun c4 => ?_) (fun c4 => ?_) | refine zl_if_ne hP rfl (fun c4 => ?_) (fun c4 => ?_) | refine z_if_ne hP rfl (by omega) (fun c4 => ?_) (fun c4 => ?_)
  rotate_left
  · have := of_decide_eq_false c4; omega
  have v0 := h3 (tD T - 1) (by omega)
  first | refine x_aload_n hP rfl rfl ?_ | refine x_aload_nN hP rfl rfl ?_
  refine x_getI hP rfl (by first | assumption | rfl) (by first | assumption | exact hR _ _ _ _ rfl | exact hR1 _ _ _ _ rfl | exact hR2 _ _ _ _ rfl | rfl) ?_
  refine x_iconst hP rfl ?_
  first | refine z_isub hP rfl ?_ | refine x_isub hP rfl ?_
  rw [e]
  refine x_istore hP rfl ?_
  refine x_iload hP rfl rfl ?_
  first | refine x_aload_n hP rfl rfl ?_ | refine x_aload_nN hP rfl rfl ?_
  refine x_getR hP rfl (by first | assumption | rfl) (by first | assumption | exact hR _ _ _ _ rfl | exact hR1 _ _ _ _ rfl | exact hR2 _ _ _ _ rfl | rfl) ?_
  refine x_iload hP rfl rfl ?_
  refine z_iald hP rfl (by first | assumption | rfl) (by first | decide | omega) (by omega) (by first | assumption | exact hR _ _ _ _ rfl | exact hR1 _ _ _ _ rfl | exact hR2 _ _ _ _ rfl | rfl) ?_
  refine x_callS2 hP 0 0 rfl rfl rfl rfl rfl (Nat.zero_le _) (Nat.zero_le _) ?_
  refine c_idOf hP (e := tD T - 1) (k := tS T (tD T - 1)) (by omega) (by omega) ?_
  have v1 : ∀ (i : Nat) (z w : Int32), (x_at (x_at I 1 (t + 3) i z) 1 (t + 4) i w) 1 (t + 1) (tD T - 1) = iI (tS T (tD T - 1)) := fun i z w => by
    rw [x_at_eq, if_neg (by omega), x_at_eq, if_neg (by omega)]; exact v0
  refine x_istore hP rfl ?_
  first | refine x_aload_n hP rfl rfl ?_ | refine x_aload_nN hP rfl rfl ?_
  refine x_getR hP rfl (by first | assumption | rfl) (by first | assumption | exact hR _ _ _ _ rfl | exact hR1 _ _ _ _ rfl | exact hR2 _ _ _ _ rfl | rfl) ?_
  refine x_iload hP rfl rfl ?_
  refine x_lload_n hP rfl rfl ?_
  refine z_last hP rfl (by first | assumption | rfl) (by first | decide | omega) (by omega) ?_
  first | refine w_nI ?_ | refine w_nL ?_ | refine w_nR ?_ | refine w_mI ?_ | refine w_mL ?_ | refine w_mR ?_ | skip
  first | refine x_aload_n hP rfl rfl ?_ | refine x_aload_nN hP rfl rfl ?_
  refine x_getR hP rfl (by first | assumption | rfl) (by first | assumption | exact hR _ _ _ _ rfl | exact hR1 _ _ _ _ rfl | exact hR2 _ _ _ _ rfl | rfl) ?_
  refine x_iload hP rfl rfl ?_
  refine x_iload_n hP rfl rfl ?_
  refine z_iast hP rfl (by first | assumption | rfl) (by first | decide | omega) (by omega) ?_
  first | refine w_nI ?_ | refine w_nL ?_ | refine w_nR ?_ | refine w_mI ?_ | refine w_mL ?_ | refine w_mR ?_ | skip
  first | refine x_aload_n hP rfl rfl ?_ | refine x_aload_nN hP rfl rfl ?_
  refine x_getR hP rfl (by first | assumption | rfl) (by first | assumption | exact hR _ _ _ _ rfl | exact hR1 _ _ _ _ rfl | exact hR2 _ _ _ _ rfl | rfl) ?_
  refine x_iload hP rfl rfl ?_
  refine x_iload_n hP rfl rfl ?_
  first | refine zl_if_ge hP rfl (fun c53 => ?_) (fun c53 => ?_) | refine z_if_ge hP rfl (by omega) (fun c53 => ?_) (fun c53 => ?_)
  · have hxx : 0 ≤ x ∧ x < tS T (tD T - 1) := by omega
    obtain ⟨z, rfl⟩ : ∃ z : Nat, x = z := ⟨x.toNat, by omega⟩
    first | refine x_aload_n hP rfl rfl ?_ | refine x_aload_nN hP rfl rfl ?_
    refine x_getR hP rfl (by first | assumption | rfl) (by first | assumption | exact hR _ _ _ _ rfl | exact hR1 _ _ _ _ rfl | exact hR2 _ _ _ _ rfl | rfl) ?_
    refine x_iload hP rfl rfl ?_
    refine x_iload_n hP rfl rfl ?_
    refine x_callS2 hP 0 0 rfl rfl rfl rfl rfl (Nat.zero_le _) (Nat.zero_le _) ?_
    refine c_idOf hP (e := tD T - 1) (k := z) (by omega) (by omega) ?_
    have v3 : (x_at I 1 (t + 3) (32 * (tD T - 1) + tS T (tD T - 1)) (iI z)) 1 (t + 4) (32 * (tD T - 1) + z) = iI (tH T (tD T - 1) z) := by
      rw [x_at_eq, if_neg (by omega)]
      exact (h4 _ (by omega) z (by omega)).2.2
    refine z_iald hP rfl (by first | assumption | rfl) (by first | decide | omega) (by omega) (by first | assumption | exact hR _ _ _ _ rfl | exact hR1 _ _ _ _ rfl | exact hR2 _ _ _ _ rfl | rfl) ?_
    refine x_iconst hP rfl ?_
    first | refine z_iadd hP rfl ?_ | refine x_iadd hP rfl ?_
    refine z_iast hP rfl (by first | assumption | rfl) (by first | decide | omega) (by omega) ?_
    first | refine w_nI ?_ | refine w_nL ?_ | refine w_nR ?_ | refine w_mI ?_ | refine w_mL ?_ | refine w_mR ?_ | skip
    first | refine x_aload_n hP rfl rfl ?_ | refine x_aload_nN hP rfl rfl ?_
    refine x_getR hP rfl (by first | assumption | rfl) (by first | assumption | exact hR _ _ _ _ rfl | exact hR1 _ _ _ _ rfl | exact hR2 _ _ _ _ rfl | rfl) ?_
    refine x_iload hP rfl rfl ?_
    have v1' := v1 (32 * (tD T - 1) + tS T (tD T - 1)) (iI z) (iI ((tH T (tD T - 1) z : Int) + 1))
    refine x_dup2 hP rfl rfl rfl ?_
    refine z_iald hP rfl (by first | assumption | rfl) (by first | decide | omega) (by omega) (by first | assumption | exact hR _ _ _ _ rfl | exact hR1 _ _ _ _ rfl | exact hR2 _ _ _ _ rfl | rfl) ?_
    refine x_iconst hP rfl ?_
    first | refine z_iadd hP rfl ?_ | refine x_iadd hP rfl ?_
    refine z_iast hP rfl (by first | assumption | rfl) (by first | decide | omega) (by omega) ?_
    first | refine w_nI ?_ | refine w_nL ?_ | refine w_nR ?_ | refine w_mI ?_ | refine w_mL ?_ | refine w_mR ?_ | skip
    refine x_vret hP rfl rfl ?_
    have := ctm_add (v := v) (x := z) hc' h0 hs h30 rfl
    rw [if_neg (by omega)] at this
    exact k _ _ this (frP_at (frP_at (frP_at (frP_refl _ _) (Or.inr (Or.inr ⟨Or.inl rfl, g3⟩))) (Or.inr (Or.inr ⟨Or.inl rfl, g4⟩))) (Or.inr (Or.inr ⟨Or.inl rfl, g1⟩))) (frP_at (frP_refl _ _) (Or.inr (Or.inr ⟨Or.inr rfl, g2⟩)))
  · obtain rfl : x = -1 := by omega
    refine x_iconst hP rfl ?_
    refine x_goto hP rfl ?_
    refine z_iast hP rfl (by first | assumption | rfl) (by first | decide | omega) (by omega) ?_
    first | refine w_nI ?_ | refine w_nL ?_ | refine w_nR ?_ | refine w_mI ?_ | refine w_mL ?_ | refine w_mR ?_ | skip
    first | refine x_aload_n hP rfl rfl ?_ | refine x_aload_nN hP rfl rfl ?_
    refine x_getR hP rfl (by first | assumption | rfl) (by first | assumption | exact hR _ _ _ _ rfl | exact hR1 _ _ _ _ rfl | exact hR2 _ _ _ _ rfl | rfl) ?_
    refine x_iload hP rfl rfl ?_
    have v1' := v1 (32 * (tD T - 1) + tS T (tD T - 1)) (iI (-1)) (iI 0)
    refine x_dup2 hP rfl rfl rfl ?_
    refine z_iald hP rfl (by first | assumption | rfl) (by first | decide | omega) (by omega) (by first | assumption | exact hR _ _ _ _ rfl | exact hR1 _ _ _ _ rfl | exact hR2 _ _ _ _ rfl | rfl) ?_
    refine x_iconst hP rfl ?_
    first | refine z_iadd hP rfl ?_ | refine x_iadd hP rfl ?_
    refine z_iast hP rfl (by first | assumption | rfl) (by first | decide | omega) (by omega) ?_
    first | refine w_nI ?_ | refine w_nL ?_ | refine w_nR ?_ | refine w_mI ?_ | refine w_mL ?_ | refine w_mR ?_ | skip
    refine x_vret hP rfl rfl ?_
    have := ctm_add (v := v) (x := -1) hc' h0 hs h30 rfl
    rw [if_pos (by omega)] at this
    exact k _ _ this (frP_at (frP_at (frP_at (frP_refl _ _) (Or.inr (Or.inr ⟨Or.inl rfl, g3⟩))) (Or.inr (Or.inr ⟨Or.inl rfl, g4⟩))) (Or.inr (Or.inr ⟨Or.inl rfl, g1⟩))) (frP_at (frP_refl _ _) (Or.inr (Or.inr ⟨Or.inr rfl, g2⟩)))
theorem g_addDimension (hP : x_closed E P) (ht : isTk kd R t) (hc : ct I J t T) (hd4 : tD T < 4) {v : Int64} (k : ∀ I' J', ct I' J' t (tAddD T v) → frP (gT t) I I' → frP (gT t) J J' → Q none (x_hk nc kd I' J' R)) : P 10 (d + 2) 0 (x_la 0 [.ref t, .long v]) [] (x_hk nc kd I J R) rc rs Q := by
  have ht' := ht
  have hw := hc.2.2.2.2.2
  obtain ⟨t0, t1, t2, t3, t4, t5, t6, t7, t8, t9, t10, t11, u1, u2, u3, u4, u5, u6, u7, u8, u9, u10, u11⟩ := ht
  obtain ⟨h1, h2, h3, h4, h5, w1, w2, w3⟩ := hc
  have g1 : t + 1 ≤ t + 1 ∧ t + 1 ≤ t + 10 := by omega
  first | refine x_aload_n hP rfl rfl ?_ | refine x_aload_nN hP rfl rfl ?_
  refine x_getI hP rfl (by first | assumption | rfl) (by first | assumption | exact hR _ _ _ _ rfl | exact hR1 _ _ _ _ rfl | exact hR2 _ _ _ _ rfl | rfl) ?_
  refine x_iconst hP rfl ?_
  refine z_icmp_ge hP rfl (by omega) (by omega) (fun c5 => ?_) (fun c5 => ?_)
  · omega
  first | refine x_aload_n hP rfl rfl ?_ | refine x_aload_nN hP rfl rfl ?_
  refine x_dup hP rfl rfl ?_
  refine x_getI hP rfl (by first | assumption | rfl) (by first | assumption | exact hR _ _ _ _ rfl | exact hR1 _ _ _ _ rfl | exact hR2 _ _ _ _ rfl | rfl) ?_
  refine x_iconst hP rfl ?_
  first | refine z_iadd hP rfl ?_ | refine x_iadd hP rfl ?_
  refine x_putI hP rfl (by first | assumption | rfl) ?_
  first | refine w_nI ?_ | refine w_nL ?_ | refine w_nR ?_ | refine w_mI ?_ | refine w_mL ?_ | refine w_mR ?_ | skip
  have v1 : (x_at I 1512 t 0 (iI ((tD T : Int) + 1))) 1512 t 0 = iI ((tD T : Int) + 1) := by rw [x_at_eq, if_pos ⟨rfl, rfl, rfl⟩]
  first | refine x_aload_n hP rfl rfl ?_ | refine x_aload_nN hP rfl rfl ?_
  refine x_getR hP rfl (by first | assumption | rfl) (by first | assumption | exact hR _ _ _ _ rfl | exact hR1 _ _ _ _ rfl | exact hR2 _ _ _ _ rfl | rfl) ?_
  first | refine x_aload_n hP rfl rfl ?_ | refine x_aload_nN hP rfl rfl ?_
  refine x_getI hP rfl (by first | assumption | rfl) (by first | assumption | exact hR _ _ _ _ rfl | exact hR1 _ _ _ _ rfl | exact hR2 _ _ _ _ rfl | rfl) ?_
  refine x_iconst hP rfl ?_
  first | refine z_isub hP rfl ?_ | refine x_isub hP rfl ?_
  refine x_iconst hP rfl ?_
  refine z_iast hP rfl (by first | assumption | rfl) (by first | decide | omega) (by omega) ?_
  first | refine w_nI ?_ | refine w_nL ?_ | refine w_nR ?_ | refine w_mI ?_ | refine w_mL ?_ | refine w_mR ?_ | skip
  first | refine x_aload_n hP rfl rfl ?_ | refine x_aload_nN hP rfl rfl ?_
  refine x_lload_n hP rfl rfl ?_
  refine x_iconst hP rfl ?_
  refine x_callV2 (ci := 8) hP 0 0 rfl rfl rfl (by first | assumption | rfl) rfl rfl rfl (Nat.zero_le _) (Nat.zero_le _) ?_
  have e : ((tD T : Int) + 1 - 1).toNat = tD T := by omega
  rw [e]
  have hm : ctm (x_at (x_at I 1512 t 0 (iI ((tD T : Int) + 1))) 1 (t + 1) (tD T) (iI 0)) J t (tNewD T) := by
    refine ⟨?_, ?_, fun d hd => ?_, fun d hd z hz => ?_, fun m hm => ?_⟩
    · rw [x_at_eq, if_neg (by omega), x_at_eq, if_pos ⟨rfl, rfl, rfl⟩]; rfl
    · rw [x_at_eq, if_neg (by omega), x_at_eq, if_neg (by omega)]; exact h2
    · have hd : d < tD T + 1 := hd
      show _ = iI (uf1 (tS T) (tD T) 0 d : Nat)
      rw [x_at_eq]
      by_cases e : d = tD T
      · rw [if_pos ⟨rfl, rfl, e⟩, e, uf1_s]; rfl
      · rw [if_neg (by omega), x_at_eq, if_neg (by omega), uf1_n _ _ e]
        exact h3 d (by omega)
    · have hd : d < tD T + 1 := hd
      have hz : z < uf1 (tS T) (tD T) 0 d := hz
      have hd2 : d < tD T := by
        by_cases e : d = tD T
        · subst e; rw [uf1_s] at hz; omega
        · omega
      rw [uf1_n _ _ (by omega)] at hz
      have := h4 d hd2 z hz
      refine ⟨this.1, ?_, ?_⟩
      · rw [x_at_eq, if_neg (by omega)]; exact this.2.1
      · rw [x_at_eq, if_neg (by omega)]; exact this.2.2
    · exact h5 m hm
  have es : tS (tNewD T) (tD (tNewD T) - 1) = 0 := uf1_s ..
  refine g_addMember hP ht' hm (by show 0 < tD T + 1; omega) (by show tD T + 1 ≤ 4; omega) (by rw [es]; decide) (fun z hz => ?_) (Or.inl rfl) (fun I' J' hc' f1 f2 => ?_)
  · have hz : z < tD T + 1 := hz
    show uf1 (tS T) (tD T) 0 z ≤ 30
    by_cases e : z = tD T
    · rw [e, uf1_s]; decide
    · rw [uf1_n _ _ e]; exact (w3 z (by omega)).2.1
  refine x_vret hP rfl rfl ?_
  exact k _ _ (ct_m.mpr ⟨hc', twf_addD hw hd4⟩) (frP_trans (frP_at (frP_at (frP_refl _ _) (Or.inl ⟨rfl, rfl⟩)) (Or.inr (Or.inr ⟨Or.inl rfl, g1⟩))) f1) f2
theorem g_addMark (hP : x_closed E P) (ht : isTk kd R t) (hc : ct I J t T) (hd4 : tM T < 3) {v : Int64} (k : ∀ I' J', ct I' J' t (tAddK T v) → frP (gT t) I I' → frP (gT t) J J' → Q none (x_hk nc kd I' J' R)) : P 14 d 0 (x_la 0 [.ref t, .long v]) [] (x_hk nc kd I J R) rc rs Q := by
  have hw := hc.2.2.2.2.2
  obtain ⟨t0, t1, t2, t3, t4, t5, t6, t7, t8, t9, t10, t11, u1, u2, u3, u4, u5, u6, u7, u8, u9, u10, u11⟩ := ht
  obtain ⟨h1, h2, h3, h4, h5, w1, w2, w3⟩ := hc
  have g1 : t + 1 ≤ t + 10 ∧ t + 10 ≤ t + 10 := by omega
  first | refine x_aload_n hP rfl rfl ?_ | refine x_aload_nN hP rfl rfl ?_
  refine x_getI hP rfl (by first | assumption | rfl) (by first | assumption | exact hR _ _ _ _ rfl | exact hR1 _ _ _ _ rfl | exact hR2 _ _ _ _ rfl | rfl) ?_
  refine x_iconst hP rfl ?_
  refine z_icmp_ge hP rfl (by omega) (by omega) (fun c5 => ?_) (fun c5 => ?_)
  · omega
  first | refine x_aload_n hP rfl rfl ?_ | refine x_aload_nN hP rfl rfl ?_
  refine x_getR hP rfl (by first | assumption | rfl) (by first | assumption | exact hR _ _ _ _ rfl | exact hR1 _ _ _ _ rfl | exact hR2 _ _ _ _ rfl | rfl) ?_
  first | refine x_aload_n hP rfl rfl ?_ | refine x_aload_nN hP rfl rfl ?_
  refine x_getI hP rfl (by first | assumption | rfl) (by first | assumption | exact hR _ _ _ _ rfl | exact hR1 _ _ _ _ rfl | exact hR2 _ _ _ _ rfl | rfl) ?_
  refine x_lload_n hP rfl rfl ?_
  refine z_last hP rfl (by first | assumption | rfl) (by first | decide | omega) (by omega) ?_
  first | refine w_nI ?_ | refine w_nL ?_ | refine w_nR ?_ | refine w_mI ?_ | refine w_mL ?_ | refine w_mR ?_ | skip
  first | refine x_aload_n hP rfl rfl ?_ | refine x_aload_nN hP rfl rfl ?_
  refine x_dup hP rfl rfl ?_
  refine x_getI hP rfl (by first | assumption | rfl) (by first | assumption | exact hR _ _ _ _ rfl | exact hR1 _ _ _ _ rfl | exact hR2 _ _ _ _ rfl | rfl) ?_
  refine x_iconst hP rfl ?_
  first | refine z_iadd hP rfl ?_ | refine x_iadd hP rfl ?_
  refine x_putI hP rfl (by first | assumption | rfl) ?_
  first | refine w_nI ?_ | refine w_nL ?_ | refine w_nR ?_ | refine w_mI ?_ | refine w_mL ?_ | refine w_mR ?_ | skip
  refine x_vret hP rfl rfl ?_
  refine k _ _ ⟨?_, ?_, h3, ?_, fun m hm => ?_, twf_addK hw hd4⟩ (frP_at (frP_refl _ _) (Or.inr (Or.inl ⟨rfl, rfl⟩))) (frP_at (frP_refl _ _) (Or.inr (Or.inr ⟨Or.inr rfl, g1⟩)))
  · rw [x_at_eq, if_neg (by omega)]; exact h1
  · rw [x_at_eq, if_pos ⟨rfl, rfl, rfl⟩]; rfl
  · intro d hd z hz
    have := h4 d hd z hz
    refine ⟨?_, this.2.1, this.2.2⟩
    rw [x_at_eq, if_neg (by omega)]; exact this.1
  · have hm : m < tM T + 1 := hm
    show x_at J 6 (t + 10) (tM T) v 6 (t + 10) m = uf1 (tK T) (tM T) v m
    rw [x_at_eq]
    by_cases e : m = tM T
    · rw [if_pos ⟨rfl, rfl, e⟩, e, uf1_s]
    · rw [if_neg (fun q => e q.2.2), uf1_n _ _ e]
      exact h5 m (by omega)
theorem g_cu1 (hP : x_closed E P) (ht : isTk kd R t) {e s : Nat} (he : e < 4) (hs : s ≤ 30) : ∀ (f i : Nat) (I : x_M Int32), i + f = s → I 1 (t + 1) e = iI s → af I (t + 5) (32 * e) i (fun _ => 0) → af I (t + 6) (32 * e) i (fun _ => 0) → af I (t + 7) (32 * e) i (fun _ => 1) → (∀ I' L, x_ag L 0 [some (.ref t), some (.int (iI e)), some (.int (iI (32 * e : Nat)))] → af I' (t + 5) (32 * e) s (fun _ => 0) → af I' (t + 6) (32 * e) s (fun _ => 0) → af I' (t + 7) (32 * e) s (fun _ => 1) → frP (dS t e) I I' → P 16 d 47 L [] (x_hk nc kd I' J R) rc rs Q) →
    P 16 d 8 (x_ls [some (.ref t), some (.int (iI e)), some (.int (iI (32 * e : Nat))), some (.int (iI (32 * e + i : Nat)))]) [] (x_hk nc kd I J R) rc rs Q := by
  obtain ⟨t0, t1, t2, t3, t4, t5, t6, t7, t8, t9, t10, t11, u1, u2, u3, u4, u5, u6, u7, u8, u9, u10, u11⟩ := ht
  intro f
  induction f with
  | zero =>
    intro i I hi v0 h5 h6 h7 k
    obtain rfl : i = s := by omega
    refine x_iload_n hP rfl rfl ?_
    refine x_iload_n hP rfl rfl ?_
    first | refine x_aload_n hP rfl rfl ?_ | refine x_aload_nN hP rfl rfl ?_
    refine x_getR hP rfl (by first | assumption | rfl) (by first | assumption | exact hR _ _ _ _ rfl | exact hR1 _ _ _ _ rfl | exact hR2 _ _ _ _ rfl | rfl) ?_
    refine x_iload_n hP rfl rfl ?_
    refine z_iald hP rfl (by first | assumption | rfl) (by first | decide | omega) (by omega) (by first | assumption | exact hR _ _ _ _ rfl | exact hR1 _ _ _ _ rfl | exact hR2 _ _ _ _ rfl | rfl) ?_
    first | refine z_iadd hP rfl ?_ | refine x_iadd hP rfl ?_
    refine z_icmp_ge hP rfl (by omega) (by omega) (fun c17 => ?_) (fun c17 => ?_)
    · exact k I _ ⟨rfl, rfl, rfl, trivial⟩ h5 h6 h7 (frP_refl _ _)
    · omega
  | succ f ih =>
    intro i I hi v0 h5 h6 h7 k
    have nx : ∀ (I : x_M Int32) (a : Nat) (v : Int), af I a (32 * e) i (fun _ => v) → af (x_at I 1 a (32 * e + i) (iI v)) a (32 * e) (i + 1) (fun _ => v) := fun I a v h z hz => by
      rw [x_at_eq]
      by_cases q : z = i
      · rw [if_pos ⟨rfl, rfl, by omega⟩]
      · rw [if_neg (by omega)]
        exact h z (by omega)
    refine x_iload_n hP rfl rfl ?_
    refine x_iload_n hP rfl rfl ?_
    first | refine x_aload_n hP rfl rfl ?_ | refine x_aload_nN hP rfl rfl ?_
    refine x_getR hP rfl (by first | assumption | rfl) (by first | assumption | exact hR _ _ _ _ rfl | exact hR1 _ _ _ _ rfl | exact hR2 _ _ _ _ rfl | rfl) ?_
    refine x_iload_n hP rfl rfl ?_
    refine z_iald hP rfl (by first | assumption | rfl) (by first | decide | omega) (by omega) (by first | assumption | exact hR _ _ _ _ rfl | exact hR1 _ _ _ _ rfl | exact hR2 _ _ _ _ rfl | rfl) ?_
    first | refine z_iadd hP rfl ?_ | refine x_iadd hP rfl ?_
    refine z_icmp_ge hP rfl (by omega) (by omega) (fun c17 => ?_) (fun c17 => ?_)
    · omega
    first | refine x_aload_n hP rfl rfl ?_ | refine x_aload_nN hP rfl rfl ?_
    refine x_getR hP rfl (by first | assumption | rfl) (by first | assumption | exact hR _ _ _ _ rfl | exact hR1 _ _ _ _ rfl | exact hR2 _ _ _ _ rfl | rfl) ?_
    refine x_iload_n hP rfl rfl ?_
    refine x_iconst hP rfl ?_
    refine z_iast hP rfl (by first | assumption | rfl) (by first | decide | omega) (by omega) ?_
    first | refine w_nI ?_ | refine w_nL ?_ | refine w_nR ?_ | refine w_mI ?_ | refine w_mL ?_ | refine w_mR ?_ | skip
    first | refine x_aload_n hP rfl rfl ?_ | refine x_aload_nN hP rfl rfl ?_
    refine x_getR hP rfl (by first | assumption | rfl) (by first | assumption | exact hR _ _ _ _ rfl | exact hR1 _ _ _ _ rfl | exact hR2 _ _ _ _ rfl | rfl) ?_
    refine x_iload_n hP rfl rfl ?_
    refine x_iconst hP rfl ?_
    refine z_iast hP rfl (by first | assumption | rfl) (by first | decide | omega) (by omega) ?_
    first | refine w_nI ?_ | refine w_nL ?_ | refine w_nR ?_ | refine w_mI ?_ | refine w_mL ?_ | refine w_mR ?_ | skip
    first | refine x_aload_n hP rfl rfl ?_ | refine x_aload_nN hP rfl rfl ?_
    refine x_getR hP rfl (by first | assumption | rfl) (by first | assumption | exact hR _ _ _ _ rfl | exact hR1 _ _ _ _ rfl | exact hR2 _ _ _ _ rfl | rfl) ?_
    refine x_iload_n hP rfl rfl ?_
    refine x_iconst hP rfl ?_
    refine z_iast hP rfl (by first | assumption | rfl) (by first | decide | omega) (by omega) ?_
    first | refine w_nI ?_ | refine w_nL ?_ | refine w_nR ?_ | refine w_mI ?_ | refine w_mL ?_ | refine w_mR ?_ | skip
    refine z_iinc hP rfl rfl rfl ?_
    refine x_goto hP rfl ?_
    have hf : frP (dS t e) I (x_at (x_at (x_at I 1 (t + 5) (32 * e + i) (iI 0)) 1 (t + 6) (32 * e + i) (iI 0)) 1 (t + 7) (32 * e + i) (iI 1)) := frP_at (frP_at (frP_at (frP_refl _ _) ⟨rfl, by omega, by omega, by omega, by omega⟩) ⟨rfl, by omega, by omega, by omega, by omega⟩) ⟨rfl, by omega, by omega, by omega, by omega⟩
    refine x_re hP [some (.ref t), some (.int (iI e)), some (.int (iI (32 * e : Nat))), some (.int (iI (32 * e + (i + 1) : Nat)))] ⟨rfl, rfl, rfl, rfl, trivial⟩ (ih (i + 1) _ (by omega) ?_ ?_ ?_ ?_ (fun I' L hL q5 q6 q7 hf' => k I' L hL q5 q6 q7 (frP_trans hf hf')))
    · exact (hf _ _ _ (by unfold dS; omega)).trans v0
    · exact af_out (af_out (nx _ _ _ h5) (by omega)) (by omega)
    · exact af_out (nx _ _ _ (af_out h6 (by omega))) (by omega)
    · exact nx _ _ _ (af_out (af_out h7 (by omega)) (by omega))
theorem g_cu_up (hP : x_closed E P) (ht : isTk kd R t) {e s i u : Nat} (he : e < 4) (hs : s ≤ 30) (hi : i < s) (hu : u < i) {A5 A6 A7 : Nat → Int} (v3 : I 1 (t + 3) (32 * e + i) = iI u) (h5 : af I (t + 5) (32 * e) s A5) (h6 : af I (t + 6) (32 * e) s A6) (h7 : af I (t + 7) (32 * e) s A7) (k : ∀ I' L, x_ag L 0 [some (.ref t), some (.int (iI e)), some (.int (iI (32 * e : Nat))), some (.int (iI (32 * e + i : Nat)))] → af I' (t + 5) (32 * e) s (fun k => if k = u then A5 u + 1 else A5 k) → af I' (t + 6) (32 * e) s (fun k => if k = u then A6 u + A6 i else A6 k) → af I' (t + 7) (32 * e) s (fun k => if k = u then A7 u + A7 i else A7 k) → frP (dS t e) I I' → P 16 (d + 1) 143 L [] (x_hk nc kd I' J R) rc rs Q) :
    P 16 (d + 1) 88 (x_ls [some (.ref t), some (.int (iI e)), some (.int (iI (32 * e : Nat))), some (.int (iI (32 * e + i : Nat)))]) [] (x_hk nc kd I J R) rc rs Q := by
  obtain ⟨t0, t1, t2, t3, t4, t5, t6, t7, t8, t9, t10, t11, u1, u2, u3, u4, u5, u6, u7, u8, u9, u10, u11⟩ := ht
  refine x_iload_n hP rfl rfl ?_
  first | refine x_aload_n hP rfl rfl ?_ | refine x_aload_nN hP rfl rfl ?_
  refine x_getR hP rfl (by first | assumption | rfl) (by first | assumption | exact hR _ _ _ _ rfl | exact hR1 _ _ _ _ rfl | exact hR2 _ _ _ _ rfl | rfl) ?_
  refine x_iload_n hP rfl rfl ?_
  refine z_iald hP rfl (by first | assumption | rfl) (by first | decide | omega) (by omega) (by first | assumption | exact hR _ _ _ _ rfl | exact hR1 _ _ _ _ rfl | exact hR2 _ _ _ _ rfl | rfl) ?_
  refine x_callS2 hP 0 0 rfl rfl rfl rfl rfl (Nat.zero_le _) (Nat.zero_le _) ?_
  refine c_idOf hP he (by omega) ?_
  have r5 := h5 u (by omega)
  have r6 := af_out (k' := 1) (a' := t + 5) (i' := 32 * e + u) (v := iI (A5 u + 1)) h6 (by omega)
  have r7 := af_out (k' := 1) (a' := t + 5) (i' := 32 * e + u) (v := iI (A5 u + 1)) h7 (by omega)
  have r6u := r6 u (by omega)
  have r6i := r6 i hi
  have r7 := af_out (k' := 1) (a' := t + 6) (i' := 32 * e + u) (v := iI (A6 u + A6 i)) r7 (by omega)
  have r7u := r7 u (by omega)
  have r7i := r7 i hi
  refine x_istore hP rfl ?_
  first | refine x_aload_n hP rfl rfl ?_ | refine x_aload_nN hP rfl rfl ?_
  refine x_getR hP rfl (by first | assumption | rfl) (by first | assumption | exact hR _ _ _ _ rfl | exact hR1 _ _ _ _ rfl | exact hR2 _ _ _ _ rfl | rfl) ?_
  refine x_iload hP rfl rfl ?_
  refine x_dup2 hP rfl rfl rfl ?_
  refine z_iald hP rfl (by first | assumption | rfl) (by first | decide | omega) (by omega) (by first | assumption | exact hR _ _ _ _ rfl | exact hR1 _ _ _ _ rfl | exact hR2 _ _ _ _ rfl | rfl) ?_
  refine x_iconst hP rfl ?_
  first | refine z_iadd hP rfl ?_ | refine x_iadd hP rfl ?_
  refine z_iast hP rfl (by first | assumption | rfl) (by first | decide | omega) (by omega) ?_
  first | refine w_nI ?_ | refine w_nL ?_ | refine w_nR ?_ | refine w_mI ?_ | refine w_mL ?_ | refine w_mR ?_ | skip
  first | refine x_aload_n hP rfl rfl ?_ | refine x_aload_nN hP rfl rfl ?_
  refine x_getR hP rfl (by first | assumption | rfl) (by first | assumption | exact hR _ _ _ _ rfl | exact hR1 _ _ _ _ rfl | exact hR2 _ _ _ _ rfl | rfl) ?_
  refine x_iload hP rfl rfl ?_
  refine x_dup2 hP rfl rfl rfl ?_
  refine z_iald hP rfl (by first | assumption | rfl) (by first | decide | omega) (by omega) (by first | assumption | exact hR _ _ _ _ rfl | exact hR1 _ _ _ _ rfl | exact hR2 _ _ _ _ rfl | rfl) ?_
  first | refine x_aload_n hP rfl rfl ?_ | refine x_aload_nN hP rfl rfl ?_
  refine x_getR hP rfl (by first | assumption | rfl) (by first | assumption | exact hR _ _ _ _ rfl | exact hR1 _ _ _ _ rfl | exact hR2 _ _ _ _ rfl | rfl) ?_
  refine x_iload_n hP rfl rfl ?_
  refine z_iald hP rfl (by first | assumption | rfl) (by first | decide | omega) (by omega) (by first | assumption | exact hR _ _ _ _ rfl | exact hR1 _ _ _ _ rfl | exact hR2 _ _ _ _ rfl | rfl) ?_
  first | refine z_iadd hP rfl ?_ | refine x_iadd hP rfl ?_
  refine z_iast hP rfl (by first | assumption | rfl) (by first | decide | omega) (by omega) ?_
  first | refine w_nI ?_ | refine w_nL ?_ | refine w_nR ?_ | refine w_mI ?_ | refine w_mL ?_ | refine w_mR ?_ | skip
  first | refine x_aload_n hP rfl rfl ?_ | refine x_aload_nN hP rfl rfl ?_
  refine x_getR hP rfl (by first | assumption | rfl) (by first | assumption | exact hR _ _ _ _ rfl | exact hR1 _ _ _ _ rfl | exact hR2 _ _ _ _ rfl | rfl) ?_
  refine x_iload hP rfl rfl ?_
  refine x_dup2 hP rfl rfl rfl ?_
  refine z_iald hP rfl (by first | assumption | rfl) (by first | decide | omega) (by omega) (by first | assumption | exact hR _ _ _ _ rfl | exact hR1 _ _ _ _ rfl | exact hR2 _ _ _ _ rfl | rfl) ?_
  first | refine x_aload_n hP rfl rfl ?_ | refine x_aload_nN hP rfl rfl ?_
  refine x_getR hP rfl (by first | assumption | rfl) (by first | assumption | exact hR _ _ _ _ rfl | exact hR1 _ _ _ _ rfl | exact hR2 _ _ _ _ rfl | rfl) ?_
  refine x_iload_n hP rfl rfl ?_
  refine z_iald hP rfl (by first | assumption | rfl) (by first | decide | omega) (by omega) (by first | assumption | exact hR _ _ _ _ rfl | exact hR1 _ _ _ _ rfl | exact hR2 _ _ _ _ rfl | rfl) ?_
  first | refine z_iadd hP rfl ?_ | refine x_iadd hP rfl ?_
  refine z_iast hP rfl (by first | assumption | rfl) (by first | decide | omega) (by omega) ?_
  first | refine w_nI ?_ | refine w_nL ?_ | refine w_nR ?_ | refine w_mI ?_ | refine w_mL ?_ | refine w_mR ?_ | skip
  refine k _ _ ⟨rfl, rfl, rfl, rfl, trivial⟩ ?_ ?_ ?_ ?_
  · exact af_out (af_out (af_up h5) (by omega)) (by omega)
  · exact af_out (af_up r6) (by omega)
  · exact af_up r7
  · exact frP_at (frP_at (frP_at (frP_refl _ _) ⟨rfl, by omega, by omega, by omega, by omega⟩) ⟨rfl, by omega, by omega, by omega, by omega⟩) ⟨rfl, by omega, by omega, by omega, by omega⟩
theorem g_cu2 (hP : x_closed E P) (ht : isTk kd R t) {e s : Nat} {p : Nat → Int} (he : e < 4) (hs : s ≤ 30) (hp : wfp p s) : ∀ (f : Nat) (I : x_M Int32), f ≤ s → I 1 (t + 1) e = iI s → af I (t + 3) (32 * e) s p → af I (t + 5) (32 * e) s (K5 p s f) → af I (t + 6) (32 * e) s (K6 p s f) → af I (t + 7) (32 * e) s (K7 p s f) → (∀ I', st1 I' t e p s → frP (dS t e) I I' → Q none (x_hk nc kd I' J R)) →
    P 16 (d + 1) 58 (x_ls [some (.ref t), some (.int (iI e)), some (.int (iI (32 * e : Nat))), some (.int (iI (((32 * e + f : Nat) : Int) - 1)))]) [] (x_hk nc kd I J R) rc rs Q := by
  have ht' := ht
  obtain ⟨t0, t1, t2, t3, t4, t5, t6, t7, t8, t9, t10, t11, u1, u2, u3, u4, u5, u6, u7, u8, u9, u10, u11⟩ := ht
  intro f
  induction f with
  | zero =>
    intro I hf v0 v3 h5 h6 h7 k
    refine x_iload_n hP rfl rfl ?_
    refine x_iload_n hP rfl rfl ?_
    refine z_icmp_lt hP rfl (by omega) (by omega) (fun c60 => ?_) (fun c60 => ?_)
    · refine x_vret hP rfl rfl ?_
      refine k I ⟨af_ext h5 fun z hz => ?_, af_ext h6 fun z hz => ?_, af_ext h7 fun z hz => ?_⟩ (frP_refl _ _)
      · rw [K5, sfrom_0]; rfl
      · rw [K6, if_pos (Nat.zero_le _)]
      · rw [K7, sfrom_0, spn_eq hp hz]
    · omega
  | succ i ih =>
    intro I hf v0 v3 h5 h6 h7 k
    have ei : ((32 * e + (i + 1) : Nat) : Int) - 1 = ((32 * e + i : Nat) : Int) := by omega
    rw [ei]
    have hi : i < s := by omega
    have e5 : K5 p s (i + 1) i = (kdn p s i : Nat) := by rw [K5, kw_from hp (Nat.le_refl _) (fun _ => 1) hi]; rfl
    have e7 : K7 p s (i + 1) i = (spn p s i : Nat) := by rw [K7, kw_from hp (Nat.le_refl _) (spn p s) hi, spn_eq hp hi]; rfl
    have n5 : ∀ k, K5 p s i k = K5 p s (i + 1) k + (if p i = k then 1 else 0) := fun k => by
      rw [K5, K5, sfrom_peel hi]
      split <;> rfl
    have n7 : ∀ k, K7 p s i k = K7 p s (i + 1) k + (if p i = k then (spn p s i : Int) else 0) := fun k => by
      rw [K7, K7, sfrom_peel hi]
      split <;> omega
    have hk : kdn p s i ≤ 30 := by
      have h1 : kdn p s i ≤ 1 * s := by
        show sumS _ s ≤ _
        rw [← sfrom_0]
        exact sfrom_le 0 s 1 fun j hj => by show (if p j = (i : Int) then 1 else 0) ≤ 1; split <;> omega
      omega
    have r5 := h5 i hi
    rw [e5] at r5
    have mid : ∀ (I1 : x_M Int32) L, x_ag L 0 [some (.ref t), some (.int (iI e)), some (.int (iI (32 * e : Nat))), some (.int (iI (32 * e + i : Nat)))] → frP (dS t e) I I1 → af I1 (t + 5) (32 * e) s (K5 p s (i + 1)) → af I1 (t + 6) (32 * e) s (fun k => if k = i then (lvs p s i : Nat) else K6 p s (i + 1) k) → af I1 (t + 7) (32 * e) s (K7 p s (i + 1)) → P 16 (d + 1) 79 L [] (x_hk nc kd I1 J R) rc rs Q := by
      intro I1 L hL hf1 q5 q6 q7
      have w0 : I1 1 (t + 1) e = iI s := (hf1 _ _ _ (by unfold dS; omega)).trans v0
      have w3 : af I1 (t + 3) (32 * e) s p := af_fr v3 hf1 (fun z hz => by unfold dS; omega)
      have w3i := w3 i hi
      have hpi : p i = -1 ∧ i = 0 ∨ 0 ≤ p i ∧ p i < i := by
        rcases Nat.eq_zero_or_pos i with z | z
        · subst z; exact Or.inl ⟨hp.1, rfl⟩
        · exact Or.inr (hp.2 i z hi)
      refine x_re hP _ hL ?_
      first | refine x_aload_n hP rfl rfl ?_ | refine x_aload_nN hP rfl rfl ?_
      refine x_getR hP rfl (by first | assumption | rfl) (by first | assumption | exact hR _ _ _ _ rfl | exact hR1 _ _ _ _ rfl | exact hR2 _ _ _ _ rfl | rfl) ?_
      refine x_iload_n hP rfl rfl ?_
      refine z_iald hP rfl (by first | assumption | rfl) (by first | decide | omega) (by omega) (by first | assumption | exact hR _ _ _ _ rfl | exact hR1 _ _ _ _ rfl | exact hR2 _ _ _ _ rfl | rfl) ?_
      refine z_if_lt hP rfl (by omega) (fun c85 => ?_) (fun c85 => ?_)
      · obtain ⟨m1, m2⟩ : p i = -1 ∧ i = 0 := by omega
        subst m2
        refine z_iinc hP rfl rfl rfl ?_
        refine x_goto hP rfl ?_
        refine x_re hP [some (.ref t), some (.int (iI e)), some (.int (iI (32 * e : Nat))), some (.int (iI (((32 * e + 0 : Nat) : Int) - 1)))] ⟨rfl, rfl, rfl, rfl, trivial⟩ (ih I1 (by omega) w0 w3 (af_ext q5 fun z hz => ?_) (af_ext q6 fun z hz => ?_) (af_ext q7 fun z hz => ?_) (fun I' g1 g2 => k I' g1 (frP_trans hf1 g2)))
        · rw [n5, if_neg (by omega), Int.add_zero]
        · show (if z = 0 then _ else K6 p s (0 + 1) z) = _
          rw [K6, K6, if_pos (Nat.zero_le _)]
          by_cases q : z = 0
          · rw [if_pos q, q]
          · rw [if_neg q, if_pos (by omega)]
        · rw [n7, if_neg (by omega), Int.add_zero]
      · have hpi : 0 ≤ p i ∧ p i < i := by omega
        have eu : p i = ((p i).toNat : Int) := by omega
        rw [eu] at w3i
        refine x_re hP [some (.ref t), some (.int (iI e)), some (.int (iI (32 * e : Nat))), some (.int (iI (32 * e + i : Nat)))] ⟨rfl, rfl, rfl, rfl, trivial⟩ (g_cu_up hP ht' he hs hi (u := (p i).toNat) (by omega) w3i q5 q6 q7 (fun I2 L2 hL2 g5 g6 g7 hf2 => ?_))
        refine x_re hP _ hL2 ?_
        refine z_iinc hP rfl rfl rfl ?_
        refine x_goto hP rfl ?_
        have hf12 := frP_trans hf1 hf2
        refine x_re hP [some (.ref t), some (.int (iI e)), some (.int (iI (32 * e : Nat))), some (.int (iI (((32 * e + i : Nat) : Int) - 1)))] ⟨rfl, rfl, rfl, rfl, trivial⟩ (ih I2 (by omega) ((hf2 _ _ _ (by unfold dS; omega)).trans w0) (af_fr w3 hf2 (fun z hz => by unfold dS; omega)) (af_ext g5 fun z hz => ?_) (af_ext g6 fun z hz => ?_) (af_ext g7 fun z hz => ?_) (fun I' g1 g2 => k I' g1 (frP_trans hf12 g2)))
        · rw [n5]
          by_cases q : z = (p i).toNat
          · rw [if_pos q, if_pos (by omega), q]
          · rw [if_neg q, if_neg (by omega), Int.add_zero]
        · rw [if_neg (show ¬ (p i).toNat = i by omega), if_pos rfl]
          by_cases q : z = (p i).toNat
          · rw [if_pos q, K6, K6, if_neg (by omega), if_neg (by omega), sfrom_peel hi, if_pos (by omega), q]
            rfl
          · rw [if_neg q]
            by_cases q2 : z = i
            · rw [if_pos q2, K6, if_pos (by omega), q2]
            · rw [if_neg q2, K6, K6]
              by_cases q3 : i + 1 ≤ z
              · rw [if_pos q3, if_pos (by omega)]
              · rw [if_neg q3, if_neg (by omega), sfrom_peel hi, if_neg (by omega)]
                rfl
        · rw [n7, e7]
          by_cases q : z = (p i).toNat
          · rw [if_pos q, if_pos (by omega), q]
          · rw [if_neg q, if_neg (by omega), Int.add_zero]
    refine x_iload_n hP rfl rfl ?_
    refine x_iload_n hP rfl rfl ?_
    refine z_icmp_lt hP rfl (by omega) (by omega) (fun c60 => ?_) (fun c60 => ?_)
    · omega
    first | refine x_aload_n hP rfl rfl ?_ | refine x_aload_nN hP rfl rfl ?_
    refine x_getR hP rfl (by first | assumption | rfl) (by first | assumption | exact hR _ _ _ _ rfl | exact hR1 _ _ _ _ rfl | exact hR2 _ _ _ _ rfl | rfl) ?_
    refine x_iload_n hP rfl rfl ?_
    refine z_iald hP rfl (by first | assumption | rfl) (by first | decide | omega) (by omega) (by first | assumption | exact hR _ _ _ _ rfl | exact hR1 _ _ _ _ rfl | exact hR2 _ _ _ _ rfl | rfl) ?_
    first | refine zb_if_ne hP rfl (fun c69 => ?_) (fun c69 => ?_) | refine zl_if_ne hP rfl (fun c69 => ?_) (fun c69 => ?_) | refine z_if_ne hP rfl (by omega) (fun c69 => ?_) (fun c69 => ?_)
    · refine mid I _ ⟨rfl, rfl, rfl, rfl, trivial⟩ (frP_refl _ _) h5 (af_ext h6 fun z hz => ?_) h7
      by_cases q : z = i
      · rw [if_pos q, q, K6, if_neg (by omega), kw_from hp (Nat.le_refl _) (lvs p s) hi, lvs_eq hp hi, if_neg (by omega)]
      · rw [if_neg q]
    · first | refine x_aload_n hP rfl rfl ?_ | refine x_aload_nN hP rfl rfl ?_
      refine x_getR hP rfl (by first | assumption | rfl) (by first | assumption | exact hR _ _ _ _ rfl | exact hR1 _ _ _ _ rfl | exact hR2 _ _ _ _ rfl | rfl) ?_
      refine x_iload_n hP rfl rfl ?_
      refine x_iconst hP rfl ?_
      refine z_iast hP rfl (by first | assumption | rfl) (by first | decide | omega) (by omega) ?_
      first | refine w_nI ?_ | refine w_nL ?_ | refine w_nR ?_ | refine w_mI ?_ | refine w_mL ?_ | refine w_mR ?_ | skip
      refine mid _ _ ⟨rfl, rfl, rfl, rfl, trivial⟩ (frP_at (frP_refl _ _) ⟨rfl, by omega, by omega, by omega, by omega⟩) (af_out h5 (by omega)) (af_ext (af_up h6) fun z hz => ?_) (af_out h7 (by omega))
      by_cases q : z = i
      · rw [if_pos q, if_pos q, lvs_eq hp hi, if_pos (by omega)]; rfl
      · rw [if_neg q, if_neg q]
theorem g_countUnder (hP : x_closed E P) (ht : isTk kd R t) {e s : Nat} {p : Nat → Int} (he : e < 4) (hs : s ≤ 30) (hp : wfp p s) (v0 : I 1 (t + 1) e = iI s) (v3 : af I (t + 3) (32 * e) s p) (k : ∀ I', st1 I' t e p s → frP (dS t e) I I' → Q none (x_hk nc kd I' J R)) : P 16 (d + 1) 0 (x_la 0 [.ref t, .int (iI e)]) [] (x_hk nc kd I J R) rc rs Q := by
  have ht' := ht
  obtain ⟨t0, t1, t2, t3, t4, t5, t6, t7, t8, t9, t10, t11, u1, u2, u3, u4, u5, u6, u7, u8, u9, u10, u11⟩ := ht
  refine x_iload_n hP rfl rfl ?_
  refine x_iconst hP rfl ?_
  refine x_callS2 hP 0 0 rfl rfl rfl rfl rfl (Nat.zero_le _) (Nat.zero_le _) ?_
  refine c_idOf hP (k := 0) he (by decide) ?_
  refine x_istore_n hP rfl ?_
  refine x_iload_n hP rfl rfl ?_
  refine x_istore_n hP rfl ?_
  refine x_re hP [some (.ref t), some (.int (iI e)), some (.int (iI (32 * e : Nat))), some (.int (iI (32 * e + 0 : Nat)))] ⟨rfl, rfl, rfl, rfl, trivial⟩ (g_cu1 hP ht' he hs s 0 I (by omega) v0 (fun z hz => by omega) (fun z hz => by omega) (fun z hz => by omega) (fun I1 L hL h5 h6 h7 hf => ?_))
  have w0 : I1 1 (t + 1) e = iI s := (hf _ _ _ (by unfold dS; omega)).trans v0
  refine x_re hP _ hL ?_
  refine x_iload_n hP rfl rfl ?_
  first | refine x_aload_n hP rfl rfl ?_ | refine x_aload_nN hP rfl rfl ?_
  refine x_getR hP rfl (by first | assumption | rfl) (by first | assumption | exact hR _ _ _ _ rfl | exact hR1 _ _ _ _ rfl | exact hR2 _ _ _ _ rfl | rfl) ?_
  refine x_iload_n hP rfl rfl ?_
  refine z_iald hP rfl (by first | assumption | rfl) (by first | decide | omega) (by omega) (by first | assumption | exact hR _ _ _ _ rfl | exact hR1 _ _ _ _ rfl | exact hR2 _ _ _ _ rfl | rfl) ?_
  first | refine z_iadd hP rfl ?_ | refine x_iadd hP rfl ?_
  refine x_iconst hP rfl ?_
  first | refine z_isub hP rfl ?_ | refine x_isub hP rfl ?_
  refine x_istore_n hP rfl ?_
  refine x_re hP [some (.ref t), some (.int (iI e)), some (.int (iI (32 * e : Nat))), some (.int (iI (((32 * e + s : Nat) : Int) - 1)))] ⟨rfl, rfl, rfl, rfl, trivial⟩ (g_cu2 hP ht' he hs hp s I1 (Nat.le_refl _) w0 (af_fr v3 hf (fun z hz => by unfold dS; omega)) (af_ext h5 fun z hz => ?_) (af_ext h6 fun z hz => ?_) (af_ext h7 fun z hz => ?_) (fun I' g1 g2 => k I' g1 (frP_trans hf g2)))
  · rw [K5, sfrom_s]; rfl
  · rw [K6, if_neg (by omega), sfrom_s]; rfl
  · rw [K7, sfrom_s]; rfl
theorem g_lw1 (hP : x_closed E P) (ht : isTk kd R t) {e s : Nat} {p : Nat → Int} (he : e < 4) (hs : s ≤ 30) (hp : wfp p s) : ∀ (f i : Nat) (I : x_M Int32), i + f = s → I 1 (t + 1) e = iI s → af I (t + 3) (32 * e) s p → af I (t + 7) (32 * e) s (fun k => spn p s k) → af I (t + 8) (32 * e) i (fun k => rk p s k) → af I (t + 9) (32 * e) i (W9 p s i) → (∀ I' L, x_ag L 0 [some (.ref t), some (.int (iI e)), some (.int (iI (32 * e : Nat)))] → af I' (t + 8) (32 * e) s (fun k => rk p s k) → frP (fun k a i => dS t e k a i ∧ t + 8 ≤ a) I I' → P 17 (d + 1) 101 L [] (x_hk nc kd I' J R) rc rs Q) →
    P 17 (d + 1) 8 (x_ls [some (.ref t), some (.int (iI e)), some (.int (iI (32 * e : Nat))), some (.int (iI i)), none, none, none]) [] (x_hk nc kd I J R) rc rs Q := by
  obtain ⟨t0, t1, t2, t3, t4, t5, t6, t7, t8, t9, t10, t11, u1, u2, u3, u4, u5, u6, u7, u8, u9, u10, u11⟩ := ht
  intro f
  induction f with
  | zero =>
    intro i I hi v0 v3 v7 h8 h9 k
    obtain rfl : i = s := by omega
    refine x_iload_n hP rfl rfl ?_
    first | refine x_aload_n hP rfl rfl ?_ | refine x_aload_nN hP rfl rfl ?_
    refine x_getR hP rfl (by first | assumption | rfl) (by first | assumption | exact hR _ _ _ _ rfl | exact hR1 _ _ _ _ rfl | exact hR2 _ _ _ _ rfl | rfl) ?_
    refine x_iload_n hP rfl rfl ?_
    refine z_iald hP rfl (by first | assumption | rfl) (by first | decide | omega) (by omega) (by first | assumption | exact hR _ _ _ _ rfl | exact hR1 _ _ _ _ rfl | exact hR2 _ _ _ _ rfl | rfl) ?_
    refine z_icmp_ge hP rfl (by omega) (by omega) (fun c15 => ?_) (fun c15 => ?_)
    · exact k I _ ⟨rfl, rfl, rfl, trivial⟩ h8 (frP_refl _ _)
    · omega
  | succ f ih =>
    intro i I hi v0 v3 v7 h8 h9 k
    have his : i < s := by omega
    have v3i := v3 i his
    have v7i := v7 i his
    have hpi : p i = -1 ∧ i = 0 ∨ 0 < i ∧ 0 ≤ p i ∧ p i < i := by
      rcases Nat.eq_zero_or_pos i with z | z
      · subst z; exact Or.inl ⟨hp.1, rfl⟩
      · exact Or.inr ⟨z, hp.2 i z his⟩
    have nx : ∀ (I1 : x_M Int32) L, x_ag L 0 [some (.ref t), some (.int (iI e)), some (.int (iI (32 * e : Nat))), some (.int (iI i)), some (.int (iI (32 * e + i : Nat))), some (.int (iI (rk p s i : Nat)))] → frP (fun k a i => dS t e k a i ∧ t + 8 ≤ a) I I1 → af I1 (t + 8) (32 * e) i (fun k => rk p s k) → af I1 (t + 9) (32 * e) i (W9 p s (i + 1)) → P 17 (d + 1) 75 L [] (x_hk nc kd I1 J R) rc rs Q := by
      intro I1 L hL hf1 q8 q9
      refine x_re hP _ hL ?_
      first | refine x_aload_n hP rfl rfl ?_ | refine x_aload_nN hP rfl rfl ?_
      refine x_getR hP rfl (by first | assumption | rfl) (by first | assumption | exact hR _ _ _ _ rfl | exact hR1 _ _ _ _ rfl | exact hR2 _ _ _ _ rfl | rfl) ?_
      refine x_iload hP rfl rfl ?_
      refine x_iload hP rfl rfl ?_
      refine z_iast hP rfl (by first | assumption | rfl) (by first | decide | omega) (by omega) ?_
      first | refine w_nI ?_ | refine w_nL ?_ | refine w_nR ?_ | refine w_mI ?_ | refine w_mL ?_ | refine w_mR ?_ | skip
      first | refine x_aload_n hP rfl rfl ?_ | refine x_aload_nN hP rfl rfl ?_
      refine x_getR hP rfl (by first | assumption | rfl) (by first | assumption | exact hR _ _ _ _ rfl | exact hR1 _ _ _ _ rfl | exact hR2 _ _ _ _ rfl | rfl) ?_
      refine x_iload hP rfl rfl ?_
      refine x_iload hP rfl rfl ?_
      refine x_iconst hP rfl ?_
      first | refine z_iadd hP rfl ?_ | refine x_iadd hP rfl ?_
      refine z_iast hP rfl (by first | assumption | rfl) (by first | decide | omega) (by omega) ?_
      first | refine w_nI ?_ | refine w_nL ?_ | refine w_nR ?_ | refine w_mI ?_ | refine w_mL ?_ | refine w_mR ?_ | skip
      refine z_iinc hP rfl rfl rfl ?_
      refine x_goto hP rfl ?_
      have hf2 : frP (fun k a i => dS t e k a i ∧ t + 8 ≤ a) I1 (x_at (x_at I1 1 (t + 8) (32 * e + i) (iI (rk p s i : Nat))) 1 (t + 9) (32 * e + i) (iI ((rk p s i : Nat) + 1))) := frP_at (frP_at (frP_refl _ _) ⟨⟨rfl, by omega, by omega, by omega, by omega⟩, by omega⟩) ⟨⟨rfl, by omega, by omega, by omega, by omega⟩, by omega⟩
      have hf12 := frP_trans hf1 hf2
      refine x_re hP [some (.ref t), some (.int (iI e)), some (.int (iI (32 * e : Nat))), some (.int (iI (i + 1 : Nat))), none, none, none] ⟨rfl, rfl, rfl, rfl, trivial⟩ (ih (i + 1) _ (by omega) ((hf12 _ _ _ (by unfold dS; omega)).trans v0) (af_fr v3 hf12 (fun z hz => by unfold dS; omega)) (af_fr v7 hf12 (fun z hz => by unfold dS; omega)) ?_ ?_ (fun I' L' hL' g1 g2 => k I' L' hL' g1 (frP_trans hf12 g2)))
      · refine af_out ?_ (by omega)
        intro z hz
        rw [x_at_eq]
        by_cases q : z = i
        · rw [if_pos ⟨rfl, rfl, by omega⟩, q]
        · rw [if_neg (by omega)]; exact q8 z (by omega)
      · intro z hz
        rw [x_at_eq]
        by_cases q : z = i
        · rw [if_pos ⟨rfl, rfl, by omega⟩, q, W9, sumS_z fun j hj => if_neg fun e => by have := par_lt hp (by omega) e; omega]; rfl
        · rw [if_neg (by omega), x_at_eq, if_neg (by omega)]; exact q9 z (by omega)
    refine x_iload_n hP rfl rfl ?_
    first | refine x_aload_n hP rfl rfl ?_ | refine x_aload_nN hP rfl rfl ?_
    refine x_getR hP rfl (by first | assumption | rfl) (by first | assumption | exact hR _ _ _ _ rfl | exact hR1 _ _ _ _ rfl | exact hR2 _ _ _ _ rfl | rfl) ?_
    refine x_iload_n hP rfl rfl ?_
    refine z_iald hP rfl (by first | assumption | rfl) (by first | decide | omega) (by omega) (by first | assumption | exact hR _ _ _ _ rfl | exact hR1 _ _ _ _ rfl | exact hR2 _ _ _ _ rfl | rfl) ?_
    refine z_icmp_ge hP rfl (by omega) (by omega) (fun c15 => ?_) (fun c15 => ?_)
    · omega
    refine x_iload_n hP rfl rfl ?_
    refine x_iload_n hP rfl rfl ?_
    first | refine z_iadd hP rfl ?_ | refine x_iadd hP rfl ?_
    refine x_istore hP rfl ?_
    refine x_iconst hP rfl ?_
    refine x_istore hP rfl ?_
    first | refine x_aload_n hP rfl rfl ?_ | refine x_aload_nN hP rfl rfl ?_
    refine x_getR hP rfl (by first | assumption | rfl) (by first | assumption | exact hR _ _ _ _ rfl | exact hR1 _ _ _ _ rfl | exact hR2 _ _ _ _ rfl | rfl) ?_
    refine x_iload hP rfl rfl ?_
    refine z_iald hP rfl (by first | assumption | rfl) (by first | decide | omega) (by omega) (by first | assumption | exact hR _ _ _ _ rfl | exact hR1 _ _ _ _ rfl | exact hR2 _ _ _ _ rfl | rfl) ?_
    refine z_if_lt hP rfl (by omega) (fun c33 => ?_) (fun c33 => ?_)
    · obtain ⟨m1, m2⟩ : p i = -1 ∧ i = 0 := by omega
      subst m2
      exact nx I _ ⟨rfl, rfl, rfl, rfl, rfl, rfl, trivial⟩ (frP_refl _ _) (fun z hz => by omega) (fun z hz => by omega)
    · have hpi : 0 < i ∧ 0 ≤ p i ∧ p i < i := by omega
      obtain ⟨u, hu⟩ : ∃ u : Nat, p i = u := ⟨(p i).toNat, by omega⟩
      rw [hu] at v3i
      refine x_iload_n hP rfl rfl ?_
      first | refine x_aload_n hP rfl rfl ?_ | refine x_aload_nN hP rfl rfl ?_
      refine x_getR hP rfl (by first | assumption | rfl) (by first | assumption | exact hR _ _ _ _ rfl | exact hR1 _ _ _ _ rfl | exact hR2 _ _ _ _ rfl | rfl) ?_
      refine x_iload hP rfl rfl ?_
      refine z_iald hP rfl (by first | assumption | rfl) (by first | decide | omega) (by omega) (by first | assumption | exact hR _ _ _ _ rfl | exact hR1 _ _ _ _ rfl | exact hR2 _ _ _ _ rfl | rfl) ?_
      refine x_callS2 hP 0 0 rfl rfl rfl rfl rfl (Nat.zero_le _) (Nat.zero_le _) ?_
      refine c_idOf hP he (k := u) (by omega) ?_
      have r9 := h9 u (by omega)
      have er : W9 p s i u = (rk p s i : Nat) := by
        rw [W9, rk_eq hp hpi.1 his, hu]; rfl
      rw [er] at r9
      refine x_istore hP rfl ?_
      first | refine x_aload_n hP rfl rfl ?_ | refine x_aload_nN hP rfl rfl ?_
      refine x_getR hP rfl (by first | assumption | rfl) (by first | assumption | exact hR _ _ _ _ rfl | exact hR1 _ _ _ _ rfl | exact hR2 _ _ _ _ rfl | rfl) ?_
      refine x_iload hP rfl rfl ?_
      refine z_iald hP rfl (by first | assumption | rfl) (by first | decide | omega) (by omega) (by first | assumption | exact hR _ _ _ _ rfl | exact hR1 _ _ _ _ rfl | exact hR2 _ _ _ _ rfl | rfl) ?_
      refine x_istore hP rfl ?_
      first | refine x_aload_n hP rfl rfl ?_ | refine x_aload_nN hP rfl rfl ?_
      refine x_getR hP rfl (by first | assumption | rfl) (by first | assumption | exact hR _ _ _ _ rfl | exact hR1 _ _ _ _ rfl | exact hR2 _ _ _ _ rfl | rfl) ?_
      refine x_iload hP rfl rfl ?_
      refine x_dup2 hP rfl rfl rfl ?_
      refine z_iald hP rfl (by first | assumption | rfl) (by first | decide | omega) (by omega) (by first | assumption | exact hR _ _ _ _ rfl | exact hR1 _ _ _ _ rfl | exact hR2 _ _ _ _ rfl | rfl) ?_
      first | refine x_aload_n hP rfl rfl ?_ | refine x_aload_nN hP rfl rfl ?_
      refine x_getR hP rfl (by first | assumption | rfl) (by first | assumption | exact hR _ _ _ _ rfl | exact hR1 _ _ _ _ rfl | exact hR2 _ _ _ _ rfl | rfl) ?_
      refine x_iload hP rfl rfl ?_
      refine z_iald hP rfl (by first | assumption | rfl) (by first | decide | omega) (by omega) (by first | assumption | exact hR _ _ _ _ rfl | exact hR1 _ _ _ _ rfl | exact hR2 _ _ _ _ rfl | rfl) ?_
      first | refine z_iadd hP rfl ?_ | refine x_iadd hP rfl ?_
      refine z_iast hP rfl (by first | assumption | rfl) (by first | decide | omega) (by omega) ?_
      first | refine w_nI ?_ | refine w_nL ?_ | refine w_nR ?_ | refine w_mI ?_ | refine w_mL ?_ | refine w_mR ?_ | skip
      refine nx _ _ ⟨rfl, rfl, rfl, rfl, rfl, rfl, trivial⟩ (frP_at (frP_refl _ _) ⟨⟨rfl, by omega, by omega, by omega, by omega⟩, by omega⟩) (af_out h8 (by omega)) (af_ext (af_up h9) fun z hz => ?_)
      by_cases q : z = u
      · rw [if_pos q, q, ← er, W9, W9]
        simp only [sumS]
        rw [if_pos hu]
        omega
      · rw [if_neg q, W9, W9]
        simp only [sumS]
        rw [if_neg (by omega)]
        rfl
theorem g_lw2 (hP : x_closed E P) (ht : isTk kd R t) {e s : Nat} {p : Nat → Int} (he : e < 4) (hs : s ≤ 30) (hp : wfp p s) : ∀ (f i : Nat) (I : x_M Int32), i + f = s → I 1 (t + 1) e = iI s → af I (t + 8) (32 * e) s (fun k => rk p s k) → (∀ k, k < i → I 1 (t + 9) (32 * e + rk p s k) = iI k) → (∀ I', st2 I' t e p s → frP (fun k a i => dS t e k a i ∧ t + 9 ≤ a) I I' → Q none (x_hk nc kd I' J R)) →
    P 17 (d + 1) 103 (x_ls [some (.ref t), some (.int (iI e)), some (.int (iI (32 * e : Nat))), some (.int (iI i))]) [] (x_hk nc kd I J R) rc rs Q := by
  obtain ⟨t0, t1, t2, t3, t4, t5, t6, t7, t8, t9, t10, t11, u1, u2, u3, u4, u5, u6, u7, u8, u9, u10, u11⟩ := ht
  intro f
  induction f with
  | zero =>
    intro i I hi v0 h8 h9 k
    obtain rfl : i = s := by omega
    refine x_iload_n hP rfl rfl ?_
    first | refine x_aload_n hP rfl rfl ?_ | refine x_aload_nN hP rfl rfl ?_
    refine x_getR hP rfl (by first | assumption | rfl) (by first | assumption | exact hR _ _ _ _ rfl | exact hR1 _ _ _ _ rfl | exact hR2 _ _ _ _ rfl | rfl) ?_
    refine x_iload_n hP rfl rfl ?_
    refine z_iald hP rfl (by first | assumption | rfl) (by first | decide | omega) (by omega) (by first | assumption | exact hR _ _ _ _ rfl | exact hR1 _ _ _ _ rfl | exact hR2 _ _ _ _ rfl | rfl) ?_
    refine z_icmp_ge hP rfl (by omega) (by omega) (fun c110 => ?_) (fun c110 => ?_)
    · refine x_vret hP rfl rfl ?_
      exact k I ⟨h8, h9⟩ (frP_refl _ _)
    · omega
  | succ f ih =>
    intro i I hi v0 h8 h9 k
    have r8 : I 1 (t + 8) (32 * e + i) = iI (rk p s i : Nat) := h8 i (by omega)
    have hr := rk_lt (k := i) hp (by omega)
    have hr1 := spn_pos (k := i) hp (by omega)
    refine x_iload_n hP rfl rfl ?_
    first | refine x_aload_n hP rfl rfl ?_ | refine x_aload_nN hP rfl rfl ?_
    refine x_getR hP rfl (by first | assumption | rfl) (by first | assumption | exact hR _ _ _ _ rfl | exact hR1 _ _ _ _ rfl | exact hR2 _ _ _ _ rfl | rfl) ?_
    refine x_iload_n hP rfl rfl ?_
    refine z_iald hP rfl (by first | assumption | rfl) (by first | decide | omega) (by omega) (by first | assumption | exact hR _ _ _ _ rfl | exact hR1 _ _ _ _ rfl | exact hR2 _ _ _ _ rfl | rfl) ?_
    refine z_icmp_ge hP rfl (by omega) (by omega) (fun c110 => ?_) (fun c110 => ?_)
    · omega
    first | refine x_aload_n hP rfl rfl ?_ | refine x_aload_nN hP rfl rfl ?_
    refine x_getR hP rfl (by first | assumption | rfl) (by first | assumption | exact hR _ _ _ _ rfl | exact hR1 _ _ _ _ rfl | exact hR2 _ _ _ _ rfl | rfl) ?_
    refine x_iload_n hP rfl rfl ?_
    first | refine x_aload_n hP rfl rfl ?_ | refine x_aload_nN hP rfl rfl ?_
    refine x_getR hP rfl (by first | assumption | rfl) (by first | assumption | exact hR _ _ _ _ rfl | exact hR1 _ _ _ _ rfl | exact hR2 _ _ _ _ rfl | rfl) ?_
    refine x_iload_n hP rfl rfl ?_
    refine x_iload_n hP rfl rfl ?_
    first | refine z_iadd hP rfl ?_ | refine x_iadd hP rfl ?_
    refine z_iald hP rfl (by first | assumption | rfl) (by first | decide | omega) (by omega) (by first | assumption | exact hR _ _ _ _ rfl | exact hR1 _ _ _ _ rfl | exact hR2 _ _ _ _ rfl | rfl) ?_
    first | refine z_iadd hP rfl ?_ | refine x_iadd hP rfl ?_
    refine x_iload_n hP rfl rfl ?_
    refine z_iast hP rfl (by first | assumption | rfl) (by first | decide | omega) (by omega) ?_
    first | refine w_nI ?_ | refine w_nL ?_ | refine w_nR ?_ | refine w_mI ?_ | refine w_mL ?_ | refine w_mR ?_ | skip
    refine z_iinc hP rfl rfl rfl ?_
    refine x_goto hP rfl ?_
    have hf : frP (fun k a i => dS t e k a i ∧ t + 9 ≤ a) I (x_at I 1 (t + 9) (32 * e + rk p s i) (iI i)) := frP_at (frP_refl _ _) ⟨⟨rfl, by omega, by omega, by omega, by omega⟩, by omega⟩
    refine x_re hP [some (.ref t), some (.int (iI e)), some (.int (iI (32 * e : Nat))), some (.int (iI (i + 1 : Nat)))] ⟨rfl, rfl, rfl, rfl, trivial⟩ (ih (i + 1) _ (by omega) ((hf _ _ _ (by unfold dS; omega)).trans v0) (af_fr h8 hf (fun z hz => by unfold dS; omega)) (fun z hz => ?_) (fun I' g1 g2 => k I' g1 (frP_trans hf g2)))
    show x_at I 1 (t + 9) (32 * e + rk p s i) (iI i) 1 (t + 9) (32 * e + rk p s z) = iI z
    rw [x_at_eq]
    by_cases q : z = i
    · rw [if_pos ⟨rfl, rfl, by rw [q]⟩, q]
    · rw [if_neg (fun w => q (rk_inj hp (by omega) (by omega) (by omega)))]
      exact h9 z (by omega)
theorem g_layWalk (hP : x_closed E P) (ht : isTk kd R t) {e s : Nat} {p : Nat → Int} (he : e < 4) (hs : s ≤ 30) (hp : wfp p s) (v0 : I 1 (t + 1) e = iI s) (v3 : af I (t + 3) (32 * e) s p) (v7 : st1 I t e p s) (k : ∀ I', st1 I' t e p s → st2 I' t e p s → frP (dS t e) I I' → Q none (x_hk nc kd I' J R)) : P 17 (d + 1) 0 (x_la 0 [.ref t, .int (iI e)]) [] (x_hk nc kd I J R) rc rs Q := by
  have ht' := ht
  obtain ⟨t0, t1, t2, t3, t4, t5, t6, t7, t8, t9, t10, t11, u1, u2, u3, u4, u5, u6, u7, u8, u9, u10, u11⟩ := ht
  refine x_iload_n hP rfl rfl ?_
  refine x_iconst hP rfl ?_
  refine x_callS2 hP 0 0 rfl rfl rfl rfl rfl (Nat.zero_le _) (Nat.zero_le _) ?_
  refine c_idOf hP (k := 0) he (by decide) ?_
  refine x_istore_n hP rfl ?_
  refine x_iconst hP rfl ?_
  refine x_istore_n hP rfl ?_
  refine x_re hP [some (.ref t), some (.int (iI e)), some (.int (iI (32 * e : Nat))), some (.int (iI (0 : Nat))), none, none, none] ⟨rfl, rfl, rfl, rfl, trivial⟩ (g_lw1 hP ht' he hs hp s 0 I (by omega) v0 v3 v7.2.2 (fun z hz => by omega) (fun z hz => by omega) (fun I1 L hL h8 hf => ?_))
  have w0 : I1 1 (t + 1) e = iI s := (hf _ _ _ (by unfold dS; omega)).trans v0
  refine x_re hP _ hL ?_
  refine x_iconst hP rfl ?_
  refine x_istore_n hP rfl ?_
  refine x_re hP [some (.ref t), some (.int (iI e)), some (.int (iI (32 * e : Nat))), some (.int (iI (0 : Nat)))] ⟨rfl, rfl, rfl, rfl, trivial⟩ (g_lw2 hP ht' he hs hp s 0 I1 (by omega) w0 h8 (fun z hz => by omega) (fun I2 g1 g2 => ?_))
  have hf2 : frP (fun k a i => dS t e k a i ∧ t + 8 ≤ a) I I2 := frP_trans hf (frP_mono g2 fun k a i h => ⟨h.1, by omega⟩)
  exact k I2 ⟨af_fr v7.1 hf2 (fun z hz => by omega), af_fr v7.2.1 hf2 (fun z hz => by omega), af_fr v7.2.2 hf2 (fun z hz => by omega)⟩ g1 (frP_mono hf2 fun k a i h => h.1)
theorem g_settle_loop (hP : x_closed E P) (ht : isTk kd R t) : ∀ (f i : Nat) (I : x_M Int32), i + f = tD T → ct I J t T → stP I t T i → (∀ I', ct I' J t T → stP I' t T (tD T) → frP (gT t) I I' → (∀ z, I' 1 (t + 11) z = I 1 (t + 11) z) → Q none (x_hk nc kd I' J R)) → P 15 (d + 2) 2 (x_ls [some (.ref t), some (.int (iI i))]) [] (x_hk nc kd I J R) rc rs Q := by
  have ht' := ht
  obtain ⟨t0, t1, t2, t3, t4, t5, t6, t7, t8, t9, t10, t11, u1, u2, u3, u4, u5, u6, u7, u8, u9, u10, u11⟩ := ht
  intro f
  induction f with
  | zero =>
    intro i I hi hc hs k
    have hc' := hc
    obtain ⟨h1, h2, h3, h4, h5, w1, w2, w3⟩ := hc
    obtain rfl : i = tD T := by omega
    refine x_iload_n hP rfl rfl ?_
    first | refine x_aload_n hP rfl rfl ?_ | refine x_aload_nN hP rfl rfl ?_
    refine x_getI hP rfl (by first | assumption | rfl) (by first | assumption | exact hR _ _ _ _ rfl | exact hR1 _ _ _ _ rfl | exact hR2 _ _ _ _ rfl | rfl) ?_
    refine z_icmp_ge hP rfl (by omega) (by omega) (fun c7 => ?_) (fun c7 => ?_)
    · refine x_vret hP rfl rfl ?_
      exact k I hc' hs (frP_refl _ _) (fun _ => rfl)
    · omega
  | succ f ih =>
    intro i I hi hc hs k
    have hc' := hc
    have hw := hc.2.2.2.2.2
    obtain ⟨h1, h2, h3, h4, h5, w1, w2, w3⟩ := hc
    have wi := w3 i (by omega)
    have hp := twf_wfp (d := i) hw (by omega)
    refine x_iload_n hP rfl rfl ?_
    first | refine x_aload_n hP rfl rfl ?_ | refine x_aload_nN hP rfl rfl ?_
    refine x_getI hP rfl (by first | assumption | rfl) (by first | assumption | exact hR _ _ _ _ rfl | exact hR1 _ _ _ _ rfl | exact hR2 _ _ _ _ rfl | rfl) ?_
    refine z_icmp_ge hP rfl (by omega) (by omega) (fun c7 => ?_) (fun c7 => ?_)
    · omega
    first | refine x_aload_n hP rfl rfl ?_ | refine x_aload_nN hP rfl rfl ?_
    refine x_iload_n hP rfl rfl ?_
    refine x_callV1 (ci := 8) hP 0 0 rfl rfl rfl (by first | assumption | rfl) rfl rfl rfl (Nat.zero_le _) (Nat.zero_le _) ?_
    refine g_countUnder hP ht' (by omega) wi.2.1 hp (h3 i (by omega)) (fun z hz => (h4 i (by omega) z hz).2.1) (fun I1 s1 f1 => ?_)
    have hc1 := ct_dS hc' f1
    first | refine x_aload_n hP rfl rfl ?_ | refine x_aload_nN hP rfl rfl ?_
    refine x_iload_n hP rfl rfl ?_
    refine x_callV1 (ci := 8) hP 0 0 rfl rfl rfl (by first | assumption | rfl) rfl rfl rfl (Nat.zero_le _) (Nat.zero_le _) ?_
    refine g_layWalk hP ht' (by omega) wi.2.1 hp (hc1.2.2.1 i (by omega)) (fun z hz => (hc1.2.2.2.1 i (by omega) z hz).2.1) s1 (fun I2 s2 s3 f2 => ?_)
    have hc2 := ct_dS hc1 f2
    have f12 := frP_trans f1 f2
    refine z_iinc hP rfl rfl rfl ?_
    refine x_goto hP rfl ?_
    refine x_re hP [some (.ref t), some (.int (iI (i + 1 : Nat)))] ⟨rfl, rfl, trivial⟩ (ih (i + 1) I2 (by omega) hc2 (fun b hb => ?_) (fun I' g1 g2 g3 g4 => k I' g1 g2 (frP_trans (frP_mono f12 fun k a i h => ?_) g3) (fun z => (g4 z).trans (f12 _ _ _ (by unfold dS; omega)))))
    · by_cases q : b = i
      · rw [q]; exact ⟨s2, s3⟩
      · exact st_dS (twf_wfp hw (by omega)) (w3 b (by omega)).2.1 q (hs b (by omega)) f12
    · unfold dS at h
      unfold gT
      omega
theorem g_settle (hP : x_closed E P) (ht : isTk kd R t) (hc : ct I J t T) (k : ∀ I', ct I' J t T → stP I' t T (tD T) → frP (gT t) I I' → (∀ z, I' 1 (t + 11) z = I 1 (t + 11) z) → Q none (x_hk nc kd I' J R)) : P 15 (d + 2) 0 (x_la 0 [.ref t]) [] (x_hk nc kd I J R) rc rs Q := by
  refine x_iconst hP rfl ?_
  refine x_istore_n hP rfl ?_
  exact x_re hP [some (.ref t), some (.int (iI (0 : Nat)))] ⟨rfl, rfl, trivial⟩ (g_settle_loop hP ht (tD T) 0 I (by omega) hc (fun e he => by omega) k)
end
