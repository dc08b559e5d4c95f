/-! Trees: new DIMENSIONS, MEMBERS, MARKS -/
def uf1 {α : Type} (f : Nat → α) (a : Nat) (v : α) : Nat → α := fun x => if x = a then v else f x
def uf2 {α : Type} (f : Nat → Nat → α) (a b : Nat) (v : α) : Nat → Nat → α := fun x y => if x = a ∧ y = b then v else f x y
theorem uf1_s {α : Type} (f : Nat → α) (a : Nat) (v : α) : uf1 f a v a = v := if_pos rfl
theorem uf1_n {α : Type} (f : Nat → α) {a x : Nat} (v : α) (h : ¬ x = a) : uf1 f a v x = f x := if_neg h
theorem uf2_s {α : Type} (f : Nat → Nat → α) (a b : Nat) (v : α) : uf2 f a b v a b = v := if_pos ⟨rfl, rfl⟩
theorem uf2_n {α : Type} (f : Nat → Nat → α) {a b x y : Nat} (v : α) (h : ¬ (x = a ∧ y = b)) : uf2 f a b v x y = f x y := if_neg h
/-- a MEMBER more in the last DIMENSION -/
def tAdd (T : x_T) (v : Int64) (x : Int) : x_T := (tD T, uf1 (tS T) (tD T - 1) (tS T (tD T - 1) + 1), uf2 (tN T) (tD T - 1) (tS T (tD T - 1)) v, uf2 (tP T) (tD T - 1) (tS T (tD T - 1)) x, uf2 (tH T) (tD T - 1) (tS T (tD T - 1)) (if x < 0 then 0 else tH T (tD T - 1) x.toNat + 1), tM T, tK T)
def tNewD (T : x_T) : x_T := (tD T + 1, uf1 (tS T) (tD T) 0, tN T, tP T, tH T, tM T, tK T)
def tAddD (T : x_T) (v : Int64) : x_T := tAdd (tNewD T) v (-1)
def tAddK (T : x_T) (v : Int64) : x_T := (tD T, tS T, tN T, tP T, tH T, tM T + 1, uf1 (tK T) (tM T) v)
/-- the trees' memory, whatever they are -/
def ctm (I : x_M Int32) (J : x_M Int64) (t : Nat) (T : x_T) : Prop := I 1512 t 0 = iI (tD T) ∧ I 1513 t 0 = iI (tM T) ∧ (∀ d, d < tD T → I 1 (t + 1) d = iI (tS T d)) ∧ (∀ d, d < tD T → ∀ k, k < tS T d → J 6 (t + 2) (32 * d + k) = tN T d k ∧ I 1 (t + 3) (32 * d + k) = iI (tP T d k) ∧ I 1 (t + 4) (32 * d + k) = iI (tH T d k)) ∧ (∀ m, m < tM T → J 6 (t + 10) m = tK T m)
theorem ct_m {I : x_M Int32} {J : x_M Int64} {t : Nat} {T : x_T} : ct I J t T ↔ ctm I J t T ∧ twf T := ⟨fun ⟨h1, h2, h3, h4, h5, h6⟩ => ⟨⟨h1, h2, h3, h4, h5⟩, h6⟩, fun ⟨⟨h1, h2, h3, h4, h5⟩, h6⟩ => ⟨h1, h2, h3, h4, h5, h6⟩⟩
/-- the trees' own places -/
def gT (t k a _i : Nat) : Prop := (k = 1512 ∧ a = t) ∨ (k = 1513 ∧ a = t) ∨ ((k = 1 ∨ k = 6) ∧ t + 1 ≤ a ∧ a ≤ t + 10)
theorem twf_addM {T : x_T} {v : Int64} {k : Nat} (h : twf T) (h0 : 0 < tD T) (hs : tS T (tD T - 1) < 30) (hk : k < tS T (tD T - 1)) (h6 : tH T (tD T - 1) k < 6) : twf (tAdd T v k) := by
  obtain ⟨w1, w2, w3⟩ := h
  refine ⟨w1, w2, fun d hd => ?_⟩
  have hd : d < tD T := hd
  have w := w3 d hd
  rw [show tS (tAdd T v k) = uf1 (tS T) (tD T - 1) (tS T (tD T - 1) + 1) from rfl, show tP (tAdd T v k) = uf2 (tP T) (tD T - 1) (tS T (tD T - 1)) (k : Int) from rfl, show tH (tAdd T v k) = uf2 (tH T) (tD T - 1) (tS T (tD T - 1)) (if (k : Int) < 0 then 0 else tH T (tD T - 1) (k : Int).toNat + 1) from rfl]
  by_cases e : d = tD T - 1
  · subst e
    rw [uf1_s, uf2_n _ _ (by omega), uf2_n _ _ (by omega)]
    refine ⟨by omega, by omega, w.2.2.1, w.2.2.2.1, fun z hz => ?_⟩
    by_cases e2 : z = tS T (tD T - 1)
    · subst e2
      rw [uf2_s, uf2_s, if_neg (by omega), uf2_n _ _ (by omega)]
      exact ⟨by rw [show (k : Int).toNat = k from rfl]; omega, fun _ => ⟨by omega, by omega, rfl⟩⟩
    · rw [uf2_n _ _ (by omega), uf2_n _ _ (by omega)]
      have := w.2.2.2.2 z (by omega)
      refine ⟨this.1, fun hz0 => ?_⟩
      have := this.2 hz0
      rw [uf2_n _ _ (by omega)]
      exact this
  · rw [uf1_n _ _ e, uf2_n _ _ (by omega), uf2_n _ _ (by omega)]
    refine ⟨w.1, w.2.1, w.2.2.1, w.2.2.2.1, fun z hz => ?_⟩
    rw [uf2_n _ _ (by omega), uf2_n _ _ (by omega), uf2_n _ _ (by omega)]
    exact w.2.2.2.2 z hz
theorem twf_addD {T : x_T} {v : Int64} (h : twf T) (h4 : tD T < 4) : twf (tAddD T v) := by
  obtain ⟨w1, w2, w3⟩ := h
  refine ⟨by show tD T + 1 ≤ 4; omega, w2, fun d hd => ?_⟩
  have hd : d < tD T + 1 := hd
  have e1 : tD T + 1 - 1 = tD T := by omega
  have es : uf1 (tS T) (tD T) 0 (tD T) = 0 := uf1_s ..
  show 1 ≤ uf1 (uf1 (tS T) (tD T) 0) (tD T + 1 - 1) (uf1 (tS T) (tD T) 0 (tD T + 1 - 1) + 1) d ∧ uf1 (uf1 (tS T) (tD T) 0) (tD T + 1 - 1) (uf1 (tS T) (tD T) 0 (tD T + 1 - 1) + 1) d ≤ 30 ∧ uf2 (tP T) (tD T + 1 - 1) (uf1 (tS T) (tD T) 0 (tD T + 1 - 1)) (-1) d 0 = -1 ∧ uf2 (tH T) (tD T + 1 - 1) (uf1 (tS T) (tD T) 0 (tD T + 1 - 1)) (if (-1 : Int) < 0 then 0 else tH T (tD T + 1 - 1) (-1 : Int).toNat + 1) d 0 = 0 ∧ ∀ z, z < uf1 (uf1 (tS T) (tD T) 0) (tD T + 1 - 1) (uf1 (tS T) (tD T) 0 (tD T + 1 - 1) + 1) d → uf2 (tH T) (tD T + 1 - 1) (uf1 (tS T) (tD T) 0 (tD T + 1 - 1)) (if (-1 : Int) < 0 then 0 else tH T (tD T + 1 - 1) (-1 : Int).toNat + 1) d z ≤ 6 ∧ (0 < z → 0 ≤ uf2 (tP T) (tD T + 1 - 1) (uf1 (tS T) (tD T) 0 (tD T + 1 - 1)) (-1) d z ∧ uf2 (tP T) (tD T + 1 - 1) (uf1 (tS T) (tD T) 0 (tD T + 1 - 1)) (-1) d z < z ∧ uf2 (tH T) (tD T + 1 - 1) (uf1 (tS T) (tD T) 0 (tD T + 1 - 1)) (if (-1 : Int) < 0 then 0 else tH T (tD T + 1 - 1) (-1 : Int).toNat + 1) d z = uf2 (tH T) (tD T + 1 - 1) (uf1 (tS T) (tD T) 0 (tD T + 1 - 1)) (if (-1 : Int) < 0 then 0 else tH T (tD T + 1 - 1) (-1 : Int).toNat + 1) d (uf2 (tP T) (tD T + 1 - 1) (uf1 (tS T) (tD T) 0 (tD T + 1 - 1)) (-1) d z).toNat + 1)
  rw [e1, es, if_pos (show (-1 : Int) < 0 by decide)]
  by_cases e : d = tD T
  · subst e
    rw [uf1_s, uf2_s, uf2_s]
    refine ⟨by omega, by omega, rfl, rfl, fun z hz => ?_⟩
    obtain rfl : z = 0 := by omega
    rw [uf2_s]
    exact ⟨by omega, fun q => by omega⟩
  · have w := w3 d (by omega)
    rw [uf1_n _ _ e, uf1_n _ _ e, uf2_n _ _ (by omega), uf2_n _ _ (by omega)]
    refine ⟨w.1, w.2.1, w.2.2.1, w.2.2.2.1, fun z hz => ?_⟩
    rw [uf2_n _ _ (by omega), uf2_n _ _ (by omega), uf2_n _ _ (by omega)]
    exact w.2.2.2.2 z hz
theorem twf_addK {T : x_T} {v : Int64} (h : twf T) (h4 : tM T < 3) : twf (tAddK T v) := ⟨h.1, by show tM T + 1 ≤ 3; omega, h.2.2⟩
section
variable {E : x_E} {P : x_Pr} {d rc rs : Nat} {I : x_M Int32} {J : x_M Int64} {R : x_M (Option Nat)} {Q : x_Q} {t : Nat} {T : x_T}
theorem c_hasRoomM (hP : x_closed E P) (ht : isTr R t) (hc : ctm I J t T) (h4 : tD T ≤ 4) (h30 : ∀ d, d < tD T → tS T d ≤ 30) (k : Q (some (.int (bI (decide (0 < tD T ∧ tS T (tD T - 1) < 30))))) (x_hp I J R)) : P 12 d 0 (x_la 0 [.ref t]) [] (x_hp I J R) rc rs Q := by
  obtain ⟨t0, t1, t2, t3, t4, t5, t6, t7, t8, t9, t10, t11, u1, u2, u3, u4, u5, u6, u7, u8, u9, u10, u11⟩ := ht
  obtain ⟨h1, h2, h3, hh4, h5⟩ := hc
  first | refine x_aload_n hP rfl rfl ?_ | refine x_aload_nN hP rfl rfl ?_
  refine x_getI hP rfl (by first | assumption | rfl) (by first | assumption | exact hR _ _ _ _ rfl | exact hR1 _ _ _ _ rfl | exact hR2 _ _ _ _ rfl | rfl) ?_
  refine z_if_le hP rfl (by omega) (fun c4 => ?_) (fun c4 => ?_)
  · rw [decide_eq_false (by omega)] at k
    refine x_iconst hP rfl ?_
    refine x_zret hP rfl rfl (by first | exact Or.inl iI_0 | exact Or.inr iI_1 | exact bI_or _ | assumption) ?_
    exact k
  · have v2 := h30 (tD T - 1) (by omega)
    have e : ((tD T : Int) - 1).toNat = tD T - 1 := by omega
    have v : I 1 (t + 1) ((tD T : Int) - 1).toNat = iI (tS T (tD T - 1)) := by rw [e]; exact h3 (tD T - 1) (by omega)
    first | refine x_aload_n hP rfl rfl ?_ | refine x_aload_nN hP rfl rfl ?_
    refine x_getR hP rfl (by first | assumption | rfl) (by first | assumption | exact hR _ _ _ _ rfl | exact hR1 _ _ _ _ rfl | exact hR2 _ _ _ _ rfl | rfl) ?_
    first | refine x_aload_n hP rfl rfl ?_ | refine x_aload_nN hP rfl rfl ?_
    refine x_getI hP rfl (by first | assumption | rfl) (by first | assumption | exact hR _ _ _ _ rfl | exact hR1 _ _ _ _ rfl | exact hR2 _ _ _ _ rfl | rfl) ?_
    refine x_iconst hP rfl ?_
    first | refine z_isub hP rfl ?_ | refine x_isub hP rfl ?_
    refine z_iald hP rfl (by first | assumption | rfl) (by first | decide | omega) (by omega) (by first | assumption | exact hR _ _ _ _ rfl | exact hR1 _ _ _ _ rfl | exact hR2 _ _ _ _ rfl | rfl) ?_
    refine x_bipush hP rfl ?_
    refine z_icmp_ge hP rfl (by omega) (by omega) (fun c20 => ?_) (fun c20 => ?_)
    · rw [decide_eq_false (by omega)] at k
      refine x_iconst hP rfl ?_
      refine x_zret hP rfl rfl (by first | exact Or.inl iI_0 | exact Or.inr iI_1 | exact bI_or _ | assumption) ?_
      exact k
    · rw [decide_eq_true (by omega)] at k
      refine x_iconst hP rfl ?_
      refine x_goto hP rfl ?_
      refine x_zret hP rfl rfl (by first | exact Or.inl iI_0 | exact Or.inr iI_1 | exact bI_or _ | assumption) ?_
      exact k
theorem ctm_add {v : Int64} {x : Int} (hc : ctm I J t T) (h0 : 0 < tD T) (hs : tS T (tD T - 1) < 30) (h30 : ∀ d, d < tD T → tS T d ≤ 30) {i : Nat} (hi : i = 32 * (tD T - 1) + tS T (tD T - 1)) : ctm (x_at (x_at (x_at I 1 (t + 3) i (iI x)) 1 (t + 4) i (iI (if x < 0 then 0 else tH T (tD T - 1) x.toNat + 1 : Nat))) 1 (t + 1) (tD T - 1) (iI (tS T (tD T - 1) + 1 : Nat))) (x_at J 6 (t + 2) i v) t (tAdd T v x) := by
  obtain ⟨h1, h2, h3, h4, h5⟩ := hc
  refine ⟨h1, h2, fun d hd => ?_, fun d hd k hk => ?_, fun m hm => ?_⟩
  · have hd : d < tD T := hd
    show _ = iI (uf1 (tS T) (tD T - 1) (tS T (tD T - 1) + 1) d : Nat)
    rw [x_at_eq]
    by_cases e : d = tD T - 1
    · rw [if_pos ⟨rfl, rfl, e⟩, e, uf1_s]
    · rw [if_neg (by omega), uf1_n _ _ e, x_at_eq, if_neg (by omega), x_at_eq, if_neg (by omega)]
      exact h3 d hd
  · have hd : d < tD T := hd
    have hk : k < uf1 (tS T) (tD T - 1) (tS T (tD T - 1) + 1) d := hk
    have hk2 : k < tS T d ∨ (d = tD T - 1 ∧ k = tS T (tD T - 1)) := by
      by_cases e : d = tD T - 1
      · subst e; rw [uf1_s] at hk; omega
      · rw [uf1_n _ _ e] at hk; exact Or.inl hk
    have h30' := h30 d hd
    have h30'' := h30 (tD T - 1) (by omega)
    show _ = uf2 (tN T) (tD T - 1) (tS T (tD T - 1)) v d k ∧ _ = iI (uf2 (tP T) (tD T - 1) (tS T (tD T - 1)) x d k) ∧ _ = iI (uf2 (tH T) (tD T - 1) (tS T (tD T - 1)) (if x < 0 then 0 else tH T (tD T - 1) x.toNat + 1) d k : Nat)
    by_cases e : d = tD T - 1 ∧ k = tS T (tD T - 1)
    · obtain ⟨e1, e2⟩ := e
      subst e1
      subst e2
      rw [uf2_s, uf2_s, uf2_s]
      refine ⟨?_, ?_, ?_⟩
      · rw [x_at_eq, if_pos ⟨rfl, rfl, hi.symm⟩]
      · rw [x_at_eq, if_neg (by omega), x_at_eq, if_neg (by omega), x_at_eq, if_pos ⟨rfl, rfl, hi.symm⟩]
      · rw [x_at_eq, if_neg (by omega), x_at_eq, if_pos ⟨rfl, rfl, hi.symm⟩]
    · have hkd : k < tS T d := hk2.resolve_right e
      rw [uf2_n _ _ e, uf2_n _ _ e, uf2_n _ _ e]
      refine ⟨?_, ?_, ?_⟩
      · rw [x_at_eq, if_neg (by omega)]; exact (h4 d hd k hkd).1
      · rw [x_at_eq, if_neg (by omega), x_at_eq, if_neg (by omega), x_at_eq, if_neg (by omega)]; exact (h4 d hd k hkd).2.1
      · rw [x_at_eq, if_neg (by omega), x_at_eq, if_neg (by omega), x_at_eq, if_neg (by omega)]; exact (h4 d hd k hkd).2.2
  · rw [x_at_eq J, if_neg (by omega)]
    exact h5 m hm
theorem c_addMember (hP : x_closed E P) (ht : isTr R t) (hc : ctm I J t T) (h0 : 0 < tD T) (hd4 : tD T ≤ 4) (hs : tS T (tD T - 1) < 30) (h30 : ∀ d, d < tD T → tS T d ≤ 30) {v : Int64} {x : Int} (hx : x = -1 ∨ 0 ≤ x ∧ x < tS T (tD T - 1)) (k : ∀ I' J', ctm I' J' t (tAdd T v x) → frP (gT t) I I' → frP (gT t) J J' → Q none (x_hp I' J' R)) : P 11 (d + 1) 0 (x_la 0 [.ref t, .long v, .int (iI x)]) [] (x_hp I J R) rc rs Q := by
  have ht' := ht
  obtain ⟨t0, t1, t2, t3, t4, t5, t6, t7, t8, t9, t10, t11, u1, u2, u3, u4, u5, u6, u7, u8, u9, u10, u11⟩ := ht
  have hc' := hc
  obtain ⟨h1, h2, h3, h4, h5⟩ := hc
  have e : (tD T : Int) - 1 = ((tD T - 1 : Nat) : Int) := by omega
  have g3 : t + 1 ≤ t + 3 ∧ t + 3 ≤ t + 10 := by omega
  have g4 : t + 1 ≤ t + 4 ∧ t + 4 ≤ t + 10 := by omega
  have g1 : t + 1 ≤ t + 1 ∧ t + 1 ≤ t + 10 := by omega
  have g2 : t + 1 ≤ t + 2 ∧ t + 2 ≤ t + 10 := by omega
  first | refine x_aload_n hP rfl rfl ?_ | refine x_aload_nN hP rfl rfl ?_
  refine x_callV0 (ci := 8) hP 0 0 rfl rfl rfl (by first | assumption | rfl) rfl rfl rfl (Nat.zero_le _) (Nat.zero_le _) ?_
  refine c_hasRoomM hP ht' hc' hd4 h30 ?_
  first | refine zb_if_ne hP rfl (fun c4 => ?_) (fun c4 => ?_) | refine zl_if_ne hP rfl (fun c4 => ?_) (fun c4 => ?_) | refine z_if_ne hP rfl (by omega) (fun c4 => ?_) (fun c4 => ?_)
  rotate_left
  · have := of_decide_eq_false c4; omega
  have v0 := h3 (tD T - 1) (by omega)
  first | refine x_aload_n hP rfl rfl ?_ | refine x_aload_nN hP rfl rfl ?_
  refine x_getI hP rfl (by first | assumption | rfl) (by first | assumption | exact hR _ _ _ _ rfl | exact hR1 _ _ _ _ rfl | exact hR2 _ _ _ _ rfl | rfl) ?_
  refine x_iconst hP rfl ?_
  first | refine z_isub hP rfl ?_ | refine x_isub hP rfl ?_
  rw [e]
  refine x_istore hP rfl ?_
  refine x_iload hP rfl rfl ?_
  first | refine x_aload_n hP rfl rfl ?_ | refine x_aload_nN hP rfl rfl ?_
  refine x_getR hP rfl (by first | assumption | rfl) (by first | assumption | exact hR _ _ _ _ rfl | exact hR1 _ _ _ _ rfl | exact hR2 _ _ _ _ rfl | rfl) ?_
  refine x_iload hP rfl rfl ?_
  refine z_iald hP rfl (by first | assumption | rfl) (by first | decide | omega) (by omega) (by first | assumption | exact hR _ _ _ _ rfl | exact hR1 _ _ _ _ rfl | exact hR2 _ _ _ _ rfl | rfl) ?_
  refine x_callS2 hP 0 0 rfl rfl rfl rfl rfl (Nat.zero_le _) (Nat.zero_le _) ?_
  refine c_idOf hP (e := tD T - 1) (k := tS T (tD T - 1)) (by omega) (by omega) ?_
  have v1 : ∀ (i : Nat) (z w : Int32), (x_at (x_at I 1 (t + 3) i z) 1 (t + 4) i w) 1 (t + 1) (tD T - 1) = iI (tS T (tD T - 1)) := fun i z w => by
    rw [x_at_eq, if_neg (by omega), x_at_eq, if_neg (by omega)]; exact v0
  refine x_istore hP rfl ?_
  first | refine x_aload_n hP rfl rfl ?_ | refine x_aload_nN hP rfl rfl ?_
  refine x_getR hP rfl (by first | assumption | rfl) (by first | assumption | exact hR _ _ _ _ rfl | exact hR1 _ _ _ _ rfl | exact hR2 _ _ _ _ rfl | rfl) ?_
  refine x_iload hP rfl rfl ?_
  refine x_lload_n hP rfl rfl ?_
  refine z_last hP rfl (by first | assumption | rfl) (by first | decide | omega) (by omega) ?_
  first | refine w_nI ?_ | refine w_nL ?_ | refine w_nR ?_ | refine w_mI ?_ | refine w_mL ?_ | refine w_mR ?_ | skip
  first | refine x_aload_n hP rfl rfl ?_ | refine x_aload_nN hP rfl rfl ?_
  refine x_getR hP rfl (by first | assumption | rfl) (by first | assumption | exact hR _ _ _ _ rfl | exact hR1 _ _ _ _ rfl | exact hR2 _ _ _ _ rfl | rfl) ?_
  refine x_iload hP rfl rfl ?_
  refine x_iload_n hP rfl rfl ?_
  refine z_iast hP rfl (by first | assumption | rfl) (by first | decide | omega) (by omega) ?_
  first | refine w_nI ?_ | refine w_nL ?_ | refine w_nR ?_ | refine w_mI ?_ | refine w_mL ?_ | refine w_mR ?_ | skip
  first | refine x_aload_n hP rfl rfl ?_ | refine x_aload_nN hP rfl rfl ?_
  refine x_getR hP rfl (by first | assumption | rfl) (by first | assumption | exact hR _ _ _ _ rfl | exact hR1 _ _ _ _ rfl | exact hR2 _ _ _ _ rfl | rfl) ?_
  refine x_iload hP rfl rfl ?_
  refine x_iload_n hP rfl rfl ?_
  first | refine zl_if_ge hP rfl (fun c53 => ?_) (fun c53 => ?_) | refine z_if_ge hP rfl (by omega) (fun c53 => ?_) (fun c53 => ?_)
  · have hxx : 0 ≤ x ∧ x < tS T (tD T - 1) := by omega
    obtain ⟨z, rfl⟩ : ∃ z : Nat, x = z := ⟨x.toNat, by omega⟩
    first | refine x_aload_n hP rfl rfl ?_ | refine x_aload_nN hP rfl rfl ?_
    refine x_getR hP rfl (by first | assumption | rfl) (by first | assumption | exact hR _ _ _ _ rfl | exact hR1 _ _ _ _ rfl | exact hR2 _ _ _ _ rfl | rfl) ?_
    refine x_iload hP rfl rfl ?_
    refine x_iload_n hP rfl rfl ?_
    refine x_callS2 hP 0 0 rfl rfl rfl rfl rfl (Nat.zero_le _) (Nat.zero_le _) ?_
    refine c_idOf hP (e := tD T - 1) (k := z) (by omega) (by omega) ?_
    have v3 : (x_at I 1 (t + 3) (32 * (tD T - 1) + tS T (tD T - 1)) (iI z)) 1 (t + 4) (32 * (tD T - 1) + z) = iI (tH T (tD T - 1) z) := by
      rw [x_at_eq, if_neg (by omega)]
      exact (h4 _ (by omega) z (by omega)).2.2
    refine z_iald hP rfl (by first | assumption | rfl) (by first | decide | omega) (by omega) (by first | assumption | exact hR _ _ _ _ rfl | exact hR1 _ _ _ _ rfl | exact hR2 _ _ _ _ rfl | rfl) ?_
    refine x_iconst hP rfl ?_
    first | refine z_iadd hP rfl ?_ | refine x_iadd hP rfl ?_
    refine z_iast hP rfl (by first | assumption | rfl) (by first | decide | omega) (by omega) ?_
    first | refine w_nI ?_ | refine w_nL ?_ | refine w_nR ?_ | refine w_mI ?_ | refine w_mL ?_ | refine w_mR ?_ | skip
    first | refine x_aload_n hP rfl rfl ?_ | refine x_aload_nN hP rfl rfl ?_
    refine x_getR hP rfl (by first | assumption | rfl) (by first | assumption | exact hR _ _ _ _ rfl | exact hR1 _ _ _ _ rfl | exact hR2 _ _ _ _ rfl | rfl) ?_
    refine x_iload hP rfl rfl ?_
    have v1' := v1 (32 * (tD T - 1) + tS T (tD T - 1)) (iI z) (iI ((tH T (tD T - 1) z : Int) + 1))
    refine x_dup2 hP rfl rfl rfl ?_
    refine z_iald hP rfl (by first | assumption | rfl) (by first | decide | omega) (by omega) (by first | assumption | exact hR _ _ _ _ rfl | exact hR1 _ _ _ _ rfl | exact hR2 _ _ _ _ rfl | rfl) ?_
    refine x_iconst hP rfl ?_
    first | refine z_iadd hP rfl ?_ | refine x_iadd hP rfl ?_
    refine z_iast hP rfl (by first | assumption | rfl) (by first | decide | omega) (by omega) ?_
    first | refine w_nI ?_ | refine w_nL ?_ | refine w_nR ?_ | refine w_mI ?_ | refine w_mL ?_ | refine w_mR ?_ | skip
    refine x_vret hP rfl rfl ?_
    have := ctm_add (v := v) (x := z) hc' h0 hs h30 rfl
    rw [if_neg (by omega)] at this
    exact k _ _ this (frP_at (frP_at (frP_at (frP_refl _ _) (Or.inr (Or.inr ⟨Or.inl rfl, g3⟩))) (Or.inr (Or.inr ⟨Or.inl rfl, g4⟩))) (Or.inr (Or.inr ⟨Or.inl rfl, g1⟩))) (frP_at (frP_refl _ _) (Or.inr (Or.inr ⟨Or.inr rfl, g2⟩)))
  · obtain rfl : x = -1 := by omega
    refine x_iconst hP rfl ?_
    refine x_goto hP rfl ?_
    refine z_iast hP rfl (by first | assumption | rfl) (by first | decide | omega) (by omega) ?_
    first | refine w_nI ?_ | refine w_nL ?_ | refine w_nR ?_ | refine w_mI ?_ | refine w_mL ?_ | refine w_mR ?_ | skip
    first | refine x_aload_n hP rfl rfl ?_ | refine x_aload_nN hP rfl rfl ?_
    refine x_getR hP rfl (by first | assumption | rfl) (by first | assumption | exact hR _ _ _ _ rfl | exact hR1 _ _ _ _ rfl | exact hR2 _ _ _ _ rfl | rfl) ?_
    refine x_iload hP rfl rfl ?_
    have v1' := v1 (32 * (tD T - 1) + tS T (tD T - 1)) (iI (-1)) (iI 0)
    refine x_dup2 hP rfl rfl rfl ?_
    refine z_iald hP rfl (by first | assumption | rfl) (by first | decide | omega) (by omega) (by first | assumption | exact hR _ _ _ _ rfl | exact hR1 _ _ _ _ rfl | exact hR2 _ _ _ _ rfl | rfl) ?_
    refine x_iconst hP rfl ?_
    first | refine z_iadd hP rfl ?_ | refine x_iadd hP rfl ?_
    refine z_iast hP rfl (by first | assumption | rfl) (by first | decide | omega) (by omega) ?_
    first | refine w_nI ?_ | refine w_nL ?_ | refine w_nR ?_ | refine w_mI ?_ | refine w_mL ?_ | refine w_mR ?_ | skip
    refine x_vret hP rfl rfl ?_
    have := ctm_add (v := v) (x := -1) hc' h0 hs h30 rfl
    rw [if_pos (by omega)] at this
    exact k _ _ this (frP_at (frP_at (frP_at (frP_refl _ _) (Or.inr (Or.inr ⟨Or.inl rfl, g3⟩))) (Or.inr (Or.inr ⟨Or.inl rfl, g4⟩))) (Or.inr (Or.inr ⟨Or.inl rfl, g1⟩))) (frP_at (frP_refl _ _) (Or.inr (Or.inr ⟨Or.inr rfl, g2⟩)))
theorem c_addDimension (hP : x_closed E P) (ht : isTr R t) (hc : ct I J t T) (hd4 : tD T < 4) {v : Int64} (k : ∀ I' J', ct I' J' t (tAddD T v) → frP (gT t) I I' → frP (gT t) J J' → Q none (x_hp I' J' R)) : P 10 (d + 2) 0 (x_la 0 [.ref t, .long v]) [] (x_hp I J R) rc rs Q := by
  have ht' := ht
  have hw := hc.2.2.2.2.2
  obtain ⟨t0, t1, t2, t3, t4, t5, t6, t7, t8, t9, t10, t11, u1, u2, u3, u4, u5, u6, u7, u8, u9, u10, u11⟩ := ht
  obtain ⟨h1, h2, h3, h4, h5, w1, w2, w3⟩ := hc
  have g1 : t + 1 ≤ t + 1 ∧ t + 1 ≤ t + 10 := by omega
  first | refine x_aload_n hP rfl rfl ?_ | refine x_aload_nN hP rfl rfl ?_
  refine x_getI hP rfl (by first | assumption | rfl) (by first | assumption | exact hR _ _ _ _ rfl | exact hR1 _ _ _ _ rfl | exact hR2 _ _ _ _ rfl | rfl) ?_
  refine x_iconst hP rfl ?_
  refine z_icmp_ge hP rfl (by omega) (by omega) (fun c5 => ?_) (fun c5 => ?_)
  · omega
  first | refine x_aload_n hP rfl rfl ?_ | refine x_aload_nN hP rfl rfl ?_
  refine x_dup hP rfl rfl ?_
  refine x_getI hP rfl (by first | assumption | rfl) (by first | assumption | exact hR _ _ _ _ rfl | exact hR1 _ _ _ _ rfl | exact hR2 _ _ _ _ rfl | rfl) ?_
  refine x_iconst hP rfl ?_
  first | refine z_iadd hP rfl ?_ | refine x_iadd hP rfl ?_
  refine x_putI hP rfl (by first | assumption | rfl) ?_
  first | refine w_nI ?_ | refine w_nL ?_ | refine w_nR ?_ | refine w_mI ?_ | refine w_mL ?_ | refine w_mR ?_ | skip
  have v1 : (x_at I 1512 t 0 (iI ((tD T : Int) + 1))) 1512 t 0 = iI ((tD T : Int) + 1) := by rw [x_at_eq, if_pos ⟨rfl, rfl, rfl⟩]
  first | refine x_aload_n hP rfl rfl ?_ | refine x_aload_nN hP rfl rfl ?_
  refine x_getR hP rfl (by first | assumption | rfl) (by first | assumption | exact hR _ _ _ _ rfl | exact hR1 _ _ _ _ rfl | exact hR2 _ _ _ _ rfl | rfl) ?_
  first | refine x_aload_n hP rfl rfl ?_ | refine x_aload_nN hP rfl rfl ?_
  refine x_getI hP rfl (by first | assumption | rfl) (by first | assumption | exact hR _ _ _ _ rfl | exact hR1 _ _ _ _ rfl | exact hR2 _ _ _ _ rfl | rfl) ?_
  refine x_iconst hP rfl ?_
  first | refine z_isub hP rfl ?_ | refine x_isub hP rfl ?_
  refine x_iconst hP rfl ?_
  refine z_iast hP rfl (by first | assumption | rfl) (by first | decide | omega) (by omega) ?_
  first | refine w_nI ?_ | refine w_nL ?_ | refine w_nR ?_ | refine w_mI ?_ | refine w_mL ?_ | refine w_mR ?_ | skip
  first | refine x_aload_n hP rfl rfl ?_ | refine x_aload_nN hP rfl rfl ?_
  refine x_lload_n hP rfl rfl ?_
  refine x_iconst hP rfl ?_
  refine x_callV2 (ci := 8) hP 0 0 rfl rfl rfl (by first | assumption | rfl) rfl rfl rfl (Nat.zero_le _) (Nat.zero_le _) ?_
  have e : ((tD T : Int) + 1 - 1).toNat = tD T := by omega
  rw [e]
  have hm : ctm (x_at (x_at I 1512 t 0 (iI ((tD T : Int) + 1))) 1 (t + 1) (tD T) (iI 0)) J t (tNewD T) := by
    refine ⟨?_, ?_, fun d hd => ?_, fun d hd z hz => ?_, fun m hm => ?_⟩
    · rw [x_at_eq, if_neg (by omega), x_at_eq, if_pos ⟨rfl, rfl, rfl⟩]; rfl
    · rw [x_at_eq, if_neg (by omega), x_at_eq, if_neg (by omega)]; exact h2
    · have hd : d < tD T + 1 := hd
      show _ = iI (uf1 (tS T) (tD T) 0 d : Nat)
      rw [x_at_eq]
      by_cases e : d = tD T
      · rw [if_pos ⟨rfl, rfl, e⟩, e, uf1_s]; rfl
      · rw [if_neg (by omega), x_at_eq, if_neg (by omega), uf1_n _ _ e]
        exact h3 d (by omega)
    · have hd : d < tD T + 1 := hd
      have hz : z < uf1 (tS T) (tD T) 0 d := hz
      have hd2 : d < tD T := by
        by_cases e : d = tD T
        · subst e; rw [uf1_s] at hz; omega
        · omega
      rw [uf1_n _ _ (by omega)] at hz
      have := h4 d hd2 z hz
      refine ⟨this.1, ?_, ?_⟩
      · rw [x_at_eq, if_neg (by omega)]; exact this.2.1
      · rw [x_at_eq, if_neg (by omega)]; exact this.2.2
    · exact h5 m hm
  have es : tS (tNewD T) (tD (tNewD T) - 1) = 0 := uf1_s ..
  refine c_addMember hP ht' hm (by show 0 < tD T + 1; omega) (by show tD T + 1 ≤ 4; omega) (by rw [es]; decide) (fun z hz => ?_) (Or.inl rfl) (fun I' J' hc' f1 f2 => ?_)
  · have hz : z < tD T + 1 := hz
    show uf1 (tS T) (tD T) 0 z ≤ 30
    by_cases e : z = tD T
    · rw [e, uf1_s]; decide
    · rw [uf1_n _ _ e]; exact (w3 z (by omega)).2.1
  refine x_vret hP rfl rfl ?_
  exact k _ _ (ct_m.mpr ⟨hc', twf_addD hw hd4⟩) (frP_trans (frP_at (frP_at (frP_refl _ _) (Or.inl ⟨rfl, rfl⟩)) (Or.inr (Or.inr ⟨Or.inl rfl, g1⟩))) f1) f2
theorem c_addMark (hP : x_closed E P) (ht : isTr R t) (hc : ct I J t T) (hd4 : tM T < 3) {v : Int64} (k : ∀ I' J', ct I' J' t (tAddK T v) → frP (gT t) I I' → frP (gT t) J J' → Q none (x_hp I' J' R)) : P 14 d 0 (x_la 0 [.ref t, .long v]) [] (x_hp I J R) rc rs Q := by
  have hw := hc.2.2.2.2.2
  obtain ⟨t0, t1, t2, t3, t4, t5, t6, t7, t8, t9, t10, t11, u1, u2, u3, u4, u5, u6, u7, u8, u9, u10, u11⟩ := ht
  obtain ⟨h1, h2, h3, h4, h5, w1, w2, w3⟩ := hc
  have g1 : t + 1 ≤ t + 10 ∧ t + 10 ≤ t + 10 := by omega
  first | refine x_aload_n hP rfl rfl ?_ | refine x_aload_nN hP rfl rfl ?_
  refine x_getI hP rfl (by first | assumption | rfl) (by first | assumption | exact hR _ _ _ _ rfl | exact hR1 _ _ _ _ rfl | exact hR2 _ _ _ _ rfl | rfl) ?_
  refine x_iconst hP rfl ?_
  refine z_icmp_ge hP rfl (by omega) (by omega) (fun c5 => ?_) (fun c5 => ?_)
  · omega
  first | refine x_aload_n hP rfl rfl ?_ | refine x_aload_nN hP rfl rfl ?_
  refine x_getR hP rfl (by first | assumption | rfl) (by first | assumption | exact hR _ _ _ _ rfl | exact hR1 _ _ _ _ rfl | exact hR2 _ _ _ _ rfl | rfl) ?_
  first | refine x_aload_n hP rfl rfl ?_ | refine x_aload_nN hP rfl rfl ?_
  refine x_getI hP rfl (by first | assumption | rfl) (by first | assumption | exact hR _ _ _ _ rfl | exact hR1 _ _ _ _ rfl | exact hR2 _ _ _ _ rfl | rfl) ?_
  refine x_lload_n hP rfl rfl ?_
  refine z_last hP rfl (by first | assumption | rfl) (by first | decide | omega) (by omega) ?_
  first | refine w_nI ?_ | refine w_nL ?_ | refine w_nR ?_ | refine w_mI ?_ | refine w_mL ?_ | refine w_mR ?_ | skip
  first | refine x_aload_n hP rfl rfl ?_ | refine x_aload_nN hP rfl rfl ?_
  refine x_dup hP rfl rfl ?_
  refine x_getI hP rfl (by first | assumption | rfl) (by first | assumption | exact hR _ _ _ _ rfl | exact hR1 _ _ _ _ rfl | exact hR2 _ _ _ _ rfl | rfl) ?_
  refine x_iconst hP rfl ?_
  first | refine z_iadd hP rfl ?_ | refine x_iadd hP rfl ?_
  refine x_putI hP rfl (by first | assumption | rfl) ?_
  first | refine w_nI ?_ | refine w_nL ?_ | refine w_nR ?_ | refine w_mI ?_ | refine w_mL ?_ | refine w_mR ?_ | skip
  refine x_vret hP rfl rfl ?_
  refine k _ _ ⟨?_, ?_, h3, ?_, fun m hm => ?_, twf_addK hw hd4⟩ (frP_at (frP_refl _ _) (Or.inr (Or.inl ⟨rfl, rfl⟩))) (frP_at (frP_refl _ _) (Or.inr (Or.inr ⟨Or.inr rfl, g1⟩)))
  · rw [x_at_eq, if_neg (by omega)]; exact h1
  · rw [x_at_eq, if_pos ⟨rfl, rfl, rfl⟩]; rfl
  · intro d hd z hz
    have := h4 d hd z hz
    refine ⟨?_, this.2.1, this.2.2⟩
    rw [x_at_eq, if_neg (by omega)]; exact this.1
  · have hm : m < tM T + 1 := hm
    show x_at J 6 (t + 10) (tM T) v 6 (t + 10) m = uf1 (tK T) (tM T) v m
    rw [x_at_eq]
    by_cases e : m = tM T
    · rw [if_pos ⟨rfl, rfl, e⟩, e, uf1_s]
    · rw [if_neg (fun q => e q.2.2), uf1_n _ _ e]
      exact h5 m (by omega)
/-- no tree yet -/
def tNil : x_T := (0, fun _ => 0, fun _ _ => 0, fun _ _ => 0, fun _ _ => 0, 0, fun _ => 0)
def nuNil : Nat → Nat → Nat → Int := fun _ _ _ => -2000000000
theorem c_trClear (hP : x_closed E P) (ht : isTr R t) (k : ∀ I', ct I' J t tNil → nuP I' t nuNil → frP (fun _ a _ => t ≤ a ∧ a ≤ t + 11) I I' → Q none (x_hp I' J R)) : P 27 (d + 1) 0 (x_la 0 [.ref t]) [] (x_hp I J R) rc rs Q := by
  obtain ⟨t0, t1, t2, t3, t4, t5, t6, t7, t8, t9, t10, t11, u1, u2, u3, u4, u5, u6, u7, u8, u9, u10, u11⟩ := ht
  have g1 : t + 1 ≤ t + 11 ∧ t + 11 ≤ t + 11 := by omega
  first | refine x_aload_n hP rfl rfl ?_ | refine x_aload_nN hP rfl rfl ?_
  refine x_iconst hP rfl ?_
  refine x_putI hP rfl (by first | assumption | rfl) ?_
  first | refine w_nI ?_ | refine w_nL ?_ | refine w_nR ?_ | refine w_mI ?_ | refine w_mL ?_ | refine w_mR ?_ | skip
  first | refine x_aload_n hP rfl rfl ?_ | refine x_aload_nN hP rfl rfl ?_
  refine x_iconst hP rfl ?_
  refine x_putI hP rfl (by first | assumption | rfl) ?_
  first | refine w_nI ?_ | refine w_nL ?_ | refine w_nR ?_ | refine w_mI ?_ | refine w_mL ?_ | refine w_mR ?_ | skip
  first | refine x_aload_n hP rfl rfl ?_ | refine x_aload_nN hP rfl rfl ?_
  refine x_getR hP rfl (by first | assumption | rfl) (by first | assumption | exact hR _ _ _ _ rfl | exact hR1 _ _ _ _ rfl | exact hR2 _ _ _ _ rfl | rfl) ?_
  refine x_ldcI hP rfl ?_
  refine x_callS2 hP 0 0 rfl rfl rfl rfl rfl (Nat.zero_le _) (Nat.zero_le _) ?_
  refine c_fill hP t11 (by decide) (fun I' h1 h2 => ?_)
  refine x_vret hP rfl rfl ?_
  refine k I' ⟨?_, ?_, fun d hd => absurd hd (Nat.not_lt_zero _), fun d hd => absurd hd (Nat.not_lt_zero _), fun d hd => absurd hd (Nat.not_lt_zero _), by decide, by decide, fun d hd => absurd hd (Nat.not_lt_zero _)⟩ (fun m e z hm he hz => ⟨h1 _ (by omega), Or.inl rfl⟩) (frP_trans (frP_at (frP_at (frP_refl _ _) (by omega)) (by omega)) (frP_mono h2 (fun k a i h => by omega)))
  · rw [h2 _ _ _ (by omega), x_at_eq, if_neg (by omega), x_at_eq, if_pos ⟨rfl, rfl, rfl⟩]; rfl
  · rw [h2 _ _ _ (by omega), x_at_eq, if_pos ⟨rfl, rfl, rfl⟩]; rfl
end
