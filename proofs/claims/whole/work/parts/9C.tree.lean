/-! THE some (.ref 122)ERENCE: tree -/
def cF (_k a _i : Nat) : Prop := a = 125 ∨ a = 129 ∨ a = 131 ∨ a = 133 ∨ a = 127
def tF (k a i : Nat) : Prop := (a = 122 ∧ (k = 1595 ∨ k = 1596)) ∨ cF k a i ∨ lG k a i ∨ a = 138 ∨ (a = 140 ∨ a = 141 ∨ a = 142)
theorem rNw_c {I I' : x_M Int32} {J J' : x_M Int64} {T : x_T} {S : Nat → Nat → Nat → Prop} (h : rNw I J T) (hf : frP S I I') (hg : frP S J J') (hs : ∀ k a i, S k a i → ¬ a = 126 ∧ ¬ a = 128 ∧ ¬ a = 130 ∧ ¬ a = 132 ∧ ¬ a = 134) : rNw I' J' T := by
  obtain ⟨h3, h4, h5, hw⟩ := h
  exact ⟨fun a ha => (hf _ _ _ fun z => (hs _ _ _ z).2.2.2.2 rfl).trans (h3 a ha), fun a ha i hi => ⟨(hg _ _ _ fun z => (hs _ _ _ z).1 rfl).trans (h4 a ha i hi).1, (hf _ _ _ fun z => (hs _ _ _ z).2.2.1 rfl).trans (h4 a ha i hi).2.1, (hf _ _ _ fun z => (hs _ _ _ z).2.2.2.1 rfl).trans (h4 a ha i hi).2.2⟩, fun m hm => (hg _ _ _ fun z => (hs _ _ _ z).2.1 rfl).trans (h5 m hm), hw⟩
theorem cF_n {k a i : Nat} (h : cF k a i) : ¬ a = 126 ∧ ¬ a = 128 ∧ ¬ a = 130 ∧ ¬ a = 132 ∧ ¬ a = 134 := by unfold cF at h; omega
theorem twf_nil : twf tNil := ⟨by decide, by decide, fun d hd => absurd hd (Nat.not_lt_zero _)⟩
section
variable {E : x_E} {P : x_Pr} {d rc rs : Nat} {I : x_M Int32} {J : x_M Int64} {R : x_M (Option Nat)} {Q : x_Q} {n p : Nat} {c : Nat → Nat} {T : x_T} {S : x_St}
theorem r_treeText (hP : x_closed E P) (hR : x_fin R) (t1 : txB I n c) (k : ttP Q I J R n (treR c n n tNil 0)) : P 161 (d + 4) 0 (x_la 0 [.ref 122]) [] (x_hp (rT I (0 : Nat) (-1)) J R) rc rs Q := by
  have s2 : rT I (0 : Nat) (-1) 1579 122 0 = iI n := t1.1
  have n2 := t1.2.1
  have hc : rNw I J tNil := ⟨fun a ha => absurd ha (Nat.not_lt_zero _), fun a ha => absurd ha (Nat.not_lt_zero _), fun a ha => absurd ha (Nat.not_lt_zero _), twf_nil⟩
  refine x_iconst hP rfl ?_
  refine x_istore_n hP rfl ?_
  refine x_iconst hP rfl ?_
  refine x_istore_n hP rfl ?_
  first | refine x_aload_n hP rfl rfl ?_ | refine x_aload_nN hP rfl rfl ?_
  refine x_getI hP rfl (by first | assumption | rfl) (by first | assumption | exact hR _ _ _ _ rfl | exact hR1 _ _ _ _ rfl | exact hR2 _ _ _ _ rfl | rfl) ?_
  first | refine zb_if_ne hP rfl (fun c8 => ?_) (fun c8 => ?_) | refine zl_if_ne hP rfl (fun c8 => ?_) (fun c8 => ?_) | refine z_if_ne hP rfl (by omega) (fun c8 => ?_) (fun c8 => ?_)
  · exact x_re hP [some (.ref 122), some (.int (iI (tD tNil))), some (.int (iI (tM tNil)))] ⟨rfl, rfl, rfl, trivial⟩ (r_tt_loop hP hR n tNil 0 I J (Nat.zero_le _) (by omega) t1 hc (fun a ha => absurd ha (Nat.not_lt_zero _)) k _ _)
  · first | refine x_aload_n hP rfl rfl ?_ | refine x_aload_nN hP rfl rfl ?_
    refine x_iconst hP rfl ?_
    refine x_callV1 (ci := 9) hP 0 0 rfl rfl rfl (by first | assumption | rfl) rfl rfl rfl (Nat.zero_le _) (Nat.zero_le _) ?_
    refine r_failO hP ?_
    obtain rfl : n = 0 := by omega
    exact r_tt16B (e := 0) hP hR (by omega) (fun I' J' w1 w2 => k I' J' _ (by omega) w1 w2) _ _ _ ⟨rfl, rfl, rfl, trivial⟩
theorem r_tree1 (hP : x_closed E P) (hR : x_fin R) {I0 : x_M Int32} {J0 : x_M Int64} (k : ∀ I' J' L r1 r2, (∀ j, j < 120 → J' 6 125 j = J0 6 126 j ∧ I' 1 129 j = I0 1 130 j ∧ I' 1 131 j = I0 1 132 j) → frP cF I0 I' → frP cF J0 J' → x_ag L 0 [some (.ref 122), some (.int (iI 0))] → P 159 (d + 6) 96 L [] (x_hp I' J' R) r1 r2 Q) : ∀ (f i : Nat) (I : x_M Int32) (J : x_M Int64), i + f = 120 → (∀ j, j < i → J 6 125 j = J0 6 126 j ∧ I 1 129 j = I0 1 130 j ∧ I 1 131 j = I0 1 132 j) → frP cF I0 I → frP cF J0 J → ∀ rc rs, P 159 (d + 6) 48 (x_ls [some (.ref 122), some (.int (iI 0)), some (.int (iI i))]) [] (x_hp I J R) rc rs Q := by
  intro f
  induction f with
  | zero =>
    intro i I J hi hj hf hg rc rs
    refine x_iload_n hP rfl rfl ?_
    refine x_bipush hP rfl ?_
    refine z_icmp_ge hP rfl (by omega) (by omega) (fun c51 => ?_) (fun c51 => ?_)
    · exact k I J _ _ _ (fun j h => hj j (by omega)) hf hg ⟨rfl, rfl, trivial⟩
    · omega
  | succ f ih =>
    intro i I J hi hj hf hg rc rs
    have v1 : J 6 126 i = J0 6 126 i := hg _ _ _ fun z => by unfold cF at z; omega
    have v2 : I 1 130 i = I0 1 130 i := hf _ _ _ fun z => by unfold cF at z; omega
    have v3 : I 1 132 i = I0 1 132 i := hf _ _ _ fun z => by unfold cF at z; omega
    refine x_iload_n hP rfl rfl ?_
    refine x_bipush hP rfl ?_
    refine z_icmp_ge hP rfl (by omega) (by omega) (fun c51 => ?_) (fun c51 => ?_)
    · omega
    first | refine x_aload_n hP rfl rfl ?_ | refine x_aload_nN hP rfl rfl ?_
    refine x_getR hP rfl (by first | assumption | rfl) (by first | assumption | exact hR _ _ _ _ rfl | exact hR1 _ _ _ _ rfl | exact hR2 _ _ _ _ rfl | rfl) ?_
    refine x_iload_n hP rfl rfl ?_
    first | refine x_aload_n hP rfl rfl ?_ | refine x_aload_nN hP rfl rfl ?_
    refine x_getR hP rfl (by first | assumption | rfl) (by first | assumption | exact hR _ _ _ _ rfl | exact hR1 _ _ _ _ rfl | exact hR2 _ _ _ _ rfl | rfl) ?_
    refine x_iload_n hP rfl rfl ?_
    refine z_lald hP rfl (by first | assumption | rfl) (by first | decide | omega) (by omega) (by first | assumption | exact hR _ _ _ _ rfl | exact hR1 _ _ _ _ rfl | exact hR2 _ _ _ _ rfl | rfl) ?_
    refine z_last hP rfl (by first | assumption | rfl) (by first | decide | omega) (by omega) ?_
    first | refine w_nI ?_ | refine w_nL ?_ | refine w_nR ?_ | refine w_mI ?_ | refine w_mL ?_ | refine w_mR ?_ | skip
    rw [Int.toNat_natCast]
    first | refine x_aload_n hP rfl rfl ?_ | refine x_aload_nN hP rfl rfl ?_
    refine x_getR hP rfl (by first | assumption | rfl) (by first | assumption | exact hR _ _ _ _ rfl | exact hR1 _ _ _ _ rfl | exact hR2 _ _ _ _ rfl | rfl) ?_
    refine x_iload_n hP rfl rfl ?_
    first | refine x_aload_n hP rfl rfl ?_ | refine x_aload_nN hP rfl rfl ?_
    refine x_getR hP rfl (by first | assumption | rfl) (by first | assumption | exact hR _ _ _ _ rfl | exact hR1 _ _ _ _ rfl | exact hR2 _ _ _ _ rfl | rfl) ?_
    refine x_iload_n hP rfl rfl ?_
    refine z_iald hP rfl (by first | assumption | rfl) (by first | decide | omega) (by omega) (by first | assumption | exact hR _ _ _ _ rfl | exact hR1 _ _ _ _ rfl | exact hR2 _ _ _ _ rfl | rfl) ?_
    refine z_iast hP rfl (by first | assumption | rfl) (by first | decide | omega) (by omega) ?_
    first | refine w_nI ?_ | refine w_nL ?_ | refine w_nR ?_ | refine w_mI ?_ | refine w_mL ?_ | refine w_mR ?_ | skip
    rw [Int.toNat_natCast]
    have v3 : x_at I 1 129 i (I0 1 130 i) 1 132 i = I0 1 132 i := v3
    first | refine x_aload_n hP rfl rfl ?_ | refine x_aload_nN hP rfl rfl ?_
    refine x_getR hP rfl (by first | assumption | rfl) (by first | assumption | exact hR _ _ _ _ rfl | exact hR1 _ _ _ _ rfl | exact hR2 _ _ _ _ rfl | rfl) ?_
    refine x_iload_n hP rfl rfl ?_
    first | refine x_aload_n hP rfl rfl ?_ | refine x_aload_nN hP rfl rfl ?_
    refine x_getR hP rfl (by first | assumption | rfl) (by first | assumption | exact hR _ _ _ _ rfl | exact hR1 _ _ _ _ rfl | exact hR2 _ _ _ _ rfl | rfl) ?_
    refine x_iload_n hP rfl rfl ?_
    refine z_iald hP rfl (by first | assumption | rfl) (by first | decide | omega) (by omega) (by first | assumption | exact hR _ _ _ _ rfl | exact hR1 _ _ _ _ rfl | exact hR2 _ _ _ _ rfl | rfl) ?_
    refine z_iast hP rfl (by first | assumption | rfl) (by first | decide | omega) (by omega) ?_
    first | refine w_nI ?_ | refine w_nL ?_ | refine w_nR ?_ | refine w_mI ?_ | refine w_mL ?_ | refine w_mR ?_ | skip
    rw [Int.toNat_natCast]
    refine z_iinc hP rfl rfl rfl ?_
    refine x_goto hP rfl ?_
    refine x_re hP [some (.ref 122), some (.int (iI 0)), some (.int (iI (i + 1 : Nat)))] ⟨rfl, rfl, rfl, trivial⟩ (ih (i + 1) (x_at (x_at I 1 129 i (I0 1 130 i)) 1 131 i (I0 1 132 i)) (x_at J 6 125 i (J0 6 126 i)) (by omega) (fun j h => ?_) (frP_at (frP_at hf (by unfold cF; omega)) (by unfold cF; omega)) (frP_at hg (by unfold cF; omega)) _ _)
    by_cases q : j = i
    · rw [q]
      refine ⟨?_, ?_, ?_⟩
      · rw [x_at_eq, if_pos ⟨rfl, rfl, rfl⟩]
      · rw [x_at_eq, if_neg (by omega), x_at_eq, if_pos ⟨rfl, rfl, rfl⟩]
      · rw [x_at_eq, if_pos ⟨rfl, rfl, rfl⟩]
    · have := hj j (by omega)
      refine ⟨?_, ?_, ?_⟩
      · rw [x_at_eq, if_neg (by omega)]; exact this.1
      · rw [x_at_eq, if_neg (by omega), x_at_eq, if_neg (by omega)]; exact this.2.1
      · rw [x_at_eq, if_neg (by omega), x_at_eq, if_neg (by omega)]; exact this.2.2
theorem r_tree2 (hP : x_closed E P) (hR : x_fin R) (hw : twf T) {I0 : x_M Int32} (hdm : I0 1595 122 0 = iI (tD T)) (hnm : ∀ a, a < tD T → I0 1 134 a = iI (tS T a)) (k : ∀ I' L r1 r2, (∀ a, a < tD T → I' 1 133 a = iI (tS T a)) → frP (fun _ a _ => a = 133) I0 I' → x_ag L 0 [some (.ref 122), some (.int (iI (sumS (tS T) (tD T))))] → P 159 (d + 6) 133 L [] (x_hp I' J R) r1 r2 Q) : ∀ (f i : Nat) (I : x_M Int32), i + f = tD T → (∀ a, a < i → I 1 133 a = iI (tS T a)) → frP (fun _ a _ => a = 133) I0 I → ∀ rc rs, P 159 (d + 6) 98 (x_ls [some (.ref 122), some (.int (iI (sumS (tS T) i))), some (.int (iI i))]) [] (x_hp I J R) rc rs Q := by
  have w1 := hw.1
  intro f
  induction f with
  | zero =>
    intro i I hi hm hf rc rs
    obtain rfl : i = tD T := by omega
    have v0 : I 1595 122 0 = iI (tD T) := (hf _ _ _ (by show ¬ _ = _; decide)).trans hdm
    refine x_iload_n hP rfl rfl ?_
    first | refine x_aload_n hP rfl rfl ?_ | refine x_aload_nN hP rfl rfl ?_
    refine x_getI hP rfl (by first | assumption | rfl) (by first | assumption | exact hR _ _ _ _ rfl | exact hR1 _ _ _ _ rfl | exact hR2 _ _ _ _ rfl | rfl) ?_
    refine z_icmp_ge hP rfl (by omega) (by omega) (fun c103 => ?_) (fun c103 => ?_)
    · exact k I _ _ _ hm hf ⟨rfl, rfl, trivial⟩
    · omega
  | succ f ih =>
    intro i I hi hm hf rc rs
    have v0 : I 1595 122 0 = iI (tD T) := (hf _ _ _ (by show ¬ _ = _; decide)).trans hdm
    have v1 : I 1 134 i = iI (tS T i) := (hf _ _ _ (by show ¬ _ = _; decide)).trans (hnm i (by omega))
    refine x_iload_n hP rfl rfl ?_
    first | refine x_aload_n hP rfl rfl ?_ | refine x_aload_nN hP rfl rfl ?_
    refine x_getI hP rfl (by first | assumption | rfl) (by first | assumption | exact hR _ _ _ _ rfl | exact hR1 _ _ _ _ rfl | exact hR2 _ _ _ _ rfl | rfl) ?_
    refine z_icmp_ge hP rfl (by omega) (by omega) (fun c103 => ?_) (fun c103 => ?_)
    · omega
    first | refine x_aload_n hP rfl rfl ?_ | refine x_aload_nN hP rfl rfl ?_
    refine x_getR hP rfl (by first | assumption | rfl) (by first | assumption | exact hR _ _ _ _ rfl | exact hR1 _ _ _ _ rfl | exact hR2 _ _ _ _ rfl | rfl) ?_
    refine x_iload_n hP rfl rfl ?_
    first | refine x_aload_n hP rfl rfl ?_ | refine x_aload_nN hP rfl rfl ?_
    refine x_getR hP rfl (by first | assumption | rfl) (by first | assumption | exact hR _ _ _ _ rfl | exact hR1 _ _ _ _ rfl | exact hR2 _ _ _ _ rfl | rfl) ?_
    refine x_iload_n hP rfl rfl ?_
    refine z_iald hP rfl (by first | assumption | rfl) (by first | decide | omega) (by omega) (by first | assumption | exact hR _ _ _ _ rfl | exact hR1 _ _ _ _ rfl | exact hR2 _ _ _ _ rfl | rfl) ?_
    refine z_iast hP rfl (by first | assumption | rfl) (by first | decide | omega) (by omega) ?_
    first | refine w_nI ?_ | refine w_nL ?_ | refine w_nR ?_ | refine w_mI ?_ | refine w_mL ?_ | refine w_mR ?_ | skip
    rw [Int.toNat_natCast]
    have v2 : x_at I 1 133 i (iI (tS T i)) 1 133 i = iI (tS T i) := by rw [x_at_eq, if_pos ⟨rfl, rfl, rfl⟩]
    refine x_iload_n hP rfl rfl ?_
    first | refine x_aload_n hP rfl rfl ?_ | refine x_aload_nN hP rfl rfl ?_
    refine x_getR hP rfl (by first | assumption | rfl) (by first | assumption | exact hR _ _ _ _ rfl | exact hR1 _ _ _ _ rfl | exact hR2 _ _ _ _ rfl | rfl) ?_
    refine x_iload_n hP rfl rfl ?_
    refine z_iald hP rfl (by first | assumption | rfl) (by first | decide | omega) (by omega) (by first | assumption | exact hR _ _ _ _ rfl | exact hR1 _ _ _ _ rfl | exact hR2 _ _ _ _ rfl | rfl) ?_
    first | refine z_iadd hP rfl ?_ | refine x_iadd hP rfl ?_
    refine x_istore_n hP rfl ?_
    refine z_iinc hP rfl rfl rfl ?_
    refine x_goto hP rfl ?_
    refine x_re hP [some (.ref 122), some (.int (iI (sumS (tS T) (i + 1)))), some (.int (iI (i + 1 : Nat)))] ⟨rfl, rfl, rfl, trivial⟩ (ih (i + 1) (x_at I 1 133 i (iI (tS T i))) (by omega) (fun a ha => ?_) (frP_at hf rfl) _ _)
    rw [x_at_eq]
    by_cases q : a = i
    · rw [if_pos ⟨rfl, rfl, q⟩, q]
    · rw [if_neg (by omega)]; exact hm a (by omega)
theorem r_tree3 (hP : x_closed E P) (hR : x_fin R) (hw : twf T) {J0 : x_M Int64} {va : Int} (hmm : I 1596 122 0 = iI (tM T)) (hnm : ∀ a, a < tM T → J0 6 128 a = tK T a) (k : ∀ J' L r1 r2, (∀ a, a < tM T → J' 6 127 a = tK T a) → frP (fun _ a _ => a = 127) J0 J' → x_ag L 0 [some (.ref 122), some (.int (iI va))] → P 159 (d + 6) 161 L [] (x_hp I J' R) r1 r2 Q) : ∀ (f i : Nat) (J : x_M Int64), i + f = tM T → (∀ a, a < i → J 6 127 a = tK T a) → frP (fun _ a _ => a = 127) J0 J → ∀ rc rs, P 159 (d + 6) 135 (x_ls [some (.ref 122), some (.int (iI va)), some (.int (iI i))]) [] (x_hp I J R) rc rs Q := by
  have w1 := hw.2.1
  intro f
  induction f with
  | zero =>
    intro i J hi hm hf rc rs
    refine x_iload_n hP rfl rfl ?_
    first | refine x_aload_n hP rfl rfl ?_ | refine x_aload_nN hP rfl rfl ?_
    refine x_getI hP rfl (by first | assumption | rfl) (by first | assumption | exact hR _ _ _ _ rfl | exact hR1 _ _ _ _ rfl | exact hR2 _ _ _ _ rfl | rfl) ?_
    refine z_icmp_ge hP rfl (by omega) (by omega) (fun c140 => ?_) (fun c140 => ?_)
    · exact k J _ _ _ (fun a ha => hm a (by omega)) hf ⟨rfl, rfl, trivial⟩
    · omega
  | succ f ih =>
    intro i J hi hm hf rc rs
    have v1 : J 6 128 i = tK T i := (hf _ _ _ (by show ¬ _ = _; decide)).trans (hnm i (by omega))
    refine x_iload_n hP rfl rfl ?_
    first | refine x_aload_n hP rfl rfl ?_ | refine x_aload_nN hP rfl rfl ?_
    refine x_getI hP rfl (by first | assumption | rfl) (by first | assumption | exact hR _ _ _ _ rfl | exact hR1 _ _ _ _ rfl | exact hR2 _ _ _ _ rfl | rfl) ?_
    refine z_icmp_ge hP rfl (by omega) (by omega) (fun c140 => ?_) (fun c140 => ?_)
    · omega
    first | refine x_aload_n hP rfl rfl ?_ | refine x_aload_nN hP rfl rfl ?_
    refine x_getR hP rfl (by first | assumption | rfl) (by first | assumption | exact hR _ _ _ _ rfl | exact hR1 _ _ _ _ rfl | exact hR2 _ _ _ _ rfl | rfl) ?_
    refine x_iload_n hP rfl rfl ?_
    first | refine x_aload_n hP rfl rfl ?_ | refine x_aload_nN hP rfl rfl ?_
    refine x_getR hP rfl (by first | assumption | rfl) (by first | assumption | exact hR _ _ _ _ rfl | exact hR1 _ _ _ _ rfl | exact hR2 _ _ _ _ rfl | rfl) ?_
    refine x_iload_n hP rfl rfl ?_
    refine z_lald hP rfl (by first | assumption | rfl) (by first | decide | omega) (by omega) (by first | assumption | exact hR _ _ _ _ rfl | exact hR1 _ _ _ _ rfl | exact hR2 _ _ _ _ rfl | rfl) ?_
    refine z_last hP rfl (by first | assumption | rfl) (by first | decide | omega) (by omega) ?_
    first | refine w_nI ?_ | refine w_nL ?_ | refine w_nR ?_ | refine w_mI ?_ | refine w_mL ?_ | refine w_mR ?_ | skip
    rw [Int.toNat_natCast]
    refine z_iinc hP rfl rfl rfl ?_
    refine x_goto hP rfl ?_
    refine x_re hP [some (.ref 122), some (.int (iI va)), some (.int (iI (i + 1 : Nat)))] ⟨rfl, rfl, rfl, trivial⟩ (ih (i + 1) (x_at J 6 127 i (tK T i)) (by omega) (fun a ha => ?_) (frP_at hf rfl) _ _)
    rw [x_at_eq]
    by_cases q : a = i
    · rw [if_pos ⟨rfl, rfl, q⟩, q]
    · rw [if_neg (by omega)]; exact hm a (by omega)
theorem r_tree4 (hP : x_closed E P) (hR : x_fin R) {va : Int} (k : ∀ I' L r1 r2, (∀ a, a < 360 → I' 1 138 a = iI (-2000000000)) → frP (fun _ a _ => a = 138) I I' → x_ag L 0 [some (.ref 122), some (.int (iI va))] → P 159 (d + 6) 188 L [] (x_hp I' J R) r1 r2 Q) : ∀ (f i : Nat) (I1 : x_M Int32), i + f = 360 → (∀ a, a < i → I1 1 138 a = iI (-2000000000)) → frP (fun _ a _ => a = 138) I I1 → ∀ rc rs, P 159 (d + 6) 167 (x_ls [some (.ref 122), some (.int (iI va)), some (.int (iI i))]) [] (x_hp I1 J R) rc rs Q := by
  intro f
  induction f with
  | zero =>
    intro i I1 hi hm hf rc rs
    refine x_iload_n hP rfl rfl ?_
    refine x_sipush hP rfl ?_
    refine z_icmp_ge hP rfl (by omega) (by omega) (fun c171 => ?_) (fun c171 => ?_)
    · exact k I1 _ _ _ (fun a ha => hm a (by omega)) hf ⟨rfl, rfl, trivial⟩
    · omega
  | succ f ih =>
    intro i I1 hi hm hf rc rs
    refine x_iload_n hP rfl rfl ?_
    refine x_sipush hP rfl ?_
    refine z_icmp_ge hP rfl (by omega) (by omega) (fun c171 => ?_) (fun c171 => ?_)
    · omega
    first | refine x_aload_n hP rfl rfl ?_ | refine x_aload_nN hP rfl rfl ?_
    refine x_getR hP rfl (by first | assumption | rfl) (by first | assumption | exact hR _ _ _ _ rfl | exact hR1 _ _ _ _ rfl | exact hR2 _ _ _ _ rfl | rfl) ?_
    refine x_iload_n hP rfl rfl ?_
    refine x_ldcI hP rfl ?_
    refine z_iast hP rfl (by first | assumption | rfl) (by first | decide | omega) (by omega) ?_
    first | refine w_nI ?_ | refine w_nL ?_ | refine w_nR ?_ | refine w_mI ?_ | refine w_mL ?_ | refine w_mR ?_ | skip
    rw [Int.toNat_natCast]
    refine z_iinc hP rfl rfl rfl ?_
    refine x_goto hP rfl ?_
    refine x_re hP [some (.ref 122), some (.int (iI va)), some (.int (iI (i + 1 : Nat)))] ⟨rfl, rfl, rfl, trivial⟩ (ih (i + 1) (x_at I1 1 138 i (iI (-2000000000))) (by omega) (fun a ha => ?_) (frP_at hf rfl) _ _)
    rw [x_at_eq]
    by_cases q : a = i
    · rw [if_pos ⟨rfl, rfl, q⟩]
    · rw [if_neg (by omega)]; exact hm a (by omega)
theorem r_tree5 (hP : x_closed E P) (hR : x_fin R) {va : Int} (k : ∀ I', (∀ a, a < 6 → I' 1 142 (1 + a) = iI (-1)) → frP (fun _ a _ => a = 142) I I' → Q (some (.int (iI va))) (x_hp I' J R)) : ∀ (f i : Nat) (I1 : x_M Int32), i + f = 6 → (∀ a, a < i → I1 1 142 (1 + a) = iI (-1)) → frP (fun _ a _ => a = 142) I I1 → ∀ rc rs, P 159 (d + 6) 204 (x_ls [some (.ref 122), some (.int (iI va)), some (.int (iI (1 + i : Nat)))]) [] (x_hp I1 J R) rc rs Q := by
  intro f
  induction f with
  | zero =>
    intro i I1 hi hm hf rc rs
    refine x_iload_n hP rfl rfl ?_
    refine x_bipush hP rfl ?_
    refine z_icmp_ge hP rfl (by omega) (by omega) (fun c207 => ?_) (fun c207 => ?_)
    · refine x_iload_n hP rfl rfl ?_
      refine x_iret hP rfl rfl ?_
      exact k I1 (fun a ha => hm a (by omega)) hf
    · omega
  | succ f ih =>
    intro i I1 hi hm hf rc rs
    refine x_iload_n hP rfl rfl ?_
    refine x_bipush hP rfl ?_
    refine z_icmp_ge hP rfl (by omega) (by omega) (fun c207 => ?_) (fun c207 => ?_)
    · omega
    first | refine x_aload_n hP rfl rfl ?_ | refine x_aload_nN hP rfl rfl ?_
    refine x_getR hP rfl (by first | assumption | rfl) (by first | assumption | exact hR _ _ _ _ rfl | exact hR1 _ _ _ _ rfl | exact hR2 _ _ _ _ rfl | rfl) ?_
    refine x_iload_n hP rfl rfl ?_
    refine x_iconst hP rfl ?_
    refine z_iast hP rfl (by first | assumption | rfl) (by first | decide | omega) (by omega) ?_
    first | refine w_nI ?_ | refine w_nL ?_ | refine w_nR ?_ | refine w_mI ?_ | refine w_mL ?_ | refine w_mR ?_ | skip
    rw [Int.toNat_natCast]
    refine z_iinc hP rfl rfl rfl ?_
    refine x_goto hP rfl ?_
    refine x_re hP [some (.ref 122), some (.int (iI va)), some (.int (iI (1 + (i + 1) : Nat)))] ⟨rfl, rfl, rfl, trivial⟩ (ih (i + 1) (x_at I1 1 142 (1 + i) (iI (-1))) (by omega) (fun a ha => ?_) (frP_at hf rfl) _ _)
    rw [x_at_eq]
    by_cases q : a = i
    · rw [if_pos ⟨rfl, rfl, by omega⟩]
    · rw [if_neg (by omega)]; exact hm a (by omega)
theorem tF_hh {k a i : Nat} (h : tF k a i) : hh a := by unfold tF cF lG at h; unfold hh; omega
theorem nF_hh {k a i : Nat} (h : nF k a i) : hh a := by unfold nF at h; unfold hh; omega
theorem r_tree (hP : x_closed E P) (hR : x_fin R) (hc : rfI I J S) (k : ∀ I' J', rfI I' J' (spTree S).2 → frP (fun _ a _ => hh a) I I' → frP (fun _ a _ => hh a) J J' → Q (some (.int (iI (spTree S).1))) (x_hp I' J' R)) : P 159 (d + 6) 0 (x_la 0 [.ref 122]) [] (x_hp I J R) rc rs Q := by
  first | refine x_aload_n hP rfl rfl ?_ | refine x_aload_nN hP rfl rfl ?_
  refine x_callV0 (ci := 9) hP 0 0 rfl rfl rfl (by first | assumption | rfl) rfl rfl rfl (Nat.zero_le _) (Nat.zero_le _) ?_
  refine r_take hP hR hc.1 (fun I1 t1 t2 t3 t4 t5 => ?_)
  have hc1 : rfI I1 J (cutS S 0) := rfI_cut hc t2 t5
  have hf1 : frP (fun _ a _ => hh a) I I1 := frP_mono t5 fun _ _ _ => rK_hh
  have n2 := t1.2.1
  unfold spTree at k
  rw [← t4]
  first | refine x_aload_n hP rfl rfl ?_ | refine x_aload_nN hP rfl rfl ?_
  refine x_callV0 (ci := 9) hP 0 0 rfl rfl rfl (by first | assumption | rfl) rfl rfl rfl (Nat.zero_le _) (Nat.zero_le _) ?_
  refine r_treeText hP hR t1 ?_
  generalize treR (sC S) (sN S) (sN S) tNil 0 = ot at k ⊢
  match ot, k with
  | .inl e, k =>
    intro I2 J2 q he g1 g2
    have s1 : rT I2 q e 1581 122 0 = iI e := rfl
    first | refine x_aload_n hP rfl rfl ?_ | refine x_aload_nN hP rfl rfl ?_
    refine x_callV0 (ci := 9) hP 0 0 rfl rfl rfl (by first | assumption | rfl) rfl rfl rfl (Nat.zero_le _) (Nat.zero_le _) ?_
    refine r_badB hP (by omega) ?_
    first | refine zb_if_eq hP rfl (fun c12 => ?_) (fun c12 => ?_) | refine zl_if_eq hP rfl (fun c12 => ?_) (fun c12 => ?_) | refine z_if_eq hP rfl (by omega) (fun c12 => ?_) (fun c12 => ?_)
    · cases c12
    refine x_sipush hP rfl ?_
    first | refine x_aload_n hP rfl rfl ?_ | refine x_aload_nN hP rfl rfl ?_
    refine x_getI hP rfl (by first | assumption | rfl) (by first | assumption | exact hR _ _ _ _ rfl | exact hR1 _ _ _ _ rfl | exact hR2 _ _ _ _ rfl | rfl) ?_
    first | refine z_isub hP rfl ?_ | refine x_isub hP rfl ?_
    refine x_iret hP rfl rfl ?_
    exact k _ _ (rfI_rT (rfI_w hc1 (frP_mono g1 fun _ _ _ => nF_rW) (frP_mono g2 fun _ _ _ => nF_rW)) _ _) (frP_trans hf1 (frP_tr g1 (rT_frW I2 q e) (fun _ _ _ => nF_hh) fun _ _ _ => rW_hh)) (frP_mono g2 fun _ _ _ => nF_hh)
  | .inr T, k =>
    intro I2 J2 q g1 g2 g3 g4 g5 g6
    dsimp only at k
    have hw := g1.2.2.2
    have w1 := hw.1
    first | refine x_aload_n hP rfl rfl ?_ | refine x_aload_nN hP rfl rfl ?_
    refine x_callV0 (ci := 9) hP 0 0 rfl rfl rfl (by first | assumption | rfl) rfl rfl rfl (Nat.zero_le _) (Nat.zero_le _) ?_
    refine r_badO hP ?_
    first | refine zb_if_eq hP rfl (fun c12 => ?_) (fun c12 => ?_) | refine zl_if_eq hP rfl (fun c12 => ?_) (fun c12 => ?_) | refine z_if_eq hP rfl (by omega) (fun c12 => ?_) (fun c12 => ?_)
    rotate_left
    · cases c12
    have f2 : frP (fun _ a _ => hh a) I (rT I2 q (-1)) := frP_trans hf1 (frP_tr g5 (rT_frW I2 q (-1)) (fun _ _ _ => nF_hh) fun _ _ _ => rW_hh)
    have c2 : rfI (rT I2 q (-1)) J2 (cutS S 0) := rfI_rT (rfI_w hc1 (frP_mono g5 fun _ _ _ => nF_rW) (frP_mono g6 fun _ _ _ => nF_rW)) _ _
    have g1 := rNw_rT g1 q (-1)
    have g3 : rT I2 q (-1) 1 144 0 = iI (tD T) := g3
    have g4 : rT I2 q (-1) 1 144 1 = iI (tM T) := g4
    generalize rT I2 q (-1) = I3 at f2 c2 g1 g3 g4 ⊢
    first | refine x_aload_n hP rfl rfl ?_ | refine x_aload_nN hP rfl rfl ?_
    first | refine x_aload_n hP rfl rfl ?_ | refine x_aload_nN hP rfl rfl ?_
    refine x_getR hP rfl (by first | assumption | rfl) (by first | assumption | exact hR _ _ _ _ rfl | exact hR1 _ _ _ _ rfl | exact hR2 _ _ _ _ rfl | rfl) ?_
    refine x_iconst hP rfl ?_
    refine z_iald hP rfl (by first | assumption | rfl) (by first | decide | omega) (by omega) (by first | assumption | exact hR _ _ _ _ rfl | exact hR1 _ _ _ _ rfl | exact hR2 _ _ _ _ rfl | rfl) ?_
    refine x_putI hP rfl (by first | assumption | rfl) ?_
    first | refine w_nI ?_ | refine w_nL ?_ | refine w_nR ?_ | refine w_mI ?_ | refine w_mL ?_ | refine w_mR ?_ | skip
    have g4 : x_at I3 1595 122 0 (iI (tD T)) 1 144 1 = iI (tM T) := g4
    first | refine x_aload_n hP rfl rfl ?_ | refine x_aload_nN hP rfl rfl ?_
    first | refine x_aload_n hP rfl rfl ?_ | refine x_aload_nN hP rfl rfl ?_
    refine x_getR hP rfl (by first | assumption | rfl) (by first | assumption | exact hR _ _ _ _ rfl | exact hR1 _ _ _ _ rfl | exact hR2 _ _ _ _ rfl | rfl) ?_
    refine x_iconst hP rfl ?_
    refine z_iald hP rfl (by first | assumption | rfl) (by first | decide | omega) (by omega) (by first | assumption | exact hR _ _ _ _ rfl | exact hR1 _ _ _ _ rfl | exact hR2 _ _ _ _ rfl | rfl) ?_
    refine x_putI hP rfl (by first | assumption | rfl) ?_
    first | refine w_nI ?_ | refine w_nL ?_ | refine w_nR ?_ | refine w_mI ?_ | refine w_mL ?_ | refine w_mR ?_ | skip
    refine x_iconst hP rfl ?_
    refine x_istore_n hP rfl ?_
    refine x_iconst hP rfl ?_
    refine x_istore_n hP rfl ?_
    have F3 : frP tF I3 (x_at (x_at I3 1595 122 0 (iI (tD T))) 1596 122 0 (iI (tM T))) := frP_at (frP_at (frP_refl _ _) (by unfold tF; omega)) (by unfold tF; omega)
    have d3 : x_at (x_at I3 1595 122 0 (iI (tD T))) 1596 122 0 (iI (tM T)) 1595 122 0 = iI (tD T) := rfl
    have m3 : x_at (x_at I3 1595 122 0 (iI (tD T))) 1596 122 0 (iI (tM T)) 1596 122 0 = iI (tM T) := rfl
    have nw3 : rNw (x_at (x_at I3 1595 122 0 (iI (tD T))) 1596 122 0 (iI (tM T))) J2 T := g1
    generalize x_at (x_at I3 1595 122 0 (iI (tD T))) 1596 122 0 (iI (tM T)) = I4 at F3 d3 m3 nw3 ⊢
    refine x_re hP [some (.ref 122), some (.int (iI 0)), some (.int (iI (0 : Nat)))] ⟨rfl, rfl, rfl, trivial⟩ (r_tree1 hP hR (I0 := I4) (J0 := J2) (fun I5 J5 L r1 r2 a1 a2 a3 hL => ?_) 120 0 I4 J2 (by omega) (fun j hj => absurd hj (Nat.not_lt_zero _)) (frP_refl _ _) (frP_refl _ _) _ _)
    refine x_re hP _ hL ?_
    have nw5 : rNw I5 J5 T := rNw_c nw3 a2 a3 fun _ _ _ => cF_n
    have d5 : I5 1595 122 0 = iI (tD T) := (a2 _ _ _ fun z => by unfold cF at z; omega).trans d3
    have m5 : I5 1596 122 0 = iI (tM T) := (a2 _ _ _ fun z => by unfold cF at z; omega).trans m3
    refine x_iconst hP rfl ?_
    refine x_istore_n hP rfl ?_
    refine x_re hP [some (.ref 122), some (.int (iI (sumS (tS T) 0))), some (.int (iI (0 : Nat)))] ⟨rfl, rfl, rfl, trivial⟩ (r_tree2 hP hR hw (I0 := I5) d5 nw5.1 (fun I6 L r1 r2 b1 b2 hL => ?_) (tD T) 0 I5 (by omega) (fun j hj => absurd hj (Nat.not_lt_zero _)) (frP_refl _ _) _ _)
    refine x_re hP _ hL ?_
    have d6 : I6 1595 122 0 = iI (tD T) := (b2 _ _ _ (by show ¬ _ = _; decide)).trans d5
    have m6 : I6 1596 122 0 = iI (tM T) := (b2 _ _ _ (by show ¬ _ = _; decide)).trans m5
    refine x_iconst hP rfl ?_
    refine x_istore_n hP rfl ?_
    refine x_re hP [some (.ref 122), some (.int (iI (sumS (tS T) (tD T)))), some (.int (iI (0 : Nat)))] ⟨rfl, rfl, rfl, trivial⟩ (r_tree3 hP hR hw (J0 := J5) m6 nw5.2.2.1 (fun J7 L r1 r2 e1 e2 hL => ?_) (tM T) 0 J5 (by omega) (fun j hj => absurd hj (Nat.not_lt_zero _)) (frP_refl _ _) _ _)
    refine x_re hP _ hL ?_
    have tr7 : rTr I6 J7 T := by
      refine ⟨d6, m6, b1, fun a ha i hi => ?_, e1, hw⟩
      have s30 := (hw.2.2 a ha).2.1
      have := a1 (30 * a + i) (by omega)
      have n4 := nw3.2.1 a ha i hi
      exact ⟨(e2 _ _ _ (by show ¬ _ = _; decide)).trans (this.1.trans n4.1), (b2 _ _ _ (by show ¬ _ = _; decide)).trans (this.2.1.trans n4.2.1), (b2 _ _ _ (by show ¬ _ = _; decide)).trans (this.2.2.trans n4.2.2)⟩
    have F6 : frP tF I3 I6 := frP_trans F3 (frP_tr a2 b2 (fun _ _ _ z => Or.inr (Or.inl z)) fun k a i z => by unfold tF cF; omega)
    have G7 : frP tF J2 J7 := frP_tr a3 e2 (fun _ _ _ z => Or.inr (Or.inl z)) fun k a i z => by unfold tF cF; omega
    first | refine x_aload_n hP rfl rfl ?_ | refine x_aload_nN hP rfl rfl ?_
    refine x_callV0 (ci := 9) hP 0 0 rfl rfl rfl (by first | assumption | rfl) rfl rfl rfl (Nat.zero_le _) (Nat.zero_le _) ?_
    refine r_lay hP hR tr7 (fun I8 y1 y2 y3 => ?_)
    have F8 : frP tF I3 I8 := frP_trans F6 (frP_mono y3 fun _ _ _ z => Or.inr (Or.inr (Or.inl z)))
    refine x_iconst hP rfl ?_
    refine x_istore_n hP rfl ?_
    refine x_re hP [some (.ref 122), some (.int (iI (sumS (tS T) (tD T)))), some (.int (iI (0 : Nat)))] ⟨rfl, rfl, rfl, trivial⟩ (r_tree4 (I := I8) hP hR (fun I9 L r1 r2 z1 z2 hL => ?_) 360 0 I8 (by omega) (fun j hj => absurd hj (Nat.not_lt_zero _)) (frP_refl _ _) _ _)
    refine x_re hP _ hL ?_
    first | refine x_aload_n hP rfl rfl ?_ | refine x_aload_nN hP rfl rfl ?_
    refine x_getR hP rfl (by first | assumption | rfl) (by first | assumption | exact hR _ _ _ _ rfl | exact hR1 _ _ _ _ rfl | exact hR2 _ _ _ _ rfl | rfl) ?_
    refine x_iconst hP rfl ?_
    refine x_iconst hP rfl ?_
    refine z_iast hP rfl (by first | assumption | rfl) (by first | decide | omega) (by omega) ?_
    first | refine w_nI ?_ | refine w_nL ?_ | refine w_nR ?_ | refine w_mI ?_ | refine w_mL ?_ | refine w_mR ?_ | skip
    rw [show (0 : Int).toNat = 0 from rfl]
    first | refine x_aload_n hP rfl rfl ?_ | refine x_aload_nN hP rfl rfl ?_
    refine x_getR hP rfl (by first | assumption | rfl) (by first | assumption | exact hR _ _ _ _ rfl | exact hR1 _ _ _ _ rfl | exact hR2 _ _ _ _ rfl | rfl) ?_
    refine x_iconst hP rfl ?_
    refine x_iconst hP rfl ?_
    refine z_iast hP rfl (by first | assumption | rfl) (by first | decide | omega) (by omega) ?_
    first | refine w_nI ?_ | refine w_nL ?_ | refine w_nR ?_ | refine w_mI ?_ | refine w_mL ?_ | refine w_mR ?_ | skip
    rw [show (0 : Int).toNat = 0 from rfl]
    refine x_iconst hP rfl ?_
    refine x_istore_n hP rfl ?_
    refine x_re hP [some (.ref 122), some (.int (iI (sumS (tS T) (tD T)))), some (.int (iI (1 + 0 : Nat)))] ⟨rfl, rfl, rfl, trivial⟩ (r_tree5 (I := x_at (x_at I9 1 140 0 (iI 0)) 1 141 0 (iI 0)) hP hR (fun IA u1 u2 => ?_) 6 0 (x_at (x_at I9 1 140 0 (iI 0)) 1 141 0 (iI 0)) (by omega) (fun j hj => absurd hj (Nat.not_lt_zero _)) (frP_refl _ _) _ _)
    have F9 : frP (fun _ a _ => a = 138 ∨ a = 140 ∨ a = 141 ∨ a = 142) I8 IA := frP_trans (frP_mono z2 fun _ _ _ z => Or.inl z) (frP_trans (frP_at (frP_at (frP_refl _ _) (Or.inr (Or.inl rfl))) (Or.inr (Or.inr (Or.inl rfl)))) (frP_mono u2 fun _ _ _ z => Or.inr (Or.inr (Or.inr z))))
    have FA : frP tF I3 IA := frP_trans F8 (frP_mono F9 fun k a i z => by unfold tF; omega)
    refine k IA J7 ?_ (frP_trans f2 (frP_mono FA fun _ _ _ => tF_hh)) (frP_tr g6 G7 (fun _ _ _ => nF_hh) fun _ _ _ => tF_hh)
    obtain ⟨⟨p1, p2, p3, p4⟩, _, _, _, _, _, s1, s2, s3⟩ := c2
    refine ⟨⟨(FA _ _ _ fun z => by unfold tF cF lG at z; omega).trans p1, p2, p3, fun i hi => (FA _ _ _ fun z => by unfold tF cF lG at z; omega).trans (p4 i hi)⟩, rTr_fr y1 F9 (frP_refl _ _) fun k a i z => by omega, rLy_fr y2 F9 fun k a i z => by omega, fun m a i h1 h2 h3 => ⟨?_, Or.inl rfl⟩, ⟨?_, ?_, Nat.zero_le _, Nat.zero_le _, fun z => absurd rfl z⟩, fun j hj => ⟨fun _ => u1 j hj, fun z => absurd rfl z⟩, (FA _ _ _ fun z => by unfold tF cF lG at z; omega).trans s1, s2, fun i hi => (FA _ _ _ fun z => by unfold tF cF lG at z; omega).trans (s3 i hi)⟩
    · rw [u2 _ _ _ (by show ¬ _ = _; decide)]
      exact z1 _ (by omega)
    · rw [u2 _ _ _ (by show ¬ _ = _; decide)]; rfl
    · rw [u2 _ _ _ (by show ¬ _ = _; decide)]; rfl
end
