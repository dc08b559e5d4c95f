/-! THE REFERENCE: trees, marks, numbers -/
def rTr (I : x_M Int32) (J : x_M Int64) (T : x_T) : Prop := I 1595 122 0 = iI (tD T) ∧ I 1596 122 0 = iI (tM T) ∧ (∀ d, d < tD T → I 1 133 d = iI (tS T d)) ∧ (∀ d, d < tD T → ∀ k, k < tS T d → J 6 125 (30 * d + k) = tN T d k ∧ I 1 129 (30 * d + k) = iI (tP T d k) ∧ I 1 131 (30 * d + k) = iI (tH T d k)) ∧ (∀ m, m < tM T → J 6 127 m = tK T m) ∧ twf T
def rLy (I : x_M Int32) (T : x_T) : Prop := ∀ d, d < tD T → ∀ k, k < tS T d → I 1 136 (30 * d + k) = iI (rk (tP T d) (tS T d) k) ∧ I 1 135 (30 * d + k) = iI (orr (tP T d) (tS T d) k) ∧ I 1 137 (30 * d + k) = iI (spn (tP T d) (tS T d) k)
def rNu (I : x_M Int32) (nu : Nat → Nat → Nat → Int) : Prop := ∀ m d k, m < 3 → d < 4 → k < 30 → I 1 138 (120 * m + (30 * d + k)) = iI (nu m d k) ∧ (nu m d k = -2000000000 ∨ -1000000 ≤ nu m d k ∧ nu m d k ≤ 1000000)
/-- only MEMBERS have numbers -/
def nuV (T : x_T) (nu : Nat → Nat → Nat → Int) : Prop := ∀ m d k, m < 3 → d < 4 → k < 30 → ¬ (d < tD T ∧ k < tS T d) → nu m d k = -2000000000
def mO : Option (Nat × Nat) → Int
  | none => -1
  | some (d, k) => (30 * d + k : Nat)
/-- a place that reading changes no more than the cursors -/
def rc0 (k a i : Nat) : Prop := ¬ rC k a i
theorem rTr_fr {S : Nat → Nat → Nat → Prop} {I I' : x_M Int32} {J J' : x_M Int64} {T : x_T} (h : rTr I J T) (hf : frP S I I') (hg : frP S J J') (hs : ∀ k a i, S k a i → ¬ (a = 122 ∧ (k = 1595 ∨ k = 1596)) ∧ ¬ a = 133 ∧ ¬ a = 125 ∧ ¬ a = 129 ∧ ¬ a = 131 ∧ ¬ a = 127) : rTr I' J' T := by
  obtain ⟨h1, h2, h3, h4, h5, hw⟩ := h
  exact ⟨(hf _ _ _ fun q => (hs _ _ _ q).1 ⟨rfl, Or.inl rfl⟩).trans h1, (hf _ _ _ fun q => (hs _ _ _ q).1 ⟨rfl, Or.inr rfl⟩).trans h2, fun d hd => (hf _ _ _ fun q => (hs _ _ _ q).2.1 rfl).trans (h3 d hd), fun d hd k hk => ⟨(hg _ _ _ fun q => (hs _ _ _ q).2.2.1 rfl).trans (h4 d hd k hk).1, (hf _ _ _ fun q => (hs _ _ _ q).2.2.2.1 rfl).trans (h4 d hd k hk).2.1, (hf _ _ _ fun q => (hs _ _ _ q).2.2.2.2.1 rfl).trans (h4 d hd k hk).2.2⟩, fun m hm => (hg _ _ _ fun q => (hs _ _ _ q).2.2.2.2.2 rfl).trans (h5 m hm), hw⟩
theorem rTr_rT {I : x_M Int32} {J : x_M Int64} {T : x_T} (h : rTr I J T) (p w : Int) : rTr (rT I p w) J T := rTr_fr h (rT_fr I p w) (frP_refl _ _) fun k a i q => by
  unfold rC at q
  have : a = 122 := q.1
  refine ⟨fun z => ?_, by omega, by omega, by omega, by omega, by omega⟩
  rcases q.2 with y | y <;> rcases z.2 with x | x <;> (rw [y] at x; exact absurd x (by decide))
theorem rLy_fr {S : Nat → Nat → Nat → Prop} {I I' : x_M Int32} {T : x_T} (h : rLy I T) (hf : frP S I I') (hs : ∀ k a i, S k a i → ¬ a = 136 ∧ ¬ a = 135 ∧ ¬ a = 137) : rLy I' T := fun d hd k hk => ⟨(hf _ _ _ fun q => (hs _ _ _ q).1 rfl).trans (h d hd k hk).1, (hf _ _ _ fun q => (hs _ _ _ q).2.1 rfl).trans (h d hd k hk).2.1, (hf _ _ _ fun q => (hs _ _ _ q).2.2 rfl).trans (h d hd k hk).2.2⟩
theorem rNu_fr {S : Nat → Nat → Nat → Prop} {I I' : x_M Int32} {nu : Nat → Nat → Nat → Int} (h : rNu I nu) (hf : frP S I I') (hs : ∀ k a i, S k a i → ¬ a = 138) : rNu I' nu := fun m d k h1 h2 h3 => ⟨(hf _ _ _ fun q => hs _ _ _ q rfl).trans (h m d k h1 h2 h3).1, (h m d k h1 h2 h3).2⟩
theorem namR_e {c : Nat → Nat} {n p e : Nat} (hp : p ≤ n) (h : namR c n p = .inl e) : e ≤ n + 8 := by
  unfold namR at h
  split at h
  · split at h
    · cases h
    · cases h; omega
  · cases h; omega
section
variable {E : x_E} {P : x_Pr} {d rc rs : Nat} {I : x_M Int32} {J : x_M Int64} {R : x_M (Option Nat)} {Q : x_Q} {n p : Nat} {w : Int} {c : Nat → Nat} {T : x_T}
theorem r_memberOf_in (hP : x_closed E P) (hR : x_fin R) (hc : rTr I J T) {v : Int64} {e : Nat} (he : e < tD T) (k2 : fIn T e v = none → ∀ r1 r2, P 174 d 55 (x_ls [some (.ref 122), some (.long v), none, some (.int (iI e)), none]) [] (x_hp I J R) r1 r2 Q) (k1 : ∀ m, fIn T e v = some m → Q (some (.int (iI (30 * e + m : Nat)))) (x_hp I J R)) : ∀ (f i : Nat), i + f = tS T e → fO (tN T e) v 0 (tS T e) = fO (tN T e) v i f → ∀ rc rs, P 174 d 13 (x_ls [some (.ref 122), some (.long v), none, some (.int (iI e)), some (.int (iI i))]) [] (x_hp I J R) rc rs Q := by
  have ⟨h1, h2, h3, h4, h5, hw⟩ := hc
  have w1 := hw.1
  have w2 := (hw.2.2 e he).2.1
  have v3 := h3 e he
  intro f
  induction f with
  | zero =>
    intro i hi hf rc rs
    refine x_iload hP rfl rfl ?_
    first | refine x_aload_n hP rfl rfl ?_ | refine x_aload_nN hP rfl rfl ?_
    refine x_getR hP rfl (by first | assumption | rfl) (by first | assumption | exact hR _ _ _ _ rfl | exact hR1 _ _ _ _ rfl | exact hR2 _ _ _ _ rfl | rfl) ?_
    refine x_iload_n hP rfl rfl ?_
    refine z_iald hP rfl (by first | assumption | rfl) (by first | decide | omega) (by omega) (by first | assumption | exact hR _ _ _ _ rfl | exact hR1 _ _ _ _ rfl | exact hR2 _ _ _ _ rfl | rfl) ?_
    refine z_icmp_ge hP rfl (by omega) (by omega) (fun c21 => ?_) (fun c21 => ?_)
    · exact x_re hP [some (.ref 122), some (.long v), none, some (.int (iI e)), none] ⟨rfl, rfl, rfl, trivial⟩ (k2 hf _ _)
    · omega
  | succ f ih =>
    intro i hi hf rc rs
    have v4 := (h4 e he i (by omega)).1
    rw [show fO (tN T e) v i (f + 1) = if tN T e i = v then some i else fO (tN T e) v (i + 1) f from rfl] at hf
    refine x_iload hP rfl rfl ?_
    first | refine x_aload_n hP rfl rfl ?_ | refine x_aload_nN hP rfl rfl ?_
    refine x_getR hP rfl (by first | assumption | rfl) (by first | assumption | exact hR _ _ _ _ rfl | exact hR1 _ _ _ _ rfl | exact hR2 _ _ _ _ rfl | rfl) ?_
    refine x_iload_n hP rfl rfl ?_
    refine z_iald hP rfl (by first | assumption | rfl) (by first | decide | omega) (by omega) (by first | assumption | exact hR _ _ _ _ rfl | exact hR1 _ _ _ _ rfl | exact hR2 _ _ _ _ rfl | rfl) ?_
    refine z_icmp_ge hP rfl (by omega) (by omega) (fun c21 => ?_) (fun c21 => ?_)
    · omega
    first | refine x_aload_n hP rfl rfl ?_ | refine x_aload_nN hP rfl rfl ?_
    refine x_getR hP rfl (by first | assumption | rfl) (by first | assumption | exact hR _ _ _ _ rfl | exact hR1 _ _ _ _ rfl | exact hR2 _ _ _ _ rfl | rfl) ?_
    refine x_bipush hP rfl ?_
    refine x_iload_n hP rfl rfl ?_
    first | refine z_imul hP rfl ?_ | refine x_imul hP rfl ?_
    refine x_iload hP rfl rfl ?_
    first | refine z_iadd hP rfl ?_ | refine x_iadd hP rfl ?_
    refine z_lald hP rfl (by first | assumption | rfl) (by first | decide | omega) (by omega) (by first | assumption | exact hR _ _ _ _ rfl | exact hR1 _ _ _ _ rfl | exact hR2 _ _ _ _ rfl | rfl) ?_
    refine x_lload_n hP rfl rfl ?_
    refine x_lcmp hP rfl ?_
    first | refine zb_if_ne hP rfl (fun c38 => ?_) (fun c38 => ?_) | refine zl_if_ne hP rfl (fun c38 => ?_) (fun c38 => ?_) | refine z_if_ne hP rfl (by omega) (fun c38 => ?_) (fun c38 => ?_)
    · rw [if_neg c38] at hf
      refine z_iinc hP rfl rfl rfl ?_
      refine x_goto hP rfl ?_
      exact x_re hP [some (.ref 122), some (.long v), none, some (.int (iI e)), some (.int (iI (i + 1 : Nat)))] ⟨rfl, rfl, rfl, rfl, trivial⟩ (ih (i + 1) (by omega) hf _ _)
    · rw [if_pos c38] at hf
      refine x_bipush hP rfl ?_
      refine x_iload_n hP rfl rfl ?_
      first | refine z_imul hP rfl ?_ | refine x_imul hP rfl ?_
      refine x_iload hP rfl rfl ?_
      first | refine z_iadd hP rfl ?_ | refine x_iadd hP rfl ?_
      refine x_iret hP rfl rfl ?_
      have := k1 i hf
      rw [show ((30 * e + i : Nat) : Int) = 30 * (e : Int) + i by omega] at this
      exact this
theorem r_memberOf_out (hP : x_closed E P) (hR : x_fin R) (hc : rTr I J T) {v : Int64} : ∀ (f i : Nat), i + f = tD T → Q (some (.int (iI (mO (fMe T v i f))))) (x_hp I J R) → ∀ rc rs, P 174 d 2 (x_ls [some (.ref 122), some (.long v), none, some (.int (iI i)), none]) [] (x_hp I J R) rc rs Q := by
  have ⟨h1, h2, h3, h4, h5, hw⟩ := hc
  have w1 := hw.1
  intro f
  induction f with
  | zero =>
    intro i hi k rc rs
    refine x_iload_n hP rfl rfl ?_
    first | refine x_aload_n hP rfl rfl ?_ | refine x_aload_nN hP rfl rfl ?_
    refine x_getI hP rfl (by first | assumption | rfl) (by first | assumption | exact hR _ _ _ _ rfl | exact hR1 _ _ _ _ rfl | exact hR2 _ _ _ _ rfl | rfl) ?_
    refine z_icmp_ge hP rfl (by omega) (by omega) (fun c7 => ?_) (fun c7 => ?_)
    · refine x_iconst hP rfl ?_
      refine x_iret hP rfl rfl ?_
      exact k
    · omega
  | succ f ih =>
    intro i hi k rc rs
    unfold fMe at k
    refine x_iload_n hP rfl rfl ?_
    first | refine x_aload_n hP rfl rfl ?_ | refine x_aload_nN hP rfl rfl ?_
    refine x_getI hP rfl (by first | assumption | rfl) (by first | assumption | exact hR _ _ _ _ rfl | exact hR1 _ _ _ _ rfl | exact hR2 _ _ _ _ rfl | rfl) ?_
    refine z_icmp_ge hP rfl (by omega) (by omega) (fun c7 => ?_) (fun c7 => ?_)
    · omega
    refine x_iconst hP rfl ?_
    refine x_istore hP rfl ?_
    refine x_re hP [some (.ref 122), some (.long v), none, some (.int (iI i)), some (.int (iI (0 : Nat)))] ⟨rfl, rfl, rfl, rfl, trivial⟩ (r_memberOf_in hP hR hc (show i < tD T by omega) (fun z r1 r2 => ?_) (fun m z => ?_) (tS T i) 0 (by omega) rfl _ _)
    · rw [z] at k
      refine z_iinc hP rfl rfl rfl ?_
      refine x_goto hP rfl ?_
      exact x_re hP [some (.ref 122), some (.long v), none, some (.int (iI (i + 1 : Nat))), none] ⟨rfl, rfl, rfl, trivial⟩ (ih (i + 1) (by omega) k _ _)
    · rw [z] at k
      exact k
theorem r_memberOf (hP : x_closed E P) (hR : x_fin R) (hc : rTr I J T) {v : Int64} (k : Q (some (.int (iI (mO (fMem T v))))) (x_hp I J R)) : P 174 d 0 (x_la 0 [.ref 122, .long v]) [] (x_hp I J R) rc rs Q := by
  refine x_iconst hP rfl ?_
  refine x_istore_n hP rfl ?_
  exact x_re hP [some (.ref 122), some (.long v), none, some (.int (iI (0 : Nat))), none] ⟨rfl, rfl, rfl, trivial⟩ (r_memberOf_out hP hR hc (tD T) 0 (by omega) k _ _)
theorem r_markOf_loop (hP : x_closed E P) (hR : x_fin R) (hc : rTr I J T) {v : Int64} : ∀ (f i : Nat), i + f = tM T → Q (some (.int (iI (oI (fO (tK T) v i f))))) (x_hp I J R) → ∀ rc rs, P 176 d 2 (x_ls [some (.ref 122), some (.long v), none, some (.int (iI i))]) [] (x_hp I J R) rc rs Q := by
  have ⟨h1, h2, h3, h4, h5, hw⟩ := hc
  have w1 := hw.2.1
  intro f
  induction f with
  | zero =>
    intro i hi k rc rs
    refine x_iload_n hP rfl rfl ?_
    first | refine x_aload_n hP rfl rfl ?_ | refine x_aload_nN hP rfl rfl ?_
    refine x_getI hP rfl (by first | assumption | rfl) (by first | assumption | exact hR _ _ _ _ rfl | exact hR1 _ _ _ _ rfl | exact hR2 _ _ _ _ rfl | rfl) ?_
    refine z_icmp_ge hP rfl (by omega) (by omega) (fun c7 => ?_) (fun c7 => ?_)
    · refine x_iconst hP rfl ?_
      refine x_iret hP rfl rfl ?_
      exact k
    · omega
  | succ f ih =>
    intro i hi k rc rs
    have v5 := h5 i (by omega)
    unfold fO at k
    refine x_iload_n hP rfl rfl ?_
    first | refine x_aload_n hP rfl rfl ?_ | refine x_aload_nN hP rfl rfl ?_
    refine x_getI hP rfl (by first | assumption | rfl) (by first | assumption | exact hR _ _ _ _ rfl | exact hR1 _ _ _ _ rfl | exact hR2 _ _ _ _ rfl | rfl) ?_
    refine z_icmp_ge hP rfl (by omega) (by omega) (fun c7 => ?_) (fun c7 => ?_)
    · omega
    first | refine x_aload_n hP rfl rfl ?_ | refine x_aload_nN hP rfl rfl ?_
    refine x_getR hP rfl (by first | assumption | rfl) (by first | assumption | exact hR _ _ _ _ rfl | exact hR1 _ _ _ _ rfl | exact hR2 _ _ _ _ rfl | rfl) ?_
    refine x_iload_n hP rfl rfl ?_
    refine z_lald hP rfl (by first | assumption | rfl) (by first | decide | omega) (by omega) (by first | assumption | exact hR _ _ _ _ rfl | exact hR1 _ _ _ _ rfl | exact hR2 _ _ _ _ rfl | rfl) ?_
    refine x_lload_n hP rfl rfl ?_
    refine x_lcmp hP rfl ?_
    first | refine zb_if_ne hP rfl (fun c18 => ?_) (fun c18 => ?_) | refine zl_if_ne hP rfl (fun c18 => ?_) (fun c18 => ?_) | refine z_if_ne hP rfl (by omega) (fun c18 => ?_) (fun c18 => ?_)
    · rw [if_neg c18] at k
      refine z_iinc hP rfl rfl rfl ?_
      refine x_goto hP rfl ?_
      exact x_re hP [some (.ref 122), some (.long v), none, some (.int (iI (i + 1 : Nat)))] ⟨rfl, rfl, rfl, trivial⟩ (ih (i + 1) (by omega) k _ _)
    · rw [if_pos c18] at k
      refine x_iload_n hP rfl rfl ?_
      refine x_iret hP rfl rfl ?_
      exact k
theorem r_markOf (hP : x_closed E P) (hR : x_fin R) (hc : rTr I J T) {v : Int64} (k : Q (some (.int (iI (oI (fMk T v))))) (x_hp I J R)) : P 176 d 0 (x_la 0 [.ref 122, .long v]) [] (x_hp I J R) rc rs Q := by
  refine x_iconst hP rfl ?_
  refine x_istore_n hP rfl ?_
  exact x_re hP [some (.ref 122), some (.long v), none, some (.int (iI (0 : Nat)))] ⟨rfl, rfl, rfl, trivial⟩ (r_markOf_loop hP hR hc (tM T) 0 (by omega) k _ _)
theorem r_member0 (hP : x_closed E P) (hR : x_fin R) (ht : txB I n c) (hc : rTr I J T) (hp : p ≤ n) (k : qPost Q I J R (fun v => ∃ z : Int, v = .int (iI z)) (fun m => .int (iI (30 * m.1 + m.2 : Nat))) (memR T c n p)) : P 173 (d + 3) 0 (x_la 0 [.ref 122]) [] (x_hp (rT I p (-1)) J R) rc rs Q := by
  have h2 := ht.2.1
  have g1 : rT I p (-1) 1580 122 0 = iI p := rfl
  have w1 := hc.2.2.2.2.2.1
  have hw := hc.2.2.2.2.2
  unfold memR at k
  first | refine x_aload_n hP rfl rfl ?_ | refine x_aload_nN hP rfl rfl ?_
  refine x_getI hP rfl (by first | assumption | rfl) (by first | assumption | exact hR _ _ _ _ rfl | exact hR1 _ _ _ _ rfl | exact hR2 _ _ _ _ rfl | rfl) ?_
  refine x_istore_n hP rfl ?_
  first | refine x_aload_n hP rfl rfl ?_ | refine x_aload_nN hP rfl rfl ?_
  refine x_iconst hP rfl ?_
  refine x_callV1 (ci := 9) hP 0 0 rfl rfl rfl (by first | assumption | rfl) rfl rfl rfl (Nat.zero_le _) (Nat.zero_le _) ?_
  refine r_nameO (wd := false) hP hR ht hp ?_
  rw [show nmR false c n p = namR c n p from rfl]
  have rg := fun v q => namR_rg (c := c) (n := n) (p := p) (v := v) (q := q) ht.2.2.1 hp
  have eb : ∀ e, namR c n p = .inl e → e ≤ n + 8 := fun e h => namR_e hp h
  generalize namR c n p = on at k rg eb ⊢
  match on, k, rg, eb with
  | .inl e, k, _, eb =>
    have eb := eb e rfl
    intro q v hv
    rw [hv]
    refine x_lstore_n hP rfl ?_
    first | refine x_aload_n hP rfl rfl ?_ | refine x_aload_nN hP rfl rfl ?_
    refine x_callV0 (ci := 9) hP 0 0 rfl rfl rfl (by first | assumption | rfl) rfl rfl rfl (Nat.zero_le _) (Nat.zero_le _) ?_
    refine r_badB hP (by omega) ?_
    first | refine zb_if_eq hP rfl (fun c15 => ?_) (fun c15 => ?_) | refine zl_if_eq hP rfl (fun c15 => ?_) (fun c15 => ?_) | refine z_if_eq hP rfl (by omega) (fun c15 => ?_) (fun c15 => ?_)
    · cases c15
    refine x_iconst hP rfl ?_
    refine x_iret hP rfl rfl ?_
    exact k _ _ ⟨0, rfl⟩
  | .inr (v, q), k, rg, _ =>
    dsimp only at k
    show P _ _ _ _ (Value.long v :: _) _ _ _ _
    refine x_lstore_n hP rfl ?_
    first | refine x_aload_n hP rfl rfl ?_ | refine x_aload_nN hP rfl rfl ?_
    refine x_callV0 (ci := 9) hP 0 0 rfl rfl rfl (by first | assumption | rfl) rfl rfl rfl (Nat.zero_le _) (Nat.zero_le _) ?_
    refine r_badO hP ?_
    first | refine zb_if_eq hP rfl (fun c15 => ?_) (fun c15 => ?_) | refine zl_if_eq hP rfl (fun c15 => ?_) (fun c15 => ?_) | refine z_if_eq hP rfl (by omega) (fun c15 => ?_) (fun c15 => ?_)
    rotate_left
    · cases c15
    first | refine x_aload_n hP rfl rfl ?_ | refine x_aload_nN hP rfl rfl ?_
    refine x_lload_n hP rfl rfl ?_
    refine x_callV1 (ci := 9) hP 0 0 rfl rfl rfl (by first | assumption | rfl) rfl rfl rfl (Nat.zero_le _) (Nat.zero_le _) ?_
    refine r_memberOf hP hR (rTr_rT hc _ _) ?_
    have fl := fun a b h => fMem_lt (T := T) (v := v) (d := a) (k := b) h
    generalize fMem T v = om at k fl ⊢
    match om, k, fl with
    | none, k, _ =>
      show P _ _ _ _ (Value.int (iI (-1)) :: _) _ _ _ _
      refine x_istore hP rfl ?_
      refine x_iload hP rfl rfl ?_
      refine x_iconst hP rfl ?_
      first | refine z_icmp_ne hP rfl (by omega) (by omega) (fun c30 => ?_) (fun c30 => ?_) | refine x_icmp_ne hP rfl (fun c30 => ?_) (fun c30 => ?_)
      · exact absurd rfl c30
      first | refine x_aload_n hP rfl rfl ?_ | refine x_aload_nN hP rfl rfl ?_
      refine x_iload_n hP rfl rfl ?_
      refine x_callV1 (ci := 9) hP 0 0 rfl rfl rfl (by first | assumption | rfl) rfl rfl rfl (Nat.zero_le _) (Nat.zero_le _) ?_
      refine r_failO hP ?_
      refine x_iload hP rfl rfl ?_
      refine x_iret hP rfl rfl ?_
      exact k _ _ ⟨-1, rfl⟩
    | some (a, b), k, fl =>
      have ⟨f1, f2⟩ := fl a b rfl
      have f3 := (hw.2.2 a f1).2.1
      show P _ _ _ _ (Value.int (iI (30 * a + b : Nat)) :: _) _ _ _ _
      refine x_istore hP rfl ?_
      refine x_iload hP rfl rfl ?_
      refine x_iconst hP rfl ?_
      first | refine z_icmp_ne hP rfl (by omega) (by omega) (fun c30 => ?_) (fun c30 => ?_) | refine x_icmp_ne hP rfl (fun c30 => ?_) (fun c30 => ?_)
      · refine x_iload hP rfl rfl ?_
        refine x_iret hP rfl rfl ?_
        exact k
      · omega
theorem r_mark0 (hP : x_closed E P) (hR : x_fin R) (ht : txB I n c) (hc : rTr I J T) (hp : p ≤ n) (k : qPost Q I J R (fun v => ∃ z : Int, v = .int (iI z)) (fun m => .int (iI (m : Nat))) (mrkR T c n p)) : P 175 (d + 3) 0 (x_la 0 [.ref 122]) [] (x_hp (rT I p (-1)) J R) rc rs Q := by
  have h2 := ht.2.1
  have g1 : rT I p (-1) 1580 122 0 = iI p := rfl
  have hw := hc.2.2.2.2.2
  have w1 := hw.2.1
  unfold mrkR at k
  first | refine x_aload_n hP rfl rfl ?_ | refine x_aload_nN hP rfl rfl ?_
  refine x_getI hP rfl (by first | assumption | rfl) (by first | assumption | exact hR _ _ _ _ rfl | exact hR1 _ _ _ _ rfl | exact hR2 _ _ _ _ rfl | rfl) ?_
  refine x_istore_n hP rfl ?_
  first | refine x_aload_n hP rfl rfl ?_ | refine x_aload_nN hP rfl rfl ?_
  refine x_iconst hP rfl ?_
  refine x_callV1 (ci := 9) hP 0 0 rfl rfl rfl (by first | assumption | rfl) rfl rfl rfl (Nat.zero_le _) (Nat.zero_le _) ?_
  refine r_nameO (wd := false) hP hR ht hp ?_
  rw [show nmR false c n p = namR c n p from rfl]
  have eb : ∀ e, namR c n p = .inl e → e ≤ n + 8 := fun e h => namR_e hp h
  generalize namR c n p = on at k eb ⊢
  match on, k, eb with
  | .inl e, k, eb =>
    have eb := eb e rfl
    intro q v hv
    rw [hv]
    refine x_lstore_n hP rfl ?_
    first | refine x_aload_n hP rfl rfl ?_ | refine x_aload_nN hP rfl rfl ?_
    refine x_callV0 (ci := 9) hP 0 0 rfl rfl rfl (by first | assumption | rfl) rfl rfl rfl (Nat.zero_le _) (Nat.zero_le _) ?_
    refine r_badB hP (by omega) ?_
    first | refine zb_if_eq hP rfl (fun c15 => ?_) (fun c15 => ?_) | refine zl_if_eq hP rfl (fun c15 => ?_) (fun c15 => ?_) | refine z_if_eq hP rfl (by omega) (fun c15 => ?_) (fun c15 => ?_)
    · cases c15
    refine x_iconst hP rfl ?_
    refine x_iret hP rfl rfl ?_
    exact k _ _ ⟨0, rfl⟩
  | .inr (v, q), k, _ =>
    dsimp only at k
    show P _ _ _ _ (Value.long v :: _) _ _ _ _
    refine x_lstore_n hP rfl ?_
    first | refine x_aload_n hP rfl rfl ?_ | refine x_aload_nN hP rfl rfl ?_
    refine x_callV0 (ci := 9) hP 0 0 rfl rfl rfl (by first | assumption | rfl) rfl rfl rfl (Nat.zero_le _) (Nat.zero_le _) ?_
    refine r_badO hP ?_
    first | refine zb_if_eq hP rfl (fun c15 => ?_) (fun c15 => ?_) | refine zl_if_eq hP rfl (fun c15 => ?_) (fun c15 => ?_) | refine z_if_eq hP rfl (by omega) (fun c15 => ?_) (fun c15 => ?_)
    rotate_left
    · cases c15
    first | refine x_aload_n hP rfl rfl ?_ | refine x_aload_nN hP rfl rfl ?_
    refine x_lload_n hP rfl rfl ?_
    refine x_callV1 (ci := 9) hP 0 0 rfl rfl rfl (by first | assumption | rfl) rfl rfl rfl (Nat.zero_le _) (Nat.zero_le _) ?_
    refine r_markOf hP hR (rTr_rT hc _ _) ?_
    have fl := fun a h => fO_lt (nm := tK T) (v := v) (tM T) 0 a h
    rw [show fO (tK T) v 0 (tM T) = fMk T v from rfl] at fl
    generalize fMk T v = om at k fl ⊢
    match om, k, fl with
    | none, k, _ =>
      show P _ _ _ _ (Value.int (iI (-1)) :: _) _ _ _ _
      refine x_istore hP rfl ?_
      refine x_iload hP rfl rfl ?_
      refine x_iconst hP rfl ?_
      first | refine z_icmp_ne hP rfl (by omega) (by omega) (fun c30 => ?_) (fun c30 => ?_) | refine x_icmp_ne hP rfl (fun c30 => ?_) (fun c30 => ?_)
      · exact absurd rfl c30
      first | refine x_aload_n hP rfl rfl ?_ | refine x_aload_nN hP rfl rfl ?_
      refine x_iload_n hP rfl rfl ?_
      refine x_callV1 (ci := 9) hP 0 0 rfl rfl rfl (by first | assumption | rfl) rfl rfl rfl (Nat.zero_le _) (Nat.zero_le _) ?_
      refine r_failO hP ?_
      refine x_iload hP rfl rfl ?_
      refine x_iret hP rfl rfl ?_
      exact k _ _ ⟨-1, rfl⟩
    | some a, k, fl =>
      have f1 := fl a rfl
      show P _ _ _ _ (Value.int (iI (a : Nat)) :: _) _ _ _ _
      refine x_istore hP rfl ?_
      refine x_iload hP rfl rfl ?_
      refine x_iconst hP rfl ?_
      first | refine z_icmp_ne hP rfl (by omega) (by omega) (fun c30 => ?_) (fun c30 => ?_) | refine x_icmp_ne hP rfl (fun c30 => ?_) (fun c30 => ?_)
      · refine x_iload hP rfl rfl ?_
        refine x_iret hP rfl rfl ?_
        exact k
      · omega
theorem r_member0B (hP : x_closed E P) {q : Nat} {e : Int} (he : 0 ≤ e ∧ e < 2147483648) (k : Q (some (.int (iI 0))) (x_hp (rT I q e) J R)) : P 173 (d + 3) 0 (x_la 0 [.ref 122]) [] (x_hp (rT I q e) J R) rc rs Q := by
  have g1 : rT I q e 1580 122 0 = iI q := rfl
  first | refine x_aload_n hP rfl rfl ?_ | refine x_aload_nN hP rfl rfl ?_
  refine x_getI hP rfl (by first | assumption | rfl) (by first | assumption | exact hR _ _ _ _ rfl | exact hR1 _ _ _ _ rfl | exact hR2 _ _ _ _ rfl | rfl) ?_
  refine x_istore_n hP rfl ?_
  first | refine x_aload_n hP rfl rfl ?_ | refine x_aload_nN hP rfl rfl ?_
  refine x_iconst hP rfl ?_
  refine x_callV1 (ci := 9) hP 0 0 rfl rfl rfl (by first | assumption | rfl) rfl rfl rfl (Nat.zero_le _) (Nat.zero_le _) ?_
  refine r_nameB hP he ?_
  refine x_lstore_n hP rfl ?_
  first | refine x_aload_n hP rfl rfl ?_ | refine x_aload_nN hP rfl rfl ?_
  refine x_callV0 (ci := 9) hP 0 0 rfl rfl rfl (by first | assumption | rfl) rfl rfl rfl (Nat.zero_le _) (Nat.zero_le _) ?_
  refine r_badB hP he ?_
  first | refine zb_if_eq hP rfl (fun c15 => ?_) (fun c15 => ?_) | refine zl_if_eq hP rfl (fun c15 => ?_) (fun c15 => ?_) | refine z_if_eq hP rfl (by omega) (fun c15 => ?_) (fun c15 => ?_)
  · cases c15
  refine x_iconst hP rfl ?_
  refine x_iret hP rfl rfl ?_
  exact k
theorem r_mark0B (hP : x_closed E P) {q : Nat} {e : Int} (he : 0 ≤ e ∧ e < 2147483648) (k : Q (some (.int (iI 0))) (x_hp (rT I q e) J R)) : P 175 (d + 3) 0 (x_la 0 [.ref 122]) [] (x_hp (rT I q e) J R) rc rs Q := by
  have g1 : rT I q e 1580 122 0 = iI q := rfl
  first | refine x_aload_n hP rfl rfl ?_ | refine x_aload_nN hP rfl rfl ?_
  refine x_getI hP rfl (by first | assumption | rfl) (by first | assumption | exact hR _ _ _ _ rfl | exact hR1 _ _ _ _ rfl | exact hR2 _ _ _ _ rfl | rfl) ?_
  refine x_istore_n hP rfl ?_
  first | refine x_aload_n hP rfl rfl ?_ | refine x_aload_nN hP rfl rfl ?_
  refine x_iconst hP rfl ?_
  refine x_callV1 (ci := 9) hP 0 0 rfl rfl rfl (by first | assumption | rfl) rfl rfl rfl (Nat.zero_le _) (Nat.zero_le _) ?_
  refine r_nameB hP he ?_
  refine x_lstore_n hP rfl ?_
  first | refine x_aload_n hP rfl rfl ?_ | refine x_aload_nN hP rfl rfl ?_
  refine x_callV0 (ci := 9) hP 0 0 rfl rfl rfl (by first | assumption | rfl) rfl rfl rfl (Nat.zero_le _) (Nat.zero_le _) ?_
  refine r_badB hP he ?_
  first | refine zb_if_eq hP rfl (fun c15 => ?_) (fun c15 => ?_) | refine zl_if_eq hP rfl (fun c15 => ?_) (fun c15 => ?_) | refine z_if_eq hP rfl (by omega) (fun c15 => ?_) (fun c15 => ?_)
  · cases c15
  refine x_iconst hP rfl ?_
  refine x_iret hP rfl rfl ?_
  exact k
end

