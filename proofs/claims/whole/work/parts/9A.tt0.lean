/-! THE some (.ref 122)ERENCE: new trees -/
def nF (_k a _i : Nat) : Prop := a = 126 ∨ a = 128 ∨ a = 130 ∨ a = 132 ∨ a = 134 ∨ a = 144
theorem nF_rW {k a i : Nat} (h : nF k a i) : rW k a i := by unfold nF at h; unfold rW; omega
theorem rT_x {I : x_M Int32} {p w : Int} {k a i : Nat} {v : Int32} (h : ¬ a = 122) : x_at (rT I p w) k a i v = rT (x_at I k a i v) p w := by
  funext k' a' i'
  unfold rT
  rw [x_at_eq, x_at_eq, x_at_eq, x_at_eq, x_at_eq, x_at_eq]
  by_cases q : k' = k ∧ a' = a ∧ i' = i
  · rw [if_pos q, if_neg (by omega), if_neg (by omega), if_pos q]
  · rw [if_neg q]
    split
    · rfl
    · split
      · rfl
      · rfl
theorem txB_n {S : Nat → Nat → Nat → Prop} {I I' : x_M Int32} {n : Nat} {c : Nat → Nat} (h : txB I n c) (hf : frP S I I') (hs : ∀ k a i, S k a i → ¬ (a = 122 ∧ k = 1579) ∧ ¬ a = 124) : txB I' n c := ⟨(hf _ _ _ fun z => (hs _ _ _ z).1 ⟨rfl, rfl⟩).trans h.1, h.2.1, h.2.2.1, fun i hi => (hf _ _ _ fun z => (hs _ _ _ z).2 rfl).trans (h.2.2.2 i hi)⟩
theorem nF_tx {k a i : Nat} (h : nF k a i) : ¬ (a = 122 ∧ k = 1579) ∧ ¬ a = 124 := by unfold nF at h; omega
def rNw (I : x_M Int32) (J : x_M Int64) (T : x_T) : Prop := (∀ d, d < tD T → I 1 134 d = iI (tS T d)) ∧ (∀ d, d < tD T → ∀ k, k < tS T d → J 6 126 (30 * d + k) = tN T d k ∧ I 1 130 (30 * d + k) = iI (tP T d k) ∧ I 1 132 (30 * d + k) = iI (tH T d k)) ∧ (∀ m, m < tM T → J 6 128 m = tK T m) ∧ twf T
theorem rNw_rT {I : x_M Int32} {J : x_M Int64} {T : x_T} (h : rNw I J T) (p w : Int) : rNw (rT I p w) J T := h
/-- within a tree, names differ -/
def dsT (T : x_T) : Prop := ∀ d, d < tD T → ∀ i j, i < tS T d → j < tS T d → tN T d i = tN T d j → i = j
def lst (nm : Nat → Int64) (v : Int64) : Nat → Int
  | 0 => -1
  | i + 1 => if nm i = v then i else lst nm v i
theorem fO_none {nm : Nat → Int64} {v : Int64} : ∀ (f i : Nat), fO nm v i f = none ↔ ∀ j, i ≤ j → j < i + f → ¬ nm j = v
  | 0, i => ⟨fun _ j h1 h2 => by omega, fun _ => rfl⟩
  | f + 1, i => by
    show (if nm i = v then some i else fO nm v (i + 1) f) = none ↔ _
    by_cases q : nm i = v
    · rw [if_pos q]
      exact ⟨fun z => (by cases z), fun z => absurd q (z i (Nat.le_refl _) (by omega))⟩
    · rw [if_neg q, fO_none f (i + 1)]
      exact ⟨fun z j h1 h2 => by by_cases e : j = i; rw [e]; exact q; exact z j (by omega) (by omega), fun z j h1 h2 => z j (by omega) (by omega)⟩
theorem fO_some {nm : Nat → Int64} {v : Int64} : ∀ (f i m : Nat), fO nm v i f = some m → nm m = v
  | 0, i, m, h => by cases h
  | f + 1, i, m, h => by
    have h : (if nm i = v then some i else fO nm v (i + 1) f) = some m := h
    by_cases q : nm i = v
    · rw [if_pos q] at h; cases h; exact q
    · rw [if_neg q] at h; exact fO_some f (i + 1) m h
theorem lst_fO {nm : Nat → Int64} {v : Int64} {s : Nat} (hd : ∀ i j, i < s → j < s → nm i = nm j → i = j) : lst nm v s = oI (fO nm v 0 s) := by
  cases h : fO nm v 0 s with
  | none =>
    have h := (fO_none s 0).mp h
    have : ∀ i, i ≤ s → lst nm v i = -1 := by
      intro i
      induction i with
      | zero => intro _; rfl
      | succ i ih => intro hi; show (if nm i = v then (i : Int) else lst nm v i) = -1; rw [if_neg (h i (Nat.zero_le _) (by omega))]; exact ih (by omega)
    exact this s (Nat.le_refl _)
  | some m =>
    have hm := fO_some s 0 m h
    have hl := fO_lt s 0 m h
    have : ∀ i, i ≤ s → m < i → lst nm v i = m := by
      intro i
      induction i with
      | zero => intro _ z; omega
      | succ i ih =>
        intro hi hmi
        show (if nm i = v then (i : Int) else lst nm v i) = m
        by_cases q : nm i = v
        · rw [if_pos q, hd i m (by omega) (by omega) (q.trans hm.symm)]
        · rw [if_neg q]
          refine ih (by omega) ?_
          rcases Nat.lt_or_ge m i with z | z
          · exact z
          · exact absurd (show nm i = v by rw [show i = m by omega]; exact hm) q
    exact this s (Nat.le_refl _) (by omega)
section
variable {E : x_E} {P : x_Pr} {d rc rs : Nat} {I : x_M Int32} {J : x_M Int64} {R : x_M (Option Nat)} {Q : x_Q} {n p : Nat} {c : Nat → Nat} {T : x_T}
theorem r_isReserved (hP : x_closed E P) {h : x_H} {v : Int64} (k : Q (some (.int (bI (isRes v)))) h) : P 169 d 0 (x_la 0 [.long v]) [] h rc rs Q := by
  unfold isRes at k
  refine x_lload_n hP rfl rfl ?_
  refine x_ldcL hP rfl ?_
  refine x_lcmp hP rfl ?_
  first | refine zb_if_eq hP rfl (fun c5 => ?_) (fun c5 => ?_) | refine zl_if_eq hP rfl (fun c5 => ?_) (fun c5 => ?_) | refine z_if_eq hP rfl (by omega) (fun c5 => ?_) (fun c5 => ?_)
  · rw [decide_eq_true (Or.inl c5)] at k
    refine x_iconst hP rfl ?_
    refine x_goto hP rfl ?_
    refine x_zret hP rfl rfl (by first | exact Or.inl iI_0 | exact Or.inr iI_1 | exact bI_or _ | assumption) ?_
    exact k
  refine x_lload_n hP rfl rfl ?_
  refine x_ldcL hP rfl ?_
  refine x_lcmp hP rfl ?_
  first | refine zb_if_eq hP rfl (fun c13 => ?_) (fun c13 => ?_) | refine zl_if_eq hP rfl (fun c13 => ?_) (fun c13 => ?_) | refine z_if_eq hP rfl (by omega) (fun c13 => ?_) (fun c13 => ?_)
  · rw [decide_eq_true (Or.inr (Or.inl c13))] at k
    refine x_iconst hP rfl ?_
    refine x_goto hP rfl ?_
    refine x_zret hP rfl rfl (by first | exact Or.inl iI_0 | exact Or.inr iI_1 | exact bI_or _ | assumption) ?_
    exact k
  refine x_lload_n hP rfl rfl ?_
  refine x_ldcL hP rfl ?_
  refine x_lcmp hP rfl ?_
  first | refine zb_if_ne hP rfl (fun c21 => ?_) (fun c21 => ?_) | refine zl_if_ne hP rfl (fun c21 => ?_) (fun c21 => ?_) | refine z_if_ne hP rfl (by omega) (fun c21 => ?_) (fun c21 => ?_)
  · rw [decide_eq_false (fun z => by rcases z with z | z | z; exact c5 z; exact c13 z; exact c21 z)] at k
    refine x_iconst hP rfl ?_
    refine x_zret hP rfl rfl (by first | exact Or.inl iI_0 | exact Or.inr iI_1 | exact bI_or _ | assumption) ?_
    exact k
  · rw [decide_eq_true (Or.inr (Or.inr c21))] at k
    refine x_iconst hP rfl ?_
    refine x_goto hP rfl ?_
    refine x_zret hP rfl rfl (by first | exact Or.inl iI_0 | exact Or.inr iI_1 | exact bI_or _ | assumption) ?_
    exact k
theorem r_there_in (hP : x_closed E P) (hR : x_fin R) (hc : rNw I J T) {v : Int64} {e : Nat} (he : e < tD T) (k2 : fIn T e v = none → ∀ r1 r2, P 170 d 50 (x_ls [some (.ref 122), some (.long v), none, some (.int (iI (tD T))), some (.int (iI (tM T))), some (.int (iI e)), none]) [] (x_hp I J R) r1 r2 Q) (k1 : ¬ fIn T e v = none → Q (some (.int (bI true))) (x_hp I J R)) : ∀ (f i : Nat), i + f = tS T e → fO (tN T e) v 0 (tS T e) = fO (tN T e) v i f → ∀ rc rs, P 170 d 12 (x_ls [some (.ref 122), some (.long v), none, some (.int (iI (tD T))), some (.int (iI (tM T))), some (.int (iI e)), some (.int (iI i))]) [] (x_hp I J R) rc rs Q := by
  have ⟨h3, h4, h5, hw⟩ := hc
  have w1 := hw.1
  have w2 := (hw.2.2 e he).2.1
  have v3 := h3 e he
  intro f
  induction f with
  | zero =>
    intro i hi hf rc rs
    refine x_iload hP rfl rfl ?_
    first | refine x_aload_n hP rfl rfl ?_ | refine x_aload_nN hP rfl rfl ?_
    refine x_getR hP rfl (by first | assumption | rfl) (by first | assumption | exact hR _ _ _ _ rfl | exact hR1 _ _ _ _ rfl | exact hR2 _ _ _ _ rfl | rfl) ?_
    refine x_iload hP rfl rfl ?_
    refine z_iald hP rfl (by first | assumption | rfl) (by first | decide | omega) (by omega) (by first | assumption | exact hR _ _ _ _ rfl | exact hR1 _ _ _ _ rfl | exact hR2 _ _ _ _ rfl | rfl) ?_
    refine z_icmp_ge hP rfl (by omega) (by omega) (fun c21 => ?_) (fun c21 => ?_)
    · exact x_re hP [some (.ref 122), some (.long v), none, some (.int (iI (tD T))), some (.int (iI (tM T))), some (.int (iI e)), none] ⟨rfl, rfl, rfl, rfl, rfl, trivial⟩ (k2 hf _ _)
    · omega
  | succ f ih =>
    intro i hi hf rc rs
    have v4 := (h4 e he i (by omega)).1
    rw [show fO (tN T e) v i (f + 1) = if tN T e i = v then some i else fO (tN T e) v (i + 1) f from rfl] at hf
    refine x_iload hP rfl rfl ?_
    first | refine x_aload_n hP rfl rfl ?_ | refine x_aload_nN hP rfl rfl ?_
    refine x_getR hP rfl (by first | assumption | rfl) (by first | assumption | exact hR _ _ _ _ rfl | exact hR1 _ _ _ _ rfl | exact hR2 _ _ _ _ rfl | rfl) ?_
    refine x_iload hP rfl rfl ?_
    refine z_iald hP rfl (by first | assumption | rfl) (by first | decide | omega) (by omega) (by first | assumption | exact hR _ _ _ _ rfl | exact hR1 _ _ _ _ rfl | exact hR2 _ _ _ _ rfl | rfl) ?_
    refine z_icmp_ge hP rfl (by omega) (by omega) (fun c21 => ?_) (fun c21 => ?_)
    · omega
    first | refine x_aload_n hP rfl rfl ?_ | refine x_aload_nN hP rfl rfl ?_
    refine x_getR hP rfl (by first | assumption | rfl) (by first | assumption | exact hR _ _ _ _ rfl | exact hR1 _ _ _ _ rfl | exact hR2 _ _ _ _ rfl | rfl) ?_
    refine x_bipush hP rfl ?_
    refine x_iload hP rfl rfl ?_
    first | refine z_imul hP rfl ?_ | refine x_imul hP rfl ?_
    refine x_iload hP rfl rfl ?_
    first | refine z_iadd hP rfl ?_ | refine x_iadd hP rfl ?_
    refine z_lald hP rfl (by first | assumption | rfl) (by first | decide | omega) (by omega) (by first | assumption | exact hR _ _ _ _ rfl | exact hR1 _ _ _ _ rfl | exact hR2 _ _ _ _ rfl | rfl) ?_
    refine x_lload_n hP rfl rfl ?_
    refine x_lcmp hP rfl ?_
    first | refine zb_if_ne hP rfl (fun c39 => ?_) (fun c39 => ?_) | refine zl_if_ne hP rfl (fun c39 => ?_) (fun c39 => ?_) | refine z_if_ne hP rfl (by omega) (fun c39 => ?_) (fun c39 => ?_)
    · rw [if_neg c39] at hf
      refine z_iinc hP rfl rfl rfl ?_
      refine x_goto hP rfl ?_
      exact x_re hP [some (.ref 122), some (.long v), none, some (.int (iI (tD T))), some (.int (iI (tM T))), some (.int (iI e)), some (.int (iI (i + 1 : Nat)))] ⟨rfl, rfl, rfl, rfl, rfl, rfl, trivial⟩ (ih (i + 1) (by omega) hf _ _)
    · rw [if_pos c39] at hf
      refine x_iconst hP rfl ?_
      refine x_zret hP rfl rfl (by first | exact Or.inl iI_0 | exact Or.inr iI_1 | exact bI_or _ | assumption) ?_
      exact k1 fun z => by unfold fIn at z; rw [z] at hf; cases hf
theorem r_there_out (hP : x_closed E P) (hR : x_fin R) (hc : rNw I J T) {v : Int64} (k1 : ¬ fMem T v = none → Q (some (.int (bI true))) (x_hp I J R)) (k2 : fMem T v = none → ∀ r1 r2, P 170 d 56 (x_ls [some (.ref 122), some (.long v), none, some (.int (iI (tD T))), some (.int (iI (tM T))), none, none]) [] (x_hp I J R) r1 r2 Q) : ∀ (f i : Nat), i + f = tD T → fMe T v 0 (tD T) = fMe T v i f → ∀ rc rs, P 170 d 3 (x_ls [some (.ref 122), some (.long v), none, some (.int (iI (tD T))), some (.int (iI (tM T))), some (.int (iI i)), none]) [] (x_hp I J R) rc rs Q := by
  have w1 := hc.2.2.2.1
  intro f
  induction f with
  | zero =>
    intro i hi hf rc rs
    refine x_iload hP rfl rfl ?_
    refine x_iload_n hP rfl rfl ?_
    refine z_icmp_ge hP rfl (by omega) (by omega) (fun c6 => ?_) (fun c6 => ?_)
    · exact x_re hP [some (.ref 122), some (.long v), none, some (.int (iI (tD T))), some (.int (iI (tM T))), none, none] ⟨rfl, rfl, rfl, rfl, trivial⟩ (k2 hf _ _)
    · omega
  | succ f ih =>
    intro i hi hf rc rs
    rw [show fMe T v i (f + 1) = match fIn T i v with | some k => some (i, k) | none => fMe T v (i + 1) f from rfl] at hf
    refine x_iload hP rfl rfl ?_
    refine x_iload_n hP rfl rfl ?_
    refine z_icmp_ge hP rfl (by omega) (by omega) (fun c6 => ?_) (fun c6 => ?_)
    · omega
    refine x_iconst hP rfl ?_
    refine x_istore hP rfl ?_
    refine x_re hP [some (.ref 122), some (.long v), none, some (.int (iI (tD T))), some (.int (iI (tM T))), some (.int (iI i)), some (.int (iI (0 : Nat)))] ⟨rfl, rfl, rfl, rfl, rfl, rfl, trivial⟩ (r_there_in hP hR hc (show i < tD T by omega) (fun z r1 r2 => ?_) (fun z => k1 fun y => ?_) (tS T i) 0 (by omega) rfl _ _)
    · rw [z] at hf
      refine z_iinc hP rfl rfl rfl ?_
      refine x_goto hP rfl ?_
      exact x_re hP [some (.ref 122), some (.long v), none, some (.int (iI (tD T))), some (.int (iI (tM T))), some (.int (iI (i + 1 : Nat))), none] ⟨rfl, rfl, rfl, rfl, rfl, trivial⟩ (ih (i + 1) (by omega) hf _ _)
    · unfold fMem at y
      rw [y] at hf
      cases q : fIn T i v with
      | none => exact z q
      | some m => rw [q] at hf; cases hf
theorem r_there_mk (hP : x_closed E P) (hR : x_fin R) (hc : rNw I J T) {v : Int64} (k1 : ¬ fMk T v = none → Q (some (.int (bI true))) (x_hp I J R)) (k2 : fMk T v = none → Q (some (.int (bI false))) (x_hp I J R)) : ∀ (f i : Nat), i + f = tM T → fO (tK T) v 0 (tM T) = fO (tK T) v i f → ∀ rc rs, P 170 d 59 (x_ls [some (.ref 122), some (.long v), none, none, some (.int (iI (tM T))), some (.int (iI i))]) [] (x_hp I J R) rc rs Q := by
  have w2 := hc.2.2.2.2.1
  intro f
  induction f with
  | zero =>
    intro i hi hf rc rs
    refine x_iload hP rfl rfl ?_
    refine x_iload hP rfl rfl ?_
    refine z_icmp_ge hP rfl (by omega) (by omega) (fun c63 => ?_) (fun c63 => ?_)
    · refine x_iconst hP rfl ?_
      refine x_zret hP rfl rfl (by first | exact Or.inl iI_0 | exact Or.inr iI_1 | exact bI_or _ | assumption) ?_
      exact k2 hf
    · omega
  | succ f ih =>
    intro i hi hf rc rs
    have v5 := hc.2.2.1 i (by omega)
    rw [show fO (tK T) v i (f + 1) = if tK T i = v then some i else fO (tK T) v (i + 1) f from rfl] at hf
    refine x_iload hP rfl rfl ?_
    refine x_iload hP rfl rfl ?_
    refine z_icmp_ge hP rfl (by omega) (by omega) (fun c63 => ?_) (fun c63 => ?_)
    · omega
    first | refine x_aload_n hP rfl rfl ?_ | refine x_aload_nN hP rfl rfl ?_
    refine x_getR hP rfl (by first | assumption | rfl) (by first | assumption | exact hR _ _ _ _ rfl | exact hR1 _ _ _ _ rfl | exact hR2 _ _ _ _ rfl | rfl) ?_
    refine x_iload hP rfl rfl ?_
    refine z_lald hP rfl (by first | assumption | rfl) (by first | decide | omega) (by omega) (by first | assumption | exact hR _ _ _ _ rfl | exact hR1 _ _ _ _ rfl | exact hR2 _ _ _ _ rfl | rfl) ?_
    refine x_lload_n hP rfl rfl ?_
    refine x_lcmp hP rfl ?_
    first | refine zb_if_ne hP rfl (fun c75 => ?_) (fun c75 => ?_) | refine zl_if_ne hP rfl (fun c75 => ?_) (fun c75 => ?_) | refine z_if_ne hP rfl (by omega) (fun c75 => ?_) (fun c75 => ?_)
    · rw [if_neg c75] at hf
      refine z_iinc hP rfl rfl rfl ?_
      refine x_goto hP rfl ?_
      exact x_re hP [some (.ref 122), some (.long v), none, none, some (.int (iI (tM T))), some (.int (iI (i + 1 : Nat)))] ⟨rfl, rfl, rfl, rfl, trivial⟩ (ih (i + 1) (by omega) hf _ _)
    · rw [if_pos c75] at hf
      refine x_iconst hP rfl ?_
      refine x_zret hP rfl rfl (by first | exact Or.inl iI_0 | exact Or.inr iI_1 | exact bI_or _ | assumption) ?_
      exact k1 fun z => by unfold fMk at z; rw [z] at hf; cases hf
theorem r_isThere (hP : x_closed E P) (hR : x_fin R) (hc : rNw I J T) {v : Int64} (k1 : (¬ fMem T v = none ∨ ¬ fMk T v = none) → Q (some (.int (bI true))) (x_hp I J R)) (k2 : fMem T v = none → fMk T v = none → Q (some (.int (bI false))) (x_hp I J R)) : P 170 d 0 (x_la 0 [.ref 122, .long v, .int (iI (tD T)), .int (iI (tM T))]) [] (x_hp I J R) rc rs Q := by
  refine x_iconst hP rfl ?_
  refine x_istore hP rfl ?_
  refine x_re hP [some (.ref 122), some (.long v), none, some (.int (iI (tD T))), some (.int (iI (tM T))), some (.int (iI (0 : Nat))), none] ⟨rfl, rfl, rfl, rfl, rfl, trivial⟩ (r_there_out hP hR hc (fun z => k1 (Or.inl z)) (fun z r1 r2 => ?_) (tD T) 0 (by omega) rfl _ _)
  refine x_iconst hP rfl ?_
  refine x_istore hP rfl ?_
  exact x_re hP [some (.ref 122), some (.long v), none, none, some (.int (iI (tM T))), some (.int (iI (0 : Nat)))] ⟨rfl, rfl, rfl, rfl, trivial⟩ (r_there_mk hP hR hc (fun y => k1 (Or.inr y)) (fun y => k2 z y) (tM T) 0 (by omega) rfl _ _)
/-- one MEMBER more -/
theorem rNw_add (hc : rNw I J T) {v : Int64} {u e s : Nat} (he : tD T = e + 1) (hs : tS T e = s) (h30 : s < 30) (hu : u < s) (h6 : tH T e u < 6) : rNw (x_at (x_at (x_at I 1 130 (30 * e + s) (iI u)) 1 132 (30 * e + s) (iI ((tH T e u : Int) + 1))) 1 134 e (iI ((s : Int) + 1))) (x_at J 6 126 (30 * e + s) v) (tAdd T v u) := by
  obtain ⟨h3, h4, h5, hw⟩ := hc
  have d1 : tD T - 1 = e := by omega
  refine ⟨fun a ha => ?_, fun a ha i hi => ?_, fun m hm => ?_, ?_⟩
  · have ha : a < tD T := ha
    show _ = iI (uf1 (tS T) (tD T - 1) (tS T (tD T - 1) + 1) a : Nat)
    rw [d1, hs, x_at_eq]
    by_cases q : a = e
    · rw [if_pos ⟨rfl, rfl, q⟩, q, uf1_s]; rfl
    · rw [if_neg (by omega), uf1_n _ _ q, x_at_eq, if_neg (by omega), x_at_eq, if_neg (by omega)]
      exact h3 a ha
  · have ha : a < tD T := ha
    have hi : i < uf1 (tS T) (tD T - 1) (tS T (tD T - 1) + 1) a := hi
    rw [d1, hs] at hi
    show _ = uf2 (tN T) (tD T - 1) (tS T (tD T - 1)) v a i ∧ _ = iI (uf2 (tP T) (tD T - 1) (tS T (tD T - 1)) u a i) ∧ _ = iI (uf2 (tH T) (tD T - 1) (tS T (tD T - 1)) (if (u : Int) < 0 then 0 else tH T (tD T - 1) (u : Int).toNat + 1) a i : Nat)
    rw [d1, hs, if_neg (by omega), Int.toNat_natCast]
    have b30 := (hw.2.2 a ha).2.1
    have i30 : i < 30 := by
      by_cases q : a = e
      · rw [q, uf1_s] at hi; omega
      · rw [uf1_n _ _ q] at hi; omega
    by_cases q : a = e ∧ i = s
    · rw [q.1, q.2, uf2_s, uf2_s, uf2_s]
      refine ⟨?_, ?_, ?_⟩
      · rw [x_at_eq, if_pos ⟨rfl, rfl, rfl⟩]
      · rw [x_at_eq, if_neg (by omega), x_at_eq, if_neg (by omega), x_at_eq, if_pos ⟨rfl, rfl, rfl⟩]
      · rw [x_at_eq, if_neg (by omega), x_at_eq, if_pos ⟨rfl, rfl, rfl⟩]; rfl
    · have hi2 : i < tS T a := by
        by_cases q2 : a = e
        · rw [q2, uf1_s] at hi; rw [q2, hs]; omega
        · rw [uf1_n _ _ q2] at hi; exact hi
      have := h4 a ha i hi2
      rw [uf2_n _ _ q, uf2_n _ _ q, uf2_n _ _ q]
      refine ⟨?_, ?_, ?_⟩
      · rw [x_at_eq, if_neg (by omega)]; exact this.1
      · rw [x_at_eq, if_neg (by omega), x_at_eq, if_neg (by omega), x_at_eq, if_neg (by omega)]; exact this.2.1
      · rw [x_at_eq, if_neg (by omega), x_at_eq, if_neg (by omega), x_at_eq, if_neg (by omega)]; exact this.2.2
  · have hm : m < tM T := hm
    rw [x_at_eq, if_neg (by omega)]
    exact h5 m hm
  · exact twf_addM hw (by omega) (by rw [d1, hs]; exact h30) (by rw [d1, hs]; exact hu) (by rw [d1]; exact h6)
theorem rNw_addD (hc : rNw I J T) {v : Int64} (h4d : tD T < 4) : rNw (x_at (x_at (x_at I 1 134 (tD T) (iI 1)) 1 130 (30 * tD T) (iI (-1))) 1 132 (30 * tD T) (iI 0)) (x_at J 6 126 (30 * tD T) v) (tAddD T v) := by
  obtain ⟨h3, h4, h5, hw⟩ := hc
  have e1 : tS (tNewD T) (tD (tNewD T) - 1) = 0 := by
    show uf1 (tS T) (tD T) 0 (tD T + 1 - 1) = 0
    rw [Nat.add_sub_cancel, uf1_s]
  have e2 : tD (tNewD T) - 1 = tD T := by show tD T + 1 - 1 = tD T; omega
  have es : ∀ a, tS (tAddD T v) a = uf1 (uf1 (tS T) (tD T) 0) (tD T) 1 a := fun a => by
    show uf1 (tS (tNewD T)) (tD (tNewD T) - 1) (tS (tNewD T) (tD (tNewD T) - 1) + 1) a = _
    rw [e1, e2]; rfl
  have en : ∀ a i, tN (tAddD T v) a i = uf2 (tN T) (tD T) 0 v a i := fun a i => by
    show uf2 (tN (tNewD T)) (tD (tNewD T) - 1) (tS (tNewD T) (tD (tNewD T) - 1)) v a i = _
    rw [e1, e2]; rfl
  have ep : ∀ a i, tP (tAddD T v) a i = uf2 (tP T) (tD T) 0 (-1) a i := fun a i => by
    show uf2 (tP (tNewD T)) (tD (tNewD T) - 1) (tS (tNewD T) (tD (tNewD T) - 1)) (-1) a i = _
    rw [e1, e2]; rfl
  have eh : ∀ a i, tH (tAddD T v) a i = uf2 (tH T) (tD T) 0 0 a i := fun a i => by
    show uf2 (tH (tNewD T)) (tD (tNewD T) - 1) (tS (tNewD T) (tD (tNewD T) - 1)) (if (-1 : Int) < 0 then 0 else _) a i = _
    rw [e1, e2, if_pos (by decide)]; rfl
  refine ⟨fun a ha => ?_, fun a ha i hi => ?_, fun m hm => ?_, ?_⟩
  · have ha : a < tD T + 1 := ha
    rw [es]
    by_cases q : a = tD T
    · rw [q, uf1_s, x_at_eq, if_neg (by omega), x_at_eq, if_neg (by omega), x_at_eq, if_pos ⟨rfl, rfl, rfl⟩]; rfl
    · rw [uf1_n _ _ q, uf1_n _ _ q, x_at_eq, if_neg (by omega), x_at_eq, if_neg (by omega), x_at_eq, if_neg (by omega)]
      exact h3 a (by omega)
  · have ha : a < tD T + 1 := ha
    rw [es] at hi
    rw [en, ep, eh]
    by_cases q : a = tD T
    · rw [q, uf1_s] at hi
      obtain rfl : i = 0 := by omega
      rw [q, uf2_s, uf2_s, uf2_s]
      refine ⟨?_, ?_, ?_⟩
      · rw [x_at_eq, if_pos ⟨rfl, rfl, by omega⟩]
      · rw [x_at_eq, if_neg (by omega), x_at_eq, if_pos ⟨rfl, rfl, by omega⟩]
      · rw [x_at_eq, if_pos ⟨rfl, rfl, by omega⟩]; rfl
    · rw [uf1_n _ _ q, uf1_n _ _ q] at hi
      have := h4 a (by omega) i hi
      have b30 := (hw.2.2 a (by omega)).2.1
      rw [uf2_n _ _ (by omega), uf2_n _ _ (by omega), uf2_n _ _ (by omega)]
      refine ⟨?_, ?_, ?_⟩
      · rw [x_at_eq, if_neg (by omega)]; exact this.1
      · rw [x_at_eq, if_neg (by omega), x_at_eq, if_neg (by omega), x_at_eq, if_neg (by omega)]; exact this.2.1
      · rw [x_at_eq, if_neg (by omega), x_at_eq, if_neg (by omega), x_at_eq, if_neg (by omega)]; exact this.2.2
  · have hm : m < tM T := hm
    rw [x_at_eq, if_neg (by omega)]
    exact h5 m hm
  · exact twf_addD hw h4d
theorem rNw_addK (hc : rNw I J T) {v : Int64} (h3m : tM T < 3) : rNw I (x_at J 6 128 (tM T) v) (tAddK T v) := by
  obtain ⟨h3, h4, h5, hw⟩ := hc
  refine ⟨h3, fun a ha i hi => ⟨?_, (h4 a ha i hi).2.1, (h4 a ha i hi).2.2⟩, fun m hm => ?_, twf_addK hw h3m⟩
  · rw [x_at_eq, if_neg (by omega)]; exact (h4 a ha i hi).1
  · have hm : m < tM T + 1 := hm
    show _ = uf1 (tK T) (tM T) v m
    rw [x_at_eq]
    by_cases q : m = tM T
    · rw [if_pos ⟨rfl, rfl, q⟩, q, uf1_s]
    · rw [if_neg (by omega), uf1_n _ _ q]; exact h5 m (by omega)
theorem r_childB (hP : x_closed E P) {x : Int32} {v : Int64} {q : Nat} {e : Int} (he : 0 ≤ e ∧ e < 2147483648) (k : Q none (x_hp (rT I q e) J R)) : P 171 (d + 3) 0 (x_la 0 [.ref 122, .int x, .long v]) [] (x_hp (rT I q e) J R) rc rs Q := by
  have g1 : rT I q e 1580 122 0 = iI q := rfl
  first | refine x_aload_n hP rfl rfl ?_ | refine x_aload_nN hP rfl rfl ?_
  refine x_getI hP rfl (by first | assumption | rfl) (by first | assumption | exact hR _ _ _ _ rfl | exact hR1 _ _ _ _ rfl | exact hR2 _ _ _ _ rfl | rfl) ?_
  refine x_istore hP rfl ?_
  first | refine x_aload_n hP rfl rfl ?_ | refine x_aload_nN hP rfl rfl ?_
  refine x_iconst hP rfl ?_
  refine x_callV1 (ci := 9) hP 0 0 rfl rfl rfl (by first | assumption | rfl) rfl rfl rfl (Nat.zero_le _) (Nat.zero_le _) ?_
  refine r_nameB hP he ?_
  refine x_lstore hP rfl ?_
  first | refine x_aload_n hP rfl rfl ?_ | refine x_aload_nN hP rfl rfl ?_
  refine x_callV0 (ci := 9) hP 0 0 rfl rfl rfl (by first | assumption | rfl) rfl rfl rfl (Nat.zero_le _) (Nat.zero_le _) ?_
  refine r_badB hP he ?_
  first | refine zb_if_eq hP rfl (fun c17 => ?_) (fun c17 => ?_) | refine zl_if_eq hP rfl (fun c17 => ?_) (fun c17 => ?_) | refine z_if_eq hP rfl (by omega) (fun c17 => ?_) (fun c17 => ?_)
  · cases c17
  refine x_vret hP rfl rfl ?_
  exact k
theorem r_child_loop (hP : x_closed E P) (hR : x_fin R) (hc : rNw I J T) {e : Nat} (he : e < tD T) {v a : Int64} {vf : Int} (k : ∀ L r1 r2, x_ag L 0 [some (.ref 122), some (.int (iI e)), some (.long v), none, some (.int (iI vf)), some (.long a), none, some (.int (iI (lst (tN T e) a (tS T e)))), some (.int (iI (tS T e)))] → P 171 (d + 3) 75 L [] (x_hp I J R) r1 r2 Q) : ∀ (f i : Nat), i + f = tS T e → ∀ rc rs, P 171 (d + 3) 35 (x_ls [some (.ref 122), some (.int (iI e)), some (.long v), none, some (.int (iI vf)), some (.long a), none, some (.int (iI (lst (tN T e) a i))), some (.int (iI (tS T e))), some (.int (iI i))]) [] (x_hp I J R) rc rs Q := by
  have ⟨h3, h4, h5, hw⟩ := hc
  have w1 := hw.1
  have w2 := (hw.2.2 e he).2.1
  intro f
  induction f with
  | zero =>
    intro i hi rc rs
    obtain rfl : i = tS T e := by omega
    refine x_iload hP rfl rfl ?_
    refine x_iload hP rfl rfl ?_
    refine z_icmp_ge hP rfl (by omega) (by omega) (fun c39 => ?_) (fun c39 => ?_)
    · exact k _ _ _ ⟨rfl, rfl, rfl, rfl, rfl, rfl, rfl, trivial⟩
    · omega
  | succ f ih =>
    intro i hi rc rs
    have v4 := (h4 e he i (by omega)).1
    have st : lst (tN T e) a (i + 1) = if tN T e i = a then (i : Int) else lst (tN T e) a i := rfl
    refine x_iload hP rfl rfl ?_
    refine x_iload hP rfl rfl ?_
    refine z_icmp_ge hP rfl (by omega) (by omega) (fun c39 => ?_) (fun c39 => ?_)
    · omega
    first | refine x_aload_n hP rfl rfl ?_ | refine x_aload_nN hP rfl rfl ?_
    refine x_getR hP rfl (by first | assumption | rfl) (by first | assumption | exact hR _ _ _ _ rfl | exact hR1 _ _ _ _ rfl | exact hR2 _ _ _ _ rfl | rfl) ?_
    refine x_bipush hP rfl ?_
    refine x_iload_n hP rfl rfl ?_
    first | refine z_imul hP rfl ?_ | refine x_imul hP rfl ?_
    refine x_iload hP rfl rfl ?_
    first | refine z_iadd hP rfl ?_ | refine x_iadd hP rfl ?_
    refine z_lald hP rfl (by first | assumption | rfl) (by first | decide | omega) (by omega) (by first | assumption | exact hR _ _ _ _ rfl | exact hR1 _ _ _ _ rfl | exact hR2 _ _ _ _ rfl | rfl) ?_
    refine x_lload hP rfl rfl ?_
    refine x_lcmp hP rfl ?_
    first | refine zb_if_ne hP rfl (fun c57 => ?_) (fun c57 => ?_) | refine zl_if_ne hP rfl (fun c57 => ?_) (fun c57 => ?_) | refine z_if_ne hP rfl (by omega) (fun c57 => ?_) (fun c57 => ?_)
    · rw [if_neg c57] at st
      refine x_iload hP rfl rfl ?_
      refine x_istore hP rfl ?_
      refine z_iinc hP rfl rfl rfl ?_
      refine x_goto hP rfl ?_
      exact x_re hP [some (.ref 122), some (.int (iI e)), some (.long v), none, some (.int (iI vf)), some (.long a), none, some (.int (iI (lst (tN T e) a (i + 1)))), some (.int (iI (tS T e))), some (.int (iI (i + 1 : Nat)))] ⟨rfl, rfl, rfl, rfl, rfl, by rw [st]; rfl, rfl, rfl, trivial⟩ (ih (i + 1) (by omega) _ _)
    · rw [if_pos c57] at st
      refine x_iload hP rfl rfl ?_
      refine x_goto hP rfl ?_
      refine x_istore hP rfl ?_
      refine z_iinc hP rfl rfl rfl ?_
      refine x_goto hP rfl ?_
      exact x_re hP [some (.ref 122), some (.int (iI e)), some (.long v), none, some (.int (iI vf)), some (.long a), none, some (.int (iI (lst (tN T e) a (i + 1)))), some (.int (iI (tS T e))), some (.int (iI (i + 1 : Nat)))] ⟨rfl, rfl, rfl, rfl, rfl, by rw [st]; rfl, rfl, rfl, trivial⟩ (ih (i + 1) (by omega) _ _)
/-- a MEMBER's parent, as the reference reads it -/
def chR (T : x_T) (v : Int64) (c : Nat → Nat) (n p : Nat) : Nat ⊕ (x_T × Nat) := match namR c n p with
  | .inl e => .inl e
  | .inr (a, q) => match fIn T (tD T - 1) a with
    | none => .inl p
    | some k => if 6 ≤ tH T (tD T - 1) k then .inl p else .inr (tAdd T v k, q)
theorem r_child (hP : x_closed E P) (hR : x_fin R) (t1 : txB I n c) (hp : p ≤ n) (hc : rNw I J T) (hd : dsT T) {e : Nat} (he : tD T = e + 1) (h30 : tS T e < 30) {v : Int64} (k : match chR T v c n p with
    | .inl er => ∀ q : Nat, er ≤ n + 8 → Q none (x_hp (rT I q er) J R)
    | .inr (T', q) => ∀ I' J', q ≤ n → rNw I' J' T' → frP nF I I' → frP nF J J' → Q none (x_hp (rT I' q (-1)) J' R)) : P 171 (d + 3) 0 (x_la 0 [.ref 122, .int (iI e), .long v]) [] (x_hp (rT I p (-1)) J R) rc rs Q := by
  have ⟨h3, h4, h5, hw⟩ := hc
  have w1 := hw.1
  have ⟨s1, w2, w3, w4, w5⟩ := hw.2.2 e (by omega)
  have g1 : rT I p (-1) 1580 122 0 = iI p := rfl
  have d1 : tD T - 1 = e := by omega
  unfold chR at k
  rw [d1] at k
  first | refine x_aload_n hP rfl rfl ?_ | refine x_aload_nN hP rfl rfl ?_
  refine x_getI hP rfl (by first | assumption | rfl) (by first | assumption | exact hR _ _ _ _ rfl | exact hR1 _ _ _ _ rfl | exact hR2 _ _ _ _ rfl | rfl) ?_
  refine x_istore hP rfl ?_
  first | refine x_aload_n hP rfl rfl ?_ | refine x_aload_nN hP rfl rfl ?_
  refine x_iconst hP rfl ?_
  refine x_callV1 (ci := 9) hP 0 0 rfl rfl rfl (by first | assumption | rfl) rfl rfl rfl (Nat.zero_le _) (Nat.zero_le _) ?_
  refine r_nameO (wd := false) hP hR t1 hp ?_
  rw [show nmR false c n p = namR c n p from rfl]
  have rg := fun v q => namR_rg (c := c) (n := n) (p := p) (v := v) (q := q) t1.2.2.1 hp
  have eb : ∀ e, namR c n p = .inl e → e ≤ n + 8 := fun e h => namR_e hp h
  have n2 := t1.2.1
  generalize namR c n p = on at k rg eb ⊢
  match on, k, rg, eb with
  | .inl er, k, _, eb =>
    have eb := eb er rfl
    intro q v hv
    rw [hv]
    refine x_lstore hP rfl ?_
    first | refine x_aload_n hP rfl rfl ?_ | refine x_aload_nN hP rfl rfl ?_
    refine x_callV0 (ci := 9) hP 0 0 rfl rfl rfl (by first | assumption | rfl) rfl rfl rfl (Nat.zero_le _) (Nat.zero_le _) ?_
    refine r_badB hP (by omega) ?_
    first | refine zb_if_eq hP rfl (fun c17 => ?_) (fun c17 => ?_) | refine zl_if_eq hP rfl (fun c17 => ?_) (fun c17 => ?_) | refine z_if_eq hP rfl (by omega) (fun c17 => ?_) (fun c17 => ?_)
    · cases c17
    refine x_vret hP rfl rfl ?_
    exact k _ eb
  | .inr (a, q), k, rg, _ =>
    have rg := rg a q rfl
    dsimp only at k
    show P _ _ _ _ (Value.long a :: _) _ _ _ _
    refine x_lstore hP rfl ?_
    first | refine x_aload_n hP rfl rfl ?_ | refine x_aload_nN hP rfl rfl ?_
    refine x_callV0 (ci := 9) hP 0 0 rfl rfl rfl (by first | assumption | rfl) rfl rfl rfl (Nat.zero_le _) (Nat.zero_le _) ?_
    refine r_badO hP ?_
    first | refine zb_if_eq hP rfl (fun c17 => ?_) (fun c17 => ?_) | refine zl_if_eq hP rfl (fun c17 => ?_) (fun c17 => ?_) | refine z_if_eq hP rfl (by omega) (fun c17 => ?_) (fun c17 => ?_)
    rotate_left
    · cases c17
    have g3 : rT I q (-1) 1 134 e = iI (tS T e) := h3 e (by omega)
    refine x_iconst hP rfl ?_
    refine x_istore hP rfl ?_
    first | refine x_aload_n hP rfl rfl ?_ | refine x_aload_nN hP rfl rfl ?_
    refine x_getR hP rfl (by first | assumption | rfl) (by first | assumption | exact hR _ _ _ _ rfl | exact hR1 _ _ _ _ rfl | exact hR2 _ _ _ _ rfl | rfl) ?_
    refine x_iload_n hP rfl rfl ?_
    refine z_iald hP rfl (by first | assumption | rfl) (by first | decide | omega) (by omega) (by first | assumption | exact hR _ _ _ _ rfl | exact hR1 _ _ _ _ rfl | exact hR2 _ _ _ _ rfl | rfl) ?_
    refine x_istore hP rfl ?_
    refine x_iconst hP rfl ?_
    refine x_istore hP rfl ?_
    refine x_re hP [some (.ref 122), some (.int (iI e)), some (.long v), none, some (.int (iI p)), some (.long a), none, some (.int (iI (lst (tN T e) a 0))), some (.int (iI (tS T e))), some (.int (iI (0 : Nat)))] ⟨rfl, rfl, rfl, rfl, rfl, rfl, rfl, rfl, trivial⟩ (r_child_loop hP hR (rNw_rT hc q (-1)) (show e < tD T by omega) (fun L r1 r2 hL => ?_) (tS T e) 0 (by omega) _ _)
    rw [lst_fO (hd e (by omega)), show fO (tN T e) a 0 (tS T e) = fIn T e a from rfl] at hL
    have fl : ∀ m, fIn T e a = some m → m < tS T e := fun m h => by have := fO_lt (tS T e) 0 m h; omega
    generalize fIn T e a = of at k hL fl
    match of, k, hL, fl with
    | none, k, hL, _ =>
      have hL : x_ag L 0 [some (.ref 122), some (.int (iI e)), some (.long v), none, some (.int (iI p)), some (.long a), none, some (.int (iI (-1))), some (.int (iI (tS T e)))] := hL
      refine x_re hP _ hL ?_
      refine x_iload hP rfl rfl ?_
      refine x_iconst hP rfl ?_
      first | refine z_icmp_eq hP rfl (by omega) (by omega) (fun c78 => ?_) (fun c78 => ?_) | refine x_icmp_eq hP rfl (fun c78 => ?_) (fun c78 => ?_)
      rotate_left
      · exact absurd rfl c78
      first | refine x_aload_n hP rfl rfl ?_ | refine x_aload_nN hP rfl rfl ?_
      refine x_iload hP rfl rfl ?_
      refine x_callV1 (ci := 9) hP 0 0 rfl rfl rfl (by first | assumption | rfl) rfl rfl rfl (Nat.zero_le _) (Nat.zero_le _) ?_
      refine r_failO hP ?_
      refine x_vret hP rfl rfl ?_
      exact k _ (by omega)
    | some u, k, hL, fl =>
      have hu := fl u rfl
      have hL : x_ag L 0 [some (.ref 122), some (.int (iI e)), some (.long v), none, some (.int (iI p)), some (.long a), none, some (.int (iI (u : Nat))), some (.int (iI (tS T e)))] := hL
      dsimp only at k
      refine x_re hP _ hL ?_
      have h6 := (w5 u hu).1
      have g4 : rT I q (-1) 1 132 (30 * e + u) = iI (tH T e u) := (h4 e (by omega) u hu).2.2
      refine x_iload hP rfl rfl ?_
      refine x_iconst hP rfl ?_
      first | refine z_icmp_eq hP rfl (by omega) (by omega) (fun c78 => ?_) (fun c78 => ?_) | refine x_icmp_eq hP rfl (fun c78 => ?_) (fun c78 => ?_)
      · omega
      first | refine x_aload_n hP rfl rfl ?_ | refine x_aload_nN hP rfl rfl ?_
      refine x_getR hP rfl (by first | assumption | rfl) (by first | assumption | exact hR _ _ _ _ rfl | exact hR1 _ _ _ _ rfl | exact hR2 _ _ _ _ rfl | rfl) ?_
      refine x_bipush hP rfl ?_
      refine x_iload_n hP rfl rfl ?_
      first | refine z_imul hP rfl ?_ | refine x_imul hP rfl ?_
      refine x_iload hP rfl rfl ?_
      first | refine z_iadd hP rfl ?_ | refine x_iadd hP rfl ?_
      refine z_iald hP rfl (by first | assumption | rfl) (by first | decide | omega) (by omega) (by first | assumption | exact hR _ _ _ _ rfl | exact hR1 _ _ _ _ rfl | exact hR2 _ _ _ _ rfl | rfl) ?_
      refine x_bipush hP rfl ?_
      first | refine z_icmp_ne hP rfl (by omega) (by omega) (fun c95 => ?_) (fun c95 => ?_) | refine x_icmp_ne hP rfl (fun c95 => ?_) (fun c95 => ?_)
      · rw [if_neg (by omega)] at k
        first | refine x_aload_n hP rfl rfl ?_ | refine x_aload_nN hP rfl rfl ?_
        refine x_getR hP rfl (by first | assumption | rfl) (by first | assumption | exact hR _ _ _ _ rfl | exact hR1 _ _ _ _ rfl | exact hR2 _ _ _ _ rfl | rfl) ?_
        refine x_bipush hP rfl ?_
        refine x_iload_n hP rfl rfl ?_
        first | refine z_imul hP rfl ?_ | refine x_imul hP rfl ?_
        refine x_iload hP rfl rfl ?_
        first | refine z_iadd hP rfl ?_ | refine x_iadd hP rfl ?_
        refine x_lload_n hP rfl rfl ?_
        refine z_last hP rfl (by first | assumption | rfl) (by first | decide | omega) (by omega) ?_
        first | refine w_nI ?_ | refine w_nL ?_ | refine w_nR ?_ | refine w_mI ?_ | refine w_mL ?_ | refine w_mR ?_ | skip
        rw [show (30 * (e : Int) + (tS T e : Int)).toNat = 30 * e + tS T e by omega]
        first | refine x_aload_n hP rfl rfl ?_ | refine x_aload_nN hP rfl rfl ?_
        refine x_getR hP rfl (by first | assumption | rfl) (by first | assumption | exact hR _ _ _ _ rfl | exact hR1 _ _ _ _ rfl | exact hR2 _ _ _ _ rfl | rfl) ?_
        refine x_bipush hP rfl ?_
        refine x_iload_n hP rfl rfl ?_
        first | refine z_imul hP rfl ?_ | refine x_imul hP rfl ?_
        refine x_iload hP rfl rfl ?_
        first | refine z_iadd hP rfl ?_ | refine x_iadd hP rfl ?_
        refine x_iload hP rfl rfl ?_
        refine z_iast hP rfl (by first | assumption | rfl) (by first | decide | omega) (by omega) ?_
        first | refine w_nI ?_ | refine w_nL ?_ | refine w_nR ?_ | refine w_mI ?_ | refine w_mL ?_ | refine w_mR ?_ | skip
        rw [show (30 * (e : Int) + (tS T e : Int)).toNat = 30 * e + tS T e by omega, rT_x (by decide)]
        have g5 : rT (x_at I 1 130 (30 * e + tS T e) (iI u)) q (-1) 1 132 (30 * e + u) = iI (tH T e u) := (h4 e (by omega) u hu).2.2
        first | refine x_aload_n hP rfl rfl ?_ | refine x_aload_nN hP rfl rfl ?_
        refine x_getR hP rfl (by first | assumption | rfl) (by first | assumption | exact hR _ _ _ _ rfl | exact hR1 _ _ _ _ rfl | exact hR2 _ _ _ _ rfl | rfl) ?_
        refine x_bipush hP rfl ?_
        refine x_iload_n hP rfl rfl ?_
        first | refine z_imul hP rfl ?_ | refine x_imul hP rfl ?_
        refine x_iload hP rfl rfl ?_
        first | refine z_iadd hP rfl ?_ | refine x_iadd hP rfl ?_
        first | refine x_aload_n hP rfl rfl ?_ | refine x_aload_nN hP rfl rfl ?_
        refine x_getR hP rfl (by first | assumption | rfl) (by first | assumption | exact hR _ _ _ _ rfl | exact hR1 _ _ _ _ rfl | exact hR2 _ _ _ _ rfl | rfl) ?_
        refine x_bipush hP rfl ?_
        refine x_iload_n hP rfl rfl ?_
        first | refine z_imul hP rfl ?_ | refine x_imul hP rfl ?_
        refine x_iload hP rfl rfl ?_
        first | refine z_iadd hP rfl ?_ | refine x_iadd hP rfl ?_
        refine z_iald hP rfl (by first | assumption | rfl) (by first | decide | omega) (by omega) (by first | assumption | exact hR _ _ _ _ rfl | exact hR1 _ _ _ _ rfl | exact hR2 _ _ _ _ rfl | rfl) ?_
        refine x_iconst hP rfl ?_
        first | refine z_iadd hP rfl ?_ | refine x_iadd hP rfl ?_
        refine z_iast hP rfl (by first | assumption | rfl) (by first | decide | omega) (by omega) ?_
        first | refine w_nI ?_ | refine w_nL ?_ | refine w_nR ?_ | refine w_mI ?_ | refine w_mL ?_ | refine w_mR ?_ | skip
        rw [show (30 * (e : Int) + (tS T e : Int)).toNat = 30 * e + tS T e by omega, rT_x (by decide)]
        have g6 : rT (x_at (x_at I 1 130 (30 * e + tS T e) (iI u)) 1 132 (30 * e + tS T e) (iI ((tH T e u : Int) + 1))) q (-1) 1 134 e = iI (tS T e) := h3 e (by omega)
        first | refine x_aload_n hP rfl rfl ?_ | refine x_aload_nN hP rfl rfl ?_
        refine x_getR hP rfl (by first | assumption | rfl) (by first | assumption | exact hR _ _ _ _ rfl | exact hR1 _ _ _ _ rfl | exact hR2 _ _ _ _ rfl | rfl) ?_
        refine x_iload_n hP rfl rfl ?_
        refine x_dup2 hP rfl rfl rfl ?_
        refine z_iald hP rfl (by first | assumption | rfl) (by first | decide | omega) (by omega) (by first | assumption | exact hR _ _ _ _ rfl | exact hR1 _ _ _ _ rfl | exact hR2 _ _ _ _ rfl | rfl) ?_
        refine x_iconst hP rfl ?_
        first | refine z_iadd hP rfl ?_ | refine x_iadd hP rfl ?_
        refine z_iast hP rfl (by first | assumption | rfl) (by first | decide | omega) (by omega) ?_
        first | refine w_nI ?_ | refine w_nL ?_ | refine w_nR ?_ | refine w_mI ?_ | refine w_mL ?_ | refine w_mR ?_ | skip
        rw [Int.toNat_natCast, rT_x (by decide)]
        refine x_vret hP rfl rfl ?_
        exact k _ _ rg.2.1 (rNw_add hc he rfl h30 hu (by omega)) (frP_at (frP_at (frP_at (frP_refl _ _) (by unfold nF; omega)) (by unfold nF; omega)) (by unfold nF; omega)) (frP_at (frP_refl _ _) (by unfold nF; omega))
      · rw [if_pos (by omega)] at k
        first | refine x_aload_n hP rfl rfl ?_ | refine x_aload_nN hP rfl rfl ?_
        refine x_iload hP rfl rfl ?_
        refine x_callV1 (ci := 9) hP 0 0 rfl rfl rfl (by first | assumption | rfl) rfl rfl rfl (Nat.zero_le _) (Nat.zero_le _) ?_
        refine r_failO hP ?_
        refine x_vret hP rfl rfl ?_
        exact k _ (by omega)
end
