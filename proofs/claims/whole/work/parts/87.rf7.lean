/-! THE REFERENCE: orders -/
section
variable {E : x_E} {P : x_Pr} {d rc rs : Nat} {I : x_M Int32} {J : x_M Int64} {R : x_M (Option Nat)} {Q : x_Q} {s : Nat} {ol l : List Nat} {tm : Bool} {nu : Nat → Nat → Nat → Int} {m : Nat}
theorem rkc_le (up : Bool) (v : Nat → Int) (k n : Nat) : rkc up v k n ≤ n := by
  have := sumS_mono (f := bef up v k) (g := fun _ => 1) n fun q _ => by unfold bef; split <;> omega
  have e2 := sumS_ltn n n (Nat.le_refl _)
  rw [sumS_congr n (f := fun _ => 1) (g := fun q => if q < n then 1 else 0) (fun q hq => (if_pos hq).symm), e2] at this
  exact this
theorem r_rank_loop (hP : x_closed E P) (hR : x_fin R) (hm : m < 3) {up : Bool} (h30 : ∀ x ∈ l, ∀ e ∈ ol, pt x e < 30) (hn : rNu I nu) (hq : rq I 28 ol (l.map (rfE ol))) {kk : Nat} (hk : kk < l.length) : ∀ (g i : Nat), i + g = l.length → Q (some (.int (iI (rkc up (fun j => shw nu m ol (l.getD j 0)) kk l.length)))) (x_hp I J R) → ∀ rc rs, P 206 (d + 2) 16 (x_ls [some (.ref 122), some (.int (iI kk)), some (.int (iI m)), some (.int (bI up)), some (.int (iI (shw nu m ol (l.getD kk 0)))), some (.int (iI (rkc up (fun j => shw nu m ol (l.getD j 0)) kk i))), some (.int (iI i)), none, none]) [] (x_hp I J R) rc rs Q := by
  have ⟨h1, h2, h3, h4, h5, h6, h7, h8⟩ := hq
  rw [List.length_map] at h1 h4
  have xr := shw_rgR (x := l.getD kk 0) hn h5 hm h6 (h30 _ (getD_mem hk))
  intro g
  induction g with
  | zero =>
    intro i hi k rc rs
    obtain rfl : i = l.length := by omega
    refine x_iload hP rfl rfl ?_
    first | refine x_aload_n hP rfl rfl ?_ | refine x_aload_nN hP rfl rfl ?_
    refine x_getR hP rfl (by first | assumption | rfl) (by first | assumption | exact hR _ _ _ _ rfl | exact hR1 _ _ _ _ rfl | exact hR2 _ _ _ _ rfl | rfl) ?_
    refine x_bipush hP rfl ?_
    refine z_iald hP rfl (by first | assumption | rfl) (by first | decide | omega) (by omega) (by first | assumption | exact hR _ _ _ _ rfl | exact hR1 _ _ _ _ rfl | exact hR2 _ _ _ _ rfl | rfl) ?_
    refine z_icmp_ge hP rfl (by omega) (by omega) (fun c25 => ?_) (fun c25 => ?_)
    · refine x_iload hP rfl rfl ?_
      refine x_iret hP rfl rfl ?_
      exact k
    · omega
  | succ g ih =>
    intro i hi k rc rs
    have hlt : i < l.length := by omega
    have yr := shw_rgR (x := l.getD i 0) hn h5 hm h6 (h30 _ (getD_mem hlt))
    have st : rkc up (fun j => shw nu m ol (l.getD j 0)) kk (i + 1) = rkc up (fun j => shw nu m ol (l.getD j 0)) kk i + bef up (fun j => shw nu m ol (l.getD j 0)) kk i := rfl
    have rl := rkc_le up (fun j => shw nu m ol (l.getD j 0)) kk i
    refine x_iload hP rfl rfl ?_
    first | refine x_aload_n hP rfl rfl ?_ | refine x_aload_nN hP rfl rfl ?_
    refine x_getR hP rfl (by first | assumption | rfl) (by first | assumption | exact hR _ _ _ _ rfl | exact hR1 _ _ _ _ rfl | exact hR2 _ _ _ _ rfl | rfl) ?_
    refine x_bipush hP rfl ?_
    refine z_iald hP rfl (by first | assumption | rfl) (by first | decide | omega) (by omega) (by first | assumption | exact hR _ _ _ _ rfl | exact hR1 _ _ _ _ rfl | exact hR2 _ _ _ _ rfl | rfl) ?_
    refine z_icmp_ge hP rfl (by omega) (by omega) (fun c25 => ?_) (fun c25 => ?_)
    · omega
    first | refine x_aload_n hP rfl rfl ?_ | refine x_aload_nN hP rfl rfl ?_
    refine x_bipush hP rfl ?_
    refine x_iload hP rfl rfl ?_
    refine x_iload_n hP rfl rfl ?_
    refine x_callV3 (ci := 9) hP 0 0 rfl rfl rfl (by first | assumption | rfl) rfl rfl rfl (Nat.zero_le _) (Nat.zero_le _) ?_
    refine r_shown hP hR (by decide) hn hq (by rw [List.length_map]; exact hlt) hm (map_getD hlt) (h30 _ (getD_mem hlt)) ?_
    have ih3 : ∀ Z : Nat, Z = rkc up (fun j => shw nu m ol (l.getD j 0)) kk i + (if ahd up (shw nu m ol (l.getD kk 0)) (shw nu m ol (l.getD i 0)) = true ∨ shw nu m ol (l.getD i 0) = shw nu m ol (l.getD kk 0) ∧ i < kk then 1 else 0) → ∀ rc rs, P 206 (d + 2) 16 (x_ls [some (.ref 122), some (.int (iI kk)), some (.int (iI m)), some (.int (bI up)), some (.int (iI (shw nu m ol (l.getD kk 0)))), some (.int (iI (Z : Nat))), some (.int (iI (i + 1 : Nat))), none, none]) [] (x_hp I J R) rc rs Q := fun Z hZ rc rs => by
      have := ih (i + 1) (by omega) k rc rs
      rw [st] at this
      rw [hZ]
      exact this
    clear ih st
    generalize rkc up (fun j => shw nu m ol (l.getD j 0)) kk i = N at rl ih3 ⊢
    generalize shw nu m ol (l.getD kk 0) = x at xr ih3 ⊢
    generalize shw nu m ol (l.getD i 0) = y at yr ih3 ⊢
    have nx : ∀ z : Nat, z = (if ahd up x y = true ∨ y = x ∧ i < kk then 1 else 0) → ∀ L r1 r2, x_ag L 0 [some (.ref 122), some (.int (iI kk)), some (.int (iI m)), some (.int (bI up)), some (.int (iI x)), none, some (.int (iI i))] → P 206 (d + 2) 121 L [.int (iI z), .int (iI N)] (x_hp I J R) r1 r2 Q := by
      intro z hz L r1 r2 hL
      refine x_re hP _ hL ?_
      first | refine z_iadd hP rfl ?_ | refine x_iadd hP rfl ?_
      refine x_istore hP rfl ?_
      refine z_iinc hP rfl rfl rfl ?_
      refine x_goto hP rfl ?_
      exact x_re hP [some (.ref 122), some (.int (iI kk)), some (.int (iI m)), some (.int (bI up)), some (.int (iI x)), some (.int (iI (N + z : Nat))), some (.int (iI (i + 1 : Nat))), none, none] ⟨rfl, rfl, rfl, rfl, rfl, rfl, rfl, trivial⟩ (ih3 _ (by rw [hz]) _ _)
    have mid : ∀ a : Bool, a = ahd up x y → ∀ L r1 r2, x_ag L 0 [some (.ref 122), some (.int (iI kk)), some (.int (iI m)), some (.int (bI up)), some (.int (iI x)), some (.int (iI N)), some (.int (iI i)), some (.int (iI y))] → P 206 (d + 2) 94 L [.int (bI a)] (x_hp I J R) r1 r2 Q := by
      intro a ha L r1 r2 hL
      refine x_re hP _ hL ?_
      refine x_istore hP rfl ?_
      refine x_iload hP rfl rfl ?_
      refine x_iload hP rfl rfl ?_
      first | refine zb_if_ne hP rfl (fun c100 => ?_) (fun c100 => ?_) | refine zl_if_ne hP rfl (fun c100 => ?_) (fun c100 => ?_) | refine z_if_ne hP rfl (by omega) (fun c100 => ?_) (fun c100 => ?_)
      · refine x_iconst hP rfl ?_
        refine x_goto hP rfl ?_
        exact nx 1 (by rw [if_pos (Or.inl (by rw [← ha]; exact c100))]) _ _ _ ⟨rfl, rfl, rfl, rfl, rfl, rfl, trivial⟩
      have na : ¬ ahd up x y = true := by rw [← ha, c100]; decide
      refine x_iload hP rfl rfl ?_
      refine x_iload hP rfl rfl ?_
      first | refine z_icmp_ne hP rfl (by omega) (by omega) (fun c107 => ?_) (fun c107 => ?_) | refine x_icmp_ne hP rfl (fun c107 => ?_) (fun c107 => ?_)
      · refine x_iconst hP rfl ?_
        exact nx 0 (by rw [if_neg (fun z => by rcases z with z | z; exact na z; exact c107 z.1)]) _ _ _ ⟨rfl, rfl, rfl, rfl, rfl, rfl, trivial⟩
      refine x_iload hP rfl rfl ?_
      refine x_iload_n hP rfl rfl ?_
      refine z_icmp_ge hP rfl (by omega) (by omega) (fun c113 => ?_) (fun c113 => ?_)
      · refine x_iconst hP rfl ?_
        exact nx 0 (by rw [if_neg (fun z => by rcases z with z | z; exact na z; omega)]) _ _ _ ⟨rfl, rfl, rfl, rfl, rfl, rfl, trivial⟩
      · refine x_iconst hP rfl ?_
        refine x_goto hP rfl ?_
        exact nx 1 (by rw [if_pos (Or.inr ⟨c107, by omega⟩)]) _ _ _ ⟨rfl, rfl, rfl, rfl, rfl, rfl, trivial⟩
    refine x_istore hP rfl ?_
    refine x_iload hP rfl rfl ?_
    refine x_ldcI hP rfl ?_
    first | refine z_icmp_ne hP rfl (by omega) (by omega) (fun c43 => ?_) (fun c43 => ?_) | refine x_icmp_ne hP rfl (fun c43 => ?_) (fun c43 => ?_)
    rotate_left
    · refine x_iload hP rfl rfl ?_
      refine x_ldcI hP rfl ?_
      first | refine z_icmp_eq hP rfl (by omega) (by omega) (fun c50 => ?_) (fun c50 => ?_) | refine x_icmp_eq hP rfl (fun c50 => ?_) (fun c50 => ?_)
      · refine x_iconst hP rfl ?_
        refine x_goto hP rfl ?_
        exact mid false (decide_eq_false (fun z => z.1 c50)).symm _ _ _ ⟨rfl, rfl, rfl, rfl, rfl, rfl, rfl, rfl, trivial⟩
      · refine x_iconst hP rfl ?_
        refine x_goto hP rfl ?_
        exact mid true (decide_eq_true ⟨c50, Or.inl c43⟩).symm _ _ _ ⟨rfl, rfl, rfl, rfl, rfl, rfl, rfl, rfl, trivial⟩
    refine x_iload hP rfl rfl ?_
    refine x_ldcI hP rfl ?_
    first | refine z_icmp_eq hP rfl (by omega) (by omega) (fun c65 => ?_) (fun c65 => ?_) | refine x_icmp_eq hP rfl (fun c65 => ?_) (fun c65 => ?_)
    · refine x_iconst hP rfl ?_
      exact mid false (decide_eq_false (fun z => z.1 c65)).symm _ _ _ ⟨rfl, rfl, rfl, rfl, rfl, rfl, rfl, rfl, trivial⟩
    refine x_iload_n hP rfl rfl ?_
    first | refine zb_if_eq hP rfl (fun c69 => ?_) (fun c69 => ?_) | refine zl_if_eq hP rfl (fun c69 => ?_) (fun c69 => ?_) | refine z_if_eq hP rfl (by omega) (fun c69 => ?_) (fun c69 => ?_)
    · refine x_iload hP rfl rfl ?_
      refine x_iload hP rfl rfl ?_
      refine z_icmp_le hP rfl (by omega) (by omega) (fun c86 => ?_) (fun c86 => ?_)
      · refine x_iconst hP rfl ?_
        exact mid false (decide_eq_false (fun z => z.2.elim c43 (fun q => q.elim (fun q => by rw [c69] at q; exact absurd q.1 (by decide)) (fun q => by have := q.2; omega)))).symm _ _ _ ⟨rfl, rfl, rfl, rfl, rfl, rfl, rfl, rfl, trivial⟩
      · refine x_iconst hP rfl ?_
        refine x_goto hP rfl ?_
        exact mid true (decide_eq_true ⟨c65, Or.inr (Or.inr ⟨c69, by omega⟩)⟩).symm _ _ _ ⟨rfl, rfl, rfl, rfl, rfl, rfl, rfl, rfl, trivial⟩
    · refine x_iload hP rfl rfl ?_
      refine x_iload hP rfl rfl ?_
      refine z_icmp_ge hP rfl (by omega) (by omega) (fun c76 => ?_) (fun c76 => ?_)
      · refine x_iconst hP rfl ?_
        exact mid false (decide_eq_false (fun z => z.2.elim c43 (fun q => q.elim (fun q => by have := q.2; omega) (fun q => by rw [c69] at q; exact absurd q.1 (by decide))))).symm _ _ _ ⟨rfl, rfl, rfl, rfl, rfl, rfl, rfl, rfl, trivial⟩
      · refine x_goto hP rfl ?_
        refine x_iconst hP rfl ?_
        refine x_goto hP rfl ?_
        exact mid true (decide_eq_true ⟨c65, Or.inr (Or.inl ⟨c69, by omega⟩)⟩).symm _ _ _ ⟨rfl, rfl, rfl, rfl, rfl, rfl, rfl, rfl, trivial⟩
theorem r_rank (hP : x_closed E P) (hR : x_fin R) (hm : m < 3) {up : Bool} (h30 : ∀ x ∈ l, ∀ e ∈ ol, pt x e < 30) (hn : rNu I nu) (hq : rq I 28 ol (l.map (rfE ol))) {kk : Nat} (hk : kk < l.length) (k : Q (some (.int (iI (rkc up (fun j => shw nu m ol (l.getD j 0)) kk l.length)))) (x_hp I J R)) : P 206 (d + 2) 0 (x_la 0 [.ref 122, .int (iI kk), .int (iI m), .int (bI up)]) [] (x_hp I J R) rc rs Q := by
  first | refine x_aload_n hP rfl rfl ?_ | refine x_aload_nN hP rfl rfl ?_
  refine x_bipush hP rfl ?_
  refine x_iload_n hP rfl rfl ?_
  refine x_iload_n hP rfl rfl ?_
  refine x_callV3 (ci := 9) hP 0 0 rfl rfl rfl (by first | assumption | rfl) rfl rfl rfl (Nat.zero_le _) (Nat.zero_le _) ?_
  refine r_shown hP hR (by decide) hn hq (by rw [List.length_map]; exact hk) hm (map_getD hk) (h30 _ (getD_mem hk)) ?_
  refine x_istore hP rfl ?_
  refine x_iconst hP rfl ?_
  refine x_istore hP rfl ?_
  refine x_iconst hP rfl ?_
  refine x_istore hP rfl ?_
  exact x_re hP [some (.ref 122), some (.int (iI kk)), some (.int (iI m)), some (.int (bI up)), some (.int (iI (shw nu m ol (l.getD kk 0)))), some (.int (iI (rkc up (fun j => shw nu m ol (l.getD j 0)) kk 0))), some (.int (iI (0 : Nat))), none, none] ⟨rfl, rfl, rfl, rfl, rfl, rfl, rfl, trivial⟩ (r_rank_loop hP hR hm h30 hn hq hk l.length 0 (by omega) k _ _)
theorem srI1_s (g : Nat → Nat) (ts : List Nat) (i j : Nat) : srI1 g ts i (j + 1) = srI1 g ts i j ++ (if g j = i then [ts.getD j 0] else []) := by
  unfold srI1
  rw [List.range_succ, List.filter_append, List.filter_cons, List.filter_nil, List.map_append]
  by_cases q : g j = i
  · rw [if_pos (decide_eq_true q), if_pos q]; rfl
  · rw [if_neg (by rw [decide_eq_true_iff]; exact q), if_neg q]; rfl
theorem srO_s (g : Nat → Nat) (ts : List Nat) (i : Nat) : srO g ts (i + 1) = srO g ts i ++ srI1 g ts i ts.length := by
  unfold srO
  rw [List.range_succ, List.flatMap_append, List.flatMap_cons, List.flatMap_nil, List.append_nil]
theorem r_sort_in (hP : x_closed E P) (hR : x_fin R) (hs : s < 28) (hm : m < 3) {up : Bool} (h30 : ∀ x ∈ l, ∀ e ∈ ol, pt x e < 30) {g : Nat → Nat} (hg : g = fun k => rkc up (fun j => shw nu m ol (l.getD j 0)) k l.length) {i : Nat} (hi : i < l.length) : ∀ (f j : Nat) (I : x_M Int32), j + f = l.length → rNu I nu → rq I 28 ol (l.map (rfE ol)) → rv I s ol (srO g (l.map (rfE ol)) i ++ srI1 g (l.map (rfE ol)) i j) tm → (∀ I' L r1 r2, rv I' s ol (srO g (l.map (rfE ol)) (i + 1)) tm → frP (rsT s) I I' → x_ag L 0 [some (.ref 122), some (.int (iI s)), some (.int (iI m)), some (.int (bI up)), some (.int (iI i))] → P 205 (d + 3) 91 L [] (x_hp I' J R) r1 r2 Q) → ∀ rc rs, P 205 (d + 3) 44 (x_ls [some (.ref 122), some (.int (iI s)), some (.int (iI m)), some (.int (bI up)), some (.int (iI i)), some (.int (iI j))]) [] (x_hp I J R) rc rs Q := by
  intro f
  induction f with
  | zero =>
    intro j I hj hn hq hv k rc rs
    have ⟨h1, h2, h3, h4, h5, h6, h7, h8⟩ := hq
    rw [List.length_map] at h1 h4
    refine x_iload hP rfl rfl ?_
    first | refine x_aload_n hP rfl rfl ?_ | refine x_aload_nN hP rfl rfl ?_
    refine x_getR hP rfl (by first | assumption | rfl) (by first | assumption | exact hR _ _ _ _ rfl | exact hR1 _ _ _ _ rfl | exact hR2 _ _ _ _ rfl | rfl) ?_
    refine x_bipush hP rfl ?_
    refine z_iald hP rfl (by first | assumption | rfl) (by first | decide | omega) (by omega) (by first | assumption | exact hR _ _ _ _ rfl | exact hR1 _ _ _ _ rfl | exact hR2 _ _ _ _ rfl | rfl) ?_
    refine z_icmp_ge hP rfl (by omega) (by omega) (fun c53 => ?_) (fun c53 => ?_)
    · refine k I _ _ _ ?_ (frP_refl _ _) ⟨rfl, rfl, rfl, rfl, rfl, trivial⟩
      rw [srO_s, List.length_map, show l.length = j by omega]
      exact hv
    · omega
  | succ f ih =>
    intro j I hj hn hq hv k rc rs
    have ⟨h1, h2, h3, h4, h5, h6, h7, h8⟩ := hq
    rw [List.length_map] at h1 h4
    have hlt : j < l.length := by omega
    have v : I 1 139 (5628 + j) = iI ((l.map (rfE ol)).getD j 0) := h7 j (by rw [List.length_map]; exact hlt)
    have st := srI1_s g (l.map (rfE ol)) i j
    have gl : g j ≤ l.length := by rw [hg]; exact rkc_le _ _ _ _
    refine x_iload hP rfl rfl ?_
    first | refine x_aload_n hP rfl rfl ?_ | refine x_aload_nN hP rfl rfl ?_
    refine x_getR hP rfl (by first | assumption | rfl) (by first | assumption | exact hR _ _ _ _ rfl | exact hR1 _ _ _ _ rfl | exact hR2 _ _ _ _ rfl | rfl) ?_
    refine x_bipush hP rfl ?_
    refine z_iald hP rfl (by first | assumption | rfl) (by first | decide | omega) (by omega) (by first | assumption | exact hR _ _ _ _ rfl | exact hR1 _ _ _ _ rfl | exact hR2 _ _ _ _ rfl | rfl) ?_
    refine z_icmp_ge hP rfl (by omega) (by omega) (fun c53 => ?_) (fun c53 => ?_)
    · omega
    first | refine x_aload_n hP rfl rfl ?_ | refine x_aload_nN hP rfl rfl ?_
    refine x_iload hP rfl rfl ?_
    refine x_iload_n hP rfl rfl ?_
    refine x_iload_n hP rfl rfl ?_
    refine x_callV3 (ci := 9) hP 0 0 rfl rfl rfl (by first | assumption | rfl) rfl rfl rfl (Nat.zero_le _) (Nat.zero_le _) ?_
    refine r_rank (up := up) hP hR hm h30 hn hq hlt ?_
    rw [show rkc up (fun j => shw nu m ol (l.getD j 0)) j l.length = g j by rw [hg]]
    refine x_iload hP rfl rfl ?_
    first | refine z_icmp_ne hP rfl (by omega) (by omega) (fun c66 => ?_) (fun c66 => ?_) | refine x_icmp_ne hP rfl (fun c66 => ?_) (fun c66 => ?_)
    · rw [if_neg (by omega), List.append_nil] at st
      refine z_iinc hP rfl rfl rfl ?_
      refine x_goto hP rfl ?_
      exact x_re hP [some (.ref 122), some (.int (iI s)), some (.int (iI m)), some (.int (bI up)), some (.int (iI i)), some (.int (iI (j + 1 : Nat)))] ⟨rfl, rfl, rfl, rfl, rfl, rfl, trivial⟩ (ih (j + 1) I (by omega) hn hq (by rw [st]; exact hv) k _ _)
    · rw [if_pos (by omega)] at st
      first | refine x_aload_n hP rfl rfl ?_ | refine x_aload_nN hP rfl rfl ?_
      refine x_iload_n hP rfl rfl ?_
      first | refine x_aload_n hP rfl rfl ?_ | refine x_aload_nN hP rfl rfl ?_
      refine x_getR hP rfl (by first | assumption | rfl) (by first | assumption | exact hR _ _ _ _ rfl | exact hR1 _ _ _ _ rfl | exact hR2 _ _ _ _ rfl | rfl) ?_
      refine x_sipush hP rfl ?_
      refine x_iload hP rfl rfl ?_
      first | refine z_iadd hP rfl ?_ | refine x_iadd hP rfl ?_
      refine z_iald hP rfl (by first | assumption | rfl) (by first | decide | omega) (by omega) (by first | assumption | exact hR _ _ _ _ rfl | exact hR1 _ _ _ _ rfl | exact hR2 _ _ _ _ rfl | rfl) ?_
      refine x_callV2 (ci := 9) hP 0 0 rfl rfl rfl (by first | assumption | rfl) rfl rfl rfl (Nat.zero_le _) (Nat.zero_le _) ?_
      refine r_putV hP hR (by omega) hv (h8 _ (getD_mem (by rw [List.length_map]; exact hlt))) (fun I1 g1 g2 => ?_)
      refine z_iinc hP rfl rfl rfl ?_
      refine x_goto hP rfl ?_
      exact x_re hP [some (.ref 122), some (.int (iI s)), some (.int (iI m)), some (.int (bI up)), some (.int (iI i)), some (.int (iI (j + 1 : Nat)))] ⟨rfl, rfl, rfl, rfl, rfl, rfl, trivial⟩ (ih (j + 1) I1 (by omega) (rNu_fr hn g2 fun k a i z => by unfold rsT rsF at z; omega) (rq_fT hq (by omega) g2) (by rw [st, ← List.append_assoc]; exact g1) (fun I' L r1 r2 w1 w2 => k I' L r1 r2 w1 (frP_trans g2 w2)) _ _)
theorem r_sort_out (hP : x_closed E P) (hR : x_fin R) (hs : s < 28) (hm : m < 3) {up : Bool} (h30 : ∀ x ∈ l, ∀ e ∈ ol, pt x e < 30) {g : Nat → Nat} (hg : g = fun k => rkc up (fun j => shw nu m ol (l.getD j 0)) k l.length) : ∀ (f i : Nat) (I : x_M Int32), i + f = l.length → rNu I nu → rq I 28 ol (l.map (rfE ol)) → rv I s ol (srO g (l.map (rfE ol)) i) tm → (∀ I', rv I' s ol (srO g (l.map (rfE ol)) l.length) tm → frP (rsT s) I I' → Q none (x_hp I' J R)) → ∀ rc rs, P 205 (d + 3) 29 (x_ls [some (.ref 122), some (.int (iI s)), some (.int (iI m)), some (.int (bI up)), some (.int (iI i)), none]) [] (x_hp I J R) rc rs Q := by
  intro f
  induction f with
  | zero =>
    intro i I hi hn hq hv k rc rs
    have ⟨h1, h2, h3, h4, h5, h6, h7, h8⟩ := hq
    rw [List.length_map] at h1 h4
    obtain rfl : i = l.length := by omega
    refine x_iload hP rfl rfl ?_
    first | refine x_aload_n hP rfl rfl ?_ | refine x_aload_nN hP rfl rfl ?_
    refine x_getR hP rfl (by first | assumption | rfl) (by first | assumption | exact hR _ _ _ _ rfl | exact hR1 _ _ _ _ rfl | exact hR2 _ _ _ _ rfl | rfl) ?_
    refine x_bipush hP rfl ?_
    refine z_iald hP rfl (by first | assumption | rfl) (by first | decide | omega) (by omega) (by first | assumption | exact hR _ _ _ _ rfl | exact hR1 _ _ _ _ rfl | exact hR2 _ _ _ _ rfl | rfl) ?_
    refine z_icmp_ge hP rfl (by omega) (by omega) (fun c38 => ?_) (fun c38 => ?_)
    · refine x_vret hP rfl rfl ?_
      exact k I hv (frP_refl _ _)
    · omega
  | succ f ih =>
    intro i I hi hn hq hv k rc rs
    have ⟨h1, h2, h3, h4, h5, h6, h7, h8⟩ := hq
    rw [List.length_map] at h1 h4
    refine x_iload hP rfl rfl ?_
    first | refine x_aload_n hP rfl rfl ?_ | refine x_aload_nN hP rfl rfl ?_
    refine x_getR hP rfl (by first | assumption | rfl) (by first | assumption | exact hR _ _ _ _ rfl | exact hR1 _ _ _ _ rfl | exact hR2 _ _ _ _ rfl | rfl) ?_
    refine x_bipush hP rfl ?_
    refine z_iald hP rfl (by first | assumption | rfl) (by first | decide | omega) (by omega) (by first | assumption | exact hR _ _ _ _ rfl | exact hR1 _ _ _ _ rfl | exact hR2 _ _ _ _ rfl | rfl) ?_
    refine z_icmp_ge hP rfl (by omega) (by omega) (fun c38 => ?_) (fun c38 => ?_)
    · omega
    refine x_iconst hP rfl ?_
    refine x_istore hP rfl ?_
    refine x_re hP [some (.ref 122), some (.int (iI s)), some (.int (iI m)), some (.int (bI up)), some (.int (iI i)), some (.int (iI (0 : Nat)))] ⟨rfl, rfl, rfl, rfl, rfl, rfl, trivial⟩ (r_sort_in hP hR hs hm h30 hg (show i < l.length by omega) l.length 0 I (by omega) hn hq (by rw [show srI1 g (l.map (rfE ol)) i 0 = [] from rfl, List.append_nil]; exact hv) (fun I1 L r1 r2 w1 w2 hL => ?_) _ _)
    refine x_re hP _ hL ?_
    refine z_iinc hP rfl rfl rfl ?_
    refine x_goto hP rfl ?_
    exact x_re hP [some (.ref 122), some (.int (iI s)), some (.int (iI m)), some (.int (bI up)), some (.int (iI (i + 1 : Nat))), none] ⟨rfl, rfl, rfl, rfl, rfl, trivial⟩ (ih (i + 1) I1 (by omega) (rNu_fr hn w2 fun k a i z => by unfold rsT rsF at z; omega) (rq_fT hq (by omega) w2) w1 (fun I' z1 z2 => k I' z1 (frP_trans w2 z2)) _ _)
theorem r_sort (hP : x_closed E P) (hR : x_fin R) (hs : s < 28) (hm : m < 3) {up : Bool} (h30 : ∀ x ∈ l, ∀ e ∈ ol, pt x e < 30) (hn : rNu I nu) (hq : rq I s ol (l.map (rfE ol))) (hf : I 1602 122 0 = bI tm) (k : ∀ I', rv I' s ol (srO (fun k => rkc up (fun j => shw nu m ol (l.getD j 0)) k l.length) (l.map (rfE ol)) l.length) tm → frP (fun k a i => rsT s k a i ∨ rsF 28 k a i) I I' → Q none (x_hp I' J R)) : P 205 (d + 3) 0 (x_la 0 [.ref 122, .int (iI s), .int (iI m), .int (bI up)]) [] (x_hp I J R) rc rs Q := by
  first | refine x_aload_n hP rfl rfl ?_ | refine x_aload_nN hP rfl rfl ?_
  refine x_iload_n hP rfl rfl ?_
  refine x_bipush hP rfl ?_
  refine x_callV2 (ci := 9) hP 0 0 rfl rfl rfl (by first | assumption | rfl) rfl rfl rfl (Nat.zero_le _) (Nat.zero_le _) ?_
  refine r_copy (s2 := 28) hP hR (by omega) (by decide) (by omega) hq (fun I1 g1 g2 => ?_)
  have ⟨h1, h2, h3, h4, h5, h6, h7, h8⟩ := g1
  first | refine x_aload_n hP rfl rfl ?_ | refine x_aload_nN hP rfl rfl ?_
  refine x_iload_n hP rfl rfl ?_
  first | refine x_aload_n hP rfl rfl ?_ | refine x_aload_nN hP rfl rfl ?_
  refine x_getR hP rfl (by first | assumption | rfl) (by first | assumption | exact hR _ _ _ _ rfl | exact hR1 _ _ _ _ rfl | exact hR2 _ _ _ _ rfl | rfl) ?_
  refine x_bipush hP rfl ?_
  refine z_iald hP rfl (by first | assumption | rfl) (by first | decide | omega) (by omega) (by first | assumption | exact hR _ _ _ _ rfl | exact hR1 _ _ _ _ rfl | exact hR2 _ _ _ _ rfl | rfl) ?_
  first | refine x_aload_n hP rfl rfl ?_ | refine x_aload_nN hP rfl rfl ?_
  refine x_getR hP rfl (by first | assumption | rfl) (by first | assumption | exact hR _ _ _ _ rfl | exact hR1 _ _ _ _ rfl | exact hR2 _ _ _ _ rfl | rfl) ?_
  refine x_bipush hP rfl ?_
  refine z_iald hP rfl (by first | assumption | rfl) (by first | decide | omega) (by omega) (by first | assumption | exact hR _ _ _ _ rfl | exact hR1 _ _ _ _ rfl | exact hR2 _ _ _ _ rfl | rfl) ?_
  refine x_callV3 (ci := 9) hP 0 0 rfl rfl rfl (by first | assumption | rfl) rfl rfl rfl (Nat.zero_le _) (Nat.zero_le _) ?_
  refine r_clear hP hR (by omega) h5 h6 (fun I2 g3 g4 => ?_)
  refine x_iconst hP rfl ?_
  refine x_istore hP rfl ?_
  have ff : frP (rsW s) I I2 := frP_tr g2 g4 (fun _ _ _ => Or.inr) fun _ _ _ => Or.inl
  refine x_re hP [some (.ref 122), some (.int (iI s)), some (.int (iI m)), some (.int (bI up)), some (.int (iI (0 : Nat))), none] ⟨rfl, rfl, rfl, rfl, rfl, trivial⟩ (r_sort_out (up := up) hP hR hs hm h30 rfl l.length 0 I2 (by omega) (rNu_fr hn ff fun k a i z => by unfold rsW rsF at z; omega) (rq_fr g1 g4 fun k a i z => rsF_ne (by omega) z) ⟨g3, ?_⟩ (fun I' w1 w2 => k I' w1 (frP_tr ff w2 (fun k a i z => by rcases z with z | z; exact Or.inl (Or.inl z); exact Or.inr z) fun _ _ _ => Or.inl)) _ _)
  rw [show (tm || decide (200 < (srO (fun k => rkc up (fun j => shw nu m ol (l.getD j 0)) k l.length) (l.map (rfE ol)) 0).length)) = tm from by rw [show srO (fun k => rkc up (fun j => shw nu m ol (l.getD j 0)) k l.length) (l.map (rfE ol)) 0 = [] from rfl, decide_eq_false (by decide), Bool.or_false]]
  exact (ff _ _ _ fun z => by unfold rsW rsF at z; omega).trans hf
theorem r_byTree_loop (hP : x_closed E P) (hR : x_fin R) (hs : s < 28) {T : x_T} {e : Nat} (he : e < tD T) {ts : List Nat} : ∀ (f i : Nat) (I : x_M Int32), i + f = tS T e → rTr I J T → rLy I T → rq I 28 [e] ts → rq I s [e] ((wl (tP T e) (tS T e) 0 i).filter fun j => decide (j ∈ ts)) → (∀ I', rq I' s [e] ((wl (tP T e) (tS T e) 0 (tS T e)).filter fun j => decide (j ∈ ts)) → frP (rsF s) I I' → Q none (x_hp I' J R)) → ∀ rc rs, P 200 (d + 1) 32 (x_ls [some (.ref 122), some (.int (iI s)), some (.int (iI (30 * e : Nat))), some (.int (iI i))]) [] (x_hp I J R) rc rs Q := by
  intro f
  induction f with
  | zero =>
    intro i I hi hc hy hq hq2 k rc rs
    have w3 := hc.2.2.2.2.2
    have w1 := w3.1
    have w2 := (w3.2.2 e he).2.1
    have v1 := hc.2.2.1 e he
    have kk : I 1 142 s = iI (e : Nat) := hq2.2.2.1
    obtain rfl : i = tS T e := by omega
    refine x_iload_n hP rfl rfl ?_
    first | refine x_aload_n hP rfl rfl ?_ | refine x_aload_nN hP rfl rfl ?_
    refine x_getR hP rfl (by first | assumption | rfl) (by first | assumption | exact hR _ _ _ _ rfl | exact hR1 _ _ _ _ rfl | exact hR2 _ _ _ _ rfl | rfl) ?_
    first | refine x_aload_n hP rfl rfl ?_ | refine x_aload_nN hP rfl rfl ?_
    refine x_getR hP rfl (by first | assumption | rfl) (by first | assumption | exact hR _ _ _ _ rfl | exact hR1 _ _ _ _ rfl | exact hR2 _ _ _ _ rfl | rfl) ?_
    refine x_iload_n hP rfl rfl ?_
    refine z_iald hP rfl (by first | assumption | rfl) (by first | decide | omega) (by omega) (by first | assumption | exact hR _ _ _ _ rfl | exact hR1 _ _ _ _ rfl | exact hR2 _ _ _ _ rfl | rfl) ?_
    refine z_iald hP rfl (by first | assumption | rfl) (by first | decide | omega) (by omega) (by first | assumption | exact hR _ _ _ _ rfl | exact hR1 _ _ _ _ rfl | exact hR2 _ _ _ _ rfl | rfl) ?_
    refine z_icmp_ge hP rfl (by omega) (by omega) (fun c44 => ?_) (fun c44 => ?_)
    · refine x_vret hP rfl rfl ?_
      exact k I hq2 (frP_refl _ _)
    · omega
  | succ f ih =>
    intro i I hi hc hy hq hq2 k rc rs
    have w3 := hc.2.2.2.2.2
    have w1 := w3.1
    have w2 := (w3.2.2 e he).2.1
    have v1 := hc.2.2.1 e he
    have kk : I 1 142 s = iI (e : Nat) := hq2.2.2.1
    have v2 := (hy e he i (by omega)).2.1
    have wf := twf_wfp w3 he
    have ok := orr_ok (i := i) wf (by omega)
    have st : wl (tP T e) (tS T e) 0 (i + 1) = wl (tP T e) (tS T e) 0 i ++ [orr (tP T e) (tS T e) i] := by unfold wl; rw [mk_snoc, Nat.zero_add]
    have ll : ((wl (tP T e) (tS T e) 0 i).filter fun j => decide (j ∈ ts)).length ≤ i := Nat.le_trans (List.length_filter_le _ _) (by unfold wl; rw [mk_len]; exact Nat.le_refl _)
    refine x_iload_n hP rfl rfl ?_
    first | refine x_aload_n hP rfl rfl ?_ | refine x_aload_nN hP rfl rfl ?_
    refine x_getR hP rfl (by first | assumption | rfl) (by first | assumption | exact hR _ _ _ _ rfl | exact hR1 _ _ _ _ rfl | exact hR2 _ _ _ _ rfl | rfl) ?_
    first | refine x_aload_n hP rfl rfl ?_ | refine x_aload_nN hP rfl rfl ?_
    refine x_getR hP rfl (by first | assumption | rfl) (by first | assumption | exact hR _ _ _ _ rfl | exact hR1 _ _ _ _ rfl | exact hR2 _ _ _ _ rfl | rfl) ?_
    refine x_iload_n hP rfl rfl ?_
    refine z_iald hP rfl (by first | assumption | rfl) (by first | decide | omega) (by omega) (by first | assumption | exact hR _ _ _ _ rfl | exact hR1 _ _ _ _ rfl | exact hR2 _ _ _ _ rfl | rfl) ?_
    refine z_iald hP rfl (by first | assumption | rfl) (by first | decide | omega) (by omega) (by first | assumption | exact hR _ _ _ _ rfl | exact hR1 _ _ _ _ rfl | exact hR2 _ _ _ _ rfl | rfl) ?_
    refine z_icmp_ge hP rfl (by omega) (by omega) (fun c44 => ?_) (fun c44 => ?_)
    · omega
    first | refine x_aload_n hP rfl rfl ?_ | refine x_aload_nN hP rfl rfl ?_
    refine x_bipush hP rfl ?_
    first | refine x_aload_n hP rfl rfl ?_ | refine x_aload_nN hP rfl rfl ?_
    refine x_getR hP rfl (by first | assumption | rfl) (by first | assumption | exact hR _ _ _ _ rfl | exact hR1 _ _ _ _ rfl | exact hR2 _ _ _ _ rfl | rfl) ?_
    refine x_iload_n hP rfl rfl ?_
    refine x_iload_n hP rfl rfl ?_
    first | refine z_iadd hP rfl ?_ | refine x_iadd hP rfl ?_
    refine z_iald hP rfl (by first | assumption | rfl) (by first | decide | omega) (by omega) (by first | assumption | exact hR _ _ _ _ rfl | exact hR1 _ _ _ _ rfl | exact hR2 _ _ _ _ rfl | rfl) ?_
    refine x_callV2 (ci := 9) hP 0 0 rfl rfl rfl (by first | assumption | rfl) rfl rfl rfl (Nat.zero_le _) (Nat.zero_le _) ?_
    refine r_isIn hP hR (by decide) hq (by omega) ?_
    first | refine zb_if_eq hP rfl (fun c61 => ?_) (fun c61 => ?_) | refine zl_if_eq hP rfl (fun c61 => ?_) (fun c61 => ?_) | refine z_if_eq hP rfl (by omega) (fun c61 => ?_) (fun c61 => ?_)
    · have c61 := of_decide_eq_false c61
      refine z_iinc hP rfl rfl rfl ?_
      refine x_goto hP rfl ?_
      exact x_re hP [some (.ref 122), some (.int (iI s)), some (.int (iI (30 * e : Nat))), some (.int (iI (i + 1 : Nat)))] ⟨rfl, rfl, rfl, rfl, trivial⟩ (ih (i + 1) I (by omega) hc hy hq (by rw [st, List.filter_append, List.filter_cons_of_neg (by rw [decide_eq_true_iff]; exact c61), List.filter_nil, List.append_nil]; exact hq2) k _ _)
    · first | refine x_aload_n hP rfl rfl ?_ | refine x_aload_nN hP rfl rfl ?_
      refine x_iload_n hP rfl rfl ?_
      first | refine x_aload_n hP rfl rfl ?_ | refine x_aload_nN hP rfl rfl ?_
      refine x_getR hP rfl (by first | assumption | rfl) (by first | assumption | exact hR _ _ _ _ rfl | exact hR1 _ _ _ _ rfl | exact hR2 _ _ _ _ rfl | rfl) ?_
      refine x_iload_n hP rfl rfl ?_
      refine x_iload_n hP rfl rfl ?_
      first | refine z_iadd hP rfl ?_ | refine x_iadd hP rfl ?_
      refine z_iald hP rfl (by first | assumption | rfl) (by first | decide | omega) (by omega) (by first | assumption | exact hR _ _ _ _ rfl | exact hR1 _ _ _ _ rfl | exact hR2 _ _ _ _ rfl | rfl) ?_
      refine x_callV2 (ci := 9) hP 0 0 rfl rfl rfl (by first | assumption | rfl) rfl rfl rfl (Nat.zero_le _) (Nat.zero_le _) ?_
      refine r_put1 hP hR (by omega) hq2 (by omega) (by omega) (fun I1 g1 g2 => ?_)
      refine z_iinc hP rfl rfl rfl ?_
      refine x_goto hP rfl ?_
      exact x_re hP [some (.ref 122), some (.int (iI s)), some (.int (iI (30 * e : Nat))), some (.int (iI (i + 1 : Nat)))] ⟨rfl, rfl, rfl, rfl, trivial⟩ (ih (i + 1) I1 (by omega) (rTr_fr hc g2 (frP_refl _ _) fun k a i z => by unfold rsF at z; omega) (rLy_fr hy g2 fun k a i z => by unfold rsF at z; omega) (rq_fr hq g2 fun k a i z => rsF_ne (by omega) z) (by rw [st, List.filter_append, List.filter_cons_of_pos (by exact c61), List.filter_nil]; exact g1) (fun I' w1 w2 => k I' w1 (frP_trans g2 w2)) _ _)
theorem r_byTree (hP : x_closed E P) (hR : x_fin R) (hs : s < 28) {T : x_T} {e : Nat} (he : e < tD T) {ts : List Nat} (hc : rTr I J T) (hy : rLy I T) (hq : rq I s [e] ts) (k : ∀ I', rq I' s [e] ((wl (tP T e) (tS T e) 0 (tS T e)).filter fun j => decide (j ∈ ts)) → frP (rsW s) I I' → Q none (x_hp I' J R)) : P 200 (d + 2) 0 (x_la 0 [.ref 122, .int (iI s)]) [] (x_hp I J R) rc rs Q := by
  have w3 := hc.2.2.2.2.2
  have w1 := w3.1
  first | refine x_aload_n hP rfl rfl ?_ | refine x_aload_nN hP rfl rfl ?_
  refine x_iload_n hP rfl rfl ?_
  refine x_bipush hP rfl ?_
  refine x_callV2 (ci := 9) hP 0 0 rfl rfl rfl (by first | assumption | rfl) rfl rfl rfl (Nat.zero_le _) (Nat.zero_le _) ?_
  refine r_copy (s2 := 28) hP hR (by omega) (by decide) (by omega) hq (fun I1 g1 g2 => ?_)
  have ⟨h1, h2, h3, h4, h5, h6, h7, h8⟩ := g1
  first | refine x_aload_n hP rfl rfl ?_ | refine x_aload_nN hP rfl rfl ?_
  refine x_iload_n hP rfl rfl ?_
  refine x_iconst hP rfl ?_
  first | refine x_aload_n hP rfl rfl ?_ | refine x_aload_nN hP rfl rfl ?_
  refine x_getR hP rfl (by first | assumption | rfl) (by first | assumption | exact hR _ _ _ _ rfl | exact hR1 _ _ _ _ rfl | exact hR2 _ _ _ _ rfl | rfl) ?_
  refine x_bipush hP rfl ?_
  refine z_iald hP rfl (by first | assumption | rfl) (by first | decide | omega) (by omega) (by first | assumption | exact hR _ _ _ _ rfl | exact hR1 _ _ _ _ rfl | exact hR2 _ _ _ _ rfl | rfl) ?_
  refine x_callV3 (ci := 9) hP 0 0 rfl rfl rfl (by first | assumption | rfl) rfl rfl rfl (Nat.zero_le _) (Nat.zero_le _) ?_
  refine r_clear (ol := [e]) hP hR (by omega) h5 h6 (fun I2 g3 g4 => ?_)
  have kk : I2 1 142 s = iI (e : Nat) := g3.2.2.1
  refine x_bipush hP rfl ?_
  first | refine x_aload_n hP rfl rfl ?_ | refine x_aload_nN hP rfl rfl ?_
  refine x_getR hP rfl (by first | assumption | rfl) (by first | assumption | exact hR _ _ _ _ rfl | exact hR1 _ _ _ _ rfl | exact hR2 _ _ _ _ rfl | rfl) ?_
  refine x_iload_n hP rfl rfl ?_
  refine z_iald hP rfl (by first | assumption | rfl) (by first | decide | omega) (by omega) (by first | assumption | exact hR _ _ _ _ rfl | exact hR1 _ _ _ _ rfl | exact hR2 _ _ _ _ rfl | rfl) ?_
  first | refine z_imul hP rfl ?_ | refine x_imul hP rfl ?_
  refine x_istore_n hP rfl ?_
  refine x_iconst hP rfl ?_
  refine x_istore_n hP rfl ?_
  have ff : frP (rsW s) I I2 := frP_tr g2 g4 (fun _ _ _ => Or.inr) fun _ _ _ => Or.inl
  exact x_re hP [some (.ref 122), some (.int (iI s)), some (.int (iI (30 * e : Nat))), some (.int (iI (0 : Nat)))] ⟨rfl, rfl, rfl, rfl, trivial⟩ (r_byTree_loop (d := d + 1) hP hR hs he (tS T e) 0 I2 (by omega) (rTr_fr hc ff (frP_refl _ _) fun k a i z => by unfold rsW rsF at z; omega) (rLy_fr hy ff fun k a i z => by unfold rsW rsF at z; omega) (rq_fr g1 g4 fun k a i z => rsF_ne (by omega) z) g3 (fun I' w1 w2 => k I' w1 (frP_tr ff w2 (fun _ _ _ z => z) fun _ _ _ => Or.inl)) _ _)
end
