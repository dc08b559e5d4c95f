/-! THE REFERENCE: the acts of a row -/
section
variable {E : x_E} {P : x_Pr} {d rc rs : Nat} {J : x_M Int64} {R : x_M (Option Nat)} {Q : x_Q} {T : x_T} {e s a : Nat} {ts : List Nat}
theorem r_each_loop (hP : x_closed E P) (hR : x_fin R) (he : e < tD T) (hs : s < 28) (ha : a < 9) (hl : ∀ t ∈ ts, t < tS T e) : ∀ (f i : Nat) (I : x_M Int32) (fd : List Nat), i + f = ts.length → fd = adds [] ((ts.take i).flatMap (refL (tP T e) (tS T e) (tH T e) a)) → rTr I J T → rLy I T → rq I 29 [e] ts → gd fd → rq I s [e] fd → (∀ I', gd (adds [] (ts.flatMap (refL (tP T e) (tS T e) (tH T e) a))) → rq I' s [e] (adds [] (ts.flatMap (refL (tP T e) (tS T e) (tH T e) a))) → frP (rsF s) I I' → Q none (x_hp I' J R)) → ∀ rc rs, P 207 (d + 2) 22 (x_ls [some (.ref 122), some (.int (iI s)), some (.int (iI a)), some (.int (iI i))]) [] (x_hp I J R) rc rs Q := by
  intro f
  induction f with
  | zero =>
    intro i I fd hi hfd hc hy hq hg hq2 k rc rs
    have ⟨h1, h2, h3, h4, h5, h6, h7, h8⟩ := hq
    rw [List.take_of_length_le (by omega)] at hfd
    rw [hfd] at hg hq2
    refine x_iload_n hP rfl rfl ?_
    first | refine x_aload_n hP rfl rfl ?_ | refine x_aload_nN hP rfl rfl ?_
    refine x_getR hP rfl (by first | assumption | rfl) (by first | assumption | exact hR _ _ _ _ rfl | exact hR1 _ _ _ _ rfl | exact hR2 _ _ _ _ rfl | rfl) ?_
    refine x_bipush hP rfl ?_
    refine z_iald hP rfl (by first | assumption | rfl) (by first | decide | omega) (by omega) (by first | assumption | exact hR _ _ _ _ rfl | exact hR1 _ _ _ _ rfl | exact hR2 _ _ _ _ rfl | rfl) ?_
    refine z_icmp_ge hP rfl (by omega) (by omega) (fun c30 => ?_) (fun c30 => ?_)
    · refine x_vret hP rfl rfl ?_
      exact k I hg hq2 (frP_refl _ _)
    · omega
  | succ f ih =>
    intro i I fd hi hfd hc hy hq hg hq2 k rc rs
    have ⟨h1, h2, h3, h4, h5, h6, h7, h8⟩ := hq
    have w1 := hc.2.2.2.2.2.1
    have hlt : i < ts.length := by omega
    have v : I 1 139 (5829 + i) = iI (ts.getD i 0) := h7 i hlt
    have tl := hl _ (getD_mem hlt)
    have kk : I 1 142 s = iI (e : Nat) := hq2.2.2.1
    refine x_iload_n hP rfl rfl ?_
    first | refine x_aload_n hP rfl rfl ?_ | refine x_aload_nN hP rfl rfl ?_
    refine x_getR hP rfl (by first | assumption | rfl) (by first | assumption | exact hR _ _ _ _ rfl | exact hR1 _ _ _ _ rfl | exact hR2 _ _ _ _ rfl | rfl) ?_
    refine x_bipush hP rfl ?_
    refine z_iald hP rfl (by first | assumption | rfl) (by first | decide | omega) (by omega) (by first | assumption | exact hR _ _ _ _ rfl | exact hR1 _ _ _ _ rfl | exact hR2 _ _ _ _ rfl | rfl) ?_
    refine z_icmp_ge hP rfl (by omega) (by omega) (fun c30 => ?_) (fun c30 => ?_)
    · omega
    first | refine x_aload_n hP rfl rfl ?_ | refine x_aload_nN hP rfl rfl ?_
    refine x_iload_n hP rfl rfl ?_
    refine x_bipush hP rfl ?_
    first | refine x_aload_n hP rfl rfl ?_ | refine x_aload_nN hP rfl rfl ?_
    refine x_getR hP rfl (by first | assumption | rfl) (by first | assumption | exact hR _ _ _ _ rfl | exact hR1 _ _ _ _ rfl | exact hR2 _ _ _ _ rfl | rfl) ?_
    refine x_iload_n hP rfl rfl ?_
    refine z_iald hP rfl (by first | assumption | rfl) (by first | decide | omega) (by omega) (by first | assumption | exact hR _ _ _ _ rfl | exact hR1 _ _ _ _ rfl | exact hR2 _ _ _ _ rfl | rfl) ?_
    first | refine z_imul hP rfl ?_ | refine x_imul hP rfl ?_
    first | refine x_aload_n hP rfl rfl ?_ | refine x_aload_nN hP rfl rfl ?_
    refine x_getR hP rfl (by first | assumption | rfl) (by first | assumption | exact hR _ _ _ _ rfl | exact hR1 _ _ _ _ rfl | exact hR2 _ _ _ _ rfl | rfl) ?_
    refine x_sipush hP rfl ?_
    refine x_iload_n hP rfl rfl ?_
    first | refine z_iadd hP rfl ?_ | refine x_iadd hP rfl ?_
    refine z_iald hP rfl (by first | assumption | rfl) (by first | decide | omega) (by omega) (by first | assumption | exact hR _ _ _ _ rfl | exact hR1 _ _ _ _ rfl | exact hR2 _ _ _ _ rfl | rfl) ?_
    first | refine z_iadd hP rfl ?_ | refine x_iadd hP rfl ?_
    rw [show 30 * (e : Int) + (ts.getD i 0 : Nat) = ((30 * e + ts.getD i 0 : Nat) : Int) by omega]
    refine x_iload_n hP rfl rfl ?_
    refine x_callV3 (ci := 9) hP 0 0 rfl rfl rfl (by first | assumption | rfl) rfl rfl rfl (Nat.zero_le _) (Nat.zero_le _) ?_
    refine r_does hP hR he hs tl ha hc hy hg hq2 (fun I1 g1 g2 g3 => ?_)
    refine z_iinc hP rfl rfl rfl ?_
    refine x_goto hP rfl ?_
    exact x_re hP [some (.ref 122), some (.int (iI s)), some (.int (iI a)), some (.int (iI (i + 1 : Nat)))] ⟨rfl, rfl, rfl, rfl, trivial⟩ (ih (i + 1) I1 _ (by omega) (by rw [hfd, takec hlt, List.flatMap_append, adds_app, List.flatMap_cons, List.flatMap_nil, List.append_nil]) (rTr_fr hc g3 (frP_refl _ _) fun k a i z => by unfold rsF at z; omega) (rLy_fr hy g3 fun k a i z => by unfold rsF at z; omega) (rq_fr hq g3 fun k a i z => rsF_ne (by omega) z) g1 g2 (fun I' z1 z2 z3 => k I' z1 z2 (frP_trans g3 z3)) _ _)
theorem r_each (hP : x_closed E P) (hR : x_fin R) (he : e < tD T) (hs : s < 28) (ha : a < 9) (hl : ∀ t ∈ ts, t < tS T e) {I : x_M Int32} (hc : rTr I J T) (hy : rLy I T) (hq : rq I s [e] ts) (k : ∀ I', gd (adds [] (ts.flatMap (refL (tP T e) (tS T e) (tH T e) a))) → rq I' s [e] (adds [] (ts.flatMap (refL (tP T e) (tS T e) (tH T e) a))) → frP (fun k a i => rsF s k a i ∨ rsF 29 k a i) I I' → Q none (x_hp I' J R)) : P 207 (d + 2) 0 (x_la 0 [.ref 122, .int (iI s), .int (iI a)]) [] (x_hp I J R) rc rs Q := by
  have w1 := hc.2.2.2.2.2.1
  first | refine x_aload_n hP rfl rfl ?_ | refine x_aload_nN hP rfl rfl ?_
  refine x_iload_n hP rfl rfl ?_
  refine x_bipush hP rfl ?_
  refine x_callV2 (ci := 9) hP 0 0 rfl rfl rfl (by first | assumption | rfl) rfl rfl rfl (Nat.zero_le _) (Nat.zero_le _) ?_
  refine r_copy (s2 := 29) hP hR (by omega) (by decide) (by omega) hq (fun I1 g1 g2 => ?_)
  have ⟨h1, h2, h3, h4, h5, h6, h7, h8⟩ := g1
  first | refine x_aload_n hP rfl rfl ?_ | refine x_aload_nN hP rfl rfl ?_
  refine x_iload_n hP rfl rfl ?_
  refine x_iconst hP rfl ?_
  first | refine x_aload_n hP rfl rfl ?_ | refine x_aload_nN hP rfl rfl ?_
  refine x_getR hP rfl (by first | assumption | rfl) (by first | assumption | exact hR _ _ _ _ rfl | exact hR1 _ _ _ _ rfl | exact hR2 _ _ _ _ rfl | rfl) ?_
  refine x_bipush hP rfl ?_
  refine z_iald hP rfl (by first | assumption | rfl) (by first | decide | omega) (by omega) (by first | assumption | exact hR _ _ _ _ rfl | exact hR1 _ _ _ _ rfl | exact hR2 _ _ _ _ rfl | rfl) ?_
  refine x_callV3 (ci := 9) hP 0 0 rfl rfl rfl (by first | assumption | rfl) rfl rfl rfl (Nat.zero_le _) (Nat.zero_le _) ?_
  refine r_clear (ol := [e]) hP hR (by omega) h5 h6 (fun I2 g3 g4 => ?_)
  refine x_iconst hP rfl ?_
  refine x_istore_n hP rfl ?_
  have ff : frP (fun k a i => rsF s k a i ∨ rsF 29 k a i) I I2 := frP_tr g2 g4 (fun _ _ _ => Or.inr) fun _ _ _ => Or.inl
  exact x_re hP [some (.ref 122), some (.int (iI s)), some (.int (iI a)), some (.int (iI (0 : Nat)))] ⟨rfl, rfl, rfl, rfl, trivial⟩ (r_each_loop hP hR he hs ha hl ts.length 0 I2 [] (by omega) rfl (rTr_fr hc ff (frP_refl _ _) fun k a i z => by unfold rsF at z; omega) (rLy_fr hy ff fun k a i z => by unfold rsF at z; omega) (rq_fr g1 g4 fun k a i z => rsF_ne (by omega) z) gd_nil g3 (fun I' z1 z2 z3 => k I' z1 z2 (frP_tr ff z3 (fun _ _ _ z => z) fun _ _ _ => Or.inl)) _ _)
end
