/-! THE REFERENCE: the acts, over all -/
def doL (p : Nat → Int) (s : Nat) (H : Nat → Nat) (a k n : Nat) : List Nat := (mk n (jOf p s a)).filter (isB p s H a k)
section
variable {E : x_E} {P : x_Pr} {d rc rs : Nat} {J : x_M Int64} {R : x_M (Option Nat)} {Q : x_Q} {T : x_T} {e r : Nat} {fd : List Nat}
theorem r_addM (hP : x_closed E P) (hR : x_fin R) (hr : r < 28) {I : x_M Int32} {j : Nat} (hj : j < 30) (hg : gd fd) (hq : rq I r [e] fd) {y pc1 pc2 : Nat} {L : x_L} (k1 : ∀ I' r1 r2, rq I' r [e] (adL fd j) → frP (rsF r) I I' → P y (d + 1) pc2 L [] (x_hp I' J R) r1 r2 Q) (hput : ¬ j ∈ fd → (∀ I', rq I' r [e] (fd ++ [j]) → frP (rsF r) I I' → ∀ r1 r2, P y (d + 1) pc2 L [] (x_hp I' J R) r1 r2 Q) → ∀ r1 r2, P y (d + 1) pc1 L [.int (bI false)] (x_hp I J R) r1 r2 Q) (hskip : j ∈ fd → (∀ r1 r2, P y (d + 1) pc2 L [] (x_hp I J R) r1 r2 Q) → ∀ r1 r2, P y (d + 1) pc1 L [.int (bI true)] (x_hp I J R) r1 r2 Q) : ∀ r1 r2, P y (d + 1) pc1 L [.int (bI (decide (j ∈ fd)))] (x_hp I J R) r1 r2 Q := by
  intro r1 r2
  unfold adL at k1
  by_cases q : j ∈ fd
  · rw [decide_eq_true q]
    exact hskip q (fun r1 r2 => k1 I r1 r2 (by rw [if_pos q]; exact hq) (frP_refl _ _)) _ _
  · rw [decide_eq_false q]
    exact hput q (fun I' w1 w2 r1 r2 => k1 I' r1 r2 (by rw [if_neg q]; exact w1) w2) _ _
theorem r_does_loop (hP : x_closed E P) (hR : x_fin R) (he : e < tD T) (hr : r < 28) {kk a : Nat} (hk : kk < tS T e) (ha : a < 9) : ∀ (f i : Nat) (I : x_M Int32) (fd : List Nat), i + f = tS T e → rTr I J T → rLy I T → gd fd → rq I r [e] fd → (∀ I' fd' L r1 r2, fd' = adds fd (((mk f fun q => jOf (tP T e) (tS T e) a (i + q))).filter (isB (tP T e) (tS T e) (tH T e) a kk)) → gd fd' → rq I' r [e] fd' → frP (rsF r) I I' → x_ag L 0 [some (.ref 122), some (.int (iI a)), some (.int (iI (30 * e + kk : Nat))), some (.int (iI r)), some (.int (iI e)), some (.int (iI (30 * e : Nat))), some (.int (iI kk)), some (.int (iI (tP T e kk)))] → P 188 (d + 1) 451 L [] (x_hp I' J R) r1 r2 Q) → ∀ rc rs, P 188 (d + 1) 30 (x_ls [some (.ref 122), some (.int (iI a)), some (.int (iI (30 * e + kk : Nat))), some (.int (iI r)), some (.int (iI e)), some (.int (iI (30 * e : Nat))), some (.int (iI kk)), some (.int (iI (tP T e kk))), some (.int (iI i)), none, none, none]) [] (x_hp I J R) rc rs Q := by
  intro f
  induction f with
  | zero =>
    intro i I fd hi hc hy hg hq k rc rs
    have w3 := hc.2.2.2.2.2
    have w1 := w3.1
    have w2 := (w3.2.2 e he).2.1
    have v1 := hc.2.2.1 e he
    refine x_iload hP rfl rfl ?_
    first | refine x_aload_n hP rfl rfl ?_ | refine x_aload_nN hP rfl rfl ?_
    refine x_getR hP rfl (by first | assumption | rfl) (by first | assumption | exact hR _ _ _ _ rfl | exact hR1 _ _ _ _ rfl | exact hR2 _ _ _ _ rfl | rfl) ?_
    refine x_iload hP rfl rfl ?_
    refine z_iald hP rfl (by first | assumption | rfl) (by first | decide | omega) (by omega) (by first | assumption | exact hR _ _ _ _ rfl | exact hR1 _ _ _ _ rfl | exact hR2 _ _ _ _ rfl | rfl) ?_
    refine z_icmp_ge hP rfl (by omega) (by omega) (fun c39 => ?_) (fun c39 => ?_)
    · exact k I fd _ _ _ rfl hg hq (frP_refl _ _) ⟨rfl, rfl, rfl, rfl, rfl, rfl, rfl, rfl, trivial⟩
    · omega
  | succ f ih =>
    intro i I fd hi hc hy hg hq k rc rs
    have w3 := hc.2.2.2.2.2
    have w1 := w3.1
    have w2 := (w3.2.2 e he).2.1
    have v1 := hc.2.2.1 e he
    have wf := twf_wfp w3 he
    have pk := wfp_rg wf hk
    have v2 := (hy e he i (by omega)).2.1
    have ok := orr_ok (i := i) wf (by omega)
    have mkc : (mk (f + 1) fun q => jOf (tP T e) (tS T e) a (i + q)) = jOf (tP T e) (tS T e) a i :: (mk f fun q => jOf (tP T e) (tS T e) a (i + 1 + q)) := by
      refine lext (by rw [mk_len, List.length_cons, mk_len]) fun z hz => ?_
      rw [mk_len] at hz
      rw [mk_get hz]
      cases z with
      | zero => rfl
      | succ z =>
        rw [show (jOf (tP T e) (tS T e) a i :: (mk f fun q => jOf (tP T e) (tS T e) a (i + 1 + q))).getD (z + 1) 0 = (mk f fun q => jOf (tP T e) (tS T e) a (i + 1 + q)).getD z 0 from rfl, mk_get (by omega), show i + (z + 1) = i + 1 + z by omega]
    have jl : jOf (tP T e) (tS T e) a i < tS T e := by unfold jOf; split <;> omega
    rw [mkc, List.filter_cons] at k
    have nx : ∀ I1 fd1, (∀ l, adds fd1 l = adds fd (if isB (tP T e) (tS T e) (tH T e) a kk (jOf (tP T e) (tS T e) a i) = true then jOf (tP T e) (tS T e) a i :: l else l)) → gd fd1 → rq I1 r [e] fd1 → frP (rsF r) I I1 → ∀ L r1 r2, x_ag L 0 [some (.ref 122), some (.int (iI a)), some (.int (iI (30 * e + kk : Nat))), some (.int (iI r)), some (.int (iI e)), some (.int (iI (30 * e : Nat))), some (.int (iI kk)), some (.int (iI (tP T e kk))), some (.int (iI i))] → P 188 (d + 1) 445 L [] (x_hp I1 J R) r1 r2 Q := by
      intro I1 fd1 hfd hg1 hq1 f1 L r1 r2 hL
      refine x_re hP _ hL ?_
      refine z_iinc hP rfl rfl rfl ?_
      refine x_goto hP rfl ?_
      exact x_re hP [some (.ref 122), some (.int (iI a)), some (.int (iI (30 * e + kk : Nat))), some (.int (iI r)), some (.int (iI e)), some (.int (iI (30 * e : Nat))), some (.int (iI kk)), some (.int (iI (tP T e kk))), some (.int (iI (i + 1 : Nat))), none, none, none] ⟨rfl, rfl, rfl, rfl, rfl, rfl, rfl, rfl, rfl, trivial⟩ (ih (i + 1) I1 fd1 (by omega) (rTr_fr hc f1 (frP_refl _ _) fun k a i z => by unfold rsF at z; omega) (rLy_fr hy f1 fun k a i z => by unfold rsF at z; omega) hg1 hq1 (fun I' fd' L r1 r2 w1 w2 w3 w4 w5 => k I' fd' L r1 r2 (by rw [w1, hfd]) w2 w3 (frP_trans f1 w4) w5) _ _)
    have jd : jOf (tP T e) (tS T e) a i = if a = 1 ∨ a = 2 then orr (tP T e) (tS T e) i else i := rfl
    clear k mkc
    generalize jOf (tP T e) (tS T e) a i = j at jl nx jd
    have j30 : j < 30 := by omega
    have stD := r_isC (d := d) (i := i) (rw0 := (r : Int)) hP hR hc hy he hk jl ha (Q := Q) (fun L r1 r2 hL => by
      refine x_re hP _ hL ?_
      generalize isB (tP T e) (tS T e) (tH T e) a kk j = b at nx
      refine x_iload hP rfl rfl ?_
      first | refine zb_if_eq hP rfl (fun c425 => ?_) (fun c425 => ?_) | refine zl_if_eq hP rfl (fun c425 => ?_) (fun c425 => ?_) | refine z_if_eq hP rfl (by omega) (fun c425 => ?_) (fun c425 => ?_)
      · refine nx I fd (fun l => by rw [c425]; rfl) hg hq (frP_refl _ _) _ _ _ ⟨rfl, rfl, rfl, rfl, rfl, rfl, rfl, rfl, rfl, trivial⟩
      · rw [c425] at nx
        first | refine x_aload_n hP rfl rfl ?_ | refine x_aload_nN hP rfl rfl ?_
        refine x_iload_n hP rfl rfl ?_
        refine x_iload hP rfl rfl ?_
        refine x_callV2 (ci := 9) hP 0 0 rfl rfl rfl (by first | assumption | rfl) rfl rfl rfl (Nat.zero_le _) (Nat.zero_le _) ?_
        refine r_isIn hP hR (by omega) hq (by omega) ?_
        refine r_addM (d := d) (pc2 := 445) hP hR hr j30 hg hq (fun I' r1 r2 z1 z2 => ?_) (fun hn kk2 r1 r2 => ?_) (fun hy2 kk2 r1 r2 => ?_) _ _
        · exact nx I' (adL fd j) (fun l => rfl) (gd_ad hg j30) z1 z2 _ _ _ ⟨rfl, rfl, rfl, rfl, rfl, rfl, rfl, rfl, rfl, trivial⟩
        · first | refine zb_if_ne hP rfl (fun c435 => ?_) (fun c435 => ?_) | refine zl_if_ne hP rfl (fun c435 => ?_) (fun c435 => ?_) | refine z_if_ne hP rfl (by omega) (fun c435 => ?_) (fun c435 => ?_)
          · cases c435
          first | refine x_aload_n hP rfl rfl ?_ | refine x_aload_nN hP rfl rfl ?_
          refine x_iload_n hP rfl rfl ?_
          refine x_iload hP rfl rfl ?_
          refine x_callV2 (ci := 9) hP 0 0 rfl rfl rfl (by first | assumption | rfl) rfl rfl rfl (Nat.zero_le _) (Nat.zero_le _) ?_
          exact r_put1 hP hR (by omega) hq (by have := gd_len hg; omega) (by omega) (fun I' z1 z2 => kk2 I' z1 z2 _ _)
        · first | refine zb_if_ne hP rfl (fun c435 => ?_) (fun c435 => ?_) | refine zl_if_ne hP rfl (fun c435 => ?_) (fun c435 => ?_) | refine z_if_ne hP rfl (by omega) (fun c435 => ?_) (fun c435 => ?_)
          · exact kk2 _ _
          · cases c435)
    have n2 : I 1 129 (30 * e + j) = iI (tP T e j) := (hc.2.2.2.1 e he j jl).2.1
    have pj := wfp_rg wf jl
    have stB : ∀ L r1 r2, x_ag L 0 [some (.ref 122), some (.int (iI a)), some (.int (iI (30 * e + kk : Nat))), some (.int (iI r)), some (.int (iI e)), some (.int (iI (30 * e : Nat))), some (.int (iI kk)), some (.int (iI (tP T e kk))), some (.int (iI i)), some (.int (iI j))] → P 188 (d + 1) 69 L [] (x_hp I J R) r1 r2 Q := by
      intro L r1 r2 hL
      refine x_re hP _ hL ?_
      have tr : kinB (tP T e) kk j = true → ∀ L r1 r2, x_ag L 0 [some (.ref 122), some (.int (iI a)), some (.int (iI (30 * e + kk : Nat))), some (.int (iI r)), some (.int (iI e)), some (.int (iI (30 * e : Nat))), some (.int (iI kk)), some (.int (iI (tP T e kk))), some (.int (iI i)), some (.int (iI j))] → P 188 (d + 1) 103 L [] (x_hp I J R) r1 r2 Q := by
        intro hb L r1 r2 hL
        refine x_re hP _ hL ?_
        refine x_iconst hP rfl ?_
        refine x_goto hP rfl ?_
        refine x_istore hP rfl ?_
        exact stD _ _ _ ⟨rfl, rfl, rfl, rfl, rfl, rfl, rfl, rfl, rfl, rfl, by rw [hb]; rfl, trivial⟩
      have fa : kinB (tP T e) kk j = false → ∀ L r1 r2, x_ag L 0 [some (.ref 122), some (.int (iI a)), some (.int (iI (30 * e + kk : Nat))), some (.int (iI r)), some (.int (iI e)), some (.int (iI (30 * e : Nat))), some (.int (iI kk)), some (.int (iI (tP T e kk))), some (.int (iI i)), some (.int (iI j))] → P 188 (d + 1) 107 L [] (x_hp I J R) r1 r2 Q := by
        intro hb L r1 r2 hL
        refine x_re hP _ hL ?_
        refine x_iconst hP rfl ?_
        refine x_istore hP rfl ?_
        exact stD _ _ _ ⟨rfl, rfl, rfl, rfl, rfl, rfl, rfl, rfl, rfl, rfl, by rw [hb]; rfl, trivial⟩
      refine x_iload hP rfl rfl ?_
      refine x_iconst hP rfl ?_
      first | refine z_icmp_eq hP rfl (by omega) (by omega) (fun c72 => ?_) (fun c72 => ?_) | refine x_icmp_eq hP rfl (fun c72 => ?_) (fun c72 => ?_)
      · refine x_iload hP rfl rfl ?_
        refine x_iconst hP rfl ?_
        first | refine z_icmp_ne hP rfl (by omega) (by omega) (fun c93 => ?_) (fun c93 => ?_) | refine x_icmp_ne hP rfl (fun c93 => ?_) (fun c93 => ?_)
        · exact absurd c72 c93
        refine x_iload hP rfl rfl ?_
        refine x_iload hP rfl rfl ?_
        first | refine z_icmp_ne hP rfl (by omega) (by omega) (fun c100 => ?_) (fun c100 => ?_) | refine x_icmp_ne hP rfl (fun c100 => ?_) (fun c100 => ?_)
        · exact fa (decide_eq_false (by omega)) _ _ _ ⟨rfl, rfl, rfl, rfl, rfl, rfl, rfl, rfl, rfl, rfl, trivial⟩
        · exact tr (decide_eq_true (by omega)) _ _ _ ⟨rfl, rfl, rfl, rfl, rfl, rfl, rfl, rfl, rfl, rfl, trivial⟩
      first | refine x_aload_n hP rfl rfl ?_ | refine x_aload_nN hP rfl rfl ?_
      refine x_getR hP rfl (by first | assumption | rfl) (by first | assumption | exact hR _ _ _ _ rfl | exact hR1 _ _ _ _ rfl | exact hR2 _ _ _ _ rfl | rfl) ?_
      refine x_iload hP rfl rfl ?_
      refine x_iload hP rfl rfl ?_
      first | refine z_iadd hP rfl ?_ | refine x_iadd hP rfl ?_
      refine z_iald hP rfl (by first | assumption | rfl) (by first | decide | omega) (by omega) (by first | assumption | exact hR _ _ _ _ rfl | exact hR1 _ _ _ _ rfl | exact hR2 _ _ _ _ rfl | rfl) ?_
      refine x_iload hP rfl rfl ?_
      first | refine z_icmp_eq hP rfl (by omega) (by omega) (fun c87 => ?_) (fun c87 => ?_) | refine x_icmp_eq hP rfl (fun c87 => ?_) (fun c87 => ?_)
      · exact tr (decide_eq_true (by omega)) _ _ _ ⟨rfl, rfl, rfl, rfl, rfl, rfl, rfl, rfl, rfl, rfl, trivial⟩
      refine x_iload hP rfl rfl ?_
      refine x_iconst hP rfl ?_
      first | refine z_icmp_ne hP rfl (by omega) (by omega) (fun c93 => ?_) (fun c93 => ?_) | refine x_icmp_ne hP rfl (fun c93 => ?_) (fun c93 => ?_)
      · exact fa (decide_eq_false (by omega)) _ _ _ ⟨rfl, rfl, rfl, rfl, rfl, rfl, rfl, rfl, rfl, rfl, trivial⟩
      · exact absurd c93 c72
    have or1 : (a = 1 ∨ a = 2) → ∀ L r1 r2, x_ag L 0 [some (.ref 122), some (.int (iI a)), some (.int (iI (30 * e + kk : Nat))), some (.int (iI r)), some (.int (iI e)), some (.int (iI (30 * e : Nat))), some (.int (iI kk)), some (.int (iI (tP T e kk))), some (.int (iI i))] → P 188 (d + 1) 52 L [] (x_hp I J R) r1 r2 Q := by
      intro h12 L r1 r2 hL
      rw [if_pos h12] at jd
      refine x_re hP _ hL ?_
      first | refine x_aload_n hP rfl rfl ?_ | refine x_aload_nN hP rfl rfl ?_
      refine x_getR hP rfl (by first | assumption | rfl) (by first | assumption | exact hR _ _ _ _ rfl | exact hR1 _ _ _ _ rfl | exact hR2 _ _ _ _ rfl | rfl) ?_
      refine x_iload hP rfl rfl ?_
      refine x_iload hP rfl rfl ?_
      first | refine z_iadd hP rfl ?_ | refine x_iadd hP rfl ?_
      refine z_iald hP rfl (by first | assumption | rfl) (by first | decide | omega) (by omega) (by first | assumption | exact hR _ _ _ _ rfl | exact hR1 _ _ _ _ rfl | exact hR2 _ _ _ _ rfl | rfl) ?_
      refine x_goto hP rfl ?_
      refine x_istore hP rfl ?_
      exact stB _ _ _ ⟨rfl, rfl, rfl, rfl, rfl, rfl, rfl, rfl, rfl, by rw [jd]; rfl, trivial⟩
    refine x_iload hP rfl rfl ?_
    first | refine x_aload_n hP rfl rfl ?_ | refine x_aload_nN hP rfl rfl ?_
    refine x_getR hP rfl (by first | assumption | rfl) (by first | assumption | exact hR _ _ _ _ rfl | exact hR1 _ _ _ _ rfl | exact hR2 _ _ _ _ rfl | rfl) ?_
    refine x_iload hP rfl rfl ?_
    refine z_iald hP rfl (by first | assumption | rfl) (by first | decide | omega) (by omega) (by first | assumption | exact hR _ _ _ _ rfl | exact hR1 _ _ _ _ rfl | exact hR2 _ _ _ _ rfl | rfl) ?_
    refine z_icmp_ge hP rfl (by omega) (by omega) (fun c39 => ?_) (fun c39 => ?_)
    · omega
    refine x_iload_n hP rfl rfl ?_
    refine x_iconst hP rfl ?_
    first | refine z_icmp_eq hP rfl (by omega) (by omega) (fun c44 => ?_) (fun c44 => ?_) | refine x_icmp_eq hP rfl (fun c44 => ?_) (fun c44 => ?_)
    · exact or1 (Or.inl (by omega)) _ _ _ ⟨rfl, rfl, rfl, rfl, rfl, rfl, rfl, rfl, rfl, trivial⟩
    refine x_iload_n hP rfl rfl ?_
    refine x_iconst hP rfl ?_
    first | refine z_icmp_ne hP rfl (by omega) (by omega) (fun c49 => ?_) (fun c49 => ?_) | refine x_icmp_ne hP rfl (fun c49 => ?_) (fun c49 => ?_)
    · rw [if_neg (by omega)] at jd
      refine x_iload hP rfl rfl ?_
      refine x_istore hP rfl ?_
      exact stB _ _ _ ⟨rfl, rfl, rfl, rfl, rfl, rfl, rfl, rfl, rfl, by rw [jd]; rfl, trivial⟩
    · exact or1 (Or.inr (by omega)) _ _ _ ⟨rfl, rfl, rfl, rfl, rfl, rfl, rfl, rfl, rfl, trivial⟩
theorem r_path_loop (hP : x_closed E P) (hR : x_fin R) (he : e < tD T) (hr : r < 28) {kk : Nat} {up : Int} {z2 : Value} : ∀ (f : Nat) (x : Int) (I : x_M Int32) (fd : List Nat), x < f → -1 ≤ x ∧ x < tS T e → rTr I J T → gd fd → rq I r [e] fd → (∀ I', gd (adds fd (pth (tP T e) f x)) → rq I' r [e] (adds fd (pth (tP T e) f x)) → frP (rsF r) I I' → Q none (x_hp I' J R)) → ∀ rc rs, P 188 (d + 1) 455 (x_ls [some (.ref 122), some (.int (iI 4)), some z2, some (.int (iI r)), some (.int (iI e)), some (.int (iI (30 * e : Nat))), some (.int (iI kk)), some (.int (iI up)), some (.int (iI x))]) [] (x_hp I J R) rc rs Q := by
  intro f
  induction f with
  | zero =>
    intro x I fd hf hx hc hg hq k rc rs
    refine x_iload_n hP rfl rfl ?_
    refine x_iconst hP rfl ?_
    first | refine z_icmp_ne hP rfl (by omega) (by omega) (fun c457 => ?_) (fun c457 => ?_) | refine x_icmp_ne hP rfl (fun c457 => ?_) (fun c457 => ?_)
    · omega
    refine x_iload hP rfl rfl ?_
    refine x_iconst hP rfl ?_
    first | refine z_icmp_eq hP rfl (by omega) (by omega) (fun c463 => ?_) (fun c463 => ?_) | refine x_icmp_eq hP rfl (fun c463 => ?_) (fun c463 => ?_)
    · refine x_vret hP rfl rfl ?_
      exact k I hg hq (frP_refl _ _)
    · omega
  | succ f ih =>
    intro x I fd hf hx hc hg hq k rc rs
    have w3 := hc.2.2.2.2.2
    have w1 := w3.1
    have w2 := (w3.2.2 e he).2.1
    have wf := twf_wfp w3 he
    unfold pth at k
    refine x_iload_n hP rfl rfl ?_
    refine x_iconst hP rfl ?_
    first | refine z_icmp_ne hP rfl (by omega) (by omega) (fun c457 => ?_) (fun c457 => ?_) | refine x_icmp_ne hP rfl (fun c457 => ?_) (fun c457 => ?_)
    · omega
    refine x_iload hP rfl rfl ?_
    refine x_iconst hP rfl ?_
    first | refine z_icmp_eq hP rfl (by omega) (by omega) (fun c463 => ?_) (fun c463 => ?_) | refine x_icmp_eq hP rfl (fun c463 => ?_) (fun c463 => ?_)
    · rw [if_pos (by omega)] at k
      refine x_vret hP rfl rfl ?_
      exact k I hg hq (frP_refl _ _)
    rw [if_neg (by omega)] at k
    obtain ⟨j, rfl⟩ : ∃ j : Nat, x = j := ⟨x.toNat, by omega⟩
    rw [Int.toNat_natCast] at k
    have jl : j < tS T e := by omega
    have j30 : j < 30 := by omega
    have pj := wfp_rg wf jl
    have nx : ∀ I1, rq I1 r [e] (adL fd j) → frP (rsF r) I I1 → ∀ r1 r2, P 188 (d + 1) 483 (x_ls [some (.ref 122), some (.int (iI 4)), some z2, some (.int (iI r)), some (.int (iI e)), some (.int (iI (30 * e : Nat))), some (.int (iI kk)), some (.int (iI up)), some (.int (iI j))]) [] (x_hp I1 J R) r1 r2 Q := by
      intro I1 q1 f1 r1 r2
      have c1 := rTr_fr hc f1 (frP_refl _ _) fun k a i z => by unfold rsF at z; omega
      have n2 : I1 1 129 (30 * e + j) = iI (tP T e j) := (c1.2.2.2.1 e he j jl).2.1
      first | refine x_aload_n hP rfl rfl ?_ | refine x_aload_nN hP rfl rfl ?_
      refine x_getR hP rfl (by first | assumption | rfl) (by first | assumption | exact hR _ _ _ _ rfl | exact hR1 _ _ _ _ rfl | exact hR2 _ _ _ _ rfl | rfl) ?_
      refine x_iload hP rfl rfl ?_
      refine x_iload hP rfl rfl ?_
      first | refine z_iadd hP rfl ?_ | refine x_iadd hP rfl ?_
      refine z_iald hP rfl (by first | assumption | rfl) (by first | decide | omega) (by omega) (by first | assumption | exact hR _ _ _ _ rfl | exact hR1 _ _ _ _ rfl | exact hR2 _ _ _ _ rfl | rfl) ?_
      refine x_istore hP rfl ?_
      refine x_goto hP rfl ?_
      exact x_re hP [some (.ref 122), some (.int (iI 4)), some z2, some (.int (iI r)), some (.int (iI e)), some (.int (iI (30 * e : Nat))), some (.int (iI kk)), some (.int (iI up)), some (.int (iI (tP T e j)))] ⟨rfl, rfl, rfl, rfl, rfl, rfl, rfl, rfl, rfl, trivial⟩ (ih (tP T e j) I1 (adL fd j) (by omega) (by omega) c1 (gd_ad hg j30) q1 (fun I' z1 z2 z3 => k I' z1 z2 (frP_trans f1 z3)) _ _)
    first | refine x_aload_n hP rfl rfl ?_ | refine x_aload_nN hP rfl rfl ?_
    refine x_iload_n hP rfl rfl ?_
    refine x_iload hP rfl rfl ?_
    refine x_callV2 (ci := 9) hP 0 0 rfl rfl rfl (by first | assumption | rfl) rfl rfl rfl (Nat.zero_le _) (Nat.zero_le _) ?_
    refine r_isIn hP hR (by omega) hq (by omega) ?_
    refine r_addM (d := d) (pc2 := 483) hP hR hr j30 hg hq (fun I' r1 r2 z1 z2 => nx I' z1 z2 _ _) (fun hn kk2 r1 r2 => ?_) (fun hy2 kk2 r1 r2 => ?_) _ _
    · first | refine zb_if_ne hP rfl (fun c473 => ?_) (fun c473 => ?_) | refine zl_if_ne hP rfl (fun c473 => ?_) (fun c473 => ?_) | refine z_if_ne hP rfl (by omega) (fun c473 => ?_) (fun c473 => ?_)
      · cases c473
      first | refine x_aload_n hP rfl rfl ?_ | refine x_aload_nN hP rfl rfl ?_
      refine x_iload_n hP rfl rfl ?_
      refine x_iload hP rfl rfl ?_
      refine x_callV2 (ci := 9) hP 0 0 rfl rfl rfl (by first | assumption | rfl) rfl rfl rfl (Nat.zero_le _) (Nat.zero_le _) ?_
      exact r_put1 hP hR (by omega) hq (by have := gd_len hg; omega) (by omega) (fun I' z1 z2 => kk2 I' z1 z2 _ _)
    · first | refine zb_if_ne hP rfl (fun c473 => ?_) (fun c473 => ?_) | refine zl_if_ne hP rfl (fun c473 => ?_) (fun c473 => ?_) | refine z_if_ne hP rfl (by omega) (fun c473 => ?_) (fun c473 => ?_)
      · exact kk2 _ _
      · cases c473
/-- what an act of k adds, as the reference goes -/
def refL (p : Nat → Int) (s : Nat) (H : Nat → Nat) (a k : Nat) : List Nat := if a = 4 then pth p (k + 1) k else (mk s (jOf p s a)).filter (isB p s H a k)
theorem r_does (hP : x_closed E P) (hR : x_fin R) (he : e < tD T) (hr : r < 28) {kk a : Nat} (hk : kk < tS T e) (ha : a < 9) {I : x_M Int32} (hc : rTr I J T) (hy : rLy I T) (hg : gd fd) (hq : rq I r [e] fd) (k : ∀ I', gd (adds fd (refL (tP T e) (tS T e) (tH T e) a kk)) → rq I' r [e] (adds fd (refL (tP T e) (tS T e) (tH T e) a kk)) → frP (rsF r) I I' → Q none (x_hp I' J R)) : P 188 (d + 1) 0 (x_la 0 [.ref 122, .int (iI a), .int (iI (30 * e + kk : Nat)), .int (iI r)]) [] (x_hp I J R) rc rs Q := by
  have w3 := hc.2.2.2.2.2
  have w1 := w3.1
  have w2 := (w3.2.2 e he).2.1
  have wf := twf_wfp w3 he
  have pk := wfp_rg wf hk
  have n2 : I 1 129 (30 * e + kk) = iI (tP T e kk) := (hc.2.2.2.1 e he kk hk).2.1
  refine x_iload_n hP rfl rfl ?_
  refine x_bipush hP rfl ?_
  refine x_idiv hP rfl (by decide) ?_
  rw [div30 (show 30 * e + kk < 120 by omega), show (30 * e + kk) / 30 = e by omega]
  refine x_istore hP rfl ?_
  refine x_bipush hP rfl ?_
  refine x_iload hP rfl rfl ?_
  first | refine z_imul hP rfl ?_ | refine x_imul hP rfl ?_
  rw [show 30 * (e : Int) = ((30 * e : Nat) : Int) by omega]
  refine x_istore hP rfl ?_
  refine x_iload_n hP rfl rfl ?_
  refine x_iload hP rfl rfl ?_
  first | refine z_isub hP rfl ?_ | refine x_isub hP rfl ?_
  rw [show ((30 * e + kk : Nat) : Int) - ((30 * e : Nat) : Int) = (kk : Nat) by omega]
  refine x_istore hP rfl ?_
  first | refine x_aload_n hP rfl rfl ?_ | refine x_aload_nN hP rfl rfl ?_
  refine x_getR hP rfl (by first | assumption | rfl) (by first | assumption | exact hR _ _ _ _ rfl | exact hR1 _ _ _ _ rfl | exact hR2 _ _ _ _ rfl | rfl) ?_
  refine x_iload_n hP rfl rfl ?_
  refine z_iald hP rfl (by first | assumption | rfl) (by first | decide | omega) (by omega) (by first | assumption | exact hR _ _ _ _ rfl | exact hR1 _ _ _ _ rfl | exact hR2 _ _ _ _ rfl | rfl) ?_
  refine x_istore hP rfl ?_
  refine x_iconst hP rfl ?_
  refine x_istore hP rfl ?_
  refine x_re hP [some (.ref 122), some (.int (iI a)), some (.int (iI (30 * e + kk : Nat))), some (.int (iI r)), some (.int (iI e)), some (.int (iI (30 * e : Nat))), some (.int (iI kk)), some (.int (iI (tP T e kk))), some (.int (iI (0 : Nat))), none, none, none] ⟨rfl, rfl, rfl, rfl, rfl, rfl, rfl, rfl, rfl, trivial⟩ (r_does_loop hP hR he hr hk ha (tS T e) 0 I fd (by omega) hc hy hg hq (fun I1 fd1 L r1 r2 z1 z2 z3 z4 hL => ?_) _ _)
  refine x_re hP _ hL ?_
  rw [show (fun q => jOf (tP T e) (tS T e) a (0 + q)) = jOf (tP T e) (tS T e) a from funext fun q => by rw [Nat.zero_add]] at z1
  unfold refL at k
  refine x_iload hP rfl rfl ?_
  refine x_istore hP rfl ?_
  by_cases h4 : a = 4
  · rw [if_pos h4] at k
    have e0 : (mk (tS T e) (jOf (tP T e) (tS T e) a)).filter (isB (tP T e) (tS T e) (tH T e) a kk) = [] := List.filter_eq_nil_iff.mpr fun x _ => by rw [h4]; show ¬ (false = true); decide
    rw [e0] at z1
    have z1 : fd1 = fd := z1
    rw [z1] at z2 z3
    exact x_re hP [some (.ref 122), some (.int (iI 4)), some (.int (iI (30 * e + kk : Nat))), some (.int (iI r)), some (.int (iI e)), some (.int (iI (30 * e : Nat))), some (.int (iI kk)), some (.int (iI (tP T e kk))), some (.int (iI (kk : Nat)))] ⟨rfl, by rw [h4]; rfl, rfl, rfl, rfl, rfl, rfl, rfl, rfl, trivial⟩ (r_path_loop hP hR he hr (kk + 1) kk I1 fd (by omega) (by omega) (rTr_fr hc z4 (frP_refl _ _) fun k a i z => by unfold rsF at z; omega) z2 z3 (fun I' y1 y2 y3 => k I' y1 y2 (frP_trans z4 y3)) _ _)
  · rw [if_neg h4, ← z1] at k
    refine x_iload_n hP rfl rfl ?_
    refine x_iconst hP rfl ?_
    first | refine z_icmp_ne hP rfl (by omega) (by omega) (fun c457 => ?_) (fun c457 => ?_) | refine x_icmp_ne hP rfl (fun c457 => ?_) (fun c457 => ?_)
    · refine x_vret hP rfl rfl ?_
      exact k I1 z2 z3 z4
    · omega
end
