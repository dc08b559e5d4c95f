/-! THE REFERENCE: the SHEET -/
def wrP (I : x_M Int32) (L : List Nat) : Prop := I 1613 122 0 = iI (min L.length 3001 : Nat) ∧ ∀ i, i < L.length → i < 3001 → I 1 144 i = iI (L.getD i 0)
def wF (k a _i : Nat) : Prop := (a = 122 ∧ k = 1613) ∨ a = 144
theorem wF_rW {k a i : Nat} (h : wF k a i) : rW k a i := by unfold wF at h; unfold rW; omega
section
variable {E : x_E} {P : x_Pr} {d rc rs : Nat} {I : x_M Int32} {J : x_M Int64} {R : x_M (Option Nat)} {Q : x_Q} {S : x_St} {T : x_T} {ol l : List Nat}
theorem r_letter (hP : x_closed E P) (hR : x_fin R) {L : List Nat} {x : Nat} (hw : wrP I L) (k : ∀ I', wrP I' (L ++ [x]) → frP wF I I' → Q none (x_hp I' J R)) : P 215 d 0 (x_la 0 [.ref 122, .int (iI x)]) [] (x_hp I J R) rc rs Q := by
  obtain ⟨h1, h2⟩ := hw
  have ll : (L ++ [x]).length = L.length + 1 := by rw [List.length_append]; rfl
  first | refine x_aload_n hP rfl rfl ?_ | refine x_aload_nN hP rfl rfl ?_
  refine x_getI hP rfl (by first | assumption | rfl) (by first | assumption | exact hR _ _ _ _ rfl | exact hR1 _ _ _ _ rfl | exact hR2 _ _ _ _ rfl | rfl) ?_
  refine x_sipush hP rfl ?_
  refine z_icmp_gt hP rfl (by omega) (by omega) (fun c7 => ?_) (fun c7 => ?_)
  · first | refine x_aload_n hP rfl rfl ?_ | refine x_aload_nN hP rfl rfl ?_
    first | refine x_aload_n hP rfl rfl ?_ | refine x_aload_nN hP rfl rfl ?_
    refine x_getI hP rfl (by first | assumption | rfl) (by first | assumption | exact hR _ _ _ _ rfl | exact hR1 _ _ _ _ rfl | exact hR2 _ _ _ _ rfl | rfl) ?_
    refine x_sipush hP rfl ?_
    refine z_icmp_le hP rfl (by omega) (by omega) (fun c28 => ?_) (fun c28 => ?_)
    · omega
    first | refine x_aload_n hP rfl rfl ?_ | refine x_aload_nN hP rfl rfl ?_
    refine x_getI hP rfl (by first | assumption | rfl) (by first | assumption | exact hR _ _ _ _ rfl | exact hR1 _ _ _ _ rfl | exact hR2 _ _ _ _ rfl | rfl) ?_
    refine x_goto hP rfl ?_
    refine x_putI hP rfl (by first | assumption | rfl) ?_
    first | refine w_nI ?_ | refine w_nL ?_ | refine w_nR ?_ | refine w_mI ?_ | refine w_mL ?_ | refine w_mR ?_ | skip
    refine x_vret hP rfl rfl ?_
    refine k _ ⟨?_, fun i hi hi2 => ?_⟩ (frP_at (frP_refl _ _) (Or.inl ⟨rfl, rfl⟩))
    · rw [x_at_eq, if_pos ⟨rfl, rfl, rfl⟩, ll]
      rw [show min (L.length + 1) 3001 = min L.length 3001 by omega]
    · rw [x_at_eq, if_neg (by omega), getD_app1 (by omega)]
      exact h2 i (by omega) hi2
  have hl : L.length ≤ 3000 := by omega
  rw [show min L.length 3001 = L.length by omega] at h1
  first | refine x_aload_n hP rfl rfl ?_ | refine x_aload_nN hP rfl rfl ?_
  refine x_getR hP rfl (by first | assumption | rfl) (by first | assumption | exact hR _ _ _ _ rfl | exact hR1 _ _ _ _ rfl | exact hR2 _ _ _ _ rfl | rfl) ?_
  first | refine x_aload_n hP rfl rfl ?_ | refine x_aload_nN hP rfl rfl ?_
  refine x_getI hP rfl (by first | assumption | rfl) (by first | assumption | exact hR _ _ _ _ rfl | exact hR1 _ _ _ _ rfl | exact hR2 _ _ _ _ rfl | rfl) ?_
  refine x_iload_n hP rfl rfl ?_
  refine z_iast hP rfl (by first | assumption | rfl) (by first | decide | omega) (by omega) ?_
  first | refine w_nI ?_ | refine w_nL ?_ | refine w_nR ?_ | refine w_mI ?_ | refine w_mL ?_ | refine w_mR ?_ | skip
  rw [Int.toNat_natCast]
  have g : x_at I 1 144 L.length (iI x) 1613 122 0 = iI L.length := h1
  first | refine x_aload_n hP rfl rfl ?_ | refine x_aload_nN hP rfl rfl ?_
  first | refine x_aload_n hP rfl rfl ?_ | refine x_aload_nN hP rfl rfl ?_
  refine x_getI hP rfl (by first | assumption | rfl) (by first | assumption | exact hR _ _ _ _ rfl | exact hR1 _ _ _ _ rfl | exact hR2 _ _ _ _ rfl | rfl) ?_
  refine x_sipush hP rfl ?_
  refine z_icmp_le hP rfl (by omega) (by omega) (fun c28 => ?_) (fun c28 => ?_)
  rotate_left
  · omega
  first | refine x_aload_n hP rfl rfl ?_ | refine x_aload_nN hP rfl rfl ?_
  refine x_getI hP rfl (by first | assumption | rfl) (by first | assumption | exact hR _ _ _ _ rfl | exact hR1 _ _ _ _ rfl | exact hR2 _ _ _ _ rfl | rfl) ?_
  refine x_iconst hP rfl ?_
  first | refine z_iadd hP rfl ?_ | refine x_iadd hP rfl ?_
  refine x_putI hP rfl (by first | assumption | rfl) ?_
  first | refine w_nI ?_ | refine w_nL ?_ | refine w_nR ?_ | refine w_mI ?_ | refine w_mL ?_ | refine w_mR ?_ | skip
  refine x_vret hP rfl rfl ?_
  refine k _ ⟨?_, fun i hi hi2 => ?_⟩ (frP_at (frP_at (frP_refl _ _) (Or.inr rfl)) (Or.inl ⟨rfl, rfl⟩))
  · rw [x_at_eq, if_pos ⟨rfl, rfl, rfl⟩, ll, show min (L.length + 1) 3001 = L.length + 1 by omega]; rfl
  · rw [ll] at hi
    rw [x_at_eq, if_neg (by omega), x_at_eq]
    by_cases q : i = L.length
    · rw [if_pos ⟨rfl, rfl, q⟩, q, getD_app2 (Nat.le_refl _), Nat.sub_self]; rfl
    · rw [if_neg (by omega), getD_app1 (by omega)]
      exact h2 i (by omega) hi2
theorem r_pr_name (hP : x_closed E P) (hR : x_fin R) {v : Int64} {vi vk : Int} : ∀ (j : Nat) (I : x_M Int32) (L : List Nat), j ≤ 8 → wrP I L → (∀ I' L' r1 r2, wrP I' (L ++ nmA v j) → frP wF I I' → x_ag L' 0 [some (.ref 122), some (.int (iI vi)), some (.int (iI vk))] → P 214 (d + 1) 109 L' [] (x_hp I' J R) r1 r2 Q) → ∀ rc rs, P 214 (d + 1) 72 (x_ls [some (.ref 122), some (.int (iI vi)), some (.int (iI vk)), some (.long v), none, some (.int (iI ((8 * j : Nat) - 8)))]) [] (x_hp I J R) rc rs Q := by
  intro j
  induction j with
  | zero =>
    intro I L hj hw k rc rs
    unfold nmA at k
    rw [List.append_nil] at k
    refine x_iload hP rfl rfl ?_
    refine z_if_lt hP rfl (by omega) (fun c74 => ?_) (fun c74 => ?_)
    · exact k I _ _ _ hw (frP_refl _ _) ⟨rfl, rfl, rfl, trivial⟩
    · omega
  | succ j ih =>
    intro I L hj hw k rc rs
    have hj8 : j < 8 := by omega
    have lb256 : lb v (8 * j) < 256 := Nat.mod_lt _ (by decide)
    unfold nmA at k
    rw [show ((8 * (j + 1) : Nat) : Int) - 8 = ((8 * j : Nat) : Int) by omega]
    refine x_iload hP rfl rfl ?_
    refine z_if_lt hP rfl (by omega) (fun c74 => ?_) (fun c74 => ?_)
    · omega
    refine x_lload_n hP rfl rfl ?_
    refine x_iload hP rfl rfl ?_
    refine x_lshr hP rfl ?_
    refine x_ldcL hP rfl ?_
    refine x_land hP rfl ?_
    rw [lsr_255 v hj8]
    refine x_lconst hP rfl ?_
    refine x_lcmp hP rfl ?_
    first | refine zb_if_eq hP rfl (fun c87 => ?_) (fun c87 => ?_) | refine zl_if_eq hP rfl (fun c87 => ?_) (fun c87 => ?_) | refine z_if_eq hP rfl (by omega) (fun c87 => ?_) (fun c87 => ?_)
    · rw [if_pos ((lI_z lb256).mp c87)] at k
      refine z_iinc hP rfl rfl rfl ?_
      refine x_goto hP rfl ?_
      exact x_re hP [some (.ref 122), some (.int (iI vi)), some (.int (iI vk)), some (.long v), none, some (.int (iI ((8 * j : Nat) - 8)))] ⟨rfl, rfl, rfl, rfl, rfl, trivial⟩ (ih I L (by omega) hw k _ _)
    · rw [if_neg (fun z => c87 ((lI_z lb256).mpr z))] at k
      first | refine x_aload_n hP rfl rfl ?_ | refine x_aload_nN hP rfl rfl ?_
      refine x_lload_n hP rfl rfl ?_
      refine x_iload hP rfl rfl ?_
      refine x_lshr hP rfl ?_
      refine x_ldcL hP rfl ?_
      refine x_land hP rfl ?_
      rw [lsr_255 v hj8]
      refine x_l2i hP rfl ?_
      rw [l2i_z lb256]
      refine x_callV1 (ci := 9) hP 0 0 rfl rfl rfl (by first | assumption | rfl) rfl rfl rfl (Nat.zero_le _) (Nat.zero_le _) ?_
      refine r_letter hP hR hw (fun I1 g1 g2 => ?_)
      refine z_iinc hP rfl rfl rfl ?_
      refine x_goto hP rfl ?_
      exact x_re hP [some (.ref 122), some (.int (iI vi)), some (.int (iI vk)), some (.long v), none, some (.int (iI ((8 * j : Nat) - 8)))] ⟨rfl, rfl, rfl, rfl, rfl, trivial⟩ (ih I1 (L ++ [lb v (8 * j)]) (by omega) g1 (fun I' L' r1 r2 w1 w2 => k I' L' r1 r2 (by rw [List.append_assoc] at w1; exact w1) (frP_trans g2 w2)) _ _)
theorem rTr_nm {I : x_M Int32} (hc : rTr I J T) {e z : Nat} (he : e < tD T) (hz : z < tS T e) : J 6 125 (30 * e + z) = tN T e z := (hc.2.2.2.1 e he z hz).1
theorem r_pr_tu (hP : x_closed E P) (hR : x_fin R) {i : Nat} (hi : i < l.length) (ho : ∀ e ∈ ol, e < tD T ∧ pt (l.getD i 0) e < tS T e) (h4 : tD T ≤ 4) (h30 : ∀ e, e < tD T → tS T e ≤ 30) (hJ : ∀ e z, e < tD T → z < tS T e → J 6 125 (30 * e + z) = tN T e z) : ∀ (o2 : List Nat) (z : Nat) (I : x_M Int32) (L : List Nat), z ≤ ol.length → ol.drop z = o2 → rq I 0 ol (l.map (rfE ol)) → wrP I L → (∀ I' L' r1 r2, wrP I' (L ++ tuA T (l.getD i 0) z o2) → frP wF I I' → x_ag L' 0 [some (.ref 122), some (.int (iI i))] → P 214 (d + 1) 115 L' [] (x_hp I' J R) r1 r2 Q) → ∀ rc rs, P 214 (d + 1) 19 (x_ls [some (.ref 122), some (.int (iI i)), some (.int (iI z)), none, none, none]) [] (x_hp I J R) rc rs Q := by
  intro o2
  induction o2 with
  | nil =>
    intro z I L hz hd hq hw k rc rs
    have ⟨a1, a2, a3, a4, a5, a6, a7, a8⟩ := hq
    have hl : z = ol.length := by have := List.drop_eq_nil_iff.mp hd; omega
    unfold tuA at k
    rw [List.append_nil] at k
    refine x_iload_n hP rfl rfl ?_
    first | refine x_aload_n hP rfl rfl ?_ | refine x_aload_nN hP rfl rfl ?_
    refine x_getR hP rfl (by first | assumption | rfl) (by first | assumption | exact hR _ _ _ _ rfl | exact hR1 _ _ _ _ rfl | exact hR2 _ _ _ _ rfl | rfl) ?_
    refine x_iconst hP rfl ?_
    refine z_iald hP rfl (by first | assumption | rfl) (by first | decide | omega) (by omega) (by first | assumption | exact hR _ _ _ _ rfl | exact hR1 _ _ _ _ rfl | exact hR2 _ _ _ _ rfl | rfl) ?_
    refine z_icmp_ge hP rfl (by omega) (by omega) (fun c26 => ?_) (fun c26 => ?_)
    · exact k I _ _ _ hw (frP_refl _ _) ⟨rfl, rfl, trivial⟩
    · omega
  | cons e o2 ih =>
    intro z I L hz hd hq hw k rc rs
    have ⟨a1, a2, a3, a4, a5, a6, a7, a8⟩ := hq
    have hlt : z < ol.length := by
      rcases Nat.lt_or_ge z ol.length with q | q
      · exact q
      · rw [drop_all q] at hd; cases hd
    have hdd := dropc hlt
    rw [hd] at hdd
    have e1 : ol.getD z 0 = e := (List.cons.inj hdd).1.symm
    have e2 : ol.drop (z + 1) = o2 := (List.cons.inj hdd).2.symm
    have em : e ∈ ol := by rw [← e1]; exact getD_mem hlt
    have ⟨o1', o2'⟩ := ho e em
    have s30 := h30 e o1'
    unfold tuA at k
    have mid : ∀ I1 L1 LL r1 r2, L1 = L ++ (if 0 < z then [46] else []) → rq I1 0 ol (l.map (rfE ol)) → wrP I1 L1 → frP wF I I1 → x_ag LL 0 [some (.ref 122), some (.int (iI i)), some (.int (iI z))] → P 214 (d + 1) 39 LL [] (x_hp I1 J R) r1 r2 Q := by
      intro I1 L1 LL r1 r2 hL1 hq1 hw1 hf1 hL
      refine x_re hP _ hL ?_
      have ⟨b1, b2, b3, b4, b5, b6, b7, b8⟩ := hq1
      have v := b7 i (by rw [List.length_map]; exact hi)
      rw [map_getD hi, show 201 * 0 + i = i by omega] at v
      have t20 := rfE_20 (o := ol) (l.getD i 0) b5
      have l200 : l.length ≤ 200 := by rw [List.length_map] at b4; exact b4
      first | refine x_aload_n hP rfl rfl ?_ | refine x_aload_nN hP rfl rfl ?_
      refine x_getR hP rfl (by first | assumption | rfl) (by first | assumption | exact hR _ _ _ _ rfl | exact hR1 _ _ _ _ rfl | exact hR2 _ _ _ _ rfl | rfl) ?_
      refine x_bipush hP rfl ?_
      first | refine x_aload_n hP rfl rfl ?_ | refine x_aload_nN hP rfl rfl ?_
      refine x_iconst hP rfl ?_
      refine x_iload_n hP rfl rfl ?_
      refine x_callV2 (ci := 9) hP 0 0 rfl rfl rfl (by first | assumption | rfl) rfl rfl rfl (Nat.zero_le _) (Nat.zero_le _) ?_
      refine r_dimension hP hR (by decide) hq1 hlt ?_
      rw [e1]
      first | refine z_imul hP rfl ?_ | refine x_imul hP rfl ?_
      first | refine x_aload_n hP rfl rfl ?_ | refine x_aload_nN hP rfl rfl ?_
      refine x_getR hP rfl (by first | assumption | rfl) (by first | assumption | exact hR _ _ _ _ rfl | exact hR1 _ _ _ _ rfl | exact hR2 _ _ _ _ rfl | rfl) ?_
      refine x_iload_n hP rfl rfl ?_
      refine z_iald hP rfl (by first | assumption | rfl) (by first | decide | omega) (by omega) (by first | assumption | exact hR _ _ _ _ rfl | exact hR1 _ _ _ _ rfl | exact hR2 _ _ _ _ rfl | rfl) ?_
      refine x_iconst hP rfl ?_
      refine x_iload_n hP rfl rfl ?_
      first | refine z_imul hP rfl ?_ | refine x_imul hP rfl ?_
      rw [show 5 * (z : Int) = ((5 * z : Nat) : Int) by omega]
      refine x_ishr hP rfl ?_
      rw [iI_shr _ (5 * z) (by omega) (by omega)]
      refine x_bipush hP rfl ?_
      refine x_iand hP rfl ?_
      rw [show iI 31 = iI ((31 : Nat) : Int) from rfl, iI_and, and31, rfE_pt _ _ _ hlt, e1]
      first | refine z_iadd hP rfl ?_ | refine x_iadd hP rfl ?_
      have nmv := hJ e _ o1' o2'
      rw [show 30 * (e : Int) + ((pt (l.getD i 0) e : Nat) : Int) = ((30 * e + pt (l.getD i 0) e : Nat) : Int) by omega]
      refine z_lald hP rfl (by first | assumption | rfl) (by first | decide | omega) (by omega) (by first | assumption | exact hR _ _ _ _ rfl | exact hR1 _ _ _ _ rfl | exact hR2 _ _ _ _ rfl | rfl) ?_
      refine x_lstore_n hP rfl ?_
      refine x_bipush hP rfl ?_
      refine x_istore hP rfl ?_
      refine x_re hP [some (.ref 122), some (.int (iI i)), some (.int (iI z)), some (.long (tN T e (pt (l.getD i 0) e))), none, some (.int (iI ((8 * 8 : Nat) - 8)))] ⟨rfl, rfl, rfl, rfl, rfl, trivial⟩ (r_pr_name hP hR 8 I1 L1 (by omega) hw1 (fun I2 LL r1 r2 z1 z2 z3 => ?_) _ _)
      refine x_re hP _ z3 ?_
      refine z_iinc hP rfl rfl rfl ?_
      refine x_goto hP rfl ?_
      refine x_re hP [some (.ref 122), some (.int (iI i)), some (.int (iI (z + 1 : Nat))), none, none, none] ⟨rfl, rfl, rfl, trivial⟩ (ih (z + 1) I2 (L1 ++ nmB (tN T e (pt (l.getD i 0) e))) hlt e2 (rq_fr hq1 z2 fun k a i y1 y2 => by unfold rsF at y1; unfold wF at y2; omega) z1 (fun I' L' r1 r2 w1 w2 => k I' L' r1 r2 ?_ (frP_trans hf1 (frP_trans z2 w2))) _ _)
      rw [hL1, List.append_assoc, List.append_assoc] at w1
      exact w1
    refine x_iload_n hP rfl rfl ?_
    first | refine x_aload_n hP rfl rfl ?_ | refine x_aload_nN hP rfl rfl ?_
    refine x_getR hP rfl (by first | assumption | rfl) (by first | assumption | exact hR _ _ _ _ rfl | exact hR1 _ _ _ _ rfl | exact hR2 _ _ _ _ rfl | rfl) ?_
    refine x_iconst hP rfl ?_
    refine z_iald hP rfl (by first | assumption | rfl) (by first | decide | omega) (by omega) (by first | assumption | exact hR _ _ _ _ rfl | exact hR1 _ _ _ _ rfl | exact hR2 _ _ _ _ rfl | rfl) ?_
    refine z_icmp_ge hP rfl (by omega) (by omega) (fun c26 => ?_) (fun c26 => ?_)
    · omega
    refine x_iload_n hP rfl rfl ?_
    refine z_if_le hP rfl (by omega) (fun c30 => ?_) (fun c30 => ?_)
    · exact mid I L _ _ _ (by rw [if_neg (by omega), List.append_nil]) hq hw (frP_refl _ _) ⟨rfl, rfl, rfl, trivial⟩
    first | refine x_aload_n hP rfl rfl ?_ | refine x_aload_nN hP rfl rfl ?_
    refine x_bipush hP rfl ?_
    refine x_callV1 (ci := 9) hP 0 0 rfl rfl rfl (by first | assumption | rfl) rfl rfl rfl (Nat.zero_le _) (Nat.zero_le _) ?_
    refine r_letter (x := 46) hP hR hw (fun I1 g1 g2 => ?_)
    exact mid I1 _ _ _ _ (by rw [if_pos (by omega)]) (rq_fr hq g2 fun k a i y1 y2 => by unfold rsF at y1; unfold wF at y2; omega) g1 g2 ⟨rfl, rfl, rfl, trivial⟩
theorem r_pr_all (hP : x_closed E P) (hR : x_fin R) (ho : ∀ x ∈ l, ∀ e ∈ ol, e < tD T ∧ pt x e < tS T e) (h4 : tD T ≤ 4) (h30 : ∀ e, e < tD T → tS T e ≤ 30) (hJ : ∀ e z, e < tD T → z < tS T e → J 6 125 (30 * e + z) = tN T e z) (hl : l.length ≤ 200) : ∀ (f i : Nat) (I : x_M Int32), i + f = l.length → I 1 140 0 = iI l.length → (¬ l = [] → rq I 0 ol (l.map (rfE ol))) → wrP I ((l.take i).flatMap (tuL T ol)) → (∀ I' L' r1 r2, wrP I' (l.flatMap (tuL T ol)) → frP wF I I' → x_ag L' 0 [some (.ref 122)] → P 214 (d + 1) 127 L' [] (x_hp I' J R) r1 r2 Q) → ∀ rc rs, P 214 (d + 1) 7 (x_ls [some (.ref 122), some (.int (iI i)), none, none, none, none]) [] (x_hp I J R) rc rs Q := by
  intro f
  induction f with
  | zero =>
    intro i I hi hm hq hw k rc rs
    rw [List.take_of_length_le (by omega)] at hw
    refine x_iload_n hP rfl rfl ?_
    first | refine x_aload_n hP rfl rfl ?_ | refine x_aload_nN hP rfl rfl ?_
    refine x_getR hP rfl (by first | assumption | rfl) (by first | assumption | exact hR _ _ _ _ rfl | exact hR1 _ _ _ _ rfl | exact hR2 _ _ _ _ rfl | rfl) ?_
    refine x_iconst hP rfl ?_
    refine z_iald hP rfl (by first | assumption | rfl) (by first | decide | omega) (by omega) (by first | assumption | exact hR _ _ _ _ rfl | exact hR1 _ _ _ _ rfl | exact hR2 _ _ _ _ rfl | rfl) ?_
    refine z_icmp_ge hP rfl (by omega) (by omega) (fun c14 => ?_) (fun c14 => ?_)
    · exact k I _ _ _ hw (frP_refl _ _) ⟨rfl, trivial⟩
    · omega
  | succ f ih =>
    intro i I hi hm hq hw k rc rs
    have hlt : i < l.length := by omega
    have ne : ¬ l = [] := fun z => by rw [z] at hlt; exact absurd hlt (Nat.not_lt_zero _)
    refine x_iload_n hP rfl rfl ?_
    first | refine x_aload_n hP rfl rfl ?_ | refine x_aload_nN hP rfl rfl ?_
    refine x_getR hP rfl (by first | assumption | rfl) (by first | assumption | exact hR _ _ _ _ rfl | exact hR1 _ _ _ _ rfl | exact hR2 _ _ _ _ rfl | rfl) ?_
    refine x_iconst hP rfl ?_
    refine z_iald hP rfl (by first | assumption | rfl) (by first | decide | omega) (by omega) (by first | assumption | exact hR _ _ _ _ rfl | exact hR1 _ _ _ _ rfl | exact hR2 _ _ _ _ rfl | rfl) ?_
    refine z_icmp_ge hP rfl (by omega) (by omega) (fun c14 => ?_) (fun c14 => ?_)
    · omega
    refine x_iconst hP rfl ?_
    refine x_istore_n hP rfl ?_
    refine x_re hP [some (.ref 122), some (.int (iI i)), some (.int (iI (0 : Nat))), none, none, none] ⟨rfl, rfl, rfl, trivial⟩ (r_pr_tu hP hR hlt (ho _ (getD_mem hlt)) h4 h30 hJ ol 0 I _ (Nat.zero_le _) rfl (hq ne) hw (fun I1 L1 r1 r2 z1 z2 z3 => ?_) _ _)
    refine x_re hP _ z3 ?_
    first | refine x_aload_n hP rfl rfl ?_ | refine x_aload_nN hP rfl rfl ?_
    refine x_bipush hP rfl ?_
    refine x_callV1 (ci := 9) hP 0 0 rfl rfl rfl (by first | assumption | rfl) rfl rfl rfl (Nat.zero_le _) (Nat.zero_le _) ?_
    refine r_letter (x := 10) hP hR z1 (fun I2 g1 g2 => ?_)
    refine z_iinc hP rfl rfl rfl ?_
    refine x_goto hP rfl ?_
    have ff := frP_trans z2 g2
    refine x_re hP [some (.ref 122), some (.int (iI (i + 1 : Nat))), none, none, none, none] ⟨rfl, rfl, trivial⟩ (ih (i + 1) I2 (by omega) ((ff _ _ _ fun y => by unfold wF at y; omega).trans hm) (fun q => rq_fr (hq q) ff fun k a i y1 y2 => by unfold rsF at y1; unfold wF at y2; omega) ?_ (fun I' L' r1 r2 w1 w2 => k I' L' r1 r2 w1 (frP_trans ff w2)) _ _)
    rw [takec hlt, List.flatMap_append, List.flatMap_cons, List.flatMap_nil, List.append_nil]
    rw [List.append_assoc] at g1
    exact g1
theorem r_pr_sh (hP : x_closed E P) (hR : x_fin R) {L : List Nat} (hl : L.length ≤ 3000) (k : ∀ I', rSh I' L → frP (fun _ a _ => a = 143) I I' → Q (some (.int (iI L.length))) (x_hp I' J R)) : ∀ (f i : Nat) (I0 : x_M Int32), i + f = L.length → I0 1605 122 0 = iI L.length → wrP I0 L → (∀ j, j < i → I0 1 143 j = iI (L.getD j 0)) → frP (fun _ a _ => a = 143) I I0 → ∀ rc rs, P 214 (d + 1) 150 (x_ls [some (.ref 122), some (.int (iI i))]) [] (x_hp I0 J R) rc rs Q := by
  intro f
  induction f with
  | zero =>
    intro i I0 hi hp hw hs hf rc rs
    have h1 := hw.1
    rw [show min L.length 3001 = L.length by omega] at h1
    refine x_iload_n hP rfl rfl ?_
    first | refine x_aload_n hP rfl rfl ?_ | refine x_aload_nN hP rfl rfl ?_
    refine x_getI hP rfl (by first | assumption | rfl) (by first | assumption | exact hR _ _ _ _ rfl | exact hR1 _ _ _ _ rfl | exact hR2 _ _ _ _ rfl | rfl) ?_
    refine z_icmp_ge hP rfl (by omega) (by omega) (fun c155 => ?_) (fun c155 => ?_)
    · first | refine x_aload_n hP rfl rfl ?_ | refine x_aload_nN hP rfl rfl ?_
      refine x_getI hP rfl (by first | assumption | rfl) (by first | assumption | exact hR _ _ _ _ rfl | exact hR1 _ _ _ _ rfl | exact hR2 _ _ _ _ rfl | rfl) ?_
      refine x_iret hP rfl rfl ?_
      exact k I0 ⟨hp, hl, fun j hj => hs j (by omega)⟩ hf
    · omega
  | succ f ih =>
    intro i I0 hi hp hw hs hf rc rs
    have h1 := hw.1
    rw [show min L.length 3001 = L.length by omega] at h1
    have v := hw.2 i (by omega) (by omega)
    refine x_iload_n hP rfl rfl ?_
    first | refine x_aload_n hP rfl rfl ?_ | refine x_aload_nN hP rfl rfl ?_
    refine x_getI hP rfl (by first | assumption | rfl) (by first | assumption | exact hR _ _ _ _ rfl | exact hR1 _ _ _ _ rfl | exact hR2 _ _ _ _ rfl | rfl) ?_
    refine z_icmp_ge hP rfl (by omega) (by omega) (fun c155 => ?_) (fun c155 => ?_)
    · omega
    first | refine x_aload_n hP rfl rfl ?_ | refine x_aload_nN hP rfl rfl ?_
    refine x_getR hP rfl (by first | assumption | rfl) (by first | assumption | exact hR _ _ _ _ rfl | exact hR1 _ _ _ _ rfl | exact hR2 _ _ _ _ rfl | rfl) ?_
    refine x_iload_n hP rfl rfl ?_
    first | refine x_aload_n hP rfl rfl ?_ | refine x_aload_nN hP rfl rfl ?_
    refine x_getR hP rfl (by first | assumption | rfl) (by first | assumption | exact hR _ _ _ _ rfl | exact hR1 _ _ _ _ rfl | exact hR2 _ _ _ _ rfl | rfl) ?_
    refine x_iload_n hP rfl rfl ?_
    refine z_iald hP rfl (by first | assumption | rfl) (by first | decide | omega) (by omega) (by first | assumption | exact hR _ _ _ _ rfl | exact hR1 _ _ _ _ rfl | exact hR2 _ _ _ _ rfl | rfl) ?_
    refine z_iast hP rfl (by first | assumption | rfl) (by first | decide | omega) (by omega) ?_
    first | refine w_nI ?_ | refine w_nL ?_ | refine w_nR ?_ | refine w_mI ?_ | refine w_mL ?_ | refine w_mR ?_ | skip
    rw [Int.toNat_natCast]
    refine z_iinc hP rfl rfl rfl ?_
    refine x_goto hP rfl ?_
    refine x_re hP [some (.ref 122), some (.int (iI (i + 1 : Nat)))] ⟨rfl, rfl, trivial⟩ (ih (i + 1) (x_at I0 1 143 i (iI (L.getD i 0))) (by omega) hp ⟨hw.1, fun j h1 h2 => ?_⟩ (fun j hj => ?_) (frP_at hf rfl) _ _)
    · rw [x_at_eq, if_neg (by omega)]; exact hw.2 j h1 h2
    · rw [x_at_eq]
      by_cases q : j = i
      · rw [if_pos ⟨rfl, rfl, q⟩, q]
      · rw [if_neg (by omega)]; exact hs j (by omega)
theorem r_print (hP : x_closed E P) (hR : x_fin R) (hg : gS S) (hc : rfI I J S) (k : ∀ I', rfI I' J (spPrint S).2 → frP (fun _ a _ => hh a) I I' → Q (some (.int (iI (spPrint S).1))) (x_hp I' J R)) : P 214 (d + 1) 0 (x_la 0 [.ref 122]) [] (x_hp I J R) rc rs Q := by
  have hw := hc.2.1.2.2.2.2.2
  have ⟨a1, a2, a3, a4, a5⟩ := hc.2.2.2.2.1
  have ho : ∀ x ∈ (sV S).2, ∀ e ∈ (sV S).1, e < tD (zT (sZ S)) ∧ pt x e < tS (zT (sZ S)) e := by
    rcases hg.2.1 with q | q
    · rw [q]; exact fun x hx => absurd hx List.not_mem_nil
    · exact fun x hx e he => ⟨q.1.2.2 e he, (q.2 x hx).2.1 e he⟩
  have hq : ¬ (sV S).2 = [] → ¬ (sV S).1 = [] := fun z y => by
    rcases hg.2.1 with q | q
    · rw [q] at z; exact z rfl
    · exact q.1.1 y
  first | refine x_aload_n hP rfl rfl ?_ | refine x_aload_nN hP rfl rfl ?_
  refine x_iconst hP rfl ?_
  refine x_putI hP rfl (by first | assumption | rfl) ?_
  first | refine w_nI ?_ | refine w_nL ?_ | refine w_nR ?_ | refine w_mI ?_ | refine w_mL ?_ | refine w_mR ?_ | skip
  refine x_iconst hP rfl ?_
  refine x_istore_n hP rfl ?_
  have f0 : frP rW I (x_at I 1613 122 0 (iI 0)) := frP_at (frP_refl _ _) (by unfold rW; omega)
  have hc0 := rfI_w hc f0 (frP_refl _ J)
  refine x_re hP [some (.ref 122), some (.int (iI (0 : Nat))), none, none, none, none] ⟨rfl, rfl, trivial⟩ (r_pr_all (T := zT (sZ S)) (ol := (sV S).1) (l := (sV S).2) hP hR ho hw.1 (fun e he => (hw.2.2 e he).2.1) (fun e z he hz => rTr_nm hc.2.1 he hz) a3 _ 0 _ (Nat.zero_add _) hc0.2.2.2.2.1.1 (fun z => hc0.2.2.2.2.1.2.2.2.2 (hq z)) ⟨rfl, fun i hi => absurd hi (Nat.not_lt_zero _)⟩ (fun I1 L1 r1 r2 z1 z2 z3 => ?_) _ _)
  refine x_re hP _ z3 ?_
  have f1 : frP rW I I1 := frP_trans f0 (frP_mono z2 fun _ _ _ => wF_rW)
  have hc1 := rfI_w hc f1 (frP_refl _ J)
  have h1 := z1.1
  unfold spPrint at k
  show P _ _ _ _ _ _ _ _ _
  rw [show (sV S).2.flatMap (tuL (zT (sZ S)) (sV S).1) = prL (zT (sZ S)) (sV S) from rfl] at z1 h1
  first | refine x_aload_n hP rfl rfl ?_ | refine x_aload_nN hP rfl rfl ?_
  refine x_getI hP rfl (by first | assumption | rfl) (by first | assumption | exact hR _ _ _ _ rfl | exact hR1 _ _ _ _ rfl | exact hR2 _ _ _ _ rfl | rfl) ?_
  refine x_sipush hP rfl ?_
  refine z_icmp_le hP rfl (by omega) (by omega) (fun c134 => ?_) (fun c134 => ?_)
  rotate_left
  · rw [if_neg (by omega)] at k
    refine x_bipush hP rfl ?_
    refine x_iret hP rfl rfl ?_
    exact k I1 hc1 (frP_mono f1 fun _ _ _ => rW_hh)
  have hl : (prL (zT (sZ S)) (sV S)).length ≤ 3000 := by omega
  rw [if_pos hl] at k
  rw [show min (prL (zT (sZ S)) (sV S)).length 3001 = (prL (zT (sZ S)) (sV S)).length by omega] at h1
  first | refine x_aload_n hP rfl rfl ?_ | refine x_aload_nN hP rfl rfl ?_
  first | refine x_aload_n hP rfl rfl ?_ | refine x_aload_nN hP rfl rfl ?_
  refine x_getI hP rfl (by first | assumption | rfl) (by first | assumption | exact hR _ _ _ _ rfl | exact hR1 _ _ _ _ rfl | exact hR2 _ _ _ _ rfl | rfl) ?_
  refine x_putI hP rfl (by first | assumption | rfl) ?_
  first | refine w_nI ?_ | refine w_nL ?_ | refine w_nR ?_ | refine w_mI ?_ | refine w_mL ?_ | refine w_mR ?_ | skip
  refine x_iconst hP rfl ?_
  refine x_istore_n hP rfl ?_
  refine x_re hP [some (.ref 122), some (.int (iI (0 : Nat)))] ⟨rfl, rfl, trivial⟩ (r_pr_sh (I := x_at I1 1605 122 0 (iI (prL (zT (sZ S)) (sV S)).length)) hP hR hl (fun I2 y1 y2 => ?_) _ 0 (x_at I1 1605 122 0 (iI (prL (zT (sZ S)) (sV S)).length)) (Nat.zero_add _) rfl z1 (fun j hj => absurd hj (Nat.not_lt_zero _)) (frP_refl _ _) _ _)
  have f2 : frP (fun k a _ => a = 143 ∨ a = 122 ∧ k = 1605) I1 I2 := frP_tr (frP_at (S := fun k a _ => a = 122 ∧ k = 1605) (frP_refl _ _) ⟨rfl, rfl⟩) y2 (fun _ _ _ => Or.inr) (fun _ _ _ => Or.inl)
  refine k I2 ?_ (frP_tr f1 f2 (fun _ _ _ => rW_hh) fun k a i z => by unfold hh; omega)
  obtain ⟨⟨t1, t2, t3, t4⟩, b2, b3, b4, ⟨e1, e2, e3, e4, e5⟩, b6, b7⟩ := hc1
  have fs : ∀ {k a i}, ¬ (a = 143 ∨ a = 122 ∧ k = 1605) → I2 k a i = I1 k a i := fun q => f2 _ _ _ q
  exact ⟨⟨(fs (by decide)).trans t1, t2, t3, fun i hi => (fs (by decide)).trans (t4 i hi)⟩, rTr_fr b2 f2 (frP_refl _ _) fun k a i z => by omega, rLy_fr b3 f2 fun k a i z => by omega, rNu_fr b4 f2 fun k a i z => by omega, ⟨(fs (by decide)).trans e1, (fs (by decide)).trans e2, e3, e4, fun q => rq_fr (e5 q) f2 fun k a i z y => by unfold rsF at z; omega⟩, fun j hj => ⟨fun q => (fs (by decide)).trans ((b6 j hj).1 q), fun q => rq_fr ((b6 j hj).2 q) f2 fun k a i z y => by unfold rsF at z; omega⟩, y1⟩
end
