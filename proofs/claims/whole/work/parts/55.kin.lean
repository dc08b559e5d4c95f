/-! Kin: MEMBERS of one DIMENSION, each once -/
def adL (fd : List Nat) (k : Nat) : List Nat := if k ∈ fd then fd else fd ++ [k]
def adds (fd ks : List Nat) : List Nat := ks.foldl adL fd
theorem adds_snoc (fd ks : List Nat) (k : Nat) : adds fd (ks ++ [k]) = adL (adds fd ks) k := by unfold adds; rw [List.foldl_append]; rfl
theorem adds_nil (fd : List Nat) : adds fd [] = fd := rfl
def gd (fd : List Nat) : Prop := (∀ k ∈ fd, k < 30) ∧ fd.length = sumS (fun k => if k ∈ fd then 1 else 0) 30
theorem gd_nil : gd [] := ⟨fun _ h => absurd h List.not_mem_nil, (sumS_z fun _ _ => if_neg List.not_mem_nil).symm⟩
theorem gd_len {fd : List Nat} (h : gd fd) : fd.length ≤ 30 := by
  rw [h.2]
  have := sumS_mono (f := fun k => if k ∈ fd then 1 else 0) (g := fun _ => 1) 30 (fun j _ => by split <;> omega)
  exact Nat.le_trans this (by decide)
theorem gd_lt {fd : List Nat} {k : Nat} (h : gd fd) (hk : k < 30) (hn : ¬ k ∈ fd) : fd.length < 30 := by
  rw [h.2]
  have := sumS_mono (f := fun j => (if j ∈ fd then 1 else 0) + (if j = k then 1 else 0)) (g := fun _ => 1) 30 (fun j _ => by
    by_cases q : j = k
    · rw [if_pos q, q, if_neg hn]; exact Nat.le_refl _
    · rw [if_neg q]; split <;> omega)
  rw [sumS_add, sumS_one, if_pos hk] at this
  have e : sumS (fun _ => 1) 30 = 30 := by decide
  rw [e] at this
  omega
theorem gd_ad {fd : List Nat} {k : Nat} (h : gd fd) (hk : k < 30) : gd (adL fd k) := by
  unfold adL
  by_cases q : k ∈ fd
  · rw [if_pos q]; exact h
  · rw [if_neg q]
    refine ⟨fun j hj => ?_, ?_⟩
    · rcases List.mem_append.mp hj with z | z
      · exact h.1 j z
      · rw [List.mem_singleton.mp z]; exact hk
    · rw [List.length_append, h.2]
      have : sumS (fun j => if j ∈ fd ++ [k] then 1 else 0) 30 = sumS (fun j => (if j ∈ fd then 1 else 0) + (if j = k then 1 else 0)) 30 := sumS_congr 30 fun j _ => by
        by_cases z : j = k
        · rw [z, if_pos (List.mem_append_right _ (List.mem_singleton.mpr rfl)), if_neg q, if_pos rfl]
        · rw [if_neg z]
          by_cases w : j ∈ fd
          · rw [if_pos (List.mem_append_left _ w), if_pos w]
          · rw [if_neg (fun u => by rcases List.mem_append.mp u with u | u; exact w u; exact z (List.mem_singleton.mp u)), if_neg w]
      rw [this, sumS_add, sumS_one, if_pos hk]
      rfl
theorem bit1 (M k : Nat) : (M >>> k) &&& 1 = if M.testBit k = true then 1 else 0 := by
  rw [Nat.and_one_is_mod, Nat.testBit_eq_decide_div_mod_eq, Nat.shiftRight_eq_div_pow]
  by_cases h : M / 2 ^ k % 2 = 1
  · rw [decide_eq_true h, if_pos rfl, h]
  · rw [decide_eq_false h, if_neg (by decide)]; omega
/-- a set of MEMBERS as bits -/
def bts (M : Nat) (fd : List Nat) : Prop := M < 1073741824 ∧ ∀ k, k < 30 → M.testBit k = decide (k ∈ fd)
theorem bts_ad {M k : Nat} {fd : List Nat} (h : bts M fd) (hk : k < 30) : bts (M ||| 1 <<< k) (fd ++ [k]) := by
  rw [Nat.one_shiftLeft]
  refine ⟨Nat.or_lt_two_pow (n := 30) h.1 (Nat.pow_lt_pow_right (by decide) hk), fun j hj => ?_⟩
  rw [Nat.testBit_or, h.2 j hj, Nat.testBit_two_pow]
  by_cases q : j = k
  · rw [q, decide_eq_true rfl, Bool.or_true, decide_eq_true (List.mem_append_right _ (List.mem_singleton.mpr rfl))]
  · rw [decide_eq_false (show ¬ k = j from fun z => q z.symm), Bool.or_false]
    by_cases w : j ∈ fd
    · rw [decide_eq_true w, decide_eq_true (List.mem_append_left _ w)]
    · rw [decide_eq_false w, decide_eq_false (fun u => by rcases List.mem_append.mp u with u | u; exact w u; exact q (List.mem_singleton.mp u))]
/-- the Kin holds fd, of DIMENSION e of the trees at t -/
def kn (I : x_M Int32) (R : x_M (Option Nat)) (t e : Nat) (fd : List Nat) : Prop := R 1451 95 0 = some t ∧ I 1452 95 0 = iI e ∧ I 1449 95 0 = iI fd.length ∧ ar I 96 fd ∧ gd fd ∧ ∃ M : Nat, I 1450 95 0 = iI M ∧ bts M fd
def kA (a : Nat) : Prop := a = 95 ∨ a = 96
theorem shr1 {M k : Nat} (hM : M < 1073741824) (hk : k < 32) : (iI M >>> (iI k &&& 31)) &&& iI 1 = iI (if M.testBit k = true then 1 else 0 : Nat) := by
  rw [iI_shr M k (by omega) hk, show iI 1 = iI ((1 : Nat) : Int) from rfl, iI_and, bit1]
section
variable {E : x_E} {P : x_Pr} {d rc rs : Nat} {I : x_M Int32} {J : x_M Int64} {R : x_M (Option Nat)} {Q : x_Q} {t e s : Nat} {fd : List Nat} {p : Nat → Int} {H : Nat → Nat}
theorem c_kinAdd (hP : x_closed E P) (hR : x_fin R) {z : Nat} (hz : z < 30) (hk : kn I R t e fd) (k : ∀ I', kn I' R t e (adL fd z) → frP (fun _ a _ => kA a) I I' → Q none (x_hp I' J R)) : P 102 d 0 (x_la 0 [.ref 95, .int (iI z)]) [] (x_hp I J R) rc rs Q := by
  have hk' := hk
  obtain ⟨h1, h2, h3, h4, h5, M, h6, h7⟩ := hk
  have hl := gd_len h5
  unfold adL at k
  first | refine x_aload_n hP rfl rfl ?_ | refine x_aload_nN hP rfl rfl ?_
  refine x_getI hP rfl (by first | assumption | rfl) (by first | assumption | exact hR _ _ _ _ rfl | exact hR1 _ _ _ _ rfl | exact hR2 _ _ _ _ rfl | rfl) ?_
  refine x_iload_n hP rfl rfl ?_
  refine x_ishr hP rfl ?_
  refine x_iconst hP rfl ?_
  refine x_iand hP rfl ?_
  rw [shr1 h7.1 (by omega), h7.2 z hz]
  by_cases q : z ∈ fd
  · rw [if_pos q] at k
    rw [if_pos (decide_eq_true q)]
    first | refine zb_if_ne hP rfl (fun c8 => ?_) (fun c8 => ?_) | refine zl_if_ne hP rfl (fun c8 => ?_) (fun c8 => ?_) | refine z_if_ne hP rfl (by omega) (fun c8 => ?_) (fun c8 => ?_)
    · refine x_vret hP rfl rfl ?_
      exact k I hk' (frP_refl _ _)
    · omega
  · rw [if_neg q] at k
    rw [if_neg (by rw [decide_eq_true_iff]; exact q)]
    have hlt := gd_lt h5 hz q
    first | refine zb_if_ne hP rfl (fun c8 => ?_) (fun c8 => ?_) | refine zl_if_ne hP rfl (fun c8 => ?_) (fun c8 => ?_) | refine z_if_ne hP rfl (by omega) (fun c8 => ?_) (fun c8 => ?_)
    · omega
    first | refine x_aload_n hP rfl rfl ?_ | refine x_aload_nN hP rfl rfl ?_
    refine x_getI hP rfl (by first | assumption | rfl) (by first | assumption | exact hR _ _ _ _ rfl | exact hR1 _ _ _ _ rfl | exact hR2 _ _ _ _ rfl | rfl) ?_
    refine x_bipush hP rfl ?_
    refine z_icmp_ge hP rfl (by omega) (by omega) (fun c17 => ?_) (fun c17 => ?_)
    · omega
    first | refine x_aload_n hP rfl rfl ?_ | refine x_aload_nN hP rfl rfl ?_
    refine x_dup hP rfl rfl ?_
    refine x_getI hP rfl (by first | assumption | rfl) (by first | assumption | exact hR _ _ _ _ rfl | exact hR1 _ _ _ _ rfl | exact hR2 _ _ _ _ rfl | rfl) ?_
    refine x_iconst hP rfl ?_
    refine x_iload_n hP rfl rfl ?_
    refine x_ishl hP rfl ?_
    refine x_ior hP rfl ?_
    rw [show iI 1 = iI ((1 : Nat) : Int) from rfl, iI_shl 1 z (by omega), iI_or]
    refine x_putI hP rfl (by first | assumption | rfl) ?_
    first | refine w_nI ?_ | refine w_nL ?_ | refine w_nR ?_ | refine w_mI ?_ | refine w_mL ?_ | refine w_mR ?_ | skip
    first | refine x_aload_n hP rfl rfl ?_ | refine x_aload_nN hP rfl rfl ?_
    refine x_getR hP rfl (by first | assumption | rfl) (by first | assumption | exact hR _ _ _ _ rfl | exact hR1 _ _ _ _ rfl | exact hR2 _ _ _ _ rfl | rfl) ?_
    first | refine x_aload_n hP rfl rfl ?_ | refine x_aload_nN hP rfl rfl ?_
    refine x_getI hP rfl (by first | assumption | rfl) (by first | assumption | exact hR _ _ _ _ rfl | exact hR1 _ _ _ _ rfl | exact hR2 _ _ _ _ rfl | rfl) ?_
    refine x_iload_n hP rfl rfl ?_
    refine z_iast hP rfl (by first | assumption | rfl) (by first | decide | omega) (by omega) ?_
    first | refine w_nI ?_ | refine w_nL ?_ | refine w_nR ?_ | refine w_mI ?_ | refine w_mL ?_ | refine w_mR ?_ | skip
    first | refine x_aload_n hP rfl rfl ?_ | refine x_aload_nN hP rfl rfl ?_
    refine x_dup hP rfl rfl ?_
    refine x_getI hP rfl (by first | assumption | rfl) (by first | assumption | exact hR _ _ _ _ rfl | exact hR1 _ _ _ _ rfl | exact hR2 _ _ _ _ rfl | rfl) ?_
    refine x_iconst hP rfl ?_
    first | refine z_iadd hP rfl ?_ | refine x_iadd hP rfl ?_
    refine x_putI hP rfl (by first | assumption | rfl) ?_
    first | refine w_nI ?_ | refine w_nL ?_ | refine w_nR ?_ | refine w_mI ?_ | refine w_mL ?_ | refine w_mR ?_ | skip
    refine x_vret hP rfl rfl ?_
    have h5' := gd_ad h5 hz
    unfold adL at h5'
    rw [if_neg q] at h5'
    refine k _ ⟨h1, ?_, ?_, ?_, h5', M ||| 1 <<< z, ?_, bts_ad h7 hz⟩ (frP_at (frP_at (frP_at (frP_refl _ _) (Or.inl rfl)) (Or.inr rfl)) (Or.inl rfl))
    · rw [x_at_eq, if_neg (by omega), x_at_eq, if_neg (by omega), x_at_eq, if_neg (by omega)]; exact h2
    · rw [x_at_eq, if_pos ⟨rfl, rfl, rfl⟩, List.length_append]; rfl
    · exact ar_at (ar_snoc (ar_at h4 (by omega))) (by omega)
    · rw [x_at_eq, if_neg (by omega), x_at_eq, if_neg (by omega), x_at_eq, if_pos ⟨rfl, rfl, rfl⟩]
theorem c_kinBegin (hP : x_closed E P) (ht : x_kd0 t = (1008, 0)) (k : ∀ I', kn I' (x_at R 1451 95 0 (some t)) t e [] → frP (fun _ a _ => kA a) I I' → Q none (x_hp I' J (x_at R 1451 95 0 (some t)))) : P 100 d 0 (x_la 0 [.ref 95, .ref t, .int (iI e)]) [] (x_hp I J R) rc rs Q := by
  first | refine x_aload_n hP rfl rfl ?_ | refine x_aload_nN hP rfl rfl ?_
  first | refine x_aload_n hP rfl rfl ?_ | refine x_aload_nN hP rfl rfl ?_
  refine x_putR hP rfl (by first | assumption | rfl) ?_
  first | refine w_nI ?_ | refine w_nL ?_ | refine w_nR ?_ | refine w_mI ?_ | refine w_mL ?_ | refine w_mR ?_ | skip
  first | refine x_aload_n hP rfl rfl ?_ | refine x_aload_nN hP rfl rfl ?_
  refine x_iload_n hP rfl rfl ?_
  refine x_putI hP rfl (by first | assumption | rfl) ?_
  first | refine w_nI ?_ | refine w_nL ?_ | refine w_nR ?_ | refine w_mI ?_ | refine w_mL ?_ | refine w_mR ?_ | skip
  first | refine x_aload_n hP rfl rfl ?_ | refine x_aload_nN hP rfl rfl ?_
  refine x_iconst hP rfl ?_
  refine x_putI hP rfl (by first | assumption | rfl) ?_
  first | refine w_nI ?_ | refine w_nL ?_ | refine w_nR ?_ | refine w_mI ?_ | refine w_mL ?_ | refine w_mR ?_ | skip
  first | refine x_aload_n hP rfl rfl ?_ | refine x_aload_nN hP rfl rfl ?_
  refine x_iconst hP rfl ?_
  refine x_putI hP rfl (by first | assumption | rfl) ?_
  first | refine w_nI ?_ | refine w_nL ?_ | refine w_nR ?_ | refine w_mI ?_ | refine w_mL ?_ | refine w_mR ?_ | skip
  refine x_vret hP rfl rfl ?_
  refine k _ ⟨?_, ?_, ?_, ar_nil _ _, gd_nil, 0, ?_, by decide, fun j hj => by rw [Nat.zero_testBit, decide_eq_false List.not_mem_nil]⟩ (frP_at (frP_at (frP_at (frP_refl _ _) (Or.inl rfl)) (Or.inl rfl)) (Or.inl rfl))
  · rw [x_at_eq, if_pos ⟨rfl, rfl, rfl⟩]
  · rw [x_at_eq, if_neg (by omega), x_at_eq, if_neg (by omega), x_at_eq, if_pos ⟨rfl, rfl, rfl⟩]
  · rw [x_at_eq, if_neg (by omega), x_at_eq, if_pos ⟨rfl, rfl, rfl⟩]; rfl
  · rw [x_at_eq, if_pos ⟨rfl, rfl, rfl⟩]; rfl
theorem c_addIfAny (hP : x_closed E P) (hR : x_fin R) {z : Int} (hz : -1 ≤ z ∧ z < 30) (hk : kn I R t e fd) (k : ∀ I', kn I' R t e (adds fd (if z < 0 then [] else [z.toNat])) → frP (fun _ a _ => kA a) I I' → Q none (x_hp I' J R)) : P 114 (d + 1) 0 (x_la 0 [.ref 95, .int (iI z)]) [] (x_hp I J R) rc rs Q := by
  refine x_iload_n hP rfl rfl ?_
  refine z_if_lt hP rfl (by omega) (fun c1 => ?_) (fun c1 => ?_)
  · rw [if_pos (by omega)] at k
    refine x_vret hP rfl rfl ?_
    exact k I hk (frP_refl _ _)
  · rw [if_neg (by omega)] at k
    obtain ⟨y, rfl⟩ : ∃ y : Nat, z = y := ⟨z.toNat, by omega⟩
    first | refine x_aload_n hP rfl rfl ?_ | refine x_aload_nN hP rfl rfl ?_
    refine x_iload_n hP rfl rfl ?_
    refine x_callV1 (ci := 7) hP 0 0 rfl rfl rfl (by first | assumption | rfl) rfl rfl rfl (Nat.zero_le _) (Nat.zero_le _) ?_
    refine c_kinAdd hP hR (by omega) hk (fun I1 h1 h2 => ?_)
    refine x_vret hP rfl rfl ?_
    exact k I1 h1 h2
/-- one DIMENSION of the trees at t -/
def dm1 (I : x_M Int32) (t e : Nat) (p : Nat → Int) (s : Nat) (H : Nat → Nat) : Prop := e < 4 ∧ 1 ≤ s ∧ s ≤ 30 ∧ wfp p s ∧ (∀ k, k < s → H k ≤ 6) ∧ I 1 (t + 1) e = iI s ∧ af I (t + 3) (32 * e) s p ∧ af I (t + 4) (32 * e) s (fun k => H k) ∧ st1 I t e p s ∧ st2 I t e p s
theorem dm1_fr {S : Nat → Nat → Nat → Prop} {I I' : x_M Int32} (h : dm1 I t e p s H) (hf : frP S I I') (hs : ∀ k a i, S k a i → ¬ (t ≤ a ∧ a ≤ t + 11)) : dm1 I' t e p s H := by
  have f : ∀ k a i, t ≤ a ∧ a ≤ t + 11 → I' k a i = I k a i := fun k a i ha => hf k a i (fun q => hs k a i q ha)
  obtain ⟨h0, h1, h2, h3, h4, h5, h6, h7, ⟨h8, h9, h10⟩, h11, h12⟩ := h
  exact ⟨h0, h1, h2, h3, h4, (f _ _ _ (by omega)).trans h5, fun k hk => (f _ _ _ (by omega)).trans (h6 k hk), fun k hk => (f _ _ _ (by omega)).trans (h7 k hk), ⟨fun k hk => (f _ _ _ (by omega)).trans (h8 k hk), fun k hk => (f _ _ _ (by omega)).trans (h9 k hk), fun k hk => (f _ _ _ (by omega)).trans (h10 k hk)⟩, fun k hk => (f _ _ _ (by omega)).trans (h11 k hk), fun k hk => (f _ _ _ (by omega)).trans (h12 k hk)⟩
theorem dm1_of {T : x_T} (hc : ct I J t T) (hs : stP I t T (tD T)) (he : e < tD T) : dm1 I t e (tP T e) (tS T e) (tH T e) := by
  obtain ⟨h1, h2, h3, h4, h5, hw⟩ := hc
  have := hw.2.2 e he
  have w1 := hw.1
  exact ⟨by omega, this.1, this.2.1, twf_wfp hw he, fun k hk => (this.2.2.2.2 k hk).1, h3 e he, fun k hk => (h4 e he k hk).2.1, fun k hk => (h4 e he k hk).2.2, (hs e he).1, (hs e he).2⟩
theorem kA_out {t : Nat} (hta : isTa t) {k a i : Nat} (h : kA a) : ¬ (t ≤ a ∧ a ≤ t + 11) := by have := isTa_rg hta; unfold kA at h; omega
/-- of the first i MEMBERS, those with a property -/
def rfi (c : Nat → Bool) (i : Nat) : List Nat := (List.range i).filter c
theorem rfi_s (c : Nat → Bool) (i : Nat) : rfi c (i + 1) = rfi c i ++ (if c i = true then [i] else []) := by
  unfold rfi
  rw [List.range_succ, List.filter_append, List.filter_cons, List.filter_nil]
theorem c_addUnder_loop (hP : x_closed E P) (hR : x_fin R) (hta : isTa t) {z : Int} (hz : -1 ≤ z ∧ z < 30) : ∀ (f i : Nat) (I : x_M Int32), i + f = s → dm1 I t e p s H → kn I R t e (adds fd (rfi (fun j => decide (p j = z)) i)) → (∀ I', kn I' R t e (adds fd (rfi (fun j => decide (p j = z)) s)) → frP (fun _ a _ => kA a) I I' → Q none (x_hp I' J R)) → P 112 (d + 1) 11 (x_ls [some (.ref 95), some (.int (iI z)), some (.int (iI (32 * e : Nat))), some (.int (iI i))]) [] (x_hp I J R) rc rs Q := by
  have ht := isTr_of hR hta
  obtain ⟨t0, t1, t2, t3, t4, t5, t6, t7, t8, t9, t10, t11, u1, u2, u3, u4, u5, u6, u7, u8, u9, u10, u11⟩ := ht
  intro f
  induction f with
  | zero =>
    intro i I hi hd hk k
    obtain ⟨d0, d1, d2, d3, d4, d5, d6, d7, d8, d9⟩ := hd
    obtain ⟨k1, k2, k3, k4⟩ := hk
    have hk : kn I R t e (adds fd (rfi (fun j => decide (p j = z)) i)) := ⟨k1, k2, k3, k4⟩
    obtain rfl : i = s := by omega
    refine x_iload_n hP rfl rfl ?_
    first | refine x_aload_n hP rfl rfl ?_ | refine x_aload_nN hP rfl rfl ?_
    refine x_getR hP rfl (by first | assumption | rfl) (by first | assumption | exact hR _ _ _ _ rfl | exact hR1 _ _ _ _ rfl | exact hR2 _ _ _ _ rfl | rfl) ?_
    refine x_getR hP rfl (by first | assumption | rfl) (by first | assumption | exact hR _ _ _ _ rfl | exact hR1 _ _ _ _ rfl | exact hR2 _ _ _ _ rfl | rfl) ?_
    first | refine x_aload_n hP rfl rfl ?_ | refine x_aload_nN hP rfl rfl ?_
    refine x_getI hP rfl (by first | assumption | rfl) (by first | assumption | exact hR _ _ _ _ rfl | exact hR1 _ _ _ _ rfl | exact hR2 _ _ _ _ rfl | rfl) ?_
    refine z_iald hP rfl (by first | assumption | rfl) (by first | decide | omega) (by omega) (by first | assumption | exact hR _ _ _ _ rfl | exact hR1 _ _ _ _ rfl | exact hR2 _ _ _ _ rfl | rfl) ?_
    refine z_icmp_ge hP rfl (by omega) (by omega) (fun c24 => ?_) (fun c24 => ?_)
    · refine x_vret hP rfl rfl ?_
      exact k I hk (frP_refl _ _)
    · omega
  | succ f ih =>
    intro i I hi hd hk k
    have hd' := hd
    obtain ⟨d0, d1, d2, d3, d4, d5, d6, d7, d8, d9⟩ := hd
    obtain ⟨k1, k2, k3, k4⟩ := hk
    have hk : kn I R t e (adds fd (rfi (fun j => decide (p j = z)) i)) := ⟨k1, k2, k3, k4⟩
    have v := d6 i (by omega)
    have hpi : -1 ≤ p i ∧ p i < 30 := by
      rcases Nat.eq_zero_or_pos i with q | q
      · rw [q]; have := d3.1; omega
      · have := d3.2 i q (by omega); omega
    refine x_iload_n hP rfl rfl ?_
    first | refine x_aload_n hP rfl rfl ?_ | refine x_aload_nN hP rfl rfl ?_
    refine x_getR hP rfl (by first | assumption | rfl) (by first | assumption | exact hR _ _ _ _ rfl | exact hR1 _ _ _ _ rfl | exact hR2 _ _ _ _ rfl | rfl) ?_
    refine x_getR hP rfl (by first | assumption | rfl) (by first | assumption | exact hR _ _ _ _ rfl | exact hR1 _ _ _ _ rfl | exact hR2 _ _ _ _ rfl | rfl) ?_
    first | refine x_aload_n hP rfl rfl ?_ | refine x_aload_nN hP rfl rfl ?_
    refine x_getI hP rfl (by first | assumption | rfl) (by first | assumption | exact hR _ _ _ _ rfl | exact hR1 _ _ _ _ rfl | exact hR2 _ _ _ _ rfl | rfl) ?_
    refine z_iald hP rfl (by first | assumption | rfl) (by first | decide | omega) (by omega) (by first | assumption | exact hR _ _ _ _ rfl | exact hR1 _ _ _ _ rfl | exact hR2 _ _ _ _ rfl | rfl) ?_
    refine z_icmp_ge hP rfl (by omega) (by omega) (fun c24 => ?_) (fun c24 => ?_)
    · omega
    first | refine x_aload_n hP rfl rfl ?_ | refine x_aload_nN hP rfl rfl ?_
    refine x_getR hP rfl (by first | assumption | rfl) (by first | assumption | exact hR _ _ _ _ rfl | exact hR1 _ _ _ _ rfl | exact hR2 _ _ _ _ rfl | rfl) ?_
    refine x_getR hP rfl (by first | assumption | rfl) (by first | assumption | exact hR _ _ _ _ rfl | exact hR1 _ _ _ _ rfl | exact hR2 _ _ _ _ rfl | rfl) ?_
    refine x_iload_n hP rfl rfl ?_
    refine x_iload_n hP rfl rfl ?_
    first | refine z_iadd hP rfl ?_ | refine x_iadd hP rfl ?_
    refine z_iald hP rfl (by first | assumption | rfl) (by first | decide | omega) (by omega) (by first | assumption | exact hR _ _ _ _ rfl | exact hR1 _ _ _ _ rfl | exact hR2 _ _ _ _ rfl | rfl) ?_
    refine x_iload_n hP rfl rfl ?_
    first | refine z_icmp_ne hP rfl (by omega) (by omega) (fun c39 => ?_) (fun c39 => ?_) | refine x_icmp_ne hP rfl (fun c39 => ?_) (fun c39 => ?_)
    · refine z_iinc hP rfl rfl rfl ?_
      refine x_goto hP rfl ?_
      refine x_re hP [some (.ref 95), some (.int (iI z)), some (.int (iI (32 * e : Nat))), some (.int (iI (i + 1 : Nat)))] ⟨rfl, rfl, rfl, rfl, trivial⟩ (ih (i + 1) I (by omega) hd' ?_ k)
      rw [rfi_s, if_neg (by rw [decide_eq_true_iff]; exact c39), List.append_nil]
      exact hk
    · first | refine x_aload_n hP rfl rfl ?_ | refine x_aload_nN hP rfl rfl ?_
      refine x_iload_n hP rfl rfl ?_
      refine x_callV1 (ci := 7) hP 0 0 rfl rfl rfl (by first | assumption | rfl) rfl rfl rfl (Nat.zero_le _) (Nat.zero_le _) ?_
      refine c_kinAdd hP hR (by omega) hk (fun I1 h1 h2 => ?_)
      refine z_iinc hP rfl rfl rfl ?_
      refine x_goto hP rfl ?_
      refine x_re hP [some (.ref 95), some (.int (iI z)), some (.int (iI (32 * e : Nat))), some (.int (iI (i + 1 : Nat)))] ⟨rfl, rfl, rfl, rfl, trivial⟩ (ih (i + 1) I1 (by omega) (dm1_fr hd' h2 (fun k a i h => kA_out (k := k) (i := i) hta h)) ?_ (fun I' w1 w2 => k I' w1 (frP_trans h2 w2)))
      rw [rfi_s, if_pos (decide_eq_true c39), adds_snoc]
      exact h1
theorem c_addUnder (hP : x_closed E P) (hR : x_fin R) (hta : isTa t) {z : Int} (hz : -1 ≤ z ∧ z < 30) (hd : dm1 I t e p s H) (hk : kn I R t e fd) (k : ∀ I', kn I' R t e (adds fd (rfi (fun j => decide (p j = z)) s)) → frP (fun _ a _ => kA a) I I' → Q none (x_hp I' J R)) : P 112 (d + 1) 0 (x_la 0 [.ref 95, .int (iI z)]) [] (x_hp I J R) rc rs Q := by
  have k2 := hk.2.1
  first | refine x_aload_n hP rfl rfl ?_ | refine x_aload_nN hP rfl rfl ?_
  refine x_getI hP rfl (by first | assumption | rfl) (by first | assumption | exact hR _ _ _ _ rfl | exact hR1 _ _ _ _ rfl | exact hR2 _ _ _ _ rfl | rfl) ?_
  refine x_iconst hP rfl ?_
  refine x_callS2 hP 0 0 rfl rfl rfl rfl rfl (Nat.zero_le _) (Nat.zero_le _) ?_
  refine c_idOf hP (k := 0) hd.1 (by decide) ?_
  refine x_istore_n hP rfl ?_
  refine x_iconst hP rfl ?_
  refine x_istore_n hP rfl ?_
  exact x_re hP [some (.ref 95), some (.int (iI z)), some (.int (iI (32 * e : Nat))), some (.int (iI (0 : Nat)))] ⟨rfl, rfl, rfl, rfl, trivial⟩ (c_addUnder_loop hP hR hta hz s 0 I (by omega) hd hk k)
theorem c_addDeep_loop (hP : x_closed E P) (hR : x_fin R) (hta : isTa t) {z : Nat} (hz : z ≤ 6) : ∀ (f i : Nat) (I : x_M Int32), i + f = s → dm1 I t e p s H → kn I R t e (adds fd (rfi (fun j => decide (H j = z)) i)) → (∀ I', kn I' R t e (adds fd (rfi (fun j => decide (H j = z)) s)) → frP (fun _ a _ => kA a) I I' → Q none (x_hp I' J R)) → P 117 (d + 1) 11 (x_ls [some (.ref 95), some (.int (iI z)), some (.int (iI (32 * e : Nat))), some (.int (iI i))]) [] (x_hp I J R) rc rs Q := by
  have ht := isTr_of hR hta
  obtain ⟨t0, t1, t2, t3, t4, t5, t6, t7, t8, t9, t10, t11, u1, u2, u3, u4, u5, u6, u7, u8, u9, u10, u11⟩ := ht
  intro f
  induction f with
  | zero =>
    intro i I hi hd hk k
    obtain ⟨d0, d1, d2, d3, d4, d5, d6, d7, d8, d9⟩ := hd
    obtain ⟨k1, k2, k3, k4⟩ := hk
    have hk : kn I R t e (adds fd (rfi (fun j => decide (H j = z)) i)) := ⟨k1, k2, k3, k4⟩
    obtain rfl : i = s := by omega
    refine x_iload_n hP rfl rfl ?_
    first | refine x_aload_n hP rfl rfl ?_ | refine x_aload_nN hP rfl rfl ?_
    refine x_getR hP rfl (by first | assumption | rfl) (by first | assumption | exact hR _ _ _ _ rfl | exact hR1 _ _ _ _ rfl | exact hR2 _ _ _ _ rfl | rfl) ?_
    refine x_getR hP rfl (by first | assumption | rfl) (by first | assumption | exact hR _ _ _ _ rfl | exact hR1 _ _ _ _ rfl | exact hR2 _ _ _ _ rfl | rfl) ?_
    first | refine x_aload_n hP rfl rfl ?_ | refine x_aload_nN hP rfl rfl ?_
    refine x_getI hP rfl (by first | assumption | rfl) (by first | assumption | exact hR _ _ _ _ rfl | exact hR1 _ _ _ _ rfl | exact hR2 _ _ _ _ rfl | rfl) ?_
    refine z_iald hP rfl (by first | assumption | rfl) (by first | decide | omega) (by omega) (by first | assumption | exact hR _ _ _ _ rfl | exact hR1 _ _ _ _ rfl | exact hR2 _ _ _ _ rfl | rfl) ?_
    refine z_icmp_ge hP rfl (by omega) (by omega) (fun c24 => ?_) (fun c24 => ?_)
    · refine x_vret hP rfl rfl ?_
      exact k I hk (frP_refl _ _)
    · omega
  | succ f ih =>
    intro i I hi hd hk k
    have hd' := hd
    obtain ⟨d0, d1, d2, d3, d4, d5, d6, d7, d8, d9⟩ := hd
    obtain ⟨k1, k2, k3, k4⟩ := hk
    have hk : kn I R t e (adds fd (rfi (fun j => decide (H j = z)) i)) := ⟨k1, k2, k3, k4⟩
    have v : I 1 (t + 4) (32 * e + i) = iI (H i : Nat) := d7 i (by omega)
    have hpi := d4 i (by omega)
    refine x_iload_n hP rfl rfl ?_
    first | refine x_aload_n hP rfl rfl ?_ | refine x_aload_nN hP rfl rfl ?_
    refine x_getR hP rfl (by first | assumption | rfl) (by first | assumption | exact hR _ _ _ _ rfl | exact hR1 _ _ _ _ rfl | exact hR2 _ _ _ _ rfl | rfl) ?_
    refine x_getR hP rfl (by first | assumption | rfl) (by first | assumption | exact hR _ _ _ _ rfl | exact hR1 _ _ _ _ rfl | exact hR2 _ _ _ _ rfl | rfl) ?_
    first | refine x_aload_n hP rfl rfl ?_ | refine x_aload_nN hP rfl rfl ?_
    refine x_getI hP rfl (by first | assumption | rfl) (by first | assumption | exact hR _ _ _ _ rfl | exact hR1 _ _ _ _ rfl | exact hR2 _ _ _ _ rfl | rfl) ?_
    refine z_iald hP rfl (by first | assumption | rfl) (by first | decide | omega) (by omega) (by first | assumption | exact hR _ _ _ _ rfl | exact hR1 _ _ _ _ rfl | exact hR2 _ _ _ _ rfl | rfl) ?_
    refine z_icmp_ge hP rfl (by omega) (by omega) (fun c24 => ?_) (fun c24 => ?_)
    · omega
    first | refine x_aload_n hP rfl rfl ?_ | refine x_aload_nN hP rfl rfl ?_
    refine x_getR hP rfl (by first | assumption | rfl) (by first | assumption | exact hR _ _ _ _ rfl | exact hR1 _ _ _ _ rfl | exact hR2 _ _ _ _ rfl | rfl) ?_
    refine x_getR hP rfl (by first | assumption | rfl) (by first | assumption | exact hR _ _ _ _ rfl | exact hR1 _ _ _ _ rfl | exact hR2 _ _ _ _ rfl | rfl) ?_
    refine x_iload_n hP rfl rfl ?_
    refine x_iload_n hP rfl rfl ?_
    first | refine z_iadd hP rfl ?_ | refine x_iadd hP rfl ?_
    refine z_iald hP rfl (by first | assumption | rfl) (by first | decide | omega) (by omega) (by first | assumption | exact hR _ _ _ _ rfl | exact hR1 _ _ _ _ rfl | exact hR2 _ _ _ _ rfl | rfl) ?_
    refine x_iload_n hP rfl rfl ?_
    first | refine z_icmp_ne hP rfl (by omega) (by omega) (fun c39 => ?_) (fun c39 => ?_) | refine x_icmp_ne hP rfl (fun c39 => ?_) (fun c39 => ?_)
    · refine z_iinc hP rfl rfl rfl ?_
      refine x_goto hP rfl ?_
      refine x_re hP [some (.ref 95), some (.int (iI z)), some (.int (iI (32 * e : Nat))), some (.int (iI (i + 1 : Nat)))] ⟨rfl, rfl, rfl, rfl, trivial⟩ (ih (i + 1) I (by omega) hd' ?_ k)
      rw [rfi_s, if_neg (by rw [decide_eq_true_iff]; omega), List.append_nil]
      exact hk
    · first | refine x_aload_n hP rfl rfl ?_ | refine x_aload_nN hP rfl rfl ?_
      refine x_iload_n hP rfl rfl ?_
      refine x_callV1 (ci := 7) hP 0 0 rfl rfl rfl (by first | assumption | rfl) rfl rfl rfl (Nat.zero_le _) (Nat.zero_le _) ?_
      refine c_kinAdd hP hR (by omega) hk (fun I1 h1 h2 => ?_)
      refine z_iinc hP rfl rfl rfl ?_
      refine x_goto hP rfl ?_
      refine x_re hP [some (.ref 95), some (.int (iI z)), some (.int (iI (32 * e : Nat))), some (.int (iI (i + 1 : Nat)))] ⟨rfl, rfl, rfl, rfl, trivial⟩ (ih (i + 1) I1 (by omega) (dm1_fr hd' h2 (fun k a i h => kA_out (k := k) (i := i) hta h)) ?_ (fun I' w1 w2 => k I' w1 (frP_trans h2 w2)))
      rw [rfi_s, if_pos (by rw [decide_eq_true_iff]; omega), adds_snoc]
      exact h1
theorem c_addDeep (hP : x_closed E P) (hR : x_fin R) (hta : isTa t) {z : Nat} (hz : z ≤ 6) (hd : dm1 I t e p s H) (hk : kn I R t e fd) (k : ∀ I', kn I' R t e (adds fd (rfi (fun j => decide (H j = z)) s)) → frP (fun _ a _ => kA a) I I' → Q none (x_hp I' J R)) : P 117 (d + 1) 0 (x_la 0 [.ref 95, .int (iI z)]) [] (x_hp I J R) rc rs Q := by
  have k2 := hk.2.1
  first | refine x_aload_n hP rfl rfl ?_ | refine x_aload_nN hP rfl rfl ?_
  refine x_getI hP rfl (by first | assumption | rfl) (by first | assumption | exact hR _ _ _ _ rfl | exact hR1 _ _ _ _ rfl | exact hR2 _ _ _ _ rfl | rfl) ?_
  refine x_iconst hP rfl ?_
  refine x_callS2 hP 0 0 rfl rfl rfl rfl rfl (Nat.zero_le _) (Nat.zero_le _) ?_
  refine c_idOf hP (k := 0) hd.1 (by decide) ?_
  refine x_istore_n hP rfl ?_
  refine x_iconst hP rfl ?_
  refine x_istore_n hP rfl ?_
  exact x_re hP [some (.ref 95), some (.int (iI z)), some (.int (iI (32 * e : Nat))), some (.int (iI (0 : Nat)))] ⟨rfl, rfl, rfl, rfl, trivial⟩ (c_addDeep_loop hP hR hta hz s 0 I (by omega) hd hk k)
end
