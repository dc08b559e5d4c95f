/-! THE REFERENCE: products, cuts, filters -/
def tmL (wd : Nat) (ts us : List Nat) : List Nat := mk (ts.length * us.length) fun q => ts.getD (q / us.length) 0 ||| us.getD (q % us.length) 0 <<< (5 * wd)
def rsW (s k a i : Nat) : Prop := rsF s k a i ∨ rsF 28 k a i
section
variable {E : x_E} {P : x_Pr} {d rc rs : Nat} {I : x_M Int32} {J : x_M Int64} {R : x_M (Option Nat)} {Q : x_Q} {s s2 s3 : Nat} {ol ts us : List Nat} {tm : Bool}
theorem tmL_len (wd : Nat) (ts us : List Nat) : (tmL wd ts us).length = ts.length * us.length := mk_len _ _
theorem r_times_in (hP : x_closed E P) (hR : x_fin R) (hs : s < 30) (hs2 : s2 < 30) (hs3 : s3 < 30) (h13 : ¬ s = s3) (h23 : ¬ s2 = s3) {o2 oo : List Nat} (hb : ∀ t ∈ tmL ol.length ts us, t < 1048576) {i : Nat} (hi : i < ts.length) : ∀ (f j : Nat) (I : x_M Int32), j + f = us.length → i * us.length + j ≤ 201 → rq I s ol ts → rq I s2 o2 us → rv I s3 oo ((tmL ol.length ts us).take (i * us.length + j)) false → (∀ I' q L r1 r2, rv I' s3 oo ((tmL ol.length ts us).take q) false → (q = (i + 1) * us.length ∧ q ≤ 201 ∨ q = 201 ∧ 201 ≤ ts.length * us.length) → frP (rsT s3) I I' → x_ag L 0 [some (.ref 122), some (.int (iI s)), some (.int (iI s2)), some (.int (iI s3)), some (.int (iI i))] → P 195 (d + 1) 129 L [] (x_hp I' J R) r1 r2 Q) → ∀ rc rs, P 195 (d + 1) 64 (x_ls [some (.ref 122), some (.int (iI s)), some (.int (iI s2)), some (.int (iI s3)), some (.int (iI i)), some (.int (iI j))]) [] (x_hp I J R) rc rs Q := by
  have mle : (i + 1) * us.length ≤ ts.length * us.length := Nat.mul_le_mul_right _ hi
  have me : (i + 1) * us.length = i * us.length + us.length := Nat.succ_mul _ _
  intro f
  induction f with
  | zero =>
    intro j I hj hq hq1 hq2 hv k rc rs
    have ⟨h1, h2, h3, h4, h5, h6, h7, h8⟩ := hq2
    refine x_iload hP rfl rfl ?_
    first | refine x_aload_n hP rfl rfl ?_ | refine x_aload_nN hP rfl rfl ?_
    refine x_getR hP rfl (by first | assumption | rfl) (by first | assumption | exact hR _ _ _ _ rfl | exact hR1 _ _ _ _ rfl | exact hR2 _ _ _ _ rfl | rfl) ?_
    refine x_iload_n hP rfl rfl ?_
    refine z_iald hP rfl (by first | assumption | rfl) (by first | decide | omega) (by omega) (by first | assumption | exact hR _ _ _ _ rfl | exact hR1 _ _ _ _ rfl | exact hR2 _ _ _ _ rfl | rfl) ?_
    refine z_icmp_ge hP rfl (by omega) (by omega) (fun c72 => ?_) (fun c72 => ?_)
    · exact k I _ _ _ _ hv (Or.inl ⟨by omega, hq⟩) (frP_refl _ _) ⟨rfl, rfl, rfl, rfl, rfl, trivial⟩
    · omega
  | succ f ih =>
    intro j I hj hq hq1 hq2 hv k rc rs
    have ⟨a1, a2, a3, a4, a5, a6, a7, a8⟩ := hq1
    have ⟨h1, h2, h3, h4, h5, h6, h7, h8⟩ := hq2
    have hlt : j < us.length := by omega
    have v1 := a7 i hi
    have v2 := h7 j hlt
    have ql : i * us.length + j < (tmL ol.length ts us).length := by rw [tmL_len]; omega
    have vf := hv.2
    rw [List.length_take, Bool.false_or] at vf
    have el : (tmL ol.length ts us).getD (i * us.length + j) 0 = ts.getD i 0 ||| us.getD j 0 <<< (5 * ol.length) := by
      unfold tmL
      rw [mk_get (by rw [tmL_len] at ql; exact ql)]
      have e1 : (i * us.length + j) / us.length = i := by rw [Nat.mul_comm, Nat.mul_add_div (by omega), Nat.div_eq_of_lt hlt, Nat.add_zero]
      have e2 : (i * us.length + j) % us.length = j := by rw [Nat.mul_comm, Nat.mul_add_mod, Nat.mod_eq_of_lt hlt]
      rw [e1, e2]
    refine x_iload hP rfl rfl ?_
    first | refine x_aload_n hP rfl rfl ?_ | refine x_aload_nN hP rfl rfl ?_
    refine x_getR hP rfl (by first | assumption | rfl) (by first | assumption | exact hR _ _ _ _ rfl | exact hR1 _ _ _ _ rfl | exact hR2 _ _ _ _ rfl | rfl) ?_
    refine x_iload_n hP rfl rfl ?_
    refine z_iald hP rfl (by first | assumption | rfl) (by first | decide | omega) (by omega) (by first | assumption | exact hR _ _ _ _ rfl | exact hR1 _ _ _ _ rfl | exact hR2 _ _ _ _ rfl | rfl) ?_
    refine z_icmp_ge hP rfl (by omega) (by omega) (fun c72 => ?_) (fun c72 => ?_)
    · omega
    first | refine x_aload_n hP rfl rfl ?_ | refine x_aload_nN hP rfl rfl ?_
    refine x_getZ hP rfl (by first | assumption | rfl) (by first | assumption | exact hR _ _ _ _ rfl | exact hR1 _ _ _ _ rfl | exact hR2 _ _ _ _ rfl | rfl) ?_
    first | refine zb_if_ne hP rfl (fun c79 => ?_) (fun c79 => ?_) | refine zl_if_ne hP rfl (fun c79 => ?_) (fun c79 => ?_) | refine z_if_ne hP rfl (by omega) (fun c79 => ?_) (fun c79 => ?_)
    · have c79 := of_decide_eq_true c79
      refine k I 201 _ _ _ (by rw [show i * us.length + j = 201 by omega] at hv; exact hv) (Or.inr ⟨rfl, ?_⟩) (frP_refl _ _) ⟨rfl, rfl, rfl, rfl, rfl, trivial⟩
      rw [tmL_len] at ql
      omega
    · have c79 := of_decide_eq_false c79
      first | refine x_aload_n hP rfl rfl ?_ | refine x_aload_nN hP rfl rfl ?_
      refine x_iload_n hP rfl rfl ?_
      first | refine x_aload_n hP rfl rfl ?_ | refine x_aload_nN hP rfl rfl ?_
      refine x_getR hP rfl (by first | assumption | rfl) (by first | assumption | exact hR _ _ _ _ rfl | exact hR1 _ _ _ _ rfl | exact hR2 _ _ _ _ rfl | rfl) ?_
      refine x_sipush hP rfl ?_
      refine x_iload_n hP rfl rfl ?_
      first | refine z_imul hP rfl ?_ | refine x_imul hP rfl ?_
      refine x_iload hP rfl rfl ?_
      first | refine z_iadd hP rfl ?_ | refine x_iadd hP rfl ?_
      refine z_iald hP rfl (by first | assumption | rfl) (by first | decide | omega) (by omega) (by first | assumption | exact hR _ _ _ _ rfl | exact hR1 _ _ _ _ rfl | exact hR2 _ _ _ _ rfl | rfl) ?_
      first | refine x_aload_n hP rfl rfl ?_ | refine x_aload_nN hP rfl rfl ?_
      refine x_getR hP rfl (by first | assumption | rfl) (by first | assumption | exact hR _ _ _ _ rfl | exact hR1 _ _ _ _ rfl | exact hR2 _ _ _ _ rfl | rfl) ?_
      refine x_sipush hP rfl ?_
      refine x_iload_n hP rfl rfl ?_
      first | refine z_imul hP rfl ?_ | refine x_imul hP rfl ?_
      refine x_iload hP rfl rfl ?_
      first | refine z_iadd hP rfl ?_ | refine x_iadd hP rfl ?_
      refine z_iald hP rfl (by first | assumption | rfl) (by first | decide | omega) (by omega) (by first | assumption | exact hR _ _ _ _ rfl | exact hR1 _ _ _ _ rfl | exact hR2 _ _ _ _ rfl | rfl) ?_
      refine x_iconst hP rfl ?_
      first | refine x_aload_n hP rfl rfl ?_ | refine x_aload_nN hP rfl rfl ?_
      refine x_getR hP rfl (by first | assumption | rfl) (by first | assumption | exact hR _ _ _ _ rfl | exact hR1 _ _ _ _ rfl | exact hR2 _ _ _ _ rfl | rfl) ?_
      refine x_iload_n hP rfl rfl ?_
      refine z_iald hP rfl (by first | assumption | rfl) (by first | decide | omega) (by omega) (by first | assumption | exact hR _ _ _ _ rfl | exact hR1 _ _ _ _ rfl | exact hR2 _ _ _ _ rfl | rfl) ?_
      first | refine z_imul hP rfl ?_ | refine x_imul hP rfl ?_
      rw [show (5 * (ol.length : Int)) = ((5 * ol.length : Nat) : Int) by omega]
      refine x_ishl hP rfl ?_
      rw [iI_shl _ (5 * ol.length) (by omega)]
      refine x_ior hP rfl ?_
      rw [iI_or]
      rw [← el]
      refine x_callV2 (ci := 9) hP 0 0 rfl rfl rfl (by first | assumption | rfl) rfl rfl rfl (Nat.zero_le _) (Nat.zero_le _) ?_
      refine r_putV hP hR hs3 hv (hb _ (getD_mem ql)) (fun I1 g1 g2 => ?_)
      refine z_iinc hP rfl rfl rfl ?_
      refine x_goto hP rfl ?_
      exact x_re hP [some (.ref 122), some (.int (iI s)), some (.int (iI s2)), some (.int (iI s3)), some (.int (iI i)), some (.int (iI (j + 1 : Nat)))] ⟨rfl, rfl, rfl, rfl, rfl, rfl, trivial⟩ (ih (j + 1) I1 (by omega) (by omega) (rq_fT hq1 h13 g2) (rq_fT hq2 h23 g2) (by rw [← Nat.add_assoc, takec ql]; exact g1) (fun I' q L r1 r2 w1 w2 w3 => k I' q L r1 r2 w1 w2 (frP_trans g2 w3)) _ _)
theorem r_times_out (hP : x_closed E P) (hR : x_fin R) (hs : s < 30) (hs2 : s2 < 30) (hs3 : s3 < 30) (h13 : ¬ s = s3) (h23 : ¬ s2 = s3) {o2 oo : List Nat} (hb : ∀ t ∈ tmL ol.length ts us, t < 1048576) : ∀ (f i : Nat) (I : x_M Int32) (q : Nat), i + f = ts.length → (q = i * us.length ∧ q ≤ 201 ∨ q = 201 ∧ 201 ≤ ts.length * us.length) → rq I s ol ts → rq I s2 o2 us → rv I s3 oo ((tmL ol.length ts us).take q) false → (∀ I', rv I' s3 oo (tmL ol.length ts us) false → frP (rsT s3) I I' → Q none (x_hp I' J R)) → ∀ rc rs, P 195 (d + 1) 43 (x_ls [some (.ref 122), some (.int (iI s)), some (.int (iI s2)), some (.int (iI s3)), some (.int (iI i)), none]) [] (x_hp I J R) rc rs Q := by
  have ll := tmL_len ol.length ts us
  have done : ∀ {I : x_M Int32}, rv I s3 oo ((tmL ol.length ts us).take 201) false → 201 ≤ ts.length * us.length → rv I s3 oo (tmL ol.length ts us) false := fun h h2 => by
    obtain ⟨z1, z2⟩ := h
    rw [List.take_take] at z1
    rw [List.length_take, decide_eq_true (by omega)] at z2
    exact ⟨z1, by rw [decide_eq_true (by omega)]; exact z2⟩
  intro f
  induction f with
  | zero =>
    intro i I q hi hq hq1 hq2 hv k rc rs
    have ⟨h1, h2, h3, h4, h5, h6, h7, h8⟩ := hq1
    have fin : rv I s3 oo (tmL ol.length ts us) false := by
      rcases hq with ⟨z1, z2⟩ | ⟨z1, z2⟩
      · rw [List.take_of_length_le (by rw [ll, z1, show i = ts.length by omega]; exact Nat.le_refl _)] at hv; exact hv
      · rw [z1] at hv; exact done hv z2
    refine x_iload hP rfl rfl ?_
    first | refine x_aload_n hP rfl rfl ?_ | refine x_aload_nN hP rfl rfl ?_
    refine x_getR hP rfl (by first | assumption | rfl) (by first | assumption | exact hR _ _ _ _ rfl | exact hR1 _ _ _ _ rfl | exact hR2 _ _ _ _ rfl | rfl) ?_
    refine x_iload_n hP rfl rfl ?_
    refine z_iald hP rfl (by first | assumption | rfl) (by first | decide | omega) (by omega) (by first | assumption | exact hR _ _ _ _ rfl | exact hR1 _ _ _ _ rfl | exact hR2 _ _ _ _ rfl | rfl) ?_
    refine z_icmp_ge hP rfl (by omega) (by omega) (fun c51 => ?_) (fun c51 => ?_)
    · refine x_vret hP rfl rfl ?_
      exact k I fin (frP_refl _ _)
    · omega
  | succ f ih =>
    intro i I q hi hq hq1 hq2 hv k rc rs
    have ⟨h1, h2, h3, h4, h5, h6, h7, h8⟩ := hq1
    have ⟨b1, b2, b3, b4, b5, b6, b7, b8⟩ := hq2
    have ih2 : i < ts.length := by omega
    have mle : i * us.length ≤ ts.length * us.length := Nat.mul_le_mul_right _ (by omega)
    have vf := hv.2
    rw [List.length_take, Bool.false_or] at vf
    refine x_iload hP rfl rfl ?_
    first | refine x_aload_n hP rfl rfl ?_ | refine x_aload_nN hP rfl rfl ?_
    refine x_getR hP rfl (by first | assumption | rfl) (by first | assumption | exact hR _ _ _ _ rfl | exact hR1 _ _ _ _ rfl | exact hR2 _ _ _ _ rfl | rfl) ?_
    refine x_iload_n hP rfl rfl ?_
    refine z_iald hP rfl (by first | assumption | rfl) (by first | decide | omega) (by omega) (by first | assumption | exact hR _ _ _ _ rfl | exact hR1 _ _ _ _ rfl | exact hR2 _ _ _ _ rfl | rfl) ?_
    refine z_icmp_ge hP rfl (by omega) (by omega) (fun c51 => ?_) (fun c51 => ?_)
    · omega
    first | refine x_aload_n hP rfl rfl ?_ | refine x_aload_nN hP rfl rfl ?_
    refine x_getZ hP rfl (by first | assumption | rfl) (by first | assumption | exact hR _ _ _ _ rfl | exact hR1 _ _ _ _ rfl | exact hR2 _ _ _ _ rfl | rfl) ?_
    first | refine zb_if_ne hP rfl (fun c58 => ?_) (fun c58 => ?_) | refine zl_if_ne hP rfl (fun c58 => ?_) (fun c58 => ?_) | refine z_if_ne hP rfl (by omega) (fun c58 => ?_) (fun c58 => ?_)
    · have c58 := of_decide_eq_true c58
      refine x_vret hP rfl rfl ?_
      refine k I ?_ (frP_refl _ _)
      have : q = 201 := by omega
      rw [this] at hv
      exact done hv (by omega)
    · have c58 := of_decide_eq_false c58
      have hq' : q = i * us.length ∧ q ≤ 200 := by rcases hq with z | z <;> omega
      refine x_iconst hP rfl ?_
      refine x_istore hP rfl ?_
      refine x_re hP [some (.ref 122), some (.int (iI s)), some (.int (iI s2)), some (.int (iI s3)), some (.int (iI i)), some (.int (iI (0 : Nat)))] ⟨rfl, rfl, rfl, rfl, rfl, rfl, trivial⟩ (r_times_in hP hR hs hs2 hs3 h13 h23 hb ih2 us.length 0 I (by omega) (by omega) hq1 hq2 (by rw [Nat.add_zero, ← hq'.1]; exact hv) (fun I1 q1 L r1 r2 w1 w2 w3 hL => ?_) _ _)
      refine x_re hP _ hL ?_
      refine z_iinc hP rfl rfl rfl ?_
      refine x_goto hP rfl ?_
      exact x_re hP [some (.ref 122), some (.int (iI s)), some (.int (iI s2)), some (.int (iI s3)), some (.int (iI (i + 1 : Nat))), none] ⟨rfl, rfl, rfl, rfl, rfl, trivial⟩ (ih (i + 1) I1 q1 (by omega) w2 (rq_fT hq1 h13 w3) (rq_fT hq2 h23 w3) w1 (fun I' z1 z2 => k I' z1 (frP_trans w3 z2)) _ _)
theorem r_times (hP : x_closed E P) (hR : x_fin R) (hs : s < 30) (hs2 : s2 < 30) (hs3 : s3 < 30) (h13 : ¬ s = s3) (h23 : ¬ s2 = s3) {o2 : List Nat} (hoo : ol.length + o2.length ≤ 4) (hb : ∀ t ∈ tmL ol.length ts us, t < 1048576) (hq : rq I s ol ts) (hq2 : rq I s2 o2 us) (hf : I 1602 122 0 = bI tm) (k : ∀ I' m, rq I' s3 (ol ++ o2) ((tmL ol.length ts us).take m) → (tm = false → m = 200) → I' 1602 122 0 = bI (tm || decide (200 < ts.length * us.length)) → frP (rsT s3) I I' → Q none (x_hp I' J R)) : P 195 (d + 1) 0 (x_la 0 [.ref 122, .int (iI s), .int (iI s2), .int (iI s3)]) [] (x_hp I J R) rc rs Q := by
  have ⟨h1, h2, h3, h4, h5, h6, h7, h8⟩ := hq
  have ⟨b1, b2, b3, b4, b5, b6, b7, b8⟩ := hq2
  first | refine x_aload_n hP rfl rfl ?_ | refine x_aload_nN hP rfl rfl ?_
  refine x_iload_n hP rfl rfl ?_
  first | refine x_aload_n hP rfl rfl ?_ | refine x_aload_nN hP rfl rfl ?_
  refine x_getR hP rfl (by first | assumption | rfl) (by first | assumption | exact hR _ _ _ _ rfl | exact hR1 _ _ _ _ rfl | exact hR2 _ _ _ _ rfl | rfl) ?_
  refine x_iload_n hP rfl rfl ?_
  refine z_iald hP rfl (by first | assumption | rfl) (by first | decide | omega) (by omega) (by first | assumption | exact hR _ _ _ _ rfl | exact hR1 _ _ _ _ rfl | exact hR2 _ _ _ _ rfl | rfl) ?_
  first | refine x_aload_n hP rfl rfl ?_ | refine x_aload_nN hP rfl rfl ?_
  refine x_getR hP rfl (by first | assumption | rfl) (by first | assumption | exact hR _ _ _ _ rfl | exact hR1 _ _ _ _ rfl | exact hR2 _ _ _ _ rfl | rfl) ?_
  refine x_iload_n hP rfl rfl ?_
  refine z_iald hP rfl (by first | assumption | rfl) (by first | decide | omega) (by omega) (by first | assumption | exact hR _ _ _ _ rfl | exact hR1 _ _ _ _ rfl | exact hR2 _ _ _ _ rfl | rfl) ?_
  first | refine z_iadd hP rfl ?_ | refine x_iadd hP rfl ?_
  first | refine x_aload_n hP rfl rfl ?_ | refine x_aload_nN hP rfl rfl ?_
  refine x_getR hP rfl (by first | assumption | rfl) (by first | assumption | exact hR _ _ _ _ rfl | exact hR1 _ _ _ _ rfl | exact hR2 _ _ _ _ rfl | rfl) ?_
  refine x_iload_n hP rfl rfl ?_
  refine z_iald hP rfl (by first | assumption | rfl) (by first | decide | omega) (by omega) (by first | assumption | exact hR _ _ _ _ rfl | exact hR1 _ _ _ _ rfl | exact hR2 _ _ _ _ rfl | rfl) ?_
  first | refine x_aload_n hP rfl rfl ?_ | refine x_aload_nN hP rfl rfl ?_
  refine x_getR hP rfl (by first | assumption | rfl) (by first | assumption | exact hR _ _ _ _ rfl | exact hR1 _ _ _ _ rfl | exact hR2 _ _ _ _ rfl | rfl) ?_
  refine x_iload_n hP rfl rfl ?_
  refine z_iald hP rfl (by first | assumption | rfl) (by first | decide | omega) (by omega) (by first | assumption | exact hR _ _ _ _ rfl | exact hR1 _ _ _ _ rfl | exact hR2 _ _ _ _ rfl | rfl) ?_
  refine x_iconst hP rfl ?_
  first | refine x_aload_n hP rfl rfl ?_ | refine x_aload_nN hP rfl rfl ?_
  refine x_getR hP rfl (by first | assumption | rfl) (by first | assumption | exact hR _ _ _ _ rfl | exact hR1 _ _ _ _ rfl | exact hR2 _ _ _ _ rfl | rfl) ?_
  refine x_iload_n hP rfl rfl ?_
  refine z_iald hP rfl (by first | assumption | rfl) (by first | decide | omega) (by omega) (by first | assumption | exact hR _ _ _ _ rfl | exact hR1 _ _ _ _ rfl | exact hR2 _ _ _ _ rfl | rfl) ?_
  first | refine z_imul hP rfl ?_ | refine x_imul hP rfl ?_
  rw [show (2 * (ol.length : Int)) = ((2 * ol.length : Nat) : Int) by omega]
  refine x_ishl hP rfl ?_
  rw [iI_shl _ (2 * ol.length) (by omega)]
  refine x_ior hP rfl ?_
  rw [iI_or, okd_app ol o2 h6, show ((ol.length : Int) + (o2.length : Int)) = ((ol ++ o2).length : Nat) by rw [List.length_append]; omega]
  refine x_callV3 (ci := 9) hP 0 0 rfl rfl rfl (by first | assumption | rfl) rfl rfl rfl (Nat.zero_le _) (Nat.zero_le _) ?_
  refine r_clear hP hR hs3 (by rw [List.length_append]; exact hoo) (fun e he => by rcases List.mem_append.mp he with z | z; exact h6 e z; exact b6 e z) (fun I1 g1 g2 => ?_)
  refine x_iconst hP rfl ?_
  refine x_istore hP rfl ?_
  have g3 : frP (rsT s3) I I1 := frP_mono g2 fun _ _ _ => Or.inl
  have f1 : I1 1602 122 0 = bI tm := (g2 _ _ _ fun z => by unfold rsF at z; omega).trans hf
  cases tm with
  | false =>
    refine x_re hP [some (.ref 122), some (.int (iI s)), some (.int (iI s2)), some (.int (iI s3)), some (.int (iI (0 : Nat))), none] ⟨rfl, rfl, rfl, rfl, rfl, trivial⟩ (r_times_out (oo := ol ++ o2) hP hR hs hs2 hs3 h13 h23 hb ts.length 0 I1 0 (by omega) (Or.inl ⟨by omega, by omega⟩) (rq_fT hq h13 g3) (rq_fT hq2 h23 g3) ⟨g1, by rw [f1]; rfl⟩ (fun I2 w1 w2 => ?_) _ _)
    have w3 := w1.2
    rw [tmL_len] at w3
    exact k I2 200 w1.1 (fun _ => rfl) w3 (frP_trans g3 w2)
  | true =>
    have q1 := (rq_fT hq h13 g3).1
    have fin : ∀ L r1 r2, P 195 (d + 1) 135 L [] (x_hp I1 J R) r1 r2 Q := by
      intro L r1 r2
      refine x_vret hP rfl rfl ?_
      exact k I1 0 g1 (fun z => by cases z) f1 g3
    refine x_iload hP rfl rfl ?_
    first | refine x_aload_n hP rfl rfl ?_ | refine x_aload_nN hP rfl rfl ?_
    refine x_getR hP rfl (by first | assumption | rfl) (by first | assumption | exact hR _ _ _ _ rfl | exact hR1 _ _ _ _ rfl | exact hR2 _ _ _ _ rfl | rfl) ?_
    refine x_iload_n hP rfl rfl ?_
    refine z_iald hP rfl (by first | assumption | rfl) (by first | decide | omega) (by omega) (by first | assumption | exact hR _ _ _ _ rfl | exact hR1 _ _ _ _ rfl | exact hR2 _ _ _ _ rfl | rfl) ?_
    refine z_icmp_ge hP rfl (by omega) (by omega) (fun c51 => ?_) (fun c51 => ?_)
    · exact fin _ _ _
    first | refine x_aload_n hP rfl rfl ?_ | refine x_aload_nN hP rfl rfl ?_
    refine x_getZ hP rfl (by first | assumption | rfl) (by first | assumption | exact hR _ _ _ _ rfl | exact hR1 _ _ _ _ rfl | exact hR2 _ _ _ _ rfl | rfl) ?_
    first | refine zb_if_ne hP rfl (fun c58 => ?_) (fun c58 => ?_) | refine zl_if_ne hP rfl (fun c58 => ?_) (fun c58 => ?_) | refine z_if_ne hP rfl (by omega) (fun c58 => ?_) (fun c58 => ?_)
    · exact fin _ _ _
    · cases c58
theorem r_cut_loop (hP : x_closed E P) (hR : x_fin R) (hs : s < 28) {a : Nat} (hA : a < 2147483648) {b : Int} (hb : 0 ≤ b ∧ b < 2147483648) {z2 : Value} : ∀ (f i : Nat) (I : x_M Int32), a ≤ i → (i : Int) + f = max (a : Int) (min b ts.length) → rq I 28 ol ts → rq I s ol ((ts.take i).drop a) → (∀ I', rq I' s ol ((ts.take b.toNat).drop a) → frP (rsF s) I I' → Q none (x_hp I' J R)) → ∀ rc rs, P 202 (d + 1) 37 (x_ls [some (.ref 122), some (.int (iI s)), some z2, some (.int (iI b)), some (.int (iI i))]) [] (x_hp I J R) rc rs Q := by
  intro f
  induction f with
  | zero =>
    intro i I ha hi hq hq2 k rc rs
    have ⟨h1, h2, h3, h4, h5, h6, h7, h8⟩ := hq
    have e : (ts.take i).drop a = (ts.take b.toNat).drop a := by
      rcases Nat.lt_or_ge a (min b.toNat ts.length) with z | z
      · rcases Nat.lt_or_ge b.toNat ts.length with y | y
        · rw [show i = b.toNat by omega]
        · rw [List.take_of_length_le (show ts.length ≤ i by omega), List.take_of_length_le y]
      · rw [List.drop_eq_nil_of_le (by rw [List.length_take]; omega), List.drop_eq_nil_of_le (by rw [List.length_take]; omega)]
    rw [e] at hq2
    have hge : b ≤ i ∨ (ts.length : Int) ≤ i := by omega
    have ib : (i : Int) < 2147483648 := by omega
    refine x_iload hP rfl rfl ?_
    refine x_iload_n hP rfl rfl ?_
    refine z_icmp_ge hP rfl (by omega) (by omega) (fun c40 => ?_) (fun c40 => ?_)
    · refine x_vret hP rfl rfl ?_
      exact k I hq2 (frP_refl _ _)
    refine x_iload hP rfl rfl ?_
    first | refine x_aload_n hP rfl rfl ?_ | refine x_aload_nN hP rfl rfl ?_
    refine x_getR hP rfl (by first | assumption | rfl) (by first | assumption | exact hR _ _ _ _ rfl | exact hR1 _ _ _ _ rfl | exact hR2 _ _ _ _ rfl | rfl) ?_
    refine x_bipush hP rfl ?_
    refine z_iald hP rfl (by first | assumption | rfl) (by first | decide | omega) (by omega) (by first | assumption | exact hR _ _ _ _ rfl | exact hR1 _ _ _ _ rfl | exact hR2 _ _ _ _ rfl | rfl) ?_
    refine z_icmp_ge hP rfl (by omega) (by omega) (fun c52 => ?_) (fun c52 => ?_)
    · refine x_vret hP rfl rfl ?_
      exact k I hq2 (frP_refl _ _)
    · omega
  | succ f ih =>
    intro i I ha hi hq hq2 k rc rs
    have ⟨h1, h2, h3, h4, h5, h6, h7, h8⟩ := hq
    have hlt : i < ts.length := by omega
    have v : I 1 139 (5628 + i) = iI (ts.getD i 0) := h7 i hlt
    refine x_iload hP rfl rfl ?_
    refine x_iload_n hP rfl rfl ?_
    refine z_icmp_ge hP rfl (by omega) (by omega) (fun c40 => ?_) (fun c40 => ?_)
    · omega
    refine x_iload hP rfl rfl ?_
    first | refine x_aload_n hP rfl rfl ?_ | refine x_aload_nN hP rfl rfl ?_
    refine x_getR hP rfl (by first | assumption | rfl) (by first | assumption | exact hR _ _ _ _ rfl | exact hR1 _ _ _ _ rfl | exact hR2 _ _ _ _ rfl | rfl) ?_
    refine x_bipush hP rfl ?_
    refine z_iald hP rfl (by first | assumption | rfl) (by first | decide | omega) (by omega) (by first | assumption | exact hR _ _ _ _ rfl | exact hR1 _ _ _ _ rfl | exact hR2 _ _ _ _ rfl | rfl) ?_
    refine z_icmp_ge hP rfl (by omega) (by omega) (fun c52 => ?_) (fun c52 => ?_)
    · omega
    first | refine x_aload_n hP rfl rfl ?_ | refine x_aload_nN hP rfl rfl ?_
    refine x_iload_n hP rfl rfl ?_
    first | refine x_aload_n hP rfl rfl ?_ | refine x_aload_nN hP rfl rfl ?_
    refine x_getR hP rfl (by first | assumption | rfl) (by first | assumption | exact hR _ _ _ _ rfl | exact hR1 _ _ _ _ rfl | exact hR2 _ _ _ _ rfl | rfl) ?_
    refine x_sipush hP rfl ?_
    refine x_iload hP rfl rfl ?_
    first | refine z_iadd hP rfl ?_ | refine x_iadd hP rfl ?_
    refine z_iald hP rfl (by first | assumption | rfl) (by first | decide | omega) (by omega) (by first | assumption | exact hR _ _ _ _ rfl | exact hR1 _ _ _ _ rfl | exact hR2 _ _ _ _ rfl | rfl) ?_
    refine x_callV2 (ci := 9) hP 0 0 rfl rfl rfl (by first | assumption | rfl) rfl rfl rfl (Nat.zero_le _) (Nat.zero_le _) ?_
    refine r_put1 hP hR (by omega) hq2 (by rw [List.length_drop, List.length_take]; omega) (h8 _ (getD_mem hlt)) (fun I1 g1 g2 => ?_)
    refine z_iinc hP rfl rfl rfl ?_
    refine x_goto hP rfl ?_
    exact x_re hP [some (.ref 122), some (.int (iI s)), some z2, some (.int (iI b)), some (.int (iI (i + 1 : Nat)))] ⟨rfl, rfl, rfl, rfl, rfl, trivial⟩ (ih (i + 1) I1 (by omega) (by omega) (rq_fr hq g2 fun k a i z => rsF_ne (by omega) z) (by rw [takec hlt, List.drop_append_of_le_length (by rw [List.length_take]; omega)]; exact g1) (fun I' w1 w2 => k I' w1 (frP_trans g2 w2)) _ _)
theorem r_cut (hP : x_closed E P) (hR : x_fin R) (hs : s < 28) {x b : Int} (hx : -2147483648 ≤ x ∧ x < 2147483648) (hb : 0 ≤ b ∧ b < 2147483648) (hq : rq I s ol ts) (k : ∀ I', rq I' s ol ((ts.take b.toNat).drop x.toNat) → frP (rsW s) I I' → Q none (x_hp I' J R)) : P 202 (d + 2) 0 (x_la 0 [.ref 122, .int (iI s), .int (iI x), .int (iI b)]) [] (x_hp I J R) rc rs Q := by
  first | refine x_aload_n hP rfl rfl ?_ | refine x_aload_nN hP rfl rfl ?_
  refine x_iload_n hP rfl rfl ?_
  refine x_bipush hP rfl ?_
  refine x_callV2 (ci := 9) hP 0 0 rfl rfl rfl (by first | assumption | rfl) rfl rfl rfl (Nat.zero_le _) (Nat.zero_le _) ?_
  refine r_copy (s2 := 28) hP hR (by omega) (by decide) (by omega) hq (fun I1 g1 g2 => ?_)
  have ⟨h1, h2, h3, h4, h5, h6, h7, h8⟩ := g1
  first | refine x_aload_n hP rfl rfl ?_ | refine x_aload_nN hP rfl rfl ?_
  refine x_iload_n hP rfl rfl ?_
  first | refine x_aload_n hP rfl rfl ?_ | refine x_aload_nN hP rfl rfl ?_
  refine x_getR hP rfl (by first | assumption | rfl) (by first | assumption | exact hR _ _ _ _ rfl | exact hR1 _ _ _ _ rfl | exact hR2 _ _ _ _ rfl | rfl) ?_
  refine x_bipush hP rfl ?_
  refine z_iald hP rfl (by first | assumption | rfl) (by first | decide | omega) (by omega) (by first | assumption | exact hR _ _ _ _ rfl | exact hR1 _ _ _ _ rfl | exact hR2 _ _ _ _ rfl | rfl) ?_
  first | refine x_aload_n hP rfl rfl ?_ | refine x_aload_nN hP rfl rfl ?_
  refine x_getR hP rfl (by first | assumption | rfl) (by first | assumption | exact hR _ _ _ _ rfl | exact hR1 _ _ _ _ rfl | exact hR2 _ _ _ _ rfl | rfl) ?_
  refine x_bipush hP rfl ?_
  refine z_iald hP rfl (by first | assumption | rfl) (by first | decide | omega) (by omega) (by first | assumption | exact hR _ _ _ _ rfl | exact hR1 _ _ _ _ rfl | exact hR2 _ _ _ _ rfl | rfl) ?_
  refine x_callV3 (ci := 9) hP 0 0 rfl rfl rfl (by first | assumption | rfl) rfl rfl rfl (Nat.zero_le _) (Nat.zero_le _) ?_
  refine r_clear hP hR (by omega) h5 h6 (fun I2 g3 g4 => ?_)
  have q2 := rq_fr g1 g4 fun k a i z => rsF_ne (by omega) z
  have ff : frP (rsW s) I I2 := frP_tr g2 g4 (fun _ _ _ => Or.inr) fun _ _ _ => Or.inl
  have fin : ∀ (a : Nat), a = x.toNat → ∀ L r1 r2, x_ag L 0 [some (.ref 122), some (.int (iI s)), some (.int (iI x)), some (.int (iI b)), some (.int (iI a))] → P 202 (d + 2) 37 L [] (x_hp I2 J R) r1 r2 Q := by
    intro a ea L r1 r2 hL
    obtain ⟨f, hf⟩ : ∃ f : Nat, (a : Int) + f = max (a : Int) (min b ts.length) := ⟨(max (a : Int) (min b ts.length) - a).toNat, by omega⟩
    exact x_re hP _ hL (r_cut_loop (d := d + 1) hP hR hs (by omega) hb f a I2 (Nat.le_refl _) hf q2 (by rw [List.drop_eq_nil_of_le (by rw [List.length_take]; omega)]; exact g3) (fun I' w1 w2 => k I' (by rw [← ea]; exact w1) (frP_tr ff w2 (fun _ _ _ z => z) fun _ _ _ => Or.inl)) _ _)
  refine x_iload_n hP rfl rfl ?_
  first | refine zl_if_ge hP rfl (fun c27 => ?_) (fun c27 => ?_) | refine z_if_ge hP rfl (by omega) (fun c27 => ?_) (fun c27 => ?_)
  · obtain ⟨m, rfl⟩ : ∃ m : Nat, x = m := ⟨x.toNat, by omega⟩
    refine x_iload_n hP rfl rfl ?_
    refine x_istore hP rfl ?_
    exact fin m (by omega) _ _ _ ⟨rfl, rfl, rfl, rfl, rfl, trivial⟩
  · refine x_iconst hP rfl ?_
    refine x_goto hP rfl ?_
    refine x_istore hP rfl ?_
    exact fin 0 (by omega) _ _ _ ⟨rfl, rfl, rfl, rfl, rfl, trivial⟩
theorem r_shown_loop (hP : x_closed E P) (hR : x_fin R) (hs : s < 30) {nu : Nat → Nat → Nat → Int} (hn : rNu I nu) (hq : rq I s ol ts) {i m x : Nat} (hi : i < ts.length) (hm : m < 3) (hx : ts.getD i 0 = rfE ol x) (h30 : ∀ e ∈ ol, pt x e < 30) : ∀ (f z : Nat) (acc : Int), z + f = ol.length → Q (some (.int (iI (shO (fun e => nu m e (pt x e)) acc (ol.drop z))))) (x_hp I J R) → ∀ rc rs, P 204 (d + 1) 6 (x_ls [some (.ref 122), some (.int (iI s)), some (.int (iI i)), some (.int (iI m)), some (.int (iI acc)), some (.int (iI z)), none]) [] (x_hp I J R) rc rs Q := by
  have ⟨h1, h2, h3, h4, h5, h6, h7, h8⟩ := hq
  have v := h7 i hi
  rw [hx] at v
  have vb := rfE_20 (o := ol) x h5
  intro f
  induction f with
  | zero =>
    intro z acc hz k rc rs
    rw [drop_all (by omega)] at k
    refine x_iload hP rfl rfl ?_
    first | refine x_aload_n hP rfl rfl ?_ | refine x_aload_nN hP rfl rfl ?_
    refine x_getR hP rfl (by first | assumption | rfl) (by first | assumption | exact hR _ _ _ _ rfl | exact hR1 _ _ _ _ rfl | exact hR2 _ _ _ _ rfl | rfl) ?_
    refine x_iload_n hP rfl rfl ?_
    refine z_iald hP rfl (by first | assumption | rfl) (by first | decide | omega) (by omega) (by first | assumption | exact hR _ _ _ _ rfl | exact hR1 _ _ _ _ rfl | exact hR2 _ _ _ _ rfl | rfl) ?_
    refine z_icmp_ge hP rfl (by omega) (by omega) (fun c14 => ?_) (fun c14 => ?_)
    · refine x_iload hP rfl rfl ?_
      refine x_iret hP rfl rfl ?_
      exact k
    · omega
  | succ f ih =>
    intro z acc hz k rc rs
    have hlt : z < ol.length := by omega
    have e4 := h6 _ (getD_mem hlt)
    have e30 := h30 _ (getD_mem hlt)
    have nn := hn m _ _ hm e4 e30
    rw [dropc hlt] at k
    unfold shO at k
    refine x_iload hP rfl rfl ?_
    first | refine x_aload_n hP rfl rfl ?_ | refine x_aload_nN hP rfl rfl ?_
    refine x_getR hP rfl (by first | assumption | rfl) (by first | assumption | exact hR _ _ _ _ rfl | exact hR1 _ _ _ _ rfl | exact hR2 _ _ _ _ rfl | rfl) ?_
    refine x_iload_n hP rfl rfl ?_
    refine z_iald hP rfl (by first | assumption | rfl) (by first | decide | omega) (by omega) (by first | assumption | exact hR _ _ _ _ rfl | exact hR1 _ _ _ _ rfl | exact hR2 _ _ _ _ rfl | rfl) ?_
    refine z_icmp_ge hP rfl (by omega) (by omega) (fun c14 => ?_) (fun c14 => ?_)
    · omega
    first | refine x_aload_n hP rfl rfl ?_ | refine x_aload_nN hP rfl rfl ?_
    refine x_getR hP rfl (by first | assumption | rfl) (by first | assumption | exact hR _ _ _ _ rfl | exact hR1 _ _ _ _ rfl | exact hR2 _ _ _ _ rfl | rfl) ?_
    refine x_bipush hP rfl ?_
    refine x_iload_n hP rfl rfl ?_
    first | refine z_imul hP rfl ?_ | refine x_imul hP rfl ?_
    refine x_bipush hP rfl ?_
    first | refine x_aload_n hP rfl rfl ?_ | refine x_aload_nN hP rfl rfl ?_
    refine x_iload_n hP rfl rfl ?_
    refine x_iload hP rfl rfl ?_
    refine x_callV2 (ci := 9) hP 0 0 rfl rfl rfl (by first | assumption | rfl) rfl rfl rfl (Nat.zero_le _) (Nat.zero_le _) ?_
    refine r_dimension hP hR hs hq hlt ?_
    first | refine z_imul hP rfl ?_ | refine x_imul hP rfl ?_
    first | refine z_iadd hP rfl ?_ | refine x_iadd hP rfl ?_
    first | refine x_aload_n hP rfl rfl ?_ | refine x_aload_nN hP rfl rfl ?_
    refine x_getR hP rfl (by first | assumption | rfl) (by first | assumption | exact hR _ _ _ _ rfl | exact hR1 _ _ _ _ rfl | exact hR2 _ _ _ _ rfl | rfl) ?_
    refine x_sipush hP rfl ?_
    refine x_iload_n hP rfl rfl ?_
    first | refine z_imul hP rfl ?_ | refine x_imul hP rfl ?_
    refine x_iload_n hP rfl rfl ?_
    first | refine z_iadd hP rfl ?_ | refine x_iadd hP rfl ?_
    refine z_iald hP rfl (by first | assumption | rfl) (by first | decide | omega) (by omega) (by first | assumption | exact hR _ _ _ _ rfl | exact hR1 _ _ _ _ rfl | exact hR2 _ _ _ _ rfl | rfl) ?_
    refine x_iconst hP rfl ?_
    refine x_iload hP rfl rfl ?_
    first | refine z_imul hP rfl ?_ | refine x_imul hP rfl ?_
    rw [show (5 * (z : Int)) = ((5 * z : Nat) : Int) by omega]
    refine x_ishr hP rfl ?_
    rw [iI_shr _ (5 * z) (by omega) (by omega)]
    refine x_bipush hP rfl ?_
    refine x_iand hP rfl ?_
    rw [show iI 31 = iI ((31 : Nat) : Int) from rfl, iI_and, show rfE ol x >>> (5 * z) &&& 31 = rfE ol x >>> (5 * z) % 32 from Nat.and_two_pow_sub_one_eq_mod _ 5, rfE_pt ol x z hlt]
    have n1 : I 1 138 (120 * m + 30 * ol.getD z 0 + pt x (ol.getD z 0)) = iI (nu m (ol.getD z 0) (pt x (ol.getD z 0))) := by rw [Nat.add_assoc]; exact nn.1
    have n2 := nn.2
    first | refine z_iadd hP rfl ?_ | refine x_iadd hP rfl ?_
    refine z_iald hP rfl (by first | assumption | rfl) (by first | decide | omega) (by omega) (by first | assumption | exact hR _ _ _ _ rfl | exact hR1 _ _ _ _ rfl | exact hR2 _ _ _ _ rfl | rfl) ?_
    refine x_istore hP rfl ?_
    refine x_iload hP rfl rfl ?_
    refine x_ldcI hP rfl ?_
    first | refine z_icmp_ne hP rfl (by omega) (by omega) (fun c64 => ?_) (fun c64 => ?_) | refine x_icmp_ne hP rfl (fun c64 => ?_) (fun c64 => ?_)
    · rw [if_neg c64] at k
      refine x_iload hP rfl rfl ?_
      refine x_iload hP rfl rfl ?_
      first | refine z_iadd hP rfl ?_ | refine x_iadd hP rfl ?_
      refine x_istore hP rfl ?_
      refine z_iinc hP rfl rfl rfl ?_
      refine x_goto hP rfl ?_
      exact x_re hP [some (.ref 122), some (.int (iI s)), some (.int (iI i)), some (.int (iI m)), some (.int (iI (acc + nu m (ol.getD z 0) (pt x (ol.getD z 0))))), some (.int (iI (z + 1 : Nat))), none] ⟨rfl, rfl, rfl, rfl, rfl, rfl, trivial⟩ (ih (z + 1) _ (by omega) k _ _)
    · rw [if_pos c64] at k
      refine x_ldcI hP rfl ?_
      refine x_iret hP rfl rfl ?_
      exact k
theorem r_shown (hP : x_closed E P) (hR : x_fin R) (hs : s < 30) {nu : Nat → Nat → Nat → Int} (hn : rNu I nu) (hq : rq I s ol ts) {i m x : Nat} (hi : i < ts.length) (hm : m < 3) (hx : ts.getD i 0 = rfE ol x) (h30 : ∀ e ∈ ol, pt x e < 30) (k : Q (some (.int (iI (shw nu m ol x)))) (x_hp I J R)) : P 204 (d + 1) 0 (x_la 0 [.ref 122, .int (iI s), .int (iI i), .int (iI m)]) [] (x_hp I J R) rc rs Q := by
  refine x_iconst hP rfl ?_
  refine x_istore hP rfl ?_
  refine x_iconst hP rfl ?_
  refine x_istore hP rfl ?_
  exact x_re hP [some (.ref 122), some (.int (iI s)), some (.int (iI i)), some (.int (iI m)), some (.int (iI 0)), some (.int (iI (0 : Nat))), none] ⟨rfl, rfl, rfl, rfl, rfl, rfl, trivial⟩ (r_shown_loop hP hR hs hn hq hi hm hx h30 ol.length 0 0 (by omega) k _ _)
end
