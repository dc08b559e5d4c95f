/-! THE some (.ref 122)ERENCE: ITEMS and SETS grow -/
/-- row s holds V, or, if there are too many, something of its kind -/
def rA (T : x_T) (I : x_M Int32) (s : Nat) (V : x_V) (tm : Bool) : Prop := ∃ l', rq I s V.1 (l'.map (rfE V.1)) ∧ vV T (V.1, l') ∧ (tm = false → l' = V.2)
theorem rA_fr {T : x_T} {S : Nat → Nat → Nat → Prop} {I I' : x_M Int32} {s : Nat} {V : x_V} {tm : Bool} (h : rA T I s V tm) (hf : frP S I I') (hs : ∀ k a i, rsF s k a i → ¬ S k a i) : rA T I' s V tm := by
  obtain ⟨l, h1, h2, h3⟩ := h
  exact ⟨l, rq_fr h1 hf hs, h2, h3⟩
theorem rA_mono {T : x_T} {I : x_M Int32} {s : Nat} {V : x_V} {tm tm' : Bool} (h : rA T I s V tm) (ht : tm' = false → tm = false) : rA T I s V tm' := by
  obtain ⟨l, h1, h2, h3⟩ := h
  exact ⟨l, h1, h2, fun z => h3 (ht z)⟩
theorem rA_rT {T : x_T} {I : x_M Int32} {s : Nat} {V : x_V} {tm : Bool} (h : rA T I s V tm) (p w : Int) : rA T (rT I p w) s V tm := rA_fr h (rT_fr I p w) fun k a i z y => rsF_rC z y
theorem fr_rT {S : Nat → Nat → Nat → Prop} {I I' : x_M Int32} {p w : Int} (hf : frP S (rT I p w) I') : frP (fun k a i => S k a i ∨ rC k a i) I I' := frP_tr (rT_fr I p w) hf (fun _ _ _ => Or.inr) fun _ _ _ => Or.inl
theorem rtm {I : x_M Int32} {p w : Int} {tm : Bool} (h : I 1602 122 0 = bI tm) : rT I p w 1602 122 0 = bI tm := h
/-- what toItem changes -/
def iF (l k a i : Nat) : Prop := rC k a i ∨ (k = 1602 ∧ a = 122) ∨ rsF (8 + 3 * l) k a i ∨ rsF 28 k a i ∨ (a = 151 ∧ i = l)
def tF2 (l k a i : Nat) : Prop := rC k a i ∨ (k = 1602 ∧ a = 122) ∨ rsF (7 + 3 * l) k a i ∨ rsF 28 k a i ∨ ((a = 151 ∨ a = 150) ∧ i = l)
section
variable {E : x_E} {P : x_Pr} {d rc rs : Nat} {I : x_M Int32} {J : x_M Int64} {R : x_M (Option Nat)} {Q : x_Q} {n p q : Nat} {T : x_T} {lv : Nat} {V W : x_V} {tm : Bool}
theorem r_toItem0 (hP : x_closed E P) (hR : x_fin R) (hl : lv < 6) (hi : I 3 151 lv = bI false) (hA : rA T I (9 + 3 * lv) W tm) (hf : I 1602 122 0 = bI tm) (k : ∀ I', rA T I' (8 + 3 * lv) W tm → I' 3 151 lv = bI true → I' 1602 122 0 = bI tm → frP (iF lv) I I' → Q none (x_hp (rT I' q (-1)) J R)) : P 192 (d + 3) 0 (x_la 0 [.ref 122, .int (iI lv)]) [] (x_hp (rT I q (-1)) J R) rc rs Q := by
  have hi' : rT I q (-1) 3 151 lv = bI false := hi
  obtain ⟨l', a1, a2, a3⟩ := rA_rT hA q (-1)
  refine x_bipush hP rfl ?_
  refine x_iconst hP rfl ?_
  refine x_iload_n hP rfl rfl ?_
  first | refine z_imul hP rfl ?_ | refine x_imul hP rfl ?_
  first | refine z_iadd hP rfl ?_ | refine x_iadd hP rfl ?_
  refine x_istore_n hP rfl ?_
  refine x_bipush hP rfl ?_
  refine x_iconst hP rfl ?_
  refine x_iload_n hP rfl rfl ?_
  first | refine z_imul hP rfl ?_ | refine x_imul hP rfl ?_
  first | refine z_iadd hP rfl ?_ | refine x_iadd hP rfl ?_
  refine x_istore_n hP rfl ?_
  first | refine x_aload_n hP rfl rfl ?_ | refine x_aload_nN hP rfl rfl ?_
  refine x_getR hP rfl (by first | assumption | rfl) (by first | assumption | exact hR _ _ _ _ rfl | exact hR1 _ _ _ _ rfl | exact hR2 _ _ _ _ rfl | rfl) ?_
  refine x_iload_n hP rfl rfl ?_
  refine z_zald hP rfl (by first | assumption | rfl) (by first | decide | omega) (by omega) (by first | assumption | exact hR _ _ _ _ rfl | exact hR1 _ _ _ _ rfl | exact hR2 _ _ _ _ rfl | rfl) ?_
  first | refine zb_if_ne hP rfl (fun c20 => ?_) (fun c20 => ?_) | refine zl_if_ne hP rfl (fun c20 => ?_) (fun c20 => ?_) | refine z_if_ne hP rfl (by omega) (fun c20 => ?_) (fun c20 => ?_)
  · cases c20
  rw [show (9 : Int) + 3 * (lv : Int) = ((9 + 3 * lv : Nat) : Int) by omega, show (8 : Int) + 3 * (lv : Int) = ((8 + 3 * lv : Nat) : Int) by omega]
  first | refine x_aload_n hP rfl rfl ?_ | refine x_aload_nN hP rfl rfl ?_
  refine x_iload_n hP rfl rfl ?_
  refine x_iload_n hP rfl rfl ?_
  refine x_callV2 (ci := 9) hP 0 0 rfl rfl rfl (by first | assumption | rfl) rfl rfl rfl (Nat.zero_le _) (Nat.zero_le _) ?_
  refine r_copy hP hR (by omega) (by omega) (by omega) a1 (fun I1 g1 g2 => ?_)
  have e1 := rT_of g2 fun _ _ _ => rsF_rC
  rw [← e1]
  first | refine x_aload_n hP rfl rfl ?_ | refine x_aload_nN hP rfl rfl ?_
  refine x_getR hP rfl (by first | assumption | rfl) (by first | assumption | exact hR _ _ _ _ rfl | exact hR1 _ _ _ _ rfl | exact hR2 _ _ _ _ rfl | rfl) ?_
  refine x_iload_n hP rfl rfl ?_
  refine x_iconst hP rfl ?_
  refine z_zast hP rfl (by first | assumption | rfl) (by first | decide | omega) (by omega) ?_
  first | refine w_nI ?_ | refine w_nL ?_ | refine w_nR ?_ | refine w_mI ?_ | refine w_mL ?_ | refine w_mR ?_ | skip
  rw [Int.toNat_natCast, rT_x (by decide)]
  refine x_vret hP rfl rfl ?_
  have f2 : frP (iF lv) I (x_at I1 3 151 lv (vp_nar .boolean (iI 1))) := frP_at (frP_mono (fr_rT g2) fun k a i z => by rcases z with z | z; exact Or.inr (Or.inr (Or.inl z)); exact Or.inl z) (Or.inr (Or.inr (Or.inr (Or.inr ⟨rfl, rfl⟩))))
  refine k _ ⟨l', rq_fr g1 (frP_at (S := fun _ a _ => a = 151) (frP_refl _ _) rfl) fun k a i z y => by unfold rsF at z; omega, a2, a3⟩ (by rw [x_at_eq, if_pos ⟨rfl, rfl, rfl⟩]; rfl) ?_ f2
  rw [x_at_eq, if_neg (by omega), g2 _ _ _ fun z => by unfold rsF at z; omega]
  exact hf
theorem r_tiB (hP : x_closed E P) (hR : x_fin R) (hl : lv < 6) {o2 l2 o1 l1 : List Nat} (hq : rq I (9 + 3 * lv) o2 l2) (hq2 : rq I (8 + 3 * lv) o1 l1) {pa : Nat} (hpa : I 1 148 lv = iI pa) {e : Nat} (he : e < 3000) (k : Q none (x_hp (rT I q e) J R)) : ∀ (f i : Nat), i + f = o2.length → ∀ rc rs, P 192 (d + 3) 40 (x_ls [some (.ref 122), some (.int (iI lv)), some (.int (iI (9 + 3 * lv : Nat))), some (.int (iI (8 + 3 * lv : Nat))), some (.int (iI i))]) [] (x_hp (rT I q e) J R) rc rs Q := by
  have ⟨b1, b2, b3, b4, b5, b6, b7, b8⟩ := rq_rT hq q e
  have hpa' : rT I q e 1 148 lv = iI pa := hpa
  intro f
  induction f with
  | zero =>
    intro i hi rc rs
    refine x_iload hP rfl rfl ?_
    first | refine x_aload_n hP rfl rfl ?_ | refine x_aload_nN hP rfl rfl ?_
    refine x_getR hP rfl (by first | assumption | rfl) (by first | assumption | exact hR _ _ _ _ rfl | exact hR1 _ _ _ _ rfl | exact hR2 _ _ _ _ rfl | rfl) ?_
    refine x_iload_n hP rfl rfl ?_
    refine z_iald hP rfl (by first | assumption | rfl) (by first | decide | omega) (by omega) (by first | assumption | exact hR _ _ _ _ rfl | exact hR1 _ _ _ _ rfl | exact hR2 _ _ _ _ rfl | rfl) ?_
    refine z_icmp_ge hP rfl (by omega) (by omega) (fun c48 => ?_) (fun c48 => ?_)
    · first | refine x_aload_n hP rfl rfl ?_ | refine x_aload_nN hP rfl rfl ?_
      refine x_callV0 (ci := 9) hP 0 0 rfl rfl rfl (by first | assumption | rfl) rfl rfl rfl (Nat.zero_le _) (Nat.zero_le _) ?_
      refine r_badB hP (by omega) ?_
      first | refine zb_if_eq hP rfl (fun c86 => ?_) (fun c86 => ?_) | refine zl_if_eq hP rfl (fun c86 => ?_) (fun c86 => ?_) | refine z_if_eq hP rfl (by omega) (fun c86 => ?_) (fun c86 => ?_)
      · cases c86
      refine x_vret hP rfl rfl ?_
      exact k
    · omega
  | succ f ih =>
    intro i hi rc rs
    have e4 := b6 _ (getD_mem (show i < o2.length by omega))
    have nx : ∀ L r1 r2, x_ag L 0 [some (.ref 122), some (.int (iI lv)), some (.int (iI (9 + 3 * lv : Nat))), some (.int (iI (8 + 3 * lv : Nat))), some (.int (iI i))] → P 192 (d + 3) 76 L [] (x_hp (rT I q e) J R) r1 r2 Q := by
      intro L r1 r2 hL
      refine x_re hP _ hL ?_
      refine z_iinc hP rfl rfl rfl ?_
      refine x_goto hP rfl ?_
      exact x_re hP [some (.ref 122), some (.int (iI lv)), some (.int (iI (9 + 3 * lv : Nat))), some (.int (iI (8 + 3 * lv : Nat))), some (.int (iI (i + 1 : Nat)))] ⟨rfl, rfl, rfl, rfl, rfl, trivial⟩ (ih (i + 1) (by omega) _ _)
    refine x_iload hP rfl rfl ?_
    first | refine x_aload_n hP rfl rfl ?_ | refine x_aload_nN hP rfl rfl ?_
    refine x_getR hP rfl (by first | assumption | rfl) (by first | assumption | exact hR _ _ _ _ rfl | exact hR1 _ _ _ _ rfl | exact hR2 _ _ _ _ rfl | rfl) ?_
    refine x_iload_n hP rfl rfl ?_
    refine z_iald hP rfl (by first | assumption | rfl) (by first | decide | omega) (by omega) (by first | assumption | exact hR _ _ _ _ rfl | exact hR1 _ _ _ _ rfl | exact hR2 _ _ _ _ rfl | rfl) ?_
    refine z_icmp_ge hP rfl (by omega) (by omega) (fun c48 => ?_) (fun c48 => ?_)
    · omega
    first | refine x_aload_n hP rfl rfl ?_ | refine x_aload_nN hP rfl rfl ?_
    refine x_iload_n hP rfl rfl ?_
    first | refine x_aload_n hP rfl rfl ?_ | refine x_aload_nN hP rfl rfl ?_
    refine x_iload_n hP rfl rfl ?_
    refine x_iload hP rfl rfl ?_
    refine x_callV2 (ci := 9) hP 0 0 rfl rfl rfl (by first | assumption | rfl) rfl rfl rfl (Nat.zero_le _) (Nat.zero_le _) ?_
    refine r_dimension hP hR (by omega) (rq_rT hq q e) (by omega) ?_
    refine x_callV2 (ci := 9) hP 0 0 rfl rfl rfl (by first | assumption | rfl) rfl rfl rfl (Nat.zero_le _) (Nat.zero_le _) ?_
    refine r_hasDim hP hR (by omega) (rq_rT hq2 q e) (by omega) ?_
    first | refine zb_if_eq hP rfl (fun c63 => ?_) (fun c63 => ?_) | refine zl_if_eq hP rfl (fun c63 => ?_) (fun c63 => ?_) | refine z_if_eq hP rfl (by omega) (fun c63 => ?_) (fun c63 => ?_)
    · exact nx _ _ _ ⟨rfl, rfl, rfl, rfl, rfl, trivial⟩
    first | refine x_aload_n hP rfl rfl ?_ | refine x_aload_nN hP rfl rfl ?_
    first | refine x_aload_n hP rfl rfl ?_ | refine x_aload_nN hP rfl rfl ?_
    refine x_getR hP rfl (by first | assumption | rfl) (by first | assumption | exact hR _ _ _ _ rfl | exact hR1 _ _ _ _ rfl | exact hR2 _ _ _ _ rfl | rfl) ?_
    refine x_iload_n hP rfl rfl ?_
    refine z_iald hP rfl (by first | assumption | rfl) (by first | decide | omega) (by omega) (by first | assumption | exact hR _ _ _ _ rfl | exact hR1 _ _ _ _ rfl | exact hR2 _ _ _ _ rfl | rfl) ?_
    refine x_callV1 (ci := 9) hP 0 0 rfl rfl rfl (by first | assumption | rfl) rfl rfl rfl (Nat.zero_le _) (Nat.zero_le _) ?_
    refine r_failB hP (by omega) ?_
    exact nx _ _ _ ⟨rfl, rfl, rfl, rfl, rfl, trivial⟩
theorem r_tiO (hP : x_closed E P) (hR : x_fin R) (hl : lv < 6) {o2 l2 o1 l1 : List Nat} (hq : rq I (9 + 3 * lv) o2 l2) (hq2 : rq I (8 + 3 * lv) o1 l1) {pa : Nat} (hpa : I 1 148 lv = iI pa) (he : pa < 3000) (k1 : (o2.any fun y => hasI y o1) = true → Q none (x_hp (rT I q pa) J R)) (k2 : ¬ (o2.any fun y => hasI y o1) = true → ∀ L r1 r2, x_ag L 0 [some (.ref 122), some (.int (iI lv)), some (.int (iI (9 + 3 * lv : Nat))), some (.int (iI (8 + 3 * lv : Nat)))] → P 192 (d + 3) 82 L [] (x_hp (rT I q (-1)) J R) r1 r2 Q) : ∀ (f i : Nat), i + f = o2.length → (o2.any fun y => hasI y o1) = ((o2.drop i).any fun y => hasI y o1) → ∀ rc rs, P 192 (d + 3) 40 (x_ls [some (.ref 122), some (.int (iI lv)), some (.int (iI (9 + 3 * lv : Nat))), some (.int (iI (8 + 3 * lv : Nat))), some (.int (iI i))]) [] (x_hp (rT I q (-1)) J R) rc rs Q := by
  have ⟨b1, b2, b3, b4, b5, b6, b7, b8⟩ := rq_rT hq q (-1)
  have hpa' : rT I q (-1) 1 148 lv = iI pa := hpa
  intro f
  induction f with
  | zero =>
    intro i hi ha rc rs
    rw [drop_all (by omega)] at ha
    refine x_iload hP rfl rfl ?_
    first | refine x_aload_n hP rfl rfl ?_ | refine x_aload_nN hP rfl rfl ?_
    refine x_getR hP rfl (by first | assumption | rfl) (by first | assumption | exact hR _ _ _ _ rfl | exact hR1 _ _ _ _ rfl | exact hR2 _ _ _ _ rfl | rfl) ?_
    refine x_iload_n hP rfl rfl ?_
    refine z_iald hP rfl (by first | assumption | rfl) (by first | decide | omega) (by omega) (by first | assumption | exact hR _ _ _ _ rfl | exact hR1 _ _ _ _ rfl | exact hR2 _ _ _ _ rfl | rfl) ?_
    refine z_icmp_ge hP rfl (by omega) (by omega) (fun c48 => ?_) (fun c48 => ?_)
    · exact k2 (by rw [ha]; exact Bool.false_ne_true) _ _ _ ⟨rfl, rfl, rfl, rfl, trivial⟩
    · omega
  | succ f ih =>
    intro i hi ha rc rs
    have hlt : i < o2.length := by omega
    have e4 := b6 _ (getD_mem hlt)
    rw [dropc hlt, List.any_cons] at ha
    refine x_iload hP rfl rfl ?_
    first | refine x_aload_n hP rfl rfl ?_ | refine x_aload_nN hP rfl rfl ?_
    refine x_getR hP rfl (by first | assumption | rfl) (by first | assumption | exact hR _ _ _ _ rfl | exact hR1 _ _ _ _ rfl | exact hR2 _ _ _ _ rfl | rfl) ?_
    refine x_iload_n hP rfl rfl ?_
    refine z_iald hP rfl (by first | assumption | rfl) (by first | decide | omega) (by omega) (by first | assumption | exact hR _ _ _ _ rfl | exact hR1 _ _ _ _ rfl | exact hR2 _ _ _ _ rfl | rfl) ?_
    refine z_icmp_ge hP rfl (by omega) (by omega) (fun c48 => ?_) (fun c48 => ?_)
    · omega
    first | refine x_aload_n hP rfl rfl ?_ | refine x_aload_nN hP rfl rfl ?_
    refine x_iload_n hP rfl rfl ?_
    first | refine x_aload_n hP rfl rfl ?_ | refine x_aload_nN hP rfl rfl ?_
    refine x_iload_n hP rfl rfl ?_
    refine x_iload hP rfl rfl ?_
    refine x_callV2 (ci := 9) hP 0 0 rfl rfl rfl (by first | assumption | rfl) rfl rfl rfl (Nat.zero_le _) (Nat.zero_le _) ?_
    refine r_dimension hP hR (by omega) (rq_rT hq q (-1)) (by omega) ?_
    refine x_callV2 (ci := 9) hP 0 0 rfl rfl rfl (by first | assumption | rfl) rfl rfl rfl (Nat.zero_le _) (Nat.zero_le _) ?_
    refine r_hasDim hP hR (by omega) (rq_rT hq2 q (-1)) (by omega) ?_
    first | refine zb_if_eq hP rfl (fun c63 => ?_) (fun c63 => ?_) | refine zl_if_eq hP rfl (fun c63 => ?_) (fun c63 => ?_) | refine z_if_eq hP rfl (by omega) (fun c63 => ?_) (fun c63 => ?_)
    · rw [c63, Bool.false_or] at ha
      refine z_iinc hP rfl rfl rfl ?_
      refine x_goto hP rfl ?_
      exact x_re hP [some (.ref 122), some (.int (iI lv)), some (.int (iI (9 + 3 * lv : Nat))), some (.int (iI (8 + 3 * lv : Nat))), some (.int (iI (i + 1 : Nat)))] ⟨rfl, rfl, rfl, rfl, rfl, trivial⟩ (ih (i + 1) (by omega) ha _ _)
    · rw [c63, Bool.true_or] at ha
      first | refine x_aload_n hP rfl rfl ?_ | refine x_aload_nN hP rfl rfl ?_
      first | refine x_aload_n hP rfl rfl ?_ | refine x_aload_nN hP rfl rfl ?_
      refine x_getR hP rfl (by first | assumption | rfl) (by first | assumption | exact hR _ _ _ _ rfl | exact hR1 _ _ _ _ rfl | exact hR2 _ _ _ _ rfl | rfl) ?_
      refine x_iload_n hP rfl rfl ?_
      refine z_iald hP rfl (by first | assumption | rfl) (by first | decide | omega) (by omega) (by first | assumption | exact hR _ _ _ _ rfl | exact hR1 _ _ _ _ rfl | exact hR2 _ _ _ _ rfl | rfl) ?_
      refine x_callV1 (ci := 9) hP 0 0 rfl rfl rfl (by first | assumption | rfl) rfl rfl rfl (Nat.zero_le _) (Nat.zero_le _) ?_
      refine r_failO hP ?_
      refine z_iinc hP rfl rfl rfl ?_
      refine x_goto hP rfl ?_
      exact x_re hP [some (.ref 122), some (.int (iI lv)), some (.int (iI (9 + 3 * lv : Nat))), some (.int (iI (8 + 3 * lv : Nat))), some (.int (iI (i + 1 : Nat)))] ⟨rfl, rfl, rfl, rfl, rfl, trivial⟩ (r_tiB hP hR hl hq hq2 hpa (e := pa) he (k1 ha) f (i + 1) (by omega) _ _)
theorem r_toItem1 (hP : x_closed E P) (hR : x_fin R) (hw : twf T) (hl : lv < 6) (hi : I 3 151 lv = bI true) (hA : rA T I (8 + 3 * lv) V tm) (hB : rA T I (9 + 3 * lv) W tm) (hf : I 1602 122 0 = bI tm) {pa : Nat} (hpa : I 1 148 lv = iI pa) (he : pa < 3000) (k1 : (W.1.any fun y => hasI y V.1) = true → Q none (x_hp (rT I q pa) J R)) (k2 : ¬ (W.1.any fun y => hasI y V.1) = true → ∀ I', rA T I' (8 + 3 * lv) (V.1 ++ W.1, prd V.2 W.2) (tm || decide (200 < V.2.length * W.2.length)) → I' 1602 122 0 = bI (tm || decide (200 < V.2.length * W.2.length)) → frP (iF lv) I I' → I' 3 151 lv = bI true → Q none (x_hp (rT I' q (-1)) J R)) : P 192 (d + 3) 0 (x_la 0 [.ref 122, .int (iI lv)]) [] (x_hp (rT I q (-1)) J R) rc rs Q := by
  have hi' : rT I q (-1) 3 151 lv = bI true := hi
  obtain ⟨l1, a1, a2, a3⟩ := hA
  obtain ⟨l2, b1, b2, b3⟩ := hB
  refine x_bipush hP rfl ?_
  refine x_iconst hP rfl ?_
  refine x_iload_n hP rfl rfl ?_
  first | refine z_imul hP rfl ?_ | refine x_imul hP rfl ?_
  first | refine z_iadd hP rfl ?_ | refine x_iadd hP rfl ?_
  refine x_istore_n hP rfl ?_
  refine x_bipush hP rfl ?_
  refine x_iconst hP rfl ?_
  refine x_iload_n hP rfl rfl ?_
  first | refine z_imul hP rfl ?_ | refine x_imul hP rfl ?_
  first | refine z_iadd hP rfl ?_ | refine x_iadd hP rfl ?_
  refine x_istore_n hP rfl ?_
  first | refine x_aload_n hP rfl rfl ?_ | refine x_aload_nN hP rfl rfl ?_
  refine x_getR hP rfl (by first | assumption | rfl) (by first | assumption | exact hR _ _ _ _ rfl | exact hR1 _ _ _ _ rfl | exact hR2 _ _ _ _ rfl | rfl) ?_
  refine x_iload_n hP rfl rfl ?_
  refine z_zald hP rfl (by first | assumption | rfl) (by first | decide | omega) (by omega) (by first | assumption | exact hR _ _ _ _ rfl | exact hR1 _ _ _ _ rfl | exact hR2 _ _ _ _ rfl | rfl) ?_
  first | refine zb_if_ne hP rfl (fun c20 => ?_) (fun c20 => ?_) | refine zl_if_ne hP rfl (fun c20 => ?_) (fun c20 => ?_) | refine z_if_ne hP rfl (by omega) (fun c20 => ?_) (fun c20 => ?_)
  rotate_left
  · cases c20
  rw [show (9 : Int) + 3 * (lv : Int) = ((9 + 3 * lv : Nat) : Int) by omega, show (8 : Int) + 3 * (lv : Int) = ((8 + 3 * lv : Nat) : Int) by omega]
  refine x_iconst hP rfl ?_
  refine x_istore hP rfl ?_
  refine x_re hP [some (.ref 122), some (.int (iI lv)), some (.int (iI (9 + 3 * lv : Nat))), some (.int (iI (8 + 3 * lv : Nat))), some (.int (iI (0 : Nat)))] ⟨rfl, rfl, rfl, rfl, rfl, trivial⟩ (r_tiO hP hR hl b1 a1 hpa he k1 (fun hno L r1 r2 hL => ?_) _ 0 (Nat.zero_add _) (by rw [List.drop_zero]) _ _)
  refine x_re hP _ hL ?_
  have dj := shr_dj hno
  have o4 := vO_lt hw a2.1
  have o42 := vO_lt hw b2.1
  have oo := vO_len hw (vO_app a2.1 b2.1 dj)
  have oo : V.1.length + W.1.length ≤ 4 := by rw [← List.length_append]; exact oo
  have tmm := tmL_map (o := V.1) (o2 := W.1) o4 o42 a2.2 b2.2 dj
  have m1 : (l1.map (rfE V.1)).length = l1.length := List.length_map _
  have m2 : (l2.map (rfE W.1)).length = l2.length := List.length_map _
  first | refine x_aload_n hP rfl rfl ?_ | refine x_aload_nN hP rfl rfl ?_
  refine x_callV0 (ci := 9) hP 0 0 rfl rfl rfl (by first | assumption | rfl) rfl rfl rfl (Nat.zero_le _) (Nat.zero_le _) ?_
  refine r_badO hP ?_
  first | refine zb_if_eq hP rfl (fun c86 => ?_) (fun c86 => ?_) | refine zl_if_eq hP rfl (fun c86 => ?_) (fun c86 => ?_) | refine z_if_eq hP rfl (by omega) (fun c86 => ?_) (fun c86 => ?_)
  rotate_left
  · cases c86
  first | refine x_aload_n hP rfl rfl ?_ | refine x_aload_nN hP rfl rfl ?_
  refine x_iload_n hP rfl rfl ?_
  refine x_iload_n hP rfl rfl ?_
  refine x_bipush hP rfl ?_
  refine x_callV3 (ci := 9) hP 0 0 rfl rfl rfl (by first | assumption | rfl) rfl rfl rfl (Nat.zero_le _) (Nat.zero_le _) ?_
  refine r_times (s3 := 28) (tm := tm) hP hR (by omega) (by omega) (by decide) (by omega) (by omega) oo (fun t ht => ?_) (rq_rT a1 q (-1)) (rq_rT b1 q (-1)) (rtm hf) (fun I1 m g1 g2 g3 g4 => ?_)
  · rw [tmm] at ht
    obtain ⟨x, x1, rfl⟩ := List.mem_map.mp ht
    exact rfE_20 x (by rw [List.length_append]; exact oo)
  rw [tmm, ← List.map_take] at g1
  rw [m1, m2] at g3
  have e1 := rT_of g4 fun _ _ _ => rsT_rC
  first | refine x_aload_n hP rfl rfl ?_ | refine x_aload_nN hP rfl rfl ?_
  refine x_bipush hP rfl ?_
  refine x_iload_n hP rfl rfl ?_
  refine x_callV2 (ci := 9) hP 0 0 rfl rfl rfl (by first | assumption | rfl) rfl rfl rfl (Nat.zero_le _) (Nat.zero_le _) ?_
  refine r_copy (s := 28) (s2 := 8 + 3 * lv) hP hR (by decide) (by omega) (by omega) g1 (fun I2 h1 h2 => ?_)
  have fr : frP (fun k a i => rsT 28 k a i ∨ rsF (8 + 3 * lv) k a i) (rT I q (-1)) I2 := frP_tr g4 h2 (fun _ _ _ => Or.inl) fun _ _ _ => Or.inr
  refine x_vret hP rfl rfl ?_
  rw [← rT_of fr fun k a i z => by rcases z with z | z; exact rsT_rC z; exact rsF_rC z]
  have fl : (tm || decide (200 < l1.length * l2.length)) = (tm || decide (200 < V.2.length * W.2.length)) := by
    cases tm with
    | true => rfl
    | false => rw [a3 rfl, b3 rfl]
  have g3' : I2 1602 122 0 = bI (tm || decide (200 < V.2.length * W.2.length)) := by
    rw [← fl]
    exact (h2 _ _ _ fun z => by unfold rsF at z; omega).trans g3
  refine k2 hno I2 ⟨(prd l1 l2).take m, h1, ?_, fun hz => ?_⟩ g3' ?_ ((fr _ _ _ fun z => by unfold rsT rsF at z; omega).trans hi)
  · have := vV_mul hw a2 b2 hno
    exact vV_sub this fun x hx => List.mem_of_mem_take hx
  · rw [Bool.or_eq_false_iff] at hz
    rw [g2 hz.1, a3 hz.1, b3 hz.1]
    have hz2 := of_decide_eq_false hz.2
    exact List.take_of_length_le (by unfold prd; rw [mk_len]; omega)
  · exact frP_mono (fr_rT fr) fun k a i z => by
      unfold iF
      rcases z with (z | z) | z
      · unfold rsT at z
        rcases z with z | z
        · exact Or.inr (Or.inr (Or.inr (Or.inl z)))
        · exact Or.inr (Or.inl z)
      · exact Or.inr (Or.inr (Or.inl z))
      · exact Or.inl z
theorem r_toSet0 (hP : x_closed E P) (hR : x_fin R) (hl : lv < 6) (hi : I 3 150 lv = bI false) (hA : rA T I (8 + 3 * lv) W tm) (hf : I 1602 122 0 = bI tm) (k : ∀ I', rA T I' (7 + 3 * lv) W tm → I' 3 150 lv = bI true → I' 3 151 lv = bI false → I' 1602 122 0 = bI tm → frP (tF2 lv) I I' → Q none (x_hp (rT I' q (-1)) J R)) : P 196 (d + 3) 0 (x_la 0 [.ref 122, .int (iI lv)]) [] (x_hp (rT I q (-1)) J R) rc rs Q := by
  refine x_bipush hP rfl ?_
  refine x_iconst hP rfl ?_
  refine x_iload_n hP rfl rfl ?_
  first | refine z_imul hP rfl ?_ | refine x_imul hP rfl ?_
  first | refine z_iadd hP rfl ?_ | refine x_iadd hP rfl ?_
  refine x_istore_n hP rfl ?_
  refine x_bipush hP rfl ?_
  refine x_iconst hP rfl ?_
  refine x_iload_n hP rfl rfl ?_
  first | refine z_imul hP rfl ?_ | refine x_imul hP rfl ?_
  first | refine z_iadd hP rfl ?_ | refine x_iadd hP rfl ?_
  refine x_istore_n hP rfl ?_
  first | refine x_aload_n hP rfl rfl ?_ | refine x_aload_nN hP rfl rfl ?_
  refine x_getR hP rfl (by first | assumption | rfl) (by first | assumption | exact hR _ _ _ _ rfl | exact hR1 _ _ _ _ rfl | exact hR2 _ _ _ _ rfl | rfl) ?_
  refine x_iload_n hP rfl rfl ?_
  refine x_iconst hP rfl ?_
  refine z_zast hP rfl (by first | assumption | rfl) (by first | decide | omega) (by omega) ?_
  first | refine w_nI ?_ | refine w_nL ?_ | refine w_nR ?_ | refine w_mI ?_ | refine w_mL ?_ | refine w_mR ?_ | skip
  rw [Int.toNat_natCast, rT_x (by decide)]
  have f0 : frP (fun _ a i => a = 151 ∧ i = lv) I (x_at I 3 151 lv (vp_nar .boolean (iI 0))) := frP_at (frP_refl _ _) ⟨rfl, rfl⟩
  have i0 : x_at I 3 151 lv (vp_nar .boolean (iI 0)) 3 151 lv = bI false := by rw [x_at_eq, if_pos ⟨rfl, rfl, rfl⟩]; rfl
  have hi' : rT (x_at I 3 151 lv (vp_nar .boolean (iI 0))) q (-1) 3 150 lv = bI false := by
    show x_at I 3 151 lv (vp_nar .boolean (iI 0)) 3 150 lv = _
    rw [x_at_eq, if_neg (by omega)]; exact hi
  have hf0 : x_at I 3 151 lv (vp_nar .boolean (iI 0)) 1602 122 0 = bI tm := hf
  have hA0 := rA_fr hA f0 fun k a i z y => by unfold rsF at z; omega
  generalize x_at I 3 151 lv (vp_nar .boolean (iI 0)) = I0 at f0 i0 hi' hf0 hA0 ⊢
  obtain ⟨l', a1, a2, a3⟩ := rA_rT hA0 q (-1)
  first | refine x_aload_n hP rfl rfl ?_ | refine x_aload_nN hP rfl rfl ?_
  refine x_getR hP rfl (by first | assumption | rfl) (by first | assumption | exact hR _ _ _ _ rfl | exact hR1 _ _ _ _ rfl | exact hR2 _ _ _ _ rfl | rfl) ?_
  refine x_iload_n hP rfl rfl ?_
  refine z_zald hP rfl (by first | assumption | rfl) (by first | decide | omega) (by omega) (by first | assumption | exact hR _ _ _ _ rfl | exact hR1 _ _ _ _ rfl | exact hR2 _ _ _ _ rfl | rfl) ?_
  first | refine zb_if_ne hP rfl (fun c27 => ?_) (fun c27 => ?_) | refine zl_if_ne hP rfl (fun c27 => ?_) (fun c27 => ?_) | refine z_if_ne hP rfl (by omega) (fun c27 => ?_) (fun c27 => ?_)
  · cases c27
  rw [show (8 : Int) + 3 * (lv : Int) = ((8 + 3 * lv : Nat) : Int) by omega, show (7 : Int) + 3 * (lv : Int) = ((7 + 3 * lv : Nat) : Int) by omega]
  first | refine x_aload_n hP rfl rfl ?_ | refine x_aload_nN hP rfl rfl ?_
  refine x_iload_n hP rfl rfl ?_
  refine x_iload_n hP rfl rfl ?_
  refine x_callV2 (ci := 9) hP 0 0 rfl rfl rfl (by first | assumption | rfl) rfl rfl rfl (Nat.zero_le _) (Nat.zero_le _) ?_
  refine r_copy hP hR (by omega) (by omega) (by omega) a1 (fun I1 g1 g2 => ?_)
  rw [← rT_of g2 fun _ _ _ => rsF_rC]
  first | refine x_aload_n hP rfl rfl ?_ | refine x_aload_nN hP rfl rfl ?_
  refine x_getR hP rfl (by first | assumption | rfl) (by first | assumption | exact hR _ _ _ _ rfl | exact hR1 _ _ _ _ rfl | exact hR2 _ _ _ _ rfl | rfl) ?_
  refine x_iload_n hP rfl rfl ?_
  refine x_iconst hP rfl ?_
  refine z_zast hP rfl (by first | assumption | rfl) (by first | decide | omega) (by omega) ?_
  first | refine w_nI ?_ | refine w_nL ?_ | refine w_nR ?_ | refine w_mI ?_ | refine w_mL ?_ | refine w_mR ?_ | skip
  rw [Int.toNat_natCast, rT_x (by decide)]
  refine x_vret hP rfl rfl ?_
  have f2 : frP (tF2 lv) I (x_at I1 3 150 lv (vp_nar .boolean (iI 1))) := frP_at (frP_tr f0 (fr_rT g2) (fun k a i z => Or.inr (Or.inr (Or.inr (Or.inr ⟨Or.inl z.1, z.2⟩)))) fun k a i z => by rcases z with z | z; exact Or.inr (Or.inr (Or.inl z)); exact Or.inl z) (Or.inr (Or.inr (Or.inr (Or.inr ⟨Or.inr rfl, rfl⟩))))
  refine k _ ⟨l', rq_fr g1 (frP_at (S := fun _ a _ => a = 150) (frP_refl _ _) rfl) fun k a i z y => by unfold rsF at z; omega, a2, a3⟩ (by rw [x_at_eq, if_pos ⟨rfl, rfl, rfl⟩]; rfl) ?_ ?_ f2
  · rw [x_at_eq, if_neg (by omega), g2 _ _ _ fun z => by unfold rsF at z; omega]
    exact i0
  · rw [x_at_eq, if_neg (by omega), g2 _ _ _ fun z => by unfold rsF at z; omega]
    exact hf0
theorem r_toSet1 (hP : x_closed E P) (hR : x_fin R) (hw : twf T) (hl : lv < 6) (hi : I 3 150 lv = bI true) (hA : rA T I (7 + 3 * lv) V tm) (hB : rA T I (8 + 3 * lv) W tm) (hf : I 1602 122 0 = bI tm) {sg : Int} (hsg : isSg sg = true) (hac : I 1 149 lv = iI sg) {ia : Nat} (hia : I 1 147 lv = iI ia) (he : ia < 3000) (k1 : ¬ V.1 = W.1 → ∀ I', frP (tF2 lv) I I' → Q none (x_hp (rT I' q ia) J R)) (k2 : V.1 = W.1 → ∀ I', rA T I' (7 + 3 * lv) (V.1, joinL sg V.2 W.2) (tm || decide (200 < (joinL sg V.2 W.2).length)) → I' 1602 122 0 = bI (tm || decide (200 < (joinL sg V.2 W.2).length)) → I' 3 150 lv = bI true → I' 3 151 lv = bI false → frP (tF2 lv) I I' → Q none (x_hp (rT I' q (-1)) J R)) : P 196 (d + 3) 0 (x_la 0 [.ref 122, .int (iI lv)]) [] (x_hp (rT I q (-1)) J R) rc rs Q := by
  refine x_bipush hP rfl ?_
  refine x_iconst hP rfl ?_
  refine x_iload_n hP rfl rfl ?_
  first | refine z_imul hP rfl ?_ | refine x_imul hP rfl ?_
  first | refine z_iadd hP rfl ?_ | refine x_iadd hP rfl ?_
  refine x_istore_n hP rfl ?_
  refine x_bipush hP rfl ?_
  refine x_iconst hP rfl ?_
  refine x_iload_n hP rfl rfl ?_
  first | refine z_imul hP rfl ?_ | refine x_imul hP rfl ?_
  first | refine z_iadd hP rfl ?_ | refine x_iadd hP rfl ?_
  refine x_istore_n hP rfl ?_
  first | refine x_aload_n hP rfl rfl ?_ | refine x_aload_nN hP rfl rfl ?_
  refine x_getR hP rfl (by first | assumption | rfl) (by first | assumption | exact hR _ _ _ _ rfl | exact hR1 _ _ _ _ rfl | exact hR2 _ _ _ _ rfl | rfl) ?_
  refine x_iload_n hP rfl rfl ?_
  refine x_iconst hP rfl ?_
  refine z_zast hP rfl (by first | assumption | rfl) (by first | decide | omega) (by omega) ?_
  first | refine w_nI ?_ | refine w_nL ?_ | refine w_nR ?_ | refine w_mI ?_ | refine w_mL ?_ | refine w_mR ?_ | skip
  rw [Int.toNat_natCast, rT_x (by decide)]
  have f0 : frP (fun _ a i => a = 151 ∧ i = lv) I (x_at I 3 151 lv (vp_nar .boolean (iI 0))) := frP_at (frP_refl _ _) ⟨rfl, rfl⟩
  have i0 : x_at I 3 151 lv (vp_nar .boolean (iI 0)) 3 151 lv = bI false := by rw [x_at_eq, if_pos ⟨rfl, rfl, rfl⟩]; rfl
  have hi' : x_at I 3 151 lv (vp_nar .boolean (iI 0)) 3 150 lv = bI true := by rw [x_at_eq, if_neg (by omega)]; exact hi
  have hf0 : x_at I 3 151 lv (vp_nar .boolean (iI 0)) 1602 122 0 = bI tm := hf
  have ac0 : x_at I 3 151 lv (vp_nar .boolean (iI 0)) 1 149 lv = iI sg := hac
  have ia0 : x_at I 3 151 lv (vp_nar .boolean (iI 0)) 1 147 lv = iI ia := hia
  have hA0 := rA_fr hA f0 fun k a i z y => by unfold rsF at z; omega
  have hB0 := rA_fr hB f0 fun k a i z y => by unfold rsF at z; omega
  generalize x_at I 3 151 lv (vp_nar .boolean (iI 0)) = I0 at f0 i0 hi' hf0 hA0 hB0 ac0 ia0 ⊢
  have F0 : frP (tF2 lv) I I0 := frP_mono f0 fun k a i z => Or.inr (Or.inr (Or.inr (Or.inr ⟨Or.inl z.1, z.2⟩)))
  obtain ⟨l1, a1, a2, a3⟩ := hA0
  obtain ⟨l2, b1, b2, b3⟩ := hB0
  have a1' := rq_rT a1 q (-1)
  have b1' := rq_rT b1 q (-1)
  have v1 := a1'.2.1
  have v2 := b1'.2.1
  have v3 := a1'.2.2.1
  have v4 := b1'.2.2.1
  have k4 := okd_256 a1.2.2.2.2.2.1 a1.2.2.2.2.1
  have k5 := okd_256 b1.2.2.2.2.2.1 b1.2.2.2.2.1
  have l4 := a1.2.2.2.2.1
  have l5 := b1.2.2.2.2.1
  have hi' : rT I0 q (-1) 3 150 lv = bI true := hi'
  have ac' : rT I0 q (-1) 1 149 lv = iI sg := ac0
  have ia' : rT I0 q (-1) 1 147 lv = iI ia := ia0
  first | refine x_aload_n hP rfl rfl ?_ | refine x_aload_nN hP rfl rfl ?_
  refine x_getR hP rfl (by first | assumption | rfl) (by first | assumption | exact hR _ _ _ _ rfl | exact hR1 _ _ _ _ rfl | exact hR2 _ _ _ _ rfl | rfl) ?_
  refine x_iload_n hP rfl rfl ?_
  refine z_zald hP rfl (by first | assumption | rfl) (by first | decide | omega) (by omega) (by first | assumption | exact hR _ _ _ _ rfl | exact hR1 _ _ _ _ rfl | exact hR2 _ _ _ _ rfl | rfl) ?_
  first | refine zb_if_ne hP rfl (fun c27 => ?_) (fun c27 => ?_) | refine zl_if_ne hP rfl (fun c27 => ?_) (fun c27 => ?_) | refine z_if_ne hP rfl (by omega) (fun c27 => ?_) (fun c27 => ?_)
  rotate_left
  · cases c27
  rw [show (8 : Int) + 3 * (lv : Int) = ((8 + 3 * lv : Nat) : Int) by omega, show (7 : Int) + 3 * (lv : Int) = ((7 + 3 * lv : Nat) : Int) by omega]
  have bad : ¬ V.1 = W.1 → ∀ L r1 r2, x_ag L 0 [some (.ref 122), some (.int (iI lv))] → P 196 (d + 3) 74 L [] (x_hp (rT I0 q (-1)) J R) r1 r2 Q := by
    intro hn L r1 r2 hL
    refine x_re hP _ hL ?_
    first | refine x_aload_n hP rfl rfl ?_ | refine x_aload_nN hP rfl rfl ?_
    first | refine x_aload_n hP rfl rfl ?_ | refine x_aload_nN hP rfl rfl ?_
    refine x_getR hP rfl (by first | assumption | rfl) (by first | assumption | exact hR _ _ _ _ rfl | exact hR1 _ _ _ _ rfl | exact hR2 _ _ _ _ rfl | rfl) ?_
    refine x_iload_n hP rfl rfl ?_
    refine z_iald hP rfl (by first | assumption | rfl) (by first | decide | omega) (by omega) (by first | assumption | exact hR _ _ _ _ rfl | exact hR1 _ _ _ _ rfl | exact hR2 _ _ _ _ rfl | rfl) ?_
    refine x_callV1 (ci := 9) hP 0 0 rfl rfl rfl (by first | assumption | rfl) rfl rfl rfl (Nat.zero_le _) (Nat.zero_le _) ?_
    refine r_failO hP ?_
    refine x_vret hP rfl rfl ?_
    exact k1 hn I0 F0
  first | refine x_aload_n hP rfl rfl ?_ | refine x_aload_nN hP rfl rfl ?_
  refine x_getR hP rfl (by first | assumption | rfl) (by first | assumption | exact hR _ _ _ _ rfl | exact hR1 _ _ _ _ rfl | exact hR2 _ _ _ _ rfl | rfl) ?_
  refine x_iload_n hP rfl rfl ?_
  refine z_iald hP rfl (by first | assumption | rfl) (by first | decide | omega) (by omega) (by first | assumption | exact hR _ _ _ _ rfl | exact hR1 _ _ _ _ rfl | exact hR2 _ _ _ _ rfl | rfl) ?_
  first | refine x_aload_n hP rfl rfl ?_ | refine x_aload_nN hP rfl rfl ?_
  refine x_getR hP rfl (by first | assumption | rfl) (by first | assumption | exact hR _ _ _ _ rfl | exact hR1 _ _ _ _ rfl | exact hR2 _ _ _ _ rfl | rfl) ?_
  refine x_iload_n hP rfl rfl ?_
  refine z_iald hP rfl (by first | assumption | rfl) (by first | decide | omega) (by omega) (by first | assumption | exact hR _ _ _ _ rfl | exact hR1 _ _ _ _ rfl | exact hR2 _ _ _ _ rfl | rfl) ?_
  first | refine z_icmp_ne hP rfl (by omega) (by omega) (fun c56 => ?_) (fun c56 => ?_) | refine x_icmp_ne hP rfl (fun c56 => ?_) (fun c56 => ?_)
  · exact bad (fun z => c56 (by rw [z])) _ _ _ ⟨rfl, rfl, trivial⟩
  first | refine x_aload_n hP rfl rfl ?_ | refine x_aload_nN hP rfl rfl ?_
  refine x_getR hP rfl (by first | assumption | rfl) (by first | assumption | exact hR _ _ _ _ rfl | exact hR1 _ _ _ _ rfl | exact hR2 _ _ _ _ rfl | rfl) ?_
  refine x_iload_n hP rfl rfl ?_
  refine z_iald hP rfl (by first | assumption | rfl) (by first | decide | omega) (by omega) (by first | assumption | exact hR _ _ _ _ rfl | exact hR1 _ _ _ _ rfl | exact hR2 _ _ _ _ rfl | rfl) ?_
  first | refine x_aload_n hP rfl rfl ?_ | refine x_aload_nN hP rfl rfl ?_
  refine x_getR hP rfl (by first | assumption | rfl) (by first | assumption | exact hR _ _ _ _ rfl | exact hR1 _ _ _ _ rfl | exact hR2 _ _ _ _ rfl | rfl) ?_
  refine x_iload_n hP rfl rfl ?_
  refine z_iald hP rfl (by first | assumption | rfl) (by first | decide | omega) (by omega) (by first | assumption | exact hR _ _ _ _ rfl | exact hR1 _ _ _ _ rfl | exact hR2 _ _ _ _ rfl | rfl) ?_
  first | refine z_icmp_eq hP rfl (by omega) (by omega) (fun c71 => ?_) (fun c71 => ?_) | refine x_icmp_eq hP rfl (fun c71 => ?_) (fun c71 => ?_)
  rotate_left
  · exact bad (fun z => c71 (by rw [z])) _ _ _ ⟨rfl, rfl, trivial⟩
  have ee : V.1 = W.1 := okd_inj a1.2.2.2.2.2.1 b1.2.2.2.2.2.1 (by omega) (by omega)
  rw [← ee] at b1 b1' b2
  have jm := joinL_map (f := rfE V.1) (sg := sg) (l := l1) (m := l2) fun x hx y hy e => rfE_inj (a2.2 x hx) (b2.2 y hy) e
  have sb := of_decide_eq_true hsg
  first | refine x_aload_n hP rfl rfl ?_ | refine x_aload_nN hP rfl rfl ?_
  refine x_iload_n hP rfl rfl ?_
  refine x_iload_n hP rfl rfl ?_
  first | refine x_aload_n hP rfl rfl ?_ | refine x_aload_nN hP rfl rfl ?_
  first | refine x_getR hP rfl (by first | assumption | rfl) (by first | assumption | exact hR _ _ _ _ rfl | exact hR1 _ _ _ _ rfl | exact hR2 _ _ _ _ rfl | rfl) ?_ | refine x_getN hP rfl (by first | assumption | rfl) (by first | assumption | exact hR _ _ _ _ rfl | exact hR1 _ _ _ _ rfl | exact hR2 _ _ _ _ rfl | rfl) ?_
  refine x_iload_n hP rfl rfl ?_
  refine z_iald hP rfl (by first | assumption | rfl) (by first | decide | omega) (by omega) (by first | assumption | exact hR _ _ _ _ rfl | exact hR1 _ _ _ _ rfl | exact hR2 _ _ _ _ rfl | rfl) ?_
  refine x_bipush hP rfl ?_
  refine x_callV4 (ci := 9) hP 0 0 rfl rfl rfl (by first | assumption | rfl) rfl rfl rfl (Nat.zero_le _) (Nat.zero_le _) ?_
  refine r_join (s3 := 28) (tm := tm) hP hR (by omega) (by omega) (by decide) (by omega) (by omega) hsg a1' b1' (rtm hf0) (fun I1 g1 g4 => ?_)
  rw [jm] at g1
  obtain ⟨g1, g3⟩ := g1
  rw [← List.map_take] at g1
  rw [List.length_map] at g3
  first | refine x_aload_n hP rfl rfl ?_ | refine x_aload_nN hP rfl rfl ?_
  refine x_bipush hP rfl ?_
  refine x_iload_n hP rfl rfl ?_
  refine x_callV2 (ci := 9) hP 0 0 rfl rfl rfl (by first | assumption | rfl) rfl rfl rfl (Nat.zero_le _) (Nat.zero_le _) ?_
  refine r_copy (s := 28) (s2 := 7 + 3 * lv) hP hR (by decide) (by omega) (by omega) g1 (fun I2 h1 h2 => ?_)
  have fr : frP (fun k a i => rsT 28 k a i ∨ rsF (7 + 3 * lv) k a i) (rT I0 q (-1)) I2 := frP_tr g4 h2 (fun _ _ _ => Or.inl) fun _ _ _ => Or.inr
  refine x_vret hP rfl rfl ?_
  rw [← rT_of fr fun k a i z => by rcases z with z | z; exact rsT_rC z; exact rsF_rC z]
  have fl : (tm || decide (200 < (joinL sg l1 l2).length)) = (tm || decide (200 < (joinL sg V.2 W.2).length)) := by
    cases tm with
    | true => rfl
    | false => rw [a3 rfl, b3 rfl]
  have g3' : I2 1602 122 0 = bI (tm || decide (200 < (joinL sg V.2 W.2).length)) := by
    rw [← fl]
    exact (h2 _ _ _ fun z => by unfold rsF at z; omega).trans g3
  refine k2 ee I2 ⟨(joinL sg l1 l2).take 200, h1, ?_, fun hz => ?_⟩ g3' ((fr _ _ _ fun z => by unfold rsT rsF at z; omega).trans hi') ((fr _ _ _ fun z => by unfold rsT rsF at z; omega).trans i0) ?_
  · exact vV_join (sg := sg) a2 b2 fun x hx => List.mem_of_mem_take hx
  · rw [Bool.or_eq_false_iff] at hz
    have hz2 := of_decide_eq_false hz.2
    rw [a3 hz.1, b3 hz.1]
    exact List.take_of_length_le (by omega)
  · exact frP_trans F0 (frP_mono (fr_rT fr) fun k a i z => by
      unfold tF2
      rcases z with (z | z) | z
      · unfold rsT at z
        rcases z with z | z
        · exact Or.inr (Or.inr (Or.inr (Or.inl z)))
        · exact Or.inr (Or.inl z)
      · exact Or.inr (Or.inr (Or.inl z))
      · exact Or.inl z)
end
