/-! SetReader: a kept SET, a MEMBER -/
theorem prt_fr {S : Nat → Nat → Nat → Prop} {σ : Nat → Nat → Nat} {I I1 : x_M Int32} {p w : Int} {b0 j0 : Nat} (hm : pm σ) (hb0 : b0 < 3) (hj0 : j0 < 6) (hf : frP S (tI I p w) I1) (hs : ∀ k a i, S k a i → (σ b0 j0 ≤ a ∧ a ≤ σ b0 j0 + 2) ∨ a < 30 ∨ 83 < a) : prt (fun b j => ¬ (b = b0 ∧ j = j0)) σ σ I I1 := fun b j hb hj hn => by
  refine ⟨rfl, fun k a i h1 h2 => ?_⟩
  have s1 := hm.1 b j hb hj
  have s2 := hm.1 b0 j0 hb0 hj0
  have ne : ¬ σ b j = σ b0 j0 := fun e => hn (hm.2 b j b0 j0 hb hj hb0 hj0 e)
  unfold s18 at s1 s2
  rw [hf k a i fun q => by have := hs k a i q; omega, tI_hi I p w (by omega)]
theorem prt_self {S : Nat → Nat → Prop} {σ : Nat → Nat → Nat} {I : x_M Int32} : prt S σ σ I I := fun _ _ _ _ _ => ⟨rfl, fun _ _ _ _ _ => rfl⟩
theorem kn_fr {S : Nat → Nat → Nat → Prop} {I I1 : x_M Int32} {R : x_M (Option Nat)} {t e : Nat} {fd : List Nat} (h : kn I R t e fd) (hf : frP S I I1) (hs : ∀ k a i, S k a i → ¬ kA a) : kn I1 R t e fd := by
  obtain ⟨n1, n2, n3, n4, n5, M, m1, m2⟩ := h
  have g : ∀ k a i, kA a → I1 k a i = I k a i := fun k a i q => hf k a i fun z => hs k a i z q
  exact ⟨n1, (g _ _ _ (Or.inl rfl)).trans n2, (g _ _ _ (Or.inl rfl)).trans n3, fun j hj => (g _ _ _ (Or.inr rfl)).trans (n4 j hj), n5, M, (g _ _ _ (Or.inl rfl)).trans m1, m2⟩
theorem kn_tI {I : x_M Int32} {R : x_M (Option Nat)} {t e : Nat} {fd : List Nat} (h : kn I R t e fd) (p w : Int) : kn (tI I p w) R t e fd := kn_fr h (tI_fr I p w) fun k a i q => by unfold kA; omega
theorem kept_at {R : x_M (Option Nat)} (hR : x_fin R) {k : Nat} (hk : k < 6) : R 7 7 k = some (8 + 3 * k) := hR _ _ _ _ ((show ∀ k, k < 6 → x_ft 7 7 k = some (8 + 3 * k) by decide +kernel) k hk)
theorem kept_rows {k : Nat} (hk : k < 6) : 8 + 3 * k ∈ x_rows := (show ∀ k, k < 6 → 8 + 3 * k ∈ x_rows by decide +kernel) k hk
theorem actN_lt {v : Int64} {a : Nat} (h : actN v = some a) : a < 9 := by
  unfold actN at h
  repeat (split at h; (cases h; decide))
  cases h
theorem fncN_lt {v : Int64} {a : Nat} (h : fncN v = some a) : a < 12 := by
  unfold fncN at h
  repeat (split at h; (cases h; decide))
  cases h
theorem actR_rg {c : Nat → Nat} {n p : Nat} (hp : p ≤ n) : ∀ a q, actR c n p = .inr (a, q) → a < 9 ∧ p ≤ q ∧ q ≤ n := fun a q h => by
  unfold actR at h
  split at h
  · cases h
  · next x e =>
    cases h
    exact ⟨actN_lt e, by omega, rl_le hp⟩
section
variable {E : x_E} {P : x_Pr} {d rc rs : Nat} {I : x_M Int32} {J : x_M Int64} {R : x_M (Option Nat)} {Q : x_Q} {σ : Nat → Nat → Nat} {t n : Nat} {c : Nat → Nat} {Z : x_Z} {tn B w : Int} {tm : Bool} {p lv : Nat}
theorem sP_err {b : Nat} {S : Nat → Nat → Prop} {e : Nat} (k : sPost Q I J R σ t n c Z b lv S B (.inl e)) {I' : x_M Int32} {J' : x_M Int64} {R' : x_M (Option Nat)} {σ' : Nat → Nat → Nat} {tn' : Int} {tm' : Bool} (he : En I' J' t n c Z) (f1 : frP (fun _ a _ => fA a) I I') (f2 : frP (fun _ a _ => fA a) J J') (f3 : frP (fun _ a _ => fA a) R R') (hr : srR R' σ' t) (hi : srI I' tn' tm') (hB : tn' ≤ B) (q : Nat) : Q (some (.int (bI false))) (x_hp (tI I' q e) J' R') := k I' J' R' σ' tn' tm' q he f1 f2 f3 hr hi hB
theorem c_readKept (hP : x_closed E P) (he : En I J t n c Z) (hr : srR R σ t) (hi : srI I tn tm) (hp : p < n) (hl : lv < 6) (hB : tn + 2 * ((n : Int) - p) ≤ B) (k : sPost Q I J R σ t n c Z 2 lv (SP lv) B (kptR Z c n p tm)) : P 67 (d + 2) 0 (x_la 0 [.ref 26, .int (iI lv)]) [] (x_hp (tI I p w) J R) rc rs Q := by
  have ⟨hR, r2, r3, r4, r5, r6, r7⟩ := hr
  have v2 : R 7 29 lv = some (σ 2 lv) := r5 2 lv (by decide) hl
  have hrow := s18_rows (r6.1 2 lv (by decide) hl)
  have isr := isRw_of hR hrow
  have kr := isr.1
  unfold kptR at k
  first | refine x_aload_n hP rfl rfl ?_ | refine x_aload_nN hP rfl rfl ?_
  refine x_getR hP rfl (by first | assumption | rfl) (by first | assumption | exact hR _ _ _ _ rfl | exact hR1 _ _ _ _ rfl | exact hR2 _ _ _ _ rfl | rfl) ?_
  refine x_callV0 (ci := 1) hP 0 0 rfl rfl rfl (by first | assumption | rfl) rfl rfl rfl (Nat.zero_le _) (Nat.zero_le _) ?_
  refine c_at hP ?_
  refine x_istore_n hP rfl ?_
  first | refine x_aload_n hP rfl rfl ?_ | refine x_aload_nN hP rfl rfl ?_
  refine x_getR hP rfl (by first | assumption | rfl) (by first | assumption | exact hR _ _ _ _ rfl | exact hR1 _ _ _ _ rfl | exact hR2 _ _ _ _ rfl | rfl) ?_
  refine x_callV0 (ci := 1) hP 0 0 rfl rfl rfl (by first | assumption | rfl) rfl rfl rfl (Nat.zero_le _) (Nat.zero_le _) ?_
  refine c_step hP he.1 hp ?_
  first | refine x_aload_n hP rfl rfl ?_ | refine x_aload_nN hP rfl rfl ?_
  refine x_getR hP rfl (by first | assumption | rfl) (by first | assumption | exact hR _ _ _ _ rfl | exact hR1 _ _ _ _ rfl | exact hR2 _ _ _ _ rfl | rfl) ?_
  refine x_callV0 (ci := 1) hP 0 0 rfl rfl rfl (by first | assumption | rfl) rfl rfl rfl (Nat.zero_le _) (Nat.zero_le _) ?_
  refine c_peek hP hR he.1 (by omega) ?_
  have cr := ch_rg (n := n) he.1.2.2.1 (p + 1)
  have cn : 48 ≤ ch c n (p + 1) → p + 1 < n := fun q => by unfold ch at q; split at q <;> omega
  generalize ch c n (p + 1) = x at k cr cn ⊢
  have err : (x < 48 ∨ 54 ≤ x) → ∀ r1 r2, P 67 (d + 2) 39 (x_ls [some (.ref 26), some (.int (iI lv)), some (.int (iI p))]) [] (x_hp (tI I (p + 1 : Nat) w) J R) r1 r2 Q := by
    intro hx r1 r2
    rw [if_pos hx] at k
    first | refine x_aload_n hP rfl rfl ?_ | refine x_aload_nN hP rfl rfl ?_
    refine x_getR hP rfl (by first | assumption | rfl) (by first | assumption | exact hR _ _ _ _ rfl | exact hR1 _ _ _ _ rfl | exact hR2 _ _ _ _ rfl | rfl) ?_
    first | refine x_aload_n hP rfl rfl ?_ | refine x_aload_nN hP rfl rfl ?_
    refine x_getR hP rfl (by first | assumption | rfl) (by first | assumption | exact hR _ _ _ _ rfl | exact hR1 _ _ _ _ rfl | exact hR2 _ _ _ _ rfl | rfl) ?_
    refine x_callV0 (ci := 1) hP 0 0 rfl rfl rfl (by first | assumption | rfl) rfl rfl rfl (Nat.zero_le _) (Nat.zero_le _) ?_
    refine c_at hP ?_
    refine x_callV1 (ci := 1) hP 0 0 rfl rfl rfl (by first | assumption | rfl) rfl rfl rfl (Nat.zero_le _) (Nat.zero_le _) ?_
    refine c_fail hP ?_
    refine x_zret hP rfl rfl (by first | exact Or.inl iI_0 | exact Or.inr iI_1 | exact bI_or _ | assumption) ?_
    exact sP_err k he (frP_refl _ _) (frP_refl _ _) (frP_refl _ _) hr hi (by omega) _
  refine x_bipush hP rfl ?_
  first | refine z_isub hP rfl ?_ | refine x_isub hP rfl ?_
  refine x_istore_n hP rfl ?_
  refine x_iload_n hP rfl rfl ?_
  refine z_if_lt hP rfl (by omega) (fun c27 => ?_) (fun c27 => ?_)
  · exact x_re hP [some (.ref 26), some (.int (iI lv)), some (.int (iI p))] ⟨rfl, rfl, rfl, trivial⟩ (err (by omega) _ _)
  refine x_iload_n hP rfl rfl ?_
  first | refine x_aload_n hP rfl rfl ?_ | refine x_aload_nN hP rfl rfl ?_
  refine x_getR hP rfl (by first | assumption | rfl) (by first | assumption | exact hR _ _ _ _ rfl | exact hR1 _ _ _ _ rfl | exact hR2 _ _ _ _ rfl | rfl) ?_
  refine z_alen hP rfl (by first | assumption | rfl) (by decide) (by decide) ?_
  refine z_icmp_lt hP rfl (by omega) (by omega) (fun c36 => ?_) (fun c36 => ?_)
  rotate_left
  · exact x_re hP [some (.ref 26), some (.int (iI lv)), some (.int (iI p))] ⟨rfl, rfl, rfl, trivial⟩ (err (by omega) _ _)
  obtain ⟨kk, rfl⟩ : ∃ kk : Nat, x = kk + 48 := ⟨(x - 48).toNat, by omega⟩
  rw [if_neg (by omega), show ((kk : Int) + 48 - 48) = (kk : Nat) by omega, Int.toNat_natCast] at k
  rw [show ((kk : Int) + 48 - 48) = (kk : Nat) by omega]
  have hk6 : kk < 6 := by omega
  have v3 := kept_at hR hk6
  have hrow2 := kept_rows hk6
  have isr2 := isRw_of hR hrow2
  have kr2 := isr2.1
  have ⟨hw, hv⟩ := he.2.2.2.2.2 kk hk6
  have wd : tI I (p + 1 : Nat) w 1195 (8 + 3 * kk) 0 = iI (zK Z kk).1.length := (tI_hi _ _ _ (by omega)).trans hw.2.1
  have wl4 := hw.2.2.2.1
  first | refine x_aload_n hP rfl rfl ?_ | refine x_aload_nN hP rfl rfl ?_
  refine x_getR hP rfl (by first | assumption | rfl) (by first | assumption | exact hR _ _ _ _ rfl | exact hR1 _ _ _ _ rfl | exact hR2 _ _ _ _ rfl | rfl) ?_
  refine x_iload_n hP rfl rfl ?_
  refine z_aald hP rfl (by first | assumption | rfl) (by decide) (by omega) (by decide) (by decide) rfl (by first | assumption | exact hR _ _ _ _ rfl | exact hR1 _ _ _ _ rfl | exact hR2 _ _ _ _ rfl | rfl) ?_
  refine x_getI hP rfl (by first | assumption | rfl) (by first | assumption | exact hR _ _ _ _ rfl | exact hR1 _ _ _ _ rfl | exact hR2 _ _ _ _ rfl | rfl) ?_
  first | refine zb_if_ne hP rfl (fun c63 => ?_) (fun c63 => ?_) | refine zl_if_ne hP rfl (fun c63 => ?_) (fun c63 => ?_) | refine z_if_ne hP rfl (by omega) (fun c63 => ?_) (fun c63 => ?_)
  · have ne : ¬ (zK Z kk).1 = [] := fun q => by rw [q] at c63; exact c63 rfl
    rw [if_neg ne] at k
    first | refine x_aload_n hP rfl rfl ?_ | refine x_aload_nN hP rfl rfl ?_
    refine x_getR hP rfl (by first | assumption | rfl) (by first | assumption | exact hR _ _ _ _ rfl | exact hR1 _ _ _ _ rfl | exact hR2 _ _ _ _ rfl | rfl) ?_
    refine x_callV0 (ci := 1) hP 0 0 rfl rfl rfl (by first | assumption | rfl) rfl rfl rfl (Nat.zero_le _) (Nat.zero_le _) ?_
    refine c_step hP he.1 (cn (by omega)) ?_
    first | refine x_aload_n hP rfl rfl ?_ | refine x_aload_nN hP rfl rfl ?_
    refine x_getR hP rfl (by first | assumption | rfl) (by first | assumption | exact hR _ _ _ _ rfl | exact hR1 _ _ _ _ rfl | exact hR2 _ _ _ _ rfl | rfl) ?_
    refine x_iload_n hP rfl rfl ?_
    refine z_aald hP rfl (by first | assumption | rfl) (by decide) (by omega) (by decide) (by decide) rfl (by first | assumption | exact hR _ _ _ _ rfl | exact hR1 _ _ _ _ rfl | exact hR2 _ _ _ _ rfl | rfl) ?_
    first | refine x_aload_n hP rfl rfl ?_ | refine x_aload_nN hP rfl rfl ?_
    refine x_getR hP rfl (by first | assumption | rfl) (by first | assumption | exact hR _ _ _ _ rfl | exact hR1 _ _ _ _ rfl | exact hR2 _ _ _ _ rfl | rfl) ?_
    refine x_iload_n hP rfl rfl ?_
    refine z_aald hP rfl (by first | assumption | rfl) (by decide) (by omega) (by decide) (by decide) rfl (by first | assumption | exact hR _ _ _ _ rfl | exact hR1 _ _ _ _ rfl | exact hR2 _ _ _ _ rfl | rfl) ?_
    refine x_callV1 (ci := 3) hP 0 0 rfl rfl rfl (by first | assumption | rfl) rfl rfl rfl (Nat.zero_le _) (Nat.zero_le _) ?_
    have s1 := r6.1 2 lv (by decide) hl
    refine c_copyFrom hP isr isr2 (rfar_of hrow hrow2 (by unfold s18 at s1; omega)) (rw_fr hw (tI_fr _ _ _) fun k a i q => by have := rg_a q; omega) (fun I1 g1 g2 => ?_)
    refine x_iconst hP rfl ?_
    refine x_zret hP rfl rfl (by first | exact Or.inl iI_0 | exact Or.inr iI_1 | exact bI_or _ | assumption) ?_
    have ⟨e1, e2, e3⟩ := en_fr (S' := fun _ _ _ => False) (J1 := J) he g2 (frP_refl _ _) (fun k a i q => by have := rg_a q; unfold s18 at s1; omega) (fun _ _ _ q => q.elim)
    rw [← e1]
    refine k (by have := cn (by omega); omega) I1 J R σ tn _ _ e2 e3 (frP_refl _ _) (frP_refl _ _) hr (srI_fr (srI_tI hi _ _) g2 fun k a i q => by have := rg_a q; unfold s18 at s1; unfold jA; omega) (by omega) (prt_mono (prt_fr r6 (by decide) hl g2 fun k a i q => Or.inl (rg_a q)) fun b j q => by unfold SP at q; omega) g1 (hv.resolve_left ne) fun _ => rfl
  · have em : (zK Z kk).1 = [] := List.eq_nil_of_length_eq_zero (by omega)
    rw [if_pos em] at k
    first | refine x_aload_n hP rfl rfl ?_ | refine x_aload_nN hP rfl rfl ?_
    refine x_getR hP rfl (by first | assumption | rfl) (by first | assumption | exact hR _ _ _ _ rfl | exact hR1 _ _ _ _ rfl | exact hR2 _ _ _ _ rfl | rfl) ?_
    refine x_iload_n hP rfl rfl ?_
    refine x_callV1 (ci := 1) hP 0 0 rfl rfl rfl (by first | assumption | rfl) rfl rfl rfl (Nat.zero_le _) (Nat.zero_le _) ?_
    refine c_fail hP ?_
    refine x_zret hP rfl rfl (by first | exact Or.inl iI_0 | exact Or.inr iI_1 | exact bI_or _ | assumption) ?_
    exact sP_err k he (frP_refl _ _) (frP_refl _ _) (frP_refl _ _) hr hi (by omega) _
theorem c_readMember (hP : x_closed E P) (he : En I J t n c Z) (hr : srR R σ t) (hi : srI I tn tm) (hp : p ≤ n) (hl : lv < 6) {e m : Nat} (h1 : e < tD (zT Z)) (h2 : m < tS (zT Z) e) (hB : tn + 2 * ((n : Int) - p) ≤ B) (k : sPost Q I J R σ t n c Z 2 lv (SP lv) B (mbrR Z c n e m tm p)) : P 118 (d + 4) 0 (x_la 0 [.ref 26, .int (iI lv), .int (iI (32 * e + m : Nat))]) [] (x_hp (tI I p w) J R) rc rs Q := by
  have ⟨hR, r2, r3, r4, r5, r6, r7⟩ := hr
  have v2 : R 7 29 lv = some (σ 2 lv) := r5 2 lv (by decide) hl
  have s1 := r6.1 2 lv (by decide) hl
  have hrow := s18_rows s1
  have hw := he.2.2.1.2.2.2.2.2
  have w1 := hw.1
  have w2 := (hw.2.2 e h1).2.1
  have hta := he.2.1
  have tk : x_kd0 t = (1008, 0) := (isTr_of hR hta).1
  have hrk : ¬ (95 ≤ σ 2 lv + 2 ∧ σ 2 lv ≤ 96) := by unfold s18 at s1; omega
  unfold mbrR at k
  first | refine x_aload_n hP rfl rfl ?_ | refine x_aload_nN hP rfl rfl ?_
  refine x_getR hP rfl (by first | assumption | rfl) (by first | assumption | exact hR _ _ _ _ rfl | exact hR1 _ _ _ _ rfl | exact hR2 _ _ _ _ rfl | rfl) ?_
  first | refine x_aload_n hP rfl rfl ?_ | refine x_aload_nN hP rfl rfl ?_
  refine x_getR hP rfl (by first | assumption | rfl) (by first | assumption | exact hR _ _ _ _ rfl | exact hR1 _ _ _ _ rfl | exact hR2 _ _ _ _ rfl | rfl) ?_
  refine x_iload_n hP rfl rfl ?_
  refine x_callS1 hP 0 0 rfl rfl rfl rfl rfl (Nat.zero_le _) (Nat.zero_le _) ?_
  refine c_dimensionOf hP (by omega) (by omega) ?_
  refine x_callV2 (ci := 7) hP 0 0 rfl rfl rfl (by first | assumption | rfl) rfl rfl rfl (Nat.zero_le _) (Nat.zero_le _) ?_
  refine c_kinBegin hP tk (fun I1 g1 g2 => ?_)
  have kA1 : ∀ k a i : Nat, kA a → 26 ≤ a ∧ a ≤ 96 := fun k a i q => by unfold kA at q; omega
  have ⟨e1, e2, e3⟩ := en_fr (S' := fun _ _ _ => False) (J1 := J) he g2 (frP_refl _ _) kA1 (fun _ _ _ q => q.elim)
  have hr1 : srR (x_at R 1451 95 0 (some t)) σ t := srR_at hr rfl (by decide) (by decide) (by decide) (by decide) (by decide)
  have f1 : frP (fun _ a _ => fA a) R (x_at R 1451 95 0 (some t)) := frP_at (frP_refl _ _) (by unfold fA; omega)
  have hi1 : srI I1 tn tm := srI_fr (srI_tI hi _ _) g2 fun k a i q => by unfold kA at q; unfold jA; omega
  have p1 := prt_fr (I := I) r6 (b0 := 2) (by decide) hl g2 fun k a i q => by unfold kA at q; omega
  rw [← e1] at g1 ⊢
  generalize x_at R 1451 95 0 (some t) = R1 at g1 hr1 f1 ⊢
  clear r2 r3 r4 r5 r7 v2 hr
  have ⟨hR1, r2, r3, r4, r5, r6, r7⟩ := hr1
  have v2 : R1 7 29 lv = some (σ 2 lv) := r5 2 lv (by decide) hl
  have isr := isRw_of hR1 hrow
  have kr := isr.1
  have fin : ∀ (R2 : x_M (Option Nat)) (I2 : x_M Int32) (q : Nat) (fd : List Nat) (w' : Int), srR R2 σ t → frP (fun _ a _ => fA a) R R2 → q ≤ n → p ≤ q → kn I2 R2 t e fd → frP (fun _ a _ => kA a) (tI I1 q w') I2 → (∀ z ∈ fd, z < tS (zT Z) e) → sPost Q I J R σ t n c Z 2 lv (SP lv) B (.inr ((([e], fd.map (tp e)), tm), q)) → ∀ r1 r2, P 118 (d + 4) 72 (x_ls [some (.ref 26), some (.int (iI lv))]) [] (x_hp I2 J R2) r1 r2 Q := by
    intro R2 I2 q fd w' hr2 f2 hq hpq hk2 g3 hfd k rc rs
    have ⟨hR2, r2, r3, r4, r5, r6, r7⟩ := hr2
    have v2 : R2 7 29 lv = some (σ 2 lv) := r5 2 lv (by decide) hl
    first | refine x_aload_n hP rfl rfl ?_ | refine x_aload_nN hP rfl rfl ?_
    refine x_getR hP rfl (by first | assumption | rfl) (by first | assumption | exact hR _ _ _ _ rfl | exact hR1 _ _ _ _ rfl | exact hR2 _ _ _ _ rfl | rfl) ?_
    first | refine x_aload_n hP rfl rfl ?_ | refine x_aload_nN hP rfl rfl ?_
    refine x_getR hP rfl (by first | assumption | rfl) (by first | assumption | exact hR _ _ _ _ rfl | exact hR1 _ _ _ _ rfl | exact hR2 _ _ _ _ rfl | rfl) ?_
    refine x_iload_n hP rfl rfl ?_
    refine z_aald hP rfl (by first | assumption | rfl) (by decide) (by omega) (by decide) (by decide) rfl (by first | assumption | exact hR _ _ _ _ rfl | exact hR1 _ _ _ _ rfl | exact hR2 _ _ _ _ rfl | rfl) ?_
    refine x_callV1 (ci := 7) hP 0 0 rfl rfl rfl (by first | assumption | rfl) rfl rfl rfl (Nat.zero_le _) (Nat.zero_le _) ?_
    refine c_kinFill hP hR2 (isRw_of hR2 hrow) hrk (by omega) hk2 (fun I3 g4 g5 => ?_)
    refine x_iconst hP rfl ?_
    refine x_zret hP rfl rfl (by first | exact Or.inl iI_0 | exact Or.inr iI_1 | exact bI_or _ | assumption) ?_
    have g6 : frP (fun k a i => kA a ∨ rg (σ 2 lv) k a i) (tI I1 q w') I3 := frP_tr g3 g5 (fun _ _ _ => Or.inl) (fun _ _ _ => Or.inr)
    have ⟨e4, e5, e6⟩ := en_fr (S' := fun _ _ _ => False) (J1 := J) e2 g6 (frP_refl _ _) (fun k a i q => by rcases q with q | q; exact kA1 k a i q; have := rg_a q; unfold s18 at s1; omega) (fun _ _ _ q => q.elim)
    rw [← e4]
    have p2 := prt_fr (b0 := 2) r6 (by decide) hl g6 fun k a i q => by rcases q with q | q; unfold kA at q; exact Or.inr (by omega); exact Or.inl (rg_a q)
    exact k hq I3 J R2 σ tn _ _ e5 (frP_trans e3 e6) (frP_refl _ _) f2 hr2 (srI_fr (srI_tI hi1 _ _) g6 fun k a i q => by rcases q with q | q; unfold kA at q; unfold jA; omega; have := rg_a q; unfold s18 at s1; unfold jA; omega) (by omega) (prt_mono (prt_trans p1 p2) fun b j q => by unfold SP at q; omega) g4 (vV_one hw h1 hfd) fun _ => rfl
  first | refine x_aload_n hP rfl rfl ?_ | refine x_aload_nN hP rfl rfl ?_
  refine x_getR hP rfl (by first | assumption | rfl) (by first | assumption | exact hR _ _ _ _ rfl | exact hR1 _ _ _ _ rfl | exact hR2 _ _ _ _ rfl | rfl) ?_
  refine x_callV0 (ci := 1) hP 0 0 rfl rfl rfl (by first | assumption | rfl) rfl rfl rfl (Nat.zero_le _) (Nat.zero_le _) ?_
  refine c_peek hP hR1 e2.1 hp ?_
  have cr := ch_rg (n := n) he.1.2.2.1 p
  refine x_bipush hP rfl ?_
  first | refine z_icmp_ne hP rfl (by omega) (by omega) (fun c24 => ?_) (fun c24 => ?_) | refine x_icmp_ne hP rfl (fun c24 => ?_) (fun c24 => ?_)
  · rw [if_neg c24] at k
    first | refine x_aload_n hP rfl rfl ?_ | refine x_aload_nN hP rfl rfl ?_
    refine x_getR hP rfl (by first | assumption | rfl) (by first | assumption | exact hR _ _ _ _ rfl | exact hR1 _ _ _ _ rfl | exact hR2 _ _ _ _ rfl | rfl) ?_
    refine x_iload_n hP rfl rfl ?_
    refine x_callS1 hP 0 0 rfl rfl rfl rfl rfl (Nat.zero_le _) (Nat.zero_le _) ?_
    refine c_placeOf hP (by omega) (by omega) ?_
    refine x_callV1 (ci := 7) hP 0 0 rfl rfl rfl (by first | assumption | rfl) rfl rfl rfl (Nat.zero_le _) (Nat.zero_le _) ?_
    refine c_kinAdd hP hR1 (by omega) g1 (fun I2 g3 g4 => ?_)
    have ad : adL [] m = [m] := if_neg List.not_mem_nil
    rw [ad] at g3
    exact x_re hP [some (.ref 26), some (.int (iI lv))] ⟨rfl, rfl, trivial⟩ (fin R1 I2 p [m] w hr1 f1 hp (Nat.le_refl _) g3 g4 (fun z hz => by rw [List.mem_singleton.mp hz]; exact h2) k _ _)
  · rw [if_pos c24] at k
    have hlt : p < n := by unfold ch at c24; split at c24 <;> omega
    first | refine x_aload_n hP rfl rfl ?_ | refine x_aload_nN hP rfl rfl ?_
    refine x_getR hP rfl (by first | assumption | rfl) (by first | assumption | exact hR _ _ _ _ rfl | exact hR1 _ _ _ _ rfl | exact hR2 _ _ _ _ rfl | rfl) ?_
    refine x_callV0 (ci := 1) hP 0 0 rfl rfl rfl (by first | assumption | rfl) rfl rfl rfl (Nat.zero_le _) (Nat.zero_le _) ?_
    refine c_step hP e2.1 hlt ?_
    first | refine x_aload_n hP rfl rfl ?_ | refine x_aload_nN hP rfl rfl ?_
    refine x_callV0 (ci := 4) hP 0 0 rfl rfl rfl (by first | assumption | rfl) rfl rfl rfl (Nat.zero_le _) (Nat.zero_le _) ?_
    refine c_readAct hP e2 hr1 hlt ?_
    have arg := actR_rg (c := c) (n := n) (p := p + 1) hlt
    generalize actR c n (p + 1) = o at k arg ⊢
    match o, k, arg with
    | .inl x, k, _ =>
      intro q
      first | refine zb_if_ne hP rfl (fun c38 => ?_) (fun c38 => ?_) | refine zl_if_ne hP rfl (fun c38 => ?_) (fun c38 => ?_) | refine z_if_ne hP rfl (by omega) (fun c38 => ?_) (fun c38 => ?_)
      · cases c38
      refine x_iconst hP rfl ?_
      refine x_zret hP rfl rfl (by first | exact Or.inl iI_0 | exact Or.inr iI_1 | exact bI_or _ | assumption) ?_
      exact sP_err k e2 e3 (frP_refl _ _) (frP_at f1 (by unfold fA; omega)) (srR_at hr1 rfl (by decide) (by decide) (by decide) (by decide) (by decide)) hi1 (by omega) _
    | .inr (a, q), k, arg =>
      have ⟨a1, a2, a3⟩ := arg a q rfl
      have hr2 : srR (x_at R1 1269 26 0 (some (1000013 + a))) σ t := srR_at hr1 rfl (by decide) (by decide) (by decide) (by decide) (by decide)
      have f2 : frP (fun _ a _ => fA a) R (x_at R1 1269 26 0 (some (1000013 + a))) := frP_at f1 (by unfold fA; omega)
      have hR2 := hr2.1
      have ract : x_at R1 1269 26 0 (some (1000013 + a)) 1269 26 0 = some (1000013 + a) := rfl
      have kn2 : kn I1 (x_at R1 1269 26 0 (some (1000013 + a))) t e [] := by rw [e1] at g1; exact ⟨g1.1, g1.2⟩
      show P _ _ _ _ (Value.int (bI true) :: _) _ _ _ _
      generalize x_at R1 1269 26 0 (some (1000013 + a)) = R2 at hr2 f2 hR2 ract kn2 ⊢
      first | refine zb_if_ne hP rfl (fun c38 => ?_) (fun c38 => ?_) | refine zl_if_ne hP rfl (fun c38 => ?_) (fun c38 => ?_) | refine z_if_ne hP rfl (by omega) (fun c38 => ?_) (fun c38 => ?_)
      rotate_left
      · cases c38
      first | refine x_aload_n hP rfl rfl ?_ | refine x_aload_nN hP rfl rfl ?_
      refine x_getR hP rfl (by first | assumption | rfl) (by first | assumption | exact hR _ _ _ _ rfl | exact hR1 _ _ _ _ rfl | exact hR2 _ _ _ _ rfl | rfl) ?_
      first | refine x_aload_n hP rfl rfl ?_ | refine x_aload_nN hP rfl rfl ?_
      first | refine x_getR hP rfl (by first | assumption | rfl) (by first | assumption | exact hR _ _ _ _ rfl | exact hR1 _ _ _ _ rfl | exact hR2 _ _ _ _ rfl | rfl) ?_ | refine x_getN hP rfl (by first | assumption | rfl) (by first | assumption | exact hR _ _ _ _ rfl | exact hR1 _ _ _ _ rfl | exact hR2 _ _ _ _ rfl | rfl) ?_
      refine x_iload_n hP rfl rfl ?_
      refine x_callS1 hP 0 0 rfl rfl rfl rfl rfl (Nat.zero_le _) (Nat.zero_le _) ?_
      refine c_placeOf hP (by omega) (by omega) ?_
      refine x_callV2 (ci := 7) hP 0 0 rfl rfl rfl (by first | assumption | rfl) rfl rfl rfl (Nat.zero_le _) (Nat.zero_le _) ?_
      have e2' := en_tI e2 q w
      refine c_addAct hP hR2 hta a1 h2 (dm1_of e2'.2.2.1 e2'.2.2.2.1 h1) (kn_tI kn2 _ _) (fun I2 g3 g4 => ?_)
      refine x_goto hP rfl ?_
      exact x_re hP [some (.ref 26), some (.int (iI lv))] ⟨rfl, rfl, trivial⟩ (fin R2 I2 q _ w hr2 f2 a3 (by omega) g3 g4 (fun z hz => by rcases adds_mem hz with q | q; exact absurd q List.not_mem_nil; exact actL_mem (twf_wfp hw h1) h2 q) k _ _)
end
