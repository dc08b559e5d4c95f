/-! SetReader: what it keeps -/
/-- the places of its eighteen rows -/
def s18 (r : Nat) : Prop := 30 ≤ r ∧ r ≤ 81 ∧ r % 3 = 0
theorem s18_rows {r : Nat} (h : s18 r) : r ∈ x_rows := by
  obtain ⟨q, hq, rfl⟩ : ∃ q, q < 18 ∧ r = 30 + 3 * q := ⟨(r - 30) / 3, by have := h.1; have := h.2.1; omega, by have := h.1; have := h.2.2; omega⟩
  exact (show ∀ q, q < 18 → 30 + 3 * q ∈ x_rows by decide +kernel) q hq
def pm (σ : Nat → Nat → Nat) : Prop := (∀ b j, b < 3 → j < 6 → s18 (σ b j)) ∧ ∀ b j b' j', b < 3 → j < 6 → b' < 3 → j' < 6 → σ b j = σ b' j' → b = b' ∧ j = j'
def sl (R : x_M (Option Nat)) (σ : Nat → Nat → Nat) : Prop := ∀ b j, b < 3 → j < 6 → R 7 (27 + b) j = some (σ b j)
def swp (σ : Nat → Nat → Nat) (b1 j1 b2 j2 : Nat) : Nat → Nat → Nat := fun b j => if b = b1 ∧ j = j1 then σ b2 j2 else if b = b2 ∧ j = j2 then σ b1 j1 else σ b j
theorem pm_swp {σ : Nat → Nat → Nat} {b1 j1 b2 j2 : Nat} (h : pm σ) (h1 : b1 < 3) (h2 : j1 < 6) (h3 : b2 < 3) (h4 : j2 < 6) : pm (swp σ b1 j1 b2 j2) := by
  refine ⟨fun b j hb hj => ?_, fun b j b' j' hb hj hb' hj' e => ?_⟩
  · unfold swp
    split
    · exact h.1 _ _ h3 h4
    · split
      · exact h.1 _ _ h1 h2
      · exact h.1 _ _ hb hj
  · unfold swp at e
    split at e
    · split at e
      · omega
      · split at e
        · have := h.2 _ _ _ _ h3 h4 h1 h2 e; omega
        · have := h.2 _ _ _ _ h3 h4 hb' hj' e; omega
    · split at e
      · split at e
        · have := h.2 _ _ _ _ h1 h2 h3 h4 e; omega
        · split at e
          · omega
          · have := h.2 _ _ _ _ h1 h2 hb' hj' e; omega
      · split at e
        · have := h.2 _ _ _ _ hb hj h3 h4 e; omega
        · split at e
          · have := h.2 _ _ _ _ hb hj h1 h2 e; omega
          · exact h.2 _ _ _ _ hb hj hb' hj' e
theorem sl_swp {R : x_M (Option Nat)} {σ : Nat → Nat → Nat} {b1 j1 b2 j2 : Nat} (h : sl R σ) : sl (x_at (x_at R 7 (27 + b1) j1 (some (σ b2 j2))) 7 (27 + b2) j2 (some (σ b1 j1))) (swp σ b1 j1 b2 j2) := fun b j hb hj => by
  unfold swp
  rw [x_at_eq, x_at_eq]
  by_cases q2 : b = b2 ∧ j = j2
  · rw [if_pos (by omega)]
    split
    · next q1 => rw [← q1.1, ← q1.2, q2.1, q2.2]
    · rfl
  · rw [if_neg (by omega)]
    split
    · next q1 => rw [if_pos (by omega)]
    · next q1 => rw [if_neg (by omega)]; exact h b j hb hj
/-- the addresses that reading a SET may change -/
def fA (a : Nat) : Prop := a = 1 ∨ 26 ≤ a ∧ a ≤ 96
/-- what is read: the tape, the trees, the kept SETS -/
def En (I : x_M Int32) (J : x_M Int64) (t n : Nat) (c : Nat → Nat) (Z : x_Z) : Prop := tpB I n c ∧ isTa t ∧ ct I J t (zT Z) ∧ stP I t (zT Z) (tD (zT Z)) ∧ nuP I t (zN Z) ∧ ∀ k, k < 6 → rw I (8 + 3 * k) (zK Z k).1 (zK Z k).2 ∧ ((zK Z k).1 = [] ∨ vV (zT Z) (zK Z k))
def srR (R : x_M (Option Nat)) (σ : Nat → Nat → Nat) (t : Nat) : Prop := x_fin R ∧ R 1262 26 0 = some 1 ∧ R 1263 26 0 = some t ∧ R 1264 26 0 = some 7 ∧ sl R σ ∧ pm σ ∧ ∃ a b, soR R a b
def srI (I : x_M Int32) (tn : Int) (tm : Bool) : Prop := jnv I tn ∧ I 1265 26 0 = bI tm
/-- rows that stay -/
def prt (S : Nat → Nat → Prop) (σ σ' : Nat → Nat → Nat) (I I' : x_M Int32) : Prop := ∀ b j, b < 3 → j < 6 → S b j → σ' b j = σ b j ∧ ∀ k a i, σ b j ≤ a → a ≤ σ b j + 2 → I' k a i = I k a i
theorem prt_trans {S : Nat → Nat → Prop} {σ σ1 σ2 : Nat → Nat → Nat} {I I1 I2 : x_M Int32} (h1 : prt S σ σ1 I I1) (h2 : prt S σ1 σ2 I1 I2) : prt S σ σ2 I I2 := fun b j hb hj hs => by
  have ⟨a1, a2⟩ := h1 b j hb hj hs
  have ⟨b1, b2⟩ := h2 b j hb hj hs
  exact ⟨b1.trans a1, fun k a i g1 g2 => (b2 k a i (by omega) (by omega)).trans (a2 k a i g1 g2)⟩
theorem prt_mono {S S' : Nat → Nat → Prop} {σ σ' : Nat → Nat → Nat} {I I' : x_M Int32} (h : prt S σ σ' I I') (hs : ∀ b j, S' b j → S b j) : prt S' σ σ' I I' := fun b j hb hj q => h b j hb hj (hs b j q)
theorem prt_rw {S : Nat → Nat → Prop} {σ σ' : Nat → Nat → Nat} {I I' : x_M Int32} (h : prt S σ σ' I I') {b j : Nat} (hb : b < 3) (hj : j < 6) (hs : S b j) {o l : List Nat} (hw : rw I (σ b j) o l) : rw I' (σ' b j) o l := by
  have ⟨h1, h2⟩ := h b j hb hj hs
  rw [h1]
  exact rw_kept hw fun k a i hg => h2 k a i (rg_a hg).1 (rg_a hg).2
theorem tI_hi (I : x_M Int32) (p w : Int) {k a i : Nat} (h : ¬ a = 1) : tI I p w k a i = I k a i := tI_fr I p w k a i h
/-- what a step within the reader leaves -/
theorem en_fr {I I1 : x_M Int32} {J J1 : x_M Int64} {t n : Nat} {c : Nat → Nat} {Z : x_Z} {p w : Int} {S S' : Nat → Nat → Nat → Prop} (h : En I J t n c Z) (hf : frP S (tI I p w) I1) (hg : frP S' J J1) (hs : ∀ k a i, S k a i → 26 ≤ a ∧ a ≤ 96) (hs' : ∀ k a i, S' k a i → 26 ≤ a ∧ a ≤ 96) : tI I1 p w = I1 ∧ En I1 J1 t n c Z ∧ frP (fun _ a _ => fA a) I I1 := by
  obtain ⟨h1, h2, h3, h4, h5, h6⟩ := h
  have ⟨e1, e2⟩ := tp_fr h1 hf fun k a i q => by have := hs k a i q; omega
  have f : frP (fun _ a _ => fA a) I I1 := frP_tr (tI_fr I p w) hf (fun k a i q => Or.inl q) (fun k a i q => Or.inr (hs k a i q))
  have g : frP (fun _ a _ => fA a) J J1 := frP_mono hg fun k a i q => Or.inr (hs' k a i q)
  have tr := isTa_rg h2
  refine ⟨e1, ⟨e2, h2, ct_fr h3 f g fun k a i q => ?_, stP_fr h4 f fun k a i q => ?_, nuP_fr h5 f fun k a i q => ?_, fun k hk => ⟨rw_fr (h6 k hk).1 f fun k' a i q => ?_, (h6 k hk).2⟩⟩, f⟩
  · unfold fA at q; omega
  · unfold fA at q; omega
  · unfold fA at q; omega
  · have := rg_a q; unfold fA; omega
theorem en_tI {I : x_M Int32} {J : x_M Int64} {t n : Nat} {c : Nat → Nat} {Z : x_Z} (h : En I J t n c Z) (p w : Int) : En (tI I p w) J t n c Z := by
  have := en_fr (p := p) (w := w) h (frP_refl (fun _ _ _ => False) _) (frP_refl (fun _ _ _ => False) J) (fun _ _ _ q => q.elim) (fun _ _ _ q => q.elim)
  exact this.2.1
theorem jnv_fr2 {I I1 : x_M Int32} {S : Nat → Nat → Nat → Prop} {tn : Int} (h : jnv I tn) (hf : frP S I I1) (hs : ∀ k a i, S k a i → ¬ jA a) : jnv I1 tn := by
  obtain ⟨h1, h2, h3, h4⟩ := h
  have f : ∀ k a i, jA a → I1 k a i = I k a i := fun k a i q => hf k a i fun z => hs k a i z q
  exact ⟨(f _ _ _ (by unfold jA; omega)).trans h1, h2, h3, fun s hs => by obtain ⟨z, z1, z2⟩ := h4 s hs; exact ⟨z, (f _ _ _ (by unfold jA; omega)).trans z1, z2⟩⟩
theorem srI_fr {I I1 : x_M Int32} {S : Nat → Nat → Nat → Prop} {tn : Int} {tm : Bool} (h : srI I tn tm) (hf : frP S I I1) (hs : ∀ k a i, S k a i → ¬ jA a ∧ ¬ a = 26) : srI I1 tn tm := ⟨jnv_fr2 h.1 hf fun k a i q => (hs k a i q).1, (hf _ _ _ fun q => (hs _ _ _ q).2 rfl).trans h.2⟩
theorem srI_tI {I : x_M Int32} {tn : Int} {tm : Bool} (h : srI I tn tm) (p w : Int) : srI (tI I p w) tn tm := srI_fr h (tI_fr I p w) fun k a i q => by unfold jA; omega
theorem srR_at {R : x_M (Option Nat)} {σ : Nat → Nat → Nat} {t : Nat} (h : srR R σ t) {k a : Nat} {v : Option Nat} (hf : x_ft k a 0 = none) (hn : ¬ k = 7) (h1 : ¬ (k = 1262 ∧ a = 26)) (h2 : ¬ (k = 1263 ∧ a = 26)) (h3 : ¬ (k = 1264 ∧ a = 26)) (h4 : ¬ a = 90) : srR (x_at R k a 0 v) σ t := by
  obtain ⟨a1, a2, a3, a4, a5, a6, x, y, z1, z2, z3⟩ := h
  refine ⟨x_fin_at a1 hf, ?_, ?_, ?_, fun b j hb hj => ?_, a6, x, y, z1, ?_, ?_⟩
  · rw [x_at_eq, if_neg (by omega)]; exact a2
  · rw [x_at_eq, if_neg (by omega)]; exact a3
  · rw [x_at_eq, if_neg (by omega)]; exact a4
  · rw [x_at_eq, if_neg (by omega)]; exact a5 b j hb hj
  · rw [x_at_eq, if_neg (by omega)]; exact z2
  · rw [x_at_eq, if_neg (by omega)]; exact z3
theorem srR_swp {R : x_M (Option Nat)} {σ : Nat → Nat → Nat} {t b1 j1 b2 j2 : Nat} (h : srR R σ t) (h1 : b1 < 3) (h2 : j1 < 6) (h3 : b2 < 3) (h4 : j2 < 6) (g1 : x_ft 7 (27 + b1) j1 = none) (g2 : x_ft 7 (27 + b2) j2 = none) : srR (x_at (x_at R 7 (27 + b1) j1 (some (σ b2 j2))) 7 (27 + b2) j2 (some (σ b1 j1))) (swp σ b1 j1 b2 j2) t := by
  obtain ⟨a1, a2, a3, a4, a5, a6, x, y, z1, z2, z3⟩ := h
  exact ⟨x_fin_at (x_fin_at a1 g1) g2, a2, a3, a4, sl_swp a5, pm_swp a6 h1 h2 h3 h4, x, y, z1, z2, z3⟩
/-- behind a reading -/
def sPost (Q : x_Q) (I : x_M Int32) (J : x_M Int64) (R : x_M (Option Nat)) (σ : Nat → Nat → Nat) (t n : Nat) (c : Nat → Nat) (Z : x_Z) (b lv : Nat) (S : Nat → Nat → Prop) (B : Int) (r : x_RS) : Prop := match r with
  | .inl e => ∀ I' J' R' σ' tn' tm' (p' : Nat), En I' J' t n c Z → frP (fun _ a _ => fA a) I I' → frP (fun _ a _ => fA a) J J' → frP (fun _ a _ => fA a) R R' → srR R' σ' t → srI I' tn' tm' → tn' ≤ B → Q (some (.int (bI false))) (x_hp (tI I' p' e) J' R')
  | .inr ((V, tm'), q) => q ≤ n → ∀ I' J' R' σ' tn' l' w', En I' J' t n c Z → frP (fun _ a _ => fA a) I I' → frP (fun _ a _ => fA a) J J' → frP (fun _ a _ => fA a) R R' → srR R' σ' t → srI I' tn' tm' → tn' + 2 * ((n : Int) - q) ≤ B → prt S σ σ' I I' → rw I' (σ' b lv) V.1 l' → vV (zT Z) (V.1, l') → (tm' = false → l' = V.2) → Q (some (.int (bI true))) (x_hp (tI I' q w') J' R')
def SP (lv b j : Nat) : Prop := j < lv ∨ j = lv ∧ b < 2
def SI (lv b j : Nat) : Prop := j < lv ∨ j = lv ∧ b < 1
def SS (lv _b j : Nat) : Prop := j < lv
section
variable {E : x_E} {P : x_Pr} {d rc rs : Nat} {I : x_M Int32} {J : x_M Int64} {R : x_M (Option Nat)} {Q : x_Q} {σ : Nat → Nat → Nat} {t n : Nat} {c : Nat → Nat} {Z : x_Z} {tn B w : Int} {tm : Bool} {p lv : Nat}
theorem c_readAct (hP : x_closed E P) (he : En I J t n c Z) (hr : srR R σ t) (hp : p ≤ n) (k : match actR c n p with
    | .inl e => ∀ q : Nat, Q (some (.int (bI false))) (x_hp (tI I q e) J (x_at R 1269 26 0 none))
    | .inr (a, q) => Q (some (.int (bI true))) (x_hp (tI I q w) J (x_at R 1269 26 0 (some (1000013 + a))))) : P 87 (d + 2) 0 (x_la 0 [.ref 26]) [] (x_hp (tI I p w) J R) rc rs Q := by
  have ⟨hR, r2, r3, r4, r5⟩ := hr
  first | refine x_aload_n hP rfl rfl ?_ | refine x_aload_nN hP rfl rfl ?_
  refine x_getR hP rfl (by first | assumption | rfl) (by first | assumption | exact hR _ _ _ _ rfl | exact hR1 _ _ _ _ rfl | exact hR2 _ _ _ _ rfl | rfl) ?_
  refine x_callV0 (ci := 1) hP 0 0 rfl rfl rfl (by first | assumption | rfl) rfl rfl rfl (Nat.zero_le _) (Nat.zero_le _) ?_
  refine c_at hP ?_
  refine x_istore_n hP rfl ?_
  first | refine x_aload_n hP rfl rfl ?_ | refine x_aload_nN hP rfl rfl ?_
  first | refine x_aload_n hP rfl rfl ?_ | refine x_aload_nN hP rfl rfl ?_
  refine x_getR hP rfl (by first | assumption | rfl) (by first | assumption | exact hR _ _ _ _ rfl | exact hR1 _ _ _ _ rfl | exact hR2 _ _ _ _ rfl | rfl) ?_
  refine x_callV0 (ci := 1) hP 0 0 rfl rfl rfl (by first | assumption | rfl) rfl rfl rfl (Nat.zero_le _) (Nat.zero_le _) ?_
  refine c_readWord hP hR he.1 hp ?_
  refine x_callS1 hP 0 0 rfl rfl rfl rfl rfl (Nat.zero_le _) (Nat.zero_le _) ?_
  refine c_actNamed hP ?_
  unfold actR at k
  show P _ _ _ _ (va_rf (Option.map _ (actN (wdV c n p))) :: _) _ _ _ _
  generalize actN (wdV c n p) = o at k ⊢
  cases o with
  | none =>
    first | refine x_putR hP rfl (by first | assumption | rfl) ?_ | refine x_putN hP rfl (by first | assumption | rfl) ?_
    first | refine w_nI ?_ | refine w_nL ?_ | refine w_nR ?_ | refine w_mI ?_ | refine w_mL ?_ | refine w_mR ?_ | skip
    first | refine x_aload_n hP rfl rfl ?_ | refine x_aload_nN hP rfl rfl ?_
    first | refine x_getR hP rfl (by first | assumption | rfl) (by first | assumption | exact hR _ _ _ _ rfl | exact hR1 _ _ _ _ rfl | exact hR2 _ _ _ _ rfl | rfl) ?_ | refine x_getN hP rfl (by first | assumption | rfl) (by first | assumption | exact hR _ _ _ _ rfl | exact hR1 _ _ _ _ rfl | exact hR2 _ _ _ _ rfl | rfl) ?_
    first | refine x_ifnonnull hP rfl ?_ | refine x_ifnonnullN hP rfl ?_
    first | refine x_aload_n hP rfl rfl ?_ | refine x_aload_nN hP rfl rfl ?_
    refine x_getR hP rfl (by first | assumption | rfl) (by first | assumption | exact hR _ _ _ _ rfl | exact hR1 _ _ _ _ rfl | exact hR2 _ _ _ _ rfl | rfl) ?_
    refine x_iload_n hP rfl rfl ?_
    refine x_callV1 (ci := 1) hP 0 0 rfl rfl rfl (by first | assumption | rfl) rfl rfl rfl (Nat.zero_le _) (Nat.zero_le _) ?_
    refine c_fail hP ?_
    first | refine zb_if_eq hP rfl (fun c37 => ?_) (fun c37 => ?_) | refine zl_if_eq hP rfl (fun c37 => ?_) (fun c37 => ?_) | refine z_if_eq hP rfl (by omega) (fun c37 => ?_) (fun c37 => ?_)
    · refine x_iconst hP rfl ?_
      refine x_zret hP rfl rfl (by first | exact Or.inl iI_0 | exact Or.inr iI_1 | exact bI_or _ | assumption) ?_
      exact k _
    · cases c37
  | some a =>
    show P _ _ _ _ (.ref (1000013 + a) :: _) _ _ _ _
    first | refine x_putR hP rfl (by first | assumption | rfl) ?_ | refine x_putN hP rfl (by first | assumption | rfl) ?_
    first | refine w_nI ?_ | refine w_nL ?_ | refine w_nR ?_ | refine w_mI ?_ | refine w_mL ?_ | refine w_mR ?_ | skip
    first | refine x_aload_n hP rfl rfl ?_ | refine x_aload_nN hP rfl rfl ?_
    first | refine x_getR hP rfl (by first | assumption | rfl) (by first | assumption | exact hR _ _ _ _ rfl | exact hR1 _ _ _ _ rfl | exact hR2 _ _ _ _ rfl | rfl) ?_ | refine x_getN hP rfl (by first | assumption | rfl) (by first | assumption | exact hR _ _ _ _ rfl | exact hR1 _ _ _ _ rfl | exact hR2 _ _ _ _ rfl | rfl) ?_
    refine x_ifnonnull hP rfl ?_
    refine x_iconst hP rfl ?_
    refine x_goto hP rfl ?_
    refine x_zret hP rfl rfl (by first | exact Or.inl iI_0 | exact Or.inr iI_1 | exact bI_or _ | assumption) ?_
    exact k
theorem c_lift (hP : x_closed E P) (hr : srR R σ t) (hl : lv < 5) (k : ∀ R', srR R' (swp σ 0 (lv + 1) 2 lv) t → frP (fun _ a _ => fA a) R R' → Q none (x_hp I J R')) : P 71 d 0 (x_la 0 [.ref 26, .int (iI lv)]) [] (x_hp I J R) rc rs Q := by
  have ⟨hR, r2, r3, r4, r5, r6, r7⟩ := hr
  have v1 : R 7 27 (lv + 1) = some (σ 0 (lv + 1)) := r5 0 (lv + 1) (by decide) (by omega)
  have v2 : R 7 29 lv = some (σ 2 lv) := r5 2 lv (by decide) (by omega)
  have w1 : x_kd0 (σ 0 (lv + 1)) = (1003, 0) := (isRw_of hR (s18_rows (r6.1 0 (lv + 1) (by decide) (by omega)))).1
  have w2 : x_kd0 (σ 2 lv) = (1003, 0) := (isRw_of hR (s18_rows (r6.1 2 lv (by decide) (by omega)))).1
  first | refine x_aload_n hP rfl rfl ?_ | refine x_aload_nN hP rfl rfl ?_
  refine x_getR hP rfl (by first | assumption | rfl) (by first | assumption | exact hR _ _ _ _ rfl | exact hR1 _ _ _ _ rfl | exact hR2 _ _ _ _ rfl | rfl) ?_
  refine x_iload_n hP rfl rfl ?_
  refine x_iconst hP rfl ?_
  first | refine z_iadd hP rfl ?_ | refine x_iadd hP rfl ?_
  refine z_aald hP rfl (by first | assumption | rfl) (by decide) (by omega) (by decide) (by decide) rfl (by first | assumption | exact hR _ _ _ _ rfl | exact hR1 _ _ _ _ rfl | exact hR2 _ _ _ _ rfl | rfl) ?_
  first | refine x_astore_n hP rfl ?_ | refine x_astore_nN hP rfl ?_
  first | refine x_aload_n hP rfl rfl ?_ | refine x_aload_nN hP rfl rfl ?_
  refine x_getR hP rfl (by first | assumption | rfl) (by first | assumption | exact hR _ _ _ _ rfl | exact hR1 _ _ _ _ rfl | exact hR2 _ _ _ _ rfl | rfl) ?_
  refine x_iload_n hP rfl rfl ?_
  refine x_iconst hP rfl ?_
  first | refine z_iadd hP rfl ?_ | refine x_iadd hP rfl ?_
  first | refine x_aload_n hP rfl rfl ?_ | refine x_aload_nN hP rfl rfl ?_
  refine x_getR hP rfl (by first | assumption | rfl) (by first | assumption | exact hR _ _ _ _ rfl | exact hR1 _ _ _ _ rfl | exact hR2 _ _ _ _ rfl | rfl) ?_
  refine x_iload_n hP rfl rfl ?_
  refine z_aald hP rfl (by first | assumption | rfl) (by decide) (by omega) (by decide) (by decide) rfl (by first | assumption | exact hR _ _ _ _ rfl | exact hR1 _ _ _ _ rfl | exact hR2 _ _ _ _ rfl | rfl) ?_
  refine z_aast (ci := 3) hP rfl (by first | assumption | rfl) (by decide) (by omega) (by decide) (by decide) rfl rfl (by first | assumption | rfl) ?_
  first | refine w_nI ?_ | refine w_nL ?_ | refine w_nR ?_ | refine w_mI ?_ | refine w_mL ?_ | refine w_mR ?_ | skip
  first | refine x_aload_n hP rfl rfl ?_ | refine x_aload_nN hP rfl rfl ?_
  refine x_getR hP rfl (by first | assumption | rfl) (by first | assumption | exact hR _ _ _ _ rfl | exact hR1 _ _ _ _ rfl | exact hR2 _ _ _ _ rfl | rfl) ?_
  refine x_iload_n hP rfl rfl ?_
  first | refine x_aload_n hP rfl rfl ?_ | refine x_aload_nN hP rfl rfl ?_
  refine z_aast (ci := 3) hP rfl (by first | assumption | rfl) (by decide) (by omega) (by decide) (by decide) rfl rfl (by first | assumption | rfl) ?_
  first | refine w_nI ?_ | refine w_nL ?_ | refine w_nR ?_ | refine w_mI ?_ | refine w_mL ?_ | refine w_mR ?_ | skip
  refine x_vret hP rfl rfl ?_
  exact k _ (srR_swp (b1 := 0) (j1 := lv + 1) (b2 := 2) (j2 := lv) hr (by decide) (by omega) (by decide) (by omega) rfl rfl) (frP_at (frP_at (frP_refl _ _) (by unfold fA; omega)) (by unfold fA; omega))
end
