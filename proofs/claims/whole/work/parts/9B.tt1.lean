/-! THE some (.ref 122)ERENCE: a text of trees -/
theorem wN_top {c : Nat → Nat} {p : Nat} : ∀ m, (∀ i, i ≤ m → c (p + i) < 256) → c p * 256 ^ m ≤ wN c p (m + 1) ∧ wN c p (m + 1) < (c p + 1) * 256 ^ m
  | 0, h => by
    have : wN c p 1 = 0 * 256 + c (p + 0) := rfl
    rw [this]
    have : p + 0 = p := rfl
    rw [this]
    omega
  | m + 1, h => by
    have ih := wN_top m fun i hi => h i (by omega)
    have e : wN c p (m + 2) = wN c p (m + 1) * 256 + c (p + (m + 1)) := rfl
    have := h (m + 1) (Nat.le_refl _)
    have a1 : c p * 256 ^ (m + 1) = (c p * 256 ^ m) * 256 := by rw [Nat.pow_succ, Nat.mul_assoc]
    have a2 : (c p + 1) * 256 ^ (m + 1) = ((c p + 1) * 256 ^ m) * 256 := by rw [Nat.pow_succ, Nat.mul_assoc]
    rw [e, a1, a2]
    omega
theorem lI_nat {a b : Nat} (ha : a < 9223372036854775808) (hb : b < 9223372036854775808) (h : lI a = lI b) : a = b := by
  have := (lI_eq (by omega) (by omega)).mp h
  omega
theorem wd_key {c : Nat → Nat} {n p K : Nat} (hc : ∀ i, c i < 256) (hp : p ≤ n) (hk : ∀ m, m < 8 → 48 ≤ K / 256 ^ m → K / 256 ^ m ≤ 122 → 97 ≤ K / 256 ^ m) (h0 : 0 < K) (hK : K < 9223372036854775808) (h : wdV c n p = lI K) : isLt (ch c n p) = true ∧ rl c n p ≤ 8 := by
  unfold wdV at h
  split at h
  · next hl =>
    refine ⟨?_, hl⟩
    have dg : ∀ i, i < rl c n p → p + i < n ∧ 48 ≤ c (p + i) ∧ c (p + i) ≤ 122 := fun i hi => LD_rg (rn_LD _ _ i hi)
    rw [wk_eq c p hc] at h
    generalize rl c n p = m at h hl dg
    cases m with
    | zero =>
      have := lI_nat (a := 0) (by decide) hK h
      omega
    | succ m =>
      have t := wN_top (c := c) (p := p) m fun i _ => hc _
      have d0 := dg 0 (by omega)
      rw [Nat.add_zero] at d0
      have pw : 256 ^ m ≤ 256 ^ 7 := Nat.pow_le_pow_right (by decide) (by omega)
      have b1 : (c p + 1) * 256 ^ m ≤ 123 * 256 ^ 7 := Nat.mul_le_mul (by omega) pw
      have e := lI_nat (Nat.lt_trans (Nat.lt_of_lt_of_le t.2 b1) (by decide)) hK h
      rw [e] at t
      have q : K / 256 ^ m = c p := Nat.div_eq_of_lt_le t.1 t.2
      have := hk m (by omega)
      rw [q] at this
      unfold ch isLt
      rw [if_pos d0.1]
      exact decide_eq_true (by omega)
  · exact absurd (lI_nat (a := 0) (by decide) hK h) (by omega)
theorem mayS_wd {T : x_T} {c : Nat → Nat} {n p : Nat} (hc : ∀ i, c i < 256) (hp : p ≤ n) (h : mayS T (wdV c n p) = true) : isLt (ch c n p) = true ∧ rl c n p ≤ 8 := by
  rcases mayS_cases h with q | q | q
  · exact wd_key (K := 6580589) hc hp (by decide) (by decide) (by decide) q.1
  · exact wd_key (K := 7168370) hc hp (by decide) (by decide) (by decide) q.2.1
  · exact wd_key (K := 7169389) hc hp (by decide) (by decide) (by decide) q.2.2.1
theorem dsT_addD {T : x_T} {v : Int64} (h : dsT T) : dsT (tAddD T v) := by
  have e1 : tS (tNewD T) (tD (tNewD T) - 1) = 0 := by
    show uf1 (tS T) (tD T) 0 (tD T + 1 - 1) = 0
    rw [Nat.add_sub_cancel, uf1_s]
  have e2 : tD (tNewD T) - 1 = tD T := by show tD T + 1 - 1 = tD T; omega
  have es : ∀ a, tS (tAddD T v) a = uf1 (uf1 (tS T) (tD T) 0) (tD T) 1 a := fun a => by
    show uf1 (tS (tNewD T)) (tD (tNewD T) - 1) (tS (tNewD T) (tD (tNewD T) - 1) + 1) a = _
    rw [e1, e2]; rfl
  have en : ∀ a i, tN (tAddD T v) a i = uf2 (tN T) (tD T) 0 v a i := fun a i => by
    show uf2 (tN (tNewD T)) (tD (tNewD T) - 1) (tS (tNewD T) (tD (tNewD T) - 1)) v a i = _
    rw [e1, e2]; rfl
  intro d hd i j hi hj he
  have hd : d < tD T + 1 := hd
  rw [es] at hi hj
  rw [en, en] at he
  by_cases q : d = tD T
  · rw [q, uf1_s] at hi hj
    omega
  · rw [uf1_n _ _ q, uf1_n _ _ q] at hi hj
    rw [uf2_n _ _ (by omega), uf2_n _ _ (by omega)] at he
    exact h d (by omega) i j hi hj he
theorem fMe_none {T : x_T} {v : Int64} : ∀ (f i : Nat), fMe T v i f = none → ∀ d, i ≤ d → d < i + f → fIn T d v = none
  | 0, i, _, d, h1, h2 => by omega
  | f + 1, i, h, d, h1, h2 => by
    have h : (match fIn T i v with | some k => some (i, k) | none => fMe T v (i + 1) f) = none := h
    cases q : fIn T i v with
    | some k => rw [q] at h; cases h
    | none =>
      rw [q] at h
      by_cases e : d = i
      · rw [e]; exact q
      · exact fMe_none f (i + 1) h d (by omega) (by omega)
theorem dsT_add {T : x_T} {v : Int64} {x : Int} (h : dsT T) (hf : fMem T v = none) : dsT (tAdd T v x) := by
  intro d hd i j hi hj he
  have hd : d < tD T := hd
  have hi : i < uf1 (tS T) (tD T - 1) (tS T (tD T - 1) + 1) d := hi
  have hj : j < uf1 (tS T) (tD T - 1) (tS T (tD T - 1) + 1) d := hj
  have he : uf2 (tN T) (tD T - 1) (tS T (tD T - 1)) v d i = uf2 (tN T) (tD T - 1) (tS T (tD T - 1)) v d j := he
  by_cases q : d = tD T - 1
  · rw [q, uf1_s] at hi hj
    rw [q] at he
    have nv := (fO_none _ _).mp (fMe_none (tD T) 0 hf (tD T - 1) (by omega) (by omega))
    by_cases a : i = tS T (tD T - 1)
    · by_cases b : j = tS T (tD T - 1)
      · omega
      · rw [a, uf2_s, uf2_n _ _ (by omega)] at he
        exact absurd he.symm (nv j (by omega) (by omega))
    · by_cases b : j = tS T (tD T - 1)
      · rw [b, uf2_s, uf2_n _ _ (by omega)] at he
        exact absurd he (nv i (by omega) (by omega))
      · rw [uf2_n _ _ (by omega), uf2_n _ _ (by omega)] at he
        exact h (tD T - 1) (by omega) i j (by omega) (by omega) he
  · rw [uf1_n _ _ q] at hi hj
    rw [uf2_n _ _ (by omega), uf2_n _ _ (by omega)] at he
    exact h d hd i j hi hj he
def ttP (Q : x_Q) (I : x_M Int32) (J : x_M Int64) (R : x_M (Option Nat)) (n : Nat) (r : Nat ⊕ x_T) : Prop := match r with
  | .inl e => ∀ I' J' (q : Nat), e ≤ n + 8 → frP nF I I' → frP nF J J' → Q none (x_hp (rT I' q e) J' R)
  | .inr T' => ∀ I' J' (q : Nat), rNw I' J' T' → dsT T' → I' 1 144 0 = iI (tD T') → I' 1 144 1 = iI (tM T') → frP nF I I' → frP nF J J' → Q none (x_hp (rT I' q (-1)) J' R)
section
variable {E : x_E} {P : x_Pr} {d rc rs : Nat} {I : x_M Int32} {J : x_M Int64} {R : x_M (Option Nat)} {Q : x_Q} {n p : Nat} {c : Nat → Nat} {T : x_T}
theorem ttP_fr {I' : x_M Int32} {J' : x_M Int64} {r : Nat ⊕ x_T} (h : ttP Q I J R n r) (f1 : frP nF I I') (f2 : frP nF J J') : ttP Q I' J' R n r := by
  match r, h with
  | .inl e, h => exact fun I1 J1 q h1 h2 h3 => h I1 J1 q h1 (frP_trans f1 h2) (frP_trans f2 h3)
  | .inr T', h => exact fun I1 J1 q h1 h2 h3 h4 h5 h6 => h I1 J1 q h1 h2 h3 h4 (frP_trans f1 h5) (frP_trans f2 h6)
theorem r_tt303B (hP : x_closed E P) (hR : x_fin R) {x y : Int32} {q e : Nat} (he : e < 3000) (k : ∀ I' J', frP nF I I' → frP nF J J' → Q none (x_hp (rT I' q e) J' R)) : ∀ L r1 r2, x_ag L 0 [some (.ref 122), some (.int x), some (.int y)] → P 161 (d + 4) 303 L [] (x_hp (rT I q e) J R) r1 r2 Q := by
  intro L r1 r2 hL
  refine x_re hP _ hL ?_
  first | refine x_aload_n hP rfl rfl ?_ | refine x_aload_nN hP rfl rfl ?_
  refine x_callV0 (ci := 9) hP 0 0 rfl rfl rfl (by first | assumption | rfl) rfl rfl rfl (Nat.zero_le _) (Nat.zero_le _) ?_
  refine r_badB hP (by omega) ?_
  first | refine zb_if_ne hP rfl (fun c307 => ?_) (fun c307 => ?_) | refine zl_if_ne hP rfl (fun c307 => ?_) (fun c307 => ?_) | refine z_if_ne hP rfl (by omega) (fun c307 => ?_) (fun c307 => ?_)
  rotate_left
  · cases c307
  first | refine x_aload_n hP rfl rfl ?_ | refine x_aload_nN hP rfl rfl ?_
  refine x_getR hP rfl (by first | assumption | rfl) (by first | assumption | exact hR _ _ _ _ rfl | exact hR1 _ _ _ _ rfl | exact hR2 _ _ _ _ rfl | rfl) ?_
  refine x_iconst hP rfl ?_
  refine x_iload_n hP rfl rfl ?_
  refine z_iast hP rfl (by first | assumption | rfl) (by first | decide | omega) (by omega) ?_
  first | refine w_nI ?_ | refine w_nL ?_ | refine w_nR ?_ | refine w_mI ?_ | refine w_mL ?_ | refine w_mR ?_ | skip
  rw [show (0 : Int).toNat = 0 from rfl, rT_x (by decide)]
  first | refine x_aload_n hP rfl rfl ?_ | refine x_aload_nN hP rfl rfl ?_
  refine x_getR hP rfl (by first | assumption | rfl) (by first | assumption | exact hR _ _ _ _ rfl | exact hR1 _ _ _ _ rfl | exact hR2 _ _ _ _ rfl | rfl) ?_
  refine x_iconst hP rfl ?_
  refine x_iload_n hP rfl rfl ?_
  refine z_iast hP rfl (by first | assumption | rfl) (by first | decide | omega) (by omega) ?_
  first | refine w_nI ?_ | refine w_nL ?_ | refine w_nR ?_ | refine w_mI ?_ | refine w_mL ?_ | refine w_mR ?_ | skip
  rw [show (1 : Int).toNat = 1 from rfl, rT_x (by decide)]
  refine x_vret hP rfl rfl ?_
  exact k _ _ (frP_at (frP_at (frP_refl _ _) (by unfold nF; omega)) (by unfold nF; omega)) (frP_refl _ _)
theorem r_tt16B (hP : x_closed E P) (hR : x_fin R) {x y : Int32} {q e : Nat} (he : e < 3000) (k : ∀ I' J', frP nF I I' → frP nF J J' → Q none (x_hp (rT I' q e) J' R)) : ∀ L r1 r2, x_ag L 0 [some (.ref 122), some (.int x), some (.int y)] → P 161 (d + 4) 16 L [] (x_hp (rT I q e) J R) r1 r2 Q := by
  intro L r1 r2 hL
  refine x_re hP _ hL ?_
  have s1 : rT I q e 1580 122 0 = iI q := rfl
  first | refine x_aload_n hP rfl rfl ?_ | refine x_aload_nN hP rfl rfl ?_
  refine x_getI hP rfl (by first | assumption | rfl) (by first | assumption | exact hR _ _ _ _ rfl | exact hR1 _ _ _ _ rfl | exact hR2 _ _ _ _ rfl | rfl) ?_
  refine x_aload_n hP rfl rfl ?_
  refine x_getI hP rfl (by first | assumption | rfl) rfl ?_
  refine x_icmp_ge hP rfl (fun _ => ?_) (fun _ => ?_)
  · exact r_tt303B hP hR he k _ _ _ ⟨rfl, rfl, rfl, trivial⟩
  first | refine x_aload_n hP rfl rfl ?_ | refine x_aload_nN hP rfl rfl ?_
  refine x_callV0 (ci := 9) hP 0 0 rfl rfl rfl (by first | assumption | rfl) rfl rfl rfl (Nat.zero_le _) (Nat.zero_le _) ?_
  refine r_badB hP (by omega) ?_
  first | refine zb_if_ne hP rfl (fun c31 => ?_) (fun c31 => ?_) | refine zl_if_ne hP rfl (fun c31 => ?_) (fun c31 => ?_) | refine z_if_ne hP rfl (by omega) (fun c31 => ?_) (fun c31 => ?_)
  · exact r_tt303B hP hR he k _ _ _ ⟨rfl, rfl, rfl, trivial⟩
  · cases c31
theorem r_tt294B (hP : x_closed E P) (hR : x_fin R) {x y : Int32} {q e : Nat} (he : e < 3000) (k : ∀ I' J', frP nF I I' → frP nF J J' → Q none (x_hp (rT I' q e) J' R)) : ∀ L r1 r2, x_ag L 0 [some (.ref 122), some (.int x), some (.int y)] → P 161 (d + 4) 294 L [] (x_hp (rT I q e) J R) r1 r2 Q := by
  intro L r1 r2 hL
  refine x_re hP _ hL ?_
  first | refine x_aload_n hP rfl rfl ?_ | refine x_aload_nN hP rfl rfl ?_
  refine x_bipush hP rfl ?_
  refine x_callV1 (ci := 9) hP 0 0 rfl rfl rfl (by first | assumption | rfl) rfl rfl rfl (Nat.zero_le _) (Nat.zero_le _) ?_
  refine r_needB hP (by omega) ?_
  refine x_goto hP rfl ?_
  exact r_tt16B hP hR he k _ _ _ ⟨rfl, rfl, rfl, trivial⟩
theorem r_tt203B (hP : x_closed E P) (hR : x_fin R) {v u : Int64} (h4 : tD T ≤ 4) (hm : mayS T v = true) {q e : Nat} (he : e < 3000) (k : ∀ I' J', frP nF I I' → frP nF J J' → Q none (x_hp (rT I' q e) J' R)) : ∀ L r1 r2, x_ag L 0 [some (.ref 122), some (.int (iI (tD T))), some (.int (iI (tM T))), none, some (.long v), none, none, some (.long u)] → P 161 (d + 4) 203 L [] (x_hp (rT I q e) J R) r1 r2 Q := by
  intro L r1 r2 hL
  refine x_re hP _ hL ?_
  rcases mayS_cases hm with z | z | z
  · refine x_lload hP rfl rfl ?_
    refine x_ldcL hP rfl ?_
    refine x_lcmp hP rfl ?_
    first | refine zb_if_ne hP rfl (fun c209 => ?_) (fun c209 => ?_) | refine zl_if_ne hP rfl (fun c209 => ?_) (fun c209 => ?_) | refine z_if_ne hP rfl (by omega) (fun c209 => ?_) (fun c209 => ?_)
    · exact absurd z.1 c209
    first | refine x_aload_n hP rfl rfl ?_ | refine x_aload_nN hP rfl rfl ?_
    refine x_getR hP rfl (by first | assumption | rfl) (by first | assumption | exact hR _ _ _ _ rfl | exact hR1 _ _ _ _ rfl | exact hR2 _ _ _ _ rfl | rfl) ?_
    refine x_iload_n hP rfl rfl ?_
    refine x_iconst hP rfl ?_
    refine z_iast hP rfl (by first | assumption | rfl) (by first | decide | omega) (by omega) ?_
    first | refine w_nI ?_ | refine w_nL ?_ | refine w_nR ?_ | refine w_mI ?_ | refine w_mL ?_ | refine w_mR ?_ | skip
    rw [Int.toNat_natCast, rT_x (by decide)]
    first | refine x_aload_n hP rfl rfl ?_ | refine x_aload_nN hP rfl rfl ?_
    refine x_getR hP rfl (by first | assumption | rfl) (by first | assumption | exact hR _ _ _ _ rfl | exact hR1 _ _ _ _ rfl | exact hR2 _ _ _ _ rfl | rfl) ?_
    refine x_bipush hP rfl ?_
    refine x_iload_n hP rfl rfl ?_
    first | refine z_imul hP rfl ?_ | refine x_imul hP rfl ?_
    refine x_lload hP rfl rfl ?_
    refine z_last hP rfl (by first | assumption | rfl) (by first | decide | omega) (by omega) ?_
    first | refine w_nI ?_ | refine w_nL ?_ | refine w_nR ?_ | refine w_mI ?_ | refine w_mL ?_ | refine w_mR ?_ | skip
    rw [show (30 * (tD T : Int)).toNat = 30 * tD T by omega]
    first | refine x_aload_n hP rfl rfl ?_ | refine x_aload_nN hP rfl rfl ?_
    refine x_getR hP rfl (by first | assumption | rfl) (by first | assumption | exact hR _ _ _ _ rfl | exact hR1 _ _ _ _ rfl | exact hR2 _ _ _ _ rfl | rfl) ?_
    refine x_bipush hP rfl ?_
    refine x_iload_n hP rfl rfl ?_
    first | refine z_imul hP rfl ?_ | refine x_imul hP rfl ?_
    refine x_iconst hP rfl ?_
    refine z_iast hP rfl (by first | assumption | rfl) (by first | decide | omega) (by omega) ?_
    first | refine w_nI ?_ | refine w_nL ?_ | refine w_nR ?_ | refine w_mI ?_ | refine w_mL ?_ | refine w_mR ?_ | skip
    rw [show (30 * (tD T : Int)).toNat = 30 * tD T by omega, rT_x (by decide)]
    first | refine x_aload_n hP rfl rfl ?_ | refine x_aload_nN hP rfl rfl ?_
    refine x_getR hP rfl (by first | assumption | rfl) (by first | assumption | exact hR _ _ _ _ rfl | exact hR1 _ _ _ _ rfl | exact hR2 _ _ _ _ rfl | rfl) ?_
    refine x_bipush hP rfl ?_
    refine x_iload_n hP rfl rfl ?_
    first | refine z_imul hP rfl ?_ | refine x_imul hP rfl ?_
    refine x_iconst hP rfl ?_
    refine z_iast hP rfl (by first | assumption | rfl) (by first | decide | omega) (by omega) ?_
    first | refine w_nI ?_ | refine w_nL ?_ | refine w_nR ?_ | refine w_mI ?_ | refine w_mL ?_ | refine w_mR ?_ | skip
    rw [show (30 * (tD T : Int)).toNat = 30 * tD T by omega, rT_x (by decide)]
    refine z_iinc hP rfl rfl rfl ?_
    refine x_goto hP rfl ?_
    refine r_tt294B hP hR he (fun I' J' w1 w2 => k I' J' (frP_trans (frP_at (frP_at (frP_at (frP_refl _ _) (by unfold nF; omega)) (by unfold nF; omega)) (by unfold nF; omega)) w1) (frP_trans (frP_at (frP_refl _ _) (by unfold nF; omega)) w2)) _ _ _ ⟨rfl, rfl, rfl, trivial⟩
  · refine x_lload hP rfl rfl ?_
    refine x_ldcL hP rfl ?_
    refine x_lcmp hP rfl ?_
    first | refine zb_if_ne hP rfl (fun c209 => ?_) (fun c209 => ?_) | refine zl_if_ne hP rfl (fun c209 => ?_) (fun c209 => ?_) | refine z_if_ne hP rfl (by omega) (fun c209 => ?_) (fun c209 => ?_)
    rotate_left
    · exact absurd c209 z.1
    refine x_lload hP rfl rfl ?_
    refine x_ldcL hP rfl ?_
    refine x_lcmp hP rfl ?_
    first | refine zb_if_ne hP rfl (fun c262 => ?_) (fun c262 => ?_) | refine zl_if_ne hP rfl (fun c262 => ?_) (fun c262 => ?_) | refine z_if_ne hP rfl (by omega) (fun c262 => ?_) (fun c262 => ?_)
    · exact absurd z.2.1 c262
    first | refine x_aload_n hP rfl rfl ?_ | refine x_aload_nN hP rfl rfl ?_
    refine x_getR hP rfl (by first | assumption | rfl) (by first | assumption | exact hR _ _ _ _ rfl | exact hR1 _ _ _ _ rfl | exact hR2 _ _ _ _ rfl | rfl) ?_
    refine x_iload_n hP rfl rfl ?_
    refine x_lload hP rfl rfl ?_
    refine z_last hP rfl (by first | assumption | rfl) (by first | decide | omega) (by omega) ?_
    first | refine w_nI ?_ | refine w_nL ?_ | refine w_nR ?_ | refine w_mI ?_ | refine w_mL ?_ | refine w_mR ?_ | skip
    rw [Int.toNat_natCast]
    refine z_iinc hP rfl rfl rfl ?_
    refine x_goto hP rfl ?_
    refine r_tt294B hP hR he (fun I' J' w1 w2 => k I' J' w1 (frP_trans (frP_at (frP_refl _ _) (by unfold nF; omega)) w2)) _ _ _ ⟨rfl, rfl, rfl, trivial⟩
  · refine x_lload hP rfl rfl ?_
    refine x_ldcL hP rfl ?_
    refine x_lcmp hP rfl ?_
    first | refine zb_if_ne hP rfl (fun c209 => ?_) (fun c209 => ?_) | refine zl_if_ne hP rfl (fun c209 => ?_) (fun c209 => ?_) | refine z_if_ne hP rfl (by omega) (fun c209 => ?_) (fun c209 => ?_)
    rotate_left
    · exact absurd c209 z.1
    refine x_lload hP rfl rfl ?_
    refine x_ldcL hP rfl ?_
    refine x_lcmp hP rfl ?_
    first | refine zb_if_ne hP rfl (fun c262 => ?_) (fun c262 => ?_) | refine zl_if_ne hP rfl (fun c262 => ?_) (fun c262 => ?_) | refine z_if_ne hP rfl (by omega) (fun c262 => ?_) (fun c262 => ?_)
    rotate_left
    · exact absurd c262 z.2.1
    first | refine x_aload_n hP rfl rfl ?_ | refine x_aload_nN hP rfl rfl ?_
    refine x_bipush hP rfl ?_
    refine x_callV1 (ci := 9) hP 0 0 rfl rfl rfl (by first | assumption | rfl) rfl rfl rfl (Nat.zero_le _) (Nat.zero_le _) ?_
    refine r_needB hP (by omega) ?_
    first | refine x_aload_n hP rfl rfl ?_ | refine x_aload_nN hP rfl rfl ?_
    refine x_iload_n hP rfl rfl ?_
    refine x_iconst hP rfl ?_
    first | refine z_isub hP rfl ?_ | refine x_isub hP rfl ?_
    refine x_lload hP rfl rfl ?_
    refine x_callV2 (ci := 9) hP 0 0 rfl rfl rfl (by first | assumption | rfl) rfl rfl rfl (Nat.zero_le _) (Nat.zero_le _) ?_
    refine r_childB hP (by omega) ?_
    exact r_tt294B hP hR he k _ _ _ ⟨rfl, rfl, rfl, trivial⟩
theorem r_tt172B (hP : x_closed E P) (hR : x_fin R) {v u : Int64} (h4 : tD T ≤ 4) (hm : mayS T v = true) {q e : Nat} (he : e < 3000) (k : ∀ I' J', frP nF I I' → frP nF J J' → Q none (x_hp (rT I' q e) J' R)) : ∀ L r1 r2, x_ag L 0 [some (.ref 122), some (.int (iI (tD T))), some (.int (iI (tM T))), none, some (.long v), none, none, some (.long u)] → P 161 (d + 4) 172 L [] (x_hp (rT I q e) J R) r1 r2 Q := by
  intro L r1 r2 hL
  refine x_re hP _ hL ?_
  first | refine x_aload_n hP rfl rfl ?_ | refine x_aload_nN hP rfl rfl ?_
  refine x_callV0 (ci := 9) hP 0 0 rfl rfl rfl (by first | assumption | rfl) rfl rfl rfl (Nat.zero_le _) (Nat.zero_le _) ?_
  refine r_badB hP (by omega) ?_
  first | refine zb_if_ne hP rfl (fun c176 => ?_) (fun c176 => ?_) | refine zl_if_ne hP rfl (fun c176 => ?_) (fun c176 => ?_) | refine z_if_ne hP rfl (by omega) (fun c176 => ?_) (fun c176 => ?_)
  rotate_left
  · cases c176
  exact r_tt203B hP hR h4 hm he k _ _ _ ⟨rfl, rfl, rfl, rfl, rfl, trivial⟩
theorem r_tt160B (hP : x_closed E P) (hR : x_fin R) {v : Int64} (h4 : tD T ≤ 4) (hm : mayS T v = true) {q e : Nat} (he : e < 3000) (k : ∀ I' J', frP nF I I' → frP nF J J' → Q none (x_hp (rT I' q e) J' R)) : ∀ L r1 r2, x_ag L 0 [some (.ref 122), some (.int (iI (tD T))), some (.int (iI (tM T))), none, some (.long v)] → P 161 (d + 4) 160 L [] (x_hp (rT I q e) J R) r1 r2 Q := by
  intro L r1 r2 hL
  refine x_re hP _ hL ?_
  have g1 : rT I q e 1580 122 0 = iI q := rfl
  first | refine x_aload_n hP rfl rfl ?_ | refine x_aload_nN hP rfl rfl ?_
  refine x_getI hP rfl (by first | assumption | rfl) (by first | assumption | exact hR _ _ _ _ rfl | exact hR1 _ _ _ _ rfl | exact hR2 _ _ _ _ rfl | rfl) ?_
  refine x_istore_n hP rfl ?_
  first | refine x_aload_n hP rfl rfl ?_ | refine x_aload_nN hP rfl rfl ?_
  refine x_iconst hP rfl ?_
  refine x_callV1 (ci := 9) hP 0 0 rfl rfl rfl (by first | assumption | rfl) rfl rfl rfl (Nat.zero_le _) (Nat.zero_le _) ?_
  refine r_nameB hP (by omega) ?_
  refine x_lstore hP rfl ?_
  exact r_tt172B hP hR h4 hm he k _ _ _ ⟨rfl, rfl, rfl, rfl, rfl, trivial⟩
theorem r_tt_is (hP : x_closed E P) (hR : x_fin R) (hc : rNw I J T) {v : Int64} {q e : Int} {vf : Int} (k : ∀ L r1 r2, x_ag L 0 [some (.ref 122), some (.int (iI (tD T))), some (.int (iI (tM T))), some (.int (iI vf)), some (.long v), none, some (.int (bI (mayS T v)))] → P 161 (d + 4) 143 L [] (x_hp (rT I q e) J R) r1 r2 Q) : ∀ L r1 r2, x_ag L 0 [some (.ref 122), some (.int (iI (tD T))), some (.int (iI (tM T))), some (.int (iI vf)), some (.long v)] → P 161 (d + 4) 54 L [] (x_hp (rT I q e) J R) r1 r2 Q := by
  intro L r1 r2 hL
  refine x_re hP _ hL ?_
  have ⟨h3, h4, h5, hw⟩ := hc
  have w1 := hw.1
  have w2 := hw.2.1
  unfold mayS at k
  refine x_lload hP rfl rfl ?_
  refine x_ldcL hP rfl ?_
  refine x_lcmp hP rfl ?_
  first | refine zb_if_ne hP rfl (fun c60 => ?_) (fun c60 => ?_) | refine zl_if_ne hP rfl (fun c60 => ?_) (fun c60 => ?_) | refine z_if_ne hP rfl (by omega) (fun c60 => ?_) (fun c60 => ?_)
  rotate_left
  · rw [if_pos c60] at k
    refine x_iload_n hP rfl rfl ?_
    first | refine zb_if_ne hP rfl (fun c64 => ?_) (fun c64 => ?_) | refine zl_if_ne hP rfl (fun c64 => ?_) (fun c64 => ?_) | refine z_if_ne hP rfl (by omega) (fun c64 => ?_) (fun c64 => ?_)
    · rw [decide_eq_false (by omega)] at k
      refine x_iconst hP rfl ?_
      refine x_goto hP rfl ?_
      refine x_istore hP rfl ?_
      exact k _ _ _ ⟨rfl, rfl, rfl, rfl, rfl, rfl, trivial⟩
    refine x_iload_n hP rfl rfl ?_
    refine x_iconst hP rfl ?_
    refine z_icmp_ge hP rfl (by omega) (by omega) (fun c69 => ?_) (fun c69 => ?_)
    · rw [decide_eq_false (by omega)] at k
      refine x_iconst hP rfl ?_
      refine x_goto hP rfl ?_
      refine x_istore hP rfl ?_
      exact k _ _ _ ⟨rfl, rfl, rfl, rfl, rfl, rfl, trivial⟩
    · rw [decide_eq_true (by omega)] at k
      refine x_iconst hP rfl ?_
      refine x_goto hP rfl ?_
      refine x_istore hP rfl ?_
      exact k _ _ _ ⟨rfl, rfl, rfl, rfl, rfl, rfl, trivial⟩
  rw [if_neg c60] at k
  refine x_lload hP rfl rfl ?_
  refine x_ldcL hP rfl ?_
  refine x_lcmp hP rfl ?_
  first | refine zb_if_ne hP rfl (fun c86 => ?_) (fun c86 => ?_) | refine zl_if_ne hP rfl (fun c86 => ?_) (fun c86 => ?_) | refine z_if_ne hP rfl (by omega) (fun c86 => ?_) (fun c86 => ?_)
  rotate_left
  · rw [if_pos c86] at k
    refine x_iload_n hP rfl rfl ?_
    first | refine zb_if_ne hP rfl (fun c90 => ?_) (fun c90 => ?_) | refine zl_if_ne hP rfl (fun c90 => ?_) (fun c90 => ?_) | refine z_if_ne hP rfl (by omega) (fun c90 => ?_) (fun c90 => ?_)
    · rw [decide_eq_false (by omega)] at k
      refine x_iconst hP rfl ?_
      refine x_goto hP rfl ?_
      refine x_istore hP rfl ?_
      exact k _ _ _ ⟨rfl, rfl, rfl, rfl, rfl, rfl, trivial⟩
    refine x_iload_n hP rfl rfl ?_
    refine z_if_le hP rfl (by omega) (fun c94 => ?_) (fun c94 => ?_)
    · rw [decide_eq_false (by omega)] at k
      refine x_iconst hP rfl ?_
      refine x_goto hP rfl ?_
      refine x_istore hP rfl ?_
      exact k _ _ _ ⟨rfl, rfl, rfl, rfl, rfl, rfl, trivial⟩
    have g : rT I q e 1 134 (tD T - 1) = iI (tS T (tD T - 1)) := h3 _ (by omega)
    have w3 := (hw.2.2 (tD T - 1) (by omega)).2.1
    first | refine x_aload_n hP rfl rfl ?_ | refine x_aload_nN hP rfl rfl ?_
    refine x_getR hP rfl (by first | assumption | rfl) (by first | assumption | exact hR _ _ _ _ rfl | exact hR1 _ _ _ _ rfl | exact hR2 _ _ _ _ rfl | rfl) ?_
    refine x_iload_n hP rfl rfl ?_
    refine x_iconst hP rfl ?_
    first | refine z_isub hP rfl ?_ | refine x_isub hP rfl ?_
    rw [show (tD T : Int) - 1 = ((tD T - 1 : Nat) : Int) by omega]
    refine z_iald hP rfl (by first | assumption | rfl) (by first | decide | omega) (by omega) (by first | assumption | exact hR _ _ _ _ rfl | exact hR1 _ _ _ _ rfl | exact hR2 _ _ _ _ rfl | rfl) ?_
    refine x_bipush hP rfl ?_
    refine z_icmp_ge hP rfl (by omega) (by omega) (fun c107 => ?_) (fun c107 => ?_)
    · rw [decide_eq_false (by omega)] at k
      refine x_iconst hP rfl ?_
      refine x_goto hP rfl ?_
      refine x_istore hP rfl ?_
      exact k _ _ _ ⟨rfl, rfl, rfl, rfl, rfl, rfl, trivial⟩
    · rw [decide_eq_true (by omega)] at k
      refine x_iconst hP rfl ?_
      refine x_goto hP rfl ?_
      refine x_istore hP rfl ?_
      exact k _ _ _ ⟨rfl, rfl, rfl, rfl, rfl, rfl, trivial⟩
  rw [if_neg c86] at k
  refine x_lload hP rfl rfl ?_
  refine x_ldcL hP rfl ?_
  refine x_lcmp hP rfl ?_
  first | refine zb_if_ne hP rfl (fun c124 => ?_) (fun c124 => ?_) | refine zl_if_ne hP rfl (fun c124 => ?_) (fun c124 => ?_) | refine z_if_ne hP rfl (by omega) (fun c124 => ?_) (fun c124 => ?_)
  · rw [decide_eq_false (fun z => c124 z.1)] at k
    refine x_iconst hP rfl ?_
    refine x_istore hP rfl ?_
    exact k _ _ _ ⟨rfl, rfl, rfl, rfl, rfl, rfl, trivial⟩
  refine x_iload_n hP rfl rfl ?_
  refine z_if_le hP rfl (by omega) (fun c128 => ?_) (fun c128 => ?_)
  · rw [decide_eq_false (by omega)] at k
    refine x_iconst hP rfl ?_
    refine x_istore hP rfl ?_
    exact k _ _ _ ⟨rfl, rfl, rfl, rfl, rfl, rfl, trivial⟩
  refine x_iload_n hP rfl rfl ?_
  refine x_iconst hP rfl ?_
  refine z_icmp_ge hP rfl (by omega) (by omega) (fun c133 => ?_) (fun c133 => ?_)
  · rw [decide_eq_false (by omega)] at k
    refine x_iconst hP rfl ?_
    refine x_istore hP rfl ?_
    exact k _ _ _ ⟨rfl, rfl, rfl, rfl, rfl, rfl, trivial⟩
  · rw [decide_eq_true ⟨c124, by omega, by omega⟩] at k
    refine x_iconst hP rfl ?_
    refine x_goto hP rfl ?_
    refine x_istore hP rfl ?_
    exact k _ _ _ ⟨rfl, rfl, rfl, rfl, rfl, rfl, trivial⟩
/-- what stands behind the word, as the reference reads on -/
def tlR (T : x_T) (v w : Int64) (c : Nat → Nat) (n p : Nat) : Nat ⊕ (x_T × Nat) := match tellR T v w c n p with
  | .inl e => .inl e
  | .inr (T', q') => if ch c n q' = 10 then .inr (T', q' + 1) else .inl q'
theorem r_tt203 (hP : x_closed E P) (hR : x_fin R) (t1 : txB I n c) (hp : p ≤ n) (hc : rNw I J T) (hd : dsT T) {v u : Int64} (hm : mayS T v = true) (hu : fMem T u = none) (k : match tlR T v u c n p with
    | .inl er => ∀ I' J' (q : Nat), er ≤ n + 8 → frP nF I I' → frP nF J J' → Q none (x_hp (rT I' q er) J' R)
    | .inr (T', q) => ∀ I' J' L r1 r2, q ≤ n → rNw I' J' T' → dsT T' → frP nF I I' → frP nF J J' → x_ag L 0 [some (.ref 122), some (.int (iI (tD T'))), some (.int (iI (tM T')))] → P 161 (d + 4) 16 L [] (x_hp (rT I' q (-1)) J' R) r1 r2 Q) : ∀ L r1 r2, x_ag L 0 [some (.ref 122), some (.int (iI (tD T))), some (.int (iI (tM T))), none, some (.long v), none, none, some (.long u)] → P 161 (d + 4) 203 L [] (x_hp (rT I p (-1)) J R) r1 r2 Q := by
  intro L r1 r2 hL
  refine x_re hP _ hL ?_
  have ⟨h3, h4, h5, hw⟩ := hc
  have w1 := hw.1
  have n2 := t1.2.1
  unfold tlR tellR at k
  have fin : ∀ (T' : x_T) (q : Nat) I1 J1, q ≤ n → rNw I1 J1 T' → dsT T' → frP nF I I1 → frP nF J J1 → (match (if ch c n q = 10 then .inr (T', q + 1) else .inl q : Nat ⊕ (x_T × Nat)) with
    | .inl er => ∀ I' J' (q : Nat), er ≤ n + 8 → frP nF I I' → frP nF J J' → Q none (x_hp (rT I' q er) J' R)
    | .inr (T', q) => ∀ I' J' L r1 r2, q ≤ n → rNw I' J' T' → dsT T' → frP nF I I' → frP nF J J' → x_ag L 0 [some (.ref 122), some (.int (iI (tD T'))), some (.int (iI (tM T')))] → P 161 (d + 4) 16 L [] (x_hp (rT I' q (-1)) J' R) r1 r2 Q) → ∀ L r1 r2, x_ag L 0 [some (.ref 122), some (.int (iI (tD T'))), some (.int (iI (tM T')))] → P 161 (d + 4) 294 L [] (x_hp (rT I1 q (-1)) J1 R) r1 r2 Q := by
    intro T' q I1 J1 hq g1 g2 g3 g4 kk L r1 r2 hL
    refine x_re hP _ hL ?_
    first | refine x_aload_n hP rfl rfl ?_ | refine x_aload_nN hP rfl rfl ?_
    refine x_bipush hP rfl ?_
    refine x_callV1 (ci := 9) hP 0 0 rfl rfl rfl (by first | assumption | rfl) rfl rfl rfl (Nat.zero_le _) (Nat.zero_le _) ?_
    refine r_needO hP hR (txB_n t1 g3 fun _ _ _ => nF_tx) hq (by decide) (fun z1 z2 => ?_) (fun z1 => ?_)
    · rw [if_pos z1] at kk
      refine x_goto hP rfl ?_
      exact kk I1 J1 _ _ _ z2 g1 g2 g3 g4 ⟨rfl, rfl, rfl, trivial⟩
    · rw [if_neg z1] at kk
      refine x_goto hP rfl ?_
      exact r_tt16B hP hR (by omega) (fun I' J' w1 w2 => kk I' J' _ (by omega) (frP_trans g3 w1) (frP_trans g4 w2)) _ _ _ ⟨rfl, rfl, rfl, trivial⟩
  rcases mayS_cases hm with z | z | z
  · rw [if_pos z.1] at k
    dsimp only at k
    have ad := rNw_addD (v := u) hc z.2.2
    refine x_lload hP rfl rfl ?_
    refine x_ldcL hP rfl ?_
    refine x_lcmp hP rfl ?_
    first | refine zb_if_ne hP rfl (fun c209 => ?_) (fun c209 => ?_) | refine zl_if_ne hP rfl (fun c209 => ?_) (fun c209 => ?_) | refine z_if_ne hP rfl (by omega) (fun c209 => ?_) (fun c209 => ?_)
    · exact absurd z.1 c209
    first | refine x_aload_n hP rfl rfl ?_ | refine x_aload_nN hP rfl rfl ?_
    refine x_getR hP rfl (by first | assumption | rfl) (by first | assumption | exact hR _ _ _ _ rfl | exact hR1 _ _ _ _ rfl | exact hR2 _ _ _ _ rfl | rfl) ?_
    refine x_iload_n hP rfl rfl ?_
    refine x_iconst hP rfl ?_
    refine z_iast hP rfl (by first | assumption | rfl) (by first | decide | omega) (by omega) ?_
    first | refine w_nI ?_ | refine w_nL ?_ | refine w_nR ?_ | refine w_mI ?_ | refine w_mL ?_ | refine w_mR ?_ | skip
    rw [Int.toNat_natCast, rT_x (by decide)]
    first | refine x_aload_n hP rfl rfl ?_ | refine x_aload_nN hP rfl rfl ?_
    refine x_getR hP rfl (by first | assumption | rfl) (by first | assumption | exact hR _ _ _ _ rfl | exact hR1 _ _ _ _ rfl | exact hR2 _ _ _ _ rfl | rfl) ?_
    refine x_bipush hP rfl ?_
    refine x_iload_n hP rfl rfl ?_
    first | refine z_imul hP rfl ?_ | refine x_imul hP rfl ?_
    refine x_lload hP rfl rfl ?_
    refine z_last hP rfl (by first | assumption | rfl) (by first | decide | omega) (by omega) ?_
    first | refine w_nI ?_ | refine w_nL ?_ | refine w_nR ?_ | refine w_mI ?_ | refine w_mL ?_ | refine w_mR ?_ | skip
    rw [show (30 * (tD T : Int)).toNat = 30 * tD T by omega]
    first | refine x_aload_n hP rfl rfl ?_ | refine x_aload_nN hP rfl rfl ?_
    refine x_getR hP rfl (by first | assumption | rfl) (by first | assumption | exact hR _ _ _ _ rfl | exact hR1 _ _ _ _ rfl | exact hR2 _ _ _ _ rfl | rfl) ?_
    refine x_bipush hP rfl ?_
    refine x_iload_n hP rfl rfl ?_
    first | refine z_imul hP rfl ?_ | refine x_imul hP rfl ?_
    refine x_iconst hP rfl ?_
    refine z_iast hP rfl (by first | assumption | rfl) (by first | decide | omega) (by omega) ?_
    first | refine w_nI ?_ | refine w_nL ?_ | refine w_nR ?_ | refine w_mI ?_ | refine w_mL ?_ | refine w_mR ?_ | skip
    rw [show (30 * (tD T : Int)).toNat = 30 * tD T by omega, rT_x (by decide)]
    first | refine x_aload_n hP rfl rfl ?_ | refine x_aload_nN hP rfl rfl ?_
    refine x_getR hP rfl (by first | assumption | rfl) (by first | assumption | exact hR _ _ _ _ rfl | exact hR1 _ _ _ _ rfl | exact hR2 _ _ _ _ rfl | rfl) ?_
    refine x_bipush hP rfl ?_
    refine x_iload_n hP rfl rfl ?_
    first | refine z_imul hP rfl ?_ | refine x_imul hP rfl ?_
    refine x_iconst hP rfl ?_
    refine z_iast hP rfl (by first | assumption | rfl) (by first | decide | omega) (by omega) ?_
    first | refine w_nI ?_ | refine w_nL ?_ | refine w_nR ?_ | refine w_mI ?_ | refine w_mL ?_ | refine w_mR ?_ | skip
    rw [show (30 * (tD T : Int)).toNat = 30 * tD T by omega, rT_x (by decide)]
    refine z_iinc hP rfl rfl rfl ?_
    refine x_goto hP rfl ?_
    exact fin (tAddD T u) p _ _ hp ad (dsT_addD hd) (frP_at (frP_at (frP_at (frP_refl _ _) (by unfold nF; omega)) (by unfold nF; omega)) (by unfold nF; omega)) (frP_at (frP_refl _ _) (by unfold nF; omega)) k _ _ _ ⟨rfl, rfl, rfl, trivial⟩
  · rw [if_neg z.1, if_pos z.2.1] at k
    dsimp only at k
    have ad := rNw_addK (v := u) hc z.2.2.2
    refine x_lload hP rfl rfl ?_
    refine x_ldcL hP rfl ?_
    refine x_lcmp hP rfl ?_
    first | refine zb_if_ne hP rfl (fun c209 => ?_) (fun c209 => ?_) | refine zl_if_ne hP rfl (fun c209 => ?_) (fun c209 => ?_) | refine z_if_ne hP rfl (by omega) (fun c209 => ?_) (fun c209 => ?_)
    rotate_left
    · exact absurd c209 z.1
    refine x_lload hP rfl rfl ?_
    refine x_ldcL hP rfl ?_
    refine x_lcmp hP rfl ?_
    first | refine zb_if_ne hP rfl (fun c262 => ?_) (fun c262 => ?_) | refine zl_if_ne hP rfl (fun c262 => ?_) (fun c262 => ?_) | refine z_if_ne hP rfl (by omega) (fun c262 => ?_) (fun c262 => ?_)
    · exact absurd z.2.1 c262
    first | refine x_aload_n hP rfl rfl ?_ | refine x_aload_nN hP rfl rfl ?_
    refine x_getR hP rfl (by first | assumption | rfl) (by first | assumption | exact hR _ _ _ _ rfl | exact hR1 _ _ _ _ rfl | exact hR2 _ _ _ _ rfl | rfl) ?_
    refine x_iload_n hP rfl rfl ?_
    refine x_lload hP rfl rfl ?_
    refine z_last hP rfl (by first | assumption | rfl) (by first | decide | omega) (by omega) ?_
    first | refine w_nI ?_ | refine w_nL ?_ | refine w_nR ?_ | refine w_mI ?_ | refine w_mL ?_ | refine w_mR ?_ | skip
    rw [Int.toNat_natCast]
    refine z_iinc hP rfl rfl rfl ?_
    refine x_goto hP rfl ?_
    exact fin (tAddK T u) p _ _ hp ad hd (frP_refl _ _) (frP_at (frP_refl _ _) (by unfold nF; omega)) k _ _ _ ⟨rfl, rfl, rfl, trivial⟩
  · rw [if_neg z.1, if_neg z.2.1] at k
    refine x_lload hP rfl rfl ?_
    refine x_ldcL hP rfl ?_
    refine x_lcmp hP rfl ?_
    first | refine zb_if_ne hP rfl (fun c209 => ?_) (fun c209 => ?_) | refine zl_if_ne hP rfl (fun c209 => ?_) (fun c209 => ?_) | refine z_if_ne hP rfl (by omega) (fun c209 => ?_) (fun c209 => ?_)
    rotate_left
    · exact absurd c209 z.1
    refine x_lload hP rfl rfl ?_
    refine x_ldcL hP rfl ?_
    refine x_lcmp hP rfl ?_
    first | refine zb_if_ne hP rfl (fun c262 => ?_) (fun c262 => ?_) | refine zl_if_ne hP rfl (fun c262 => ?_) (fun c262 => ?_) | refine z_if_ne hP rfl (by omega) (fun c262 => ?_) (fun c262 => ?_)
    rotate_left
    · exact absurd c262 z.2.1
    first | refine x_aload_n hP rfl rfl ?_ | refine x_aload_nN hP rfl rfl ?_
    refine x_bipush hP rfl ?_
    refine x_callV1 (ci := 9) hP 0 0 rfl rfl rfl (by first | assumption | rfl) rfl rfl rfl (Nat.zero_le _) (Nat.zero_le _) ?_
    refine r_needO hP hR t1 hp (by decide) (fun y1 y2 => ?_) (fun y1 => ?_)
    rotate_left
    · rw [show parR T u c n p = .inl p by unfold parR; rw [if_neg y1]] at k
      first | refine x_aload_n hP rfl rfl ?_ | refine x_aload_nN hP rfl rfl ?_
      refine x_iload_n hP rfl rfl ?_
      refine x_iconst hP rfl ?_
      first | refine z_isub hP rfl ?_ | refine x_isub hP rfl ?_
      refine x_lload hP rfl rfl ?_
      refine x_callV2 (ci := 9) hP 0 0 rfl rfl rfl (by first | assumption | rfl) rfl rfl rfl (Nat.zero_le _) (Nat.zero_le _) ?_
      refine r_childB hP (by omega) ?_
      exact r_tt294B hP hR (by omega) (fun I' J' w1 w2 => k I' J' _ (by omega) w1 w2) _ _ _ ⟨rfl, rfl, rfl, trivial⟩
    rw [show parR T u c n p = chR T u c n (p + 1) by unfold parR; rw [if_pos y1]; rfl] at k
    first | refine x_aload_n hP rfl rfl ?_ | refine x_aload_nN hP rfl rfl ?_
    refine x_iload_n hP rfl rfl ?_
    refine x_iconst hP rfl ?_
    first | refine z_isub hP rfl ?_ | refine x_isub hP rfl ?_
    rw [show (tD T : Int) - 1 = ((tD T - 1 : Nat) : Int) by omega]
    refine x_lload hP rfl rfl ?_
    refine x_callV2 (ci := 9) hP 0 0 rfl rfl rfl (by first | assumption | rfl) rfl rfl rfl (Nat.zero_le _) (Nat.zero_le _) ?_
    refine r_child (p := p + 1) hP hR t1 (by omega) hc hd (e := tD T - 1) (by omega) z.2.2.2.2 ?_
    have ex : ∀ T' q, chR T u c n (p + 1) = .inr (T', q) → (tD T' = tD T ∧ tM T' = tM T ∧ dsT T') := by
      intro T' q h
      unfold chR at h
      split at h
      · cases h
      · split at h
        · cases h
        · split at h
          · cases h
          · cases h
            exact ⟨rfl, rfl, dsT_add hd hu⟩
    generalize chR T u c n (p + 1) = oc at k ex ⊢
    match oc, k, ex with
    | .inl er, k, _ =>
      intro q hq
      exact r_tt294B hP hR (by omega) (fun I' J' w1 w2 => k I' J' _ hq w1 w2) _ _ _ ⟨rfl, rfl, rfl, trivial⟩
    | .inr (T', q), k, ex =>
      have ⟨x1, x2, x3⟩ := ex T' q rfl
      dsimp only at k
      intro I1 J1 hq g1 g2 g3
      exact fin T' q I1 J1 hq g1 x3 g2 g3 k _ _ _ ⟨rfl, by rw [x1]; rfl, by rw [x2]; rfl, trivial⟩
theorem r_tt_loop (hP : x_closed E P) (hR : x_fin R) : ∀ (f : Nat) (T : x_T) (p : Nat) (I : x_M Int32) (J : x_M Int64), p ≤ n → n ≤ p + f → txB I n c → rNw I J T → dsT T → ttP Q I J R n (treR c n f T p) → ∀ rc rs, P 161 (d + 4) 16 (x_ls [some (.ref 122), some (.int (iI (tD T))), some (.int (iI (tM T)))]) [] (x_hp (rT I p (-1)) J R) rc rs Q := by
  have last : ∀ (T : x_T) (p : Nat) (I : x_M Int32) (J : x_M Int64), p = n → txB I n c → rNw I J T → dsT T → ttP Q I J R n (if tM T = 0 then .inl p else .inr T) → ∀ L r1 r2, x_ag L 0 [some (.ref 122), some (.int (iI (tD T))), some (.int (iI (tM T)))] → P 161 (d + 4) 303 L [] (x_hp (rT I p (-1)) J R) r1 r2 Q := by
    intro T p I J hp t1 hc hd k L r1 r2 hL
    refine x_re hP _ hL ?_
    have s2 : rT I p (-1) 1579 122 0 = iI n := t1.1
    have n2 := t1.2.1
    have w2 := hc.2.2.2.2.1
    first | refine x_aload_n hP rfl rfl ?_ | refine x_aload_nN hP rfl rfl ?_
    refine x_callV0 (ci := 9) hP 0 0 rfl rfl rfl (by first | assumption | rfl) rfl rfl rfl (Nat.zero_le _) (Nat.zero_le _) ?_
    refine r_badO hP ?_
    first | refine zb_if_ne hP rfl (fun c307 => ?_) (fun c307 => ?_) | refine zl_if_ne hP rfl (fun c307 => ?_) (fun c307 => ?_) | refine z_if_ne hP rfl (by omega) (fun c307 => ?_) (fun c307 => ?_)
    · cases c307
    refine x_iload_n hP rfl rfl ?_
    first | refine zb_if_ne hP rfl (fun c311 => ?_) (fun c311 => ?_) | refine zl_if_ne hP rfl (fun c311 => ?_) (fun c311 => ?_) | refine z_if_ne hP rfl (by omega) (fun c311 => ?_) (fun c311 => ?_)
    · rw [if_neg (by omega)] at k
      first | refine x_aload_n hP rfl rfl ?_ | refine x_aload_nN hP rfl rfl ?_
      refine x_getR hP rfl (by first | assumption | rfl) (by first | assumption | exact hR _ _ _ _ rfl | exact hR1 _ _ _ _ rfl | exact hR2 _ _ _ _ rfl | rfl) ?_
      refine x_iconst hP rfl ?_
      refine x_iload_n hP rfl rfl ?_
      refine z_iast hP rfl (by first | assumption | rfl) (by first | decide | omega) (by omega) ?_
      first | refine w_nI ?_ | refine w_nL ?_ | refine w_nR ?_ | refine w_mI ?_ | refine w_mL ?_ | refine w_mR ?_ | skip
      rw [show (0 : Int).toNat = 0 from rfl, rT_x (by decide)]
      first | refine x_aload_n hP rfl rfl ?_ | refine x_aload_nN hP rfl rfl ?_
      refine x_getR hP rfl (by first | assumption | rfl) (by first | assumption | exact hR _ _ _ _ rfl | exact hR1 _ _ _ _ rfl | exact hR2 _ _ _ _ rfl | rfl) ?_
      refine x_iconst hP rfl ?_
      refine x_iload_n hP rfl rfl ?_
      refine z_iast hP rfl (by first | assumption | rfl) (by first | decide | omega) (by omega) ?_
      first | refine w_nI ?_ | refine w_nL ?_ | refine w_nR ?_ | refine w_mI ?_ | refine w_mL ?_ | refine w_mR ?_ | skip
      rw [show (1 : Int).toNat = 1 from rfl, rT_x (by decide)]
      refine x_vret hP rfl rfl ?_
      refine k _ _ _ hc hd rfl rfl (frP_at (frP_at (frP_refl _ _) (by unfold nF; omega)) (by unfold nF; omega)) (frP_refl _ _)
    · rw [if_pos (by omega)] at k
      first | refine x_aload_n hP rfl rfl ?_ | refine x_aload_nN hP rfl rfl ?_
      first | refine x_aload_n hP rfl rfl ?_ | refine x_aload_nN hP rfl rfl ?_
      refine x_getI hP rfl (by first | assumption | rfl) (by first | assumption | exact hR _ _ _ _ rfl | exact hR1 _ _ _ _ rfl | exact hR2 _ _ _ _ rfl | rfl) ?_
      refine x_callV1 (ci := 9) hP 0 0 rfl rfl rfl (by first | assumption | rfl) rfl rfl rfl (Nat.zero_le _) (Nat.zero_le _) ?_
      refine r_failO hP ?_
      rw [hp] at k ⊢
      first | refine x_aload_n hP rfl rfl ?_ | refine x_aload_nN hP rfl rfl ?_
      refine x_getR hP rfl (by first | assumption | rfl) (by first | assumption | exact hR _ _ _ _ rfl | exact hR1 _ _ _ _ rfl | exact hR2 _ _ _ _ rfl | rfl) ?_
      refine x_iconst hP rfl ?_
      refine x_iload_n hP rfl rfl ?_
      refine z_iast hP rfl (by first | assumption | rfl) (by first | decide | omega) (by omega) ?_
      first | refine w_nI ?_ | refine w_nL ?_ | refine w_nR ?_ | refine w_mI ?_ | refine w_mL ?_ | refine w_mR ?_ | skip
      rw [show (0 : Int).toNat = 0 from rfl, rT_x (by decide)]
      first | refine x_aload_n hP rfl rfl ?_ | refine x_aload_nN hP rfl rfl ?_
      refine x_getR hP rfl (by first | assumption | rfl) (by first | assumption | exact hR _ _ _ _ rfl | exact hR1 _ _ _ _ rfl | exact hR2 _ _ _ _ rfl | rfl) ?_
      refine x_iconst hP rfl ?_
      refine x_iload_n hP rfl rfl ?_
      refine z_iast hP rfl (by first | assumption | rfl) (by first | decide | omega) (by omega) ?_
      first | refine w_nI ?_ | refine w_nL ?_ | refine w_nR ?_ | refine w_mI ?_ | refine w_mL ?_ | refine w_mR ?_ | skip
      rw [show (1 : Int).toNat = 1 from rfl, rT_x (by decide)]
      refine x_vret hP rfl rfl ?_
      exact k _ _ _ (by omega) (frP_at (frP_at (frP_refl _ _) (by unfold nF; omega)) (by unfold nF; omega)) (frP_refl _ _)
  intro f
  induction f with
  | zero =>
    intro T p I J hp hf t1 hc hd k rc rs
    have s1 : rT I p (-1) 1580 122 0 = iI p := rfl
    have s2 : rT I p (-1) 1579 122 0 = iI n := t1.1
    have n2 := t1.2.1
    first | refine x_aload_n hP rfl rfl ?_ | refine x_aload_nN hP rfl rfl ?_
    refine x_getI hP rfl (by first | assumption | rfl) (by first | assumption | exact hR _ _ _ _ rfl | exact hR1 _ _ _ _ rfl | exact hR2 _ _ _ _ rfl | rfl) ?_
    first | refine x_aload_n hP rfl rfl ?_ | refine x_aload_nN hP rfl rfl ?_
    refine x_getI hP rfl (by first | assumption | rfl) (by first | assumption | exact hR _ _ _ _ rfl | exact hR1 _ _ _ _ rfl | exact hR2 _ _ _ _ rfl | rfl) ?_
    refine z_icmp_ge hP rfl (by omega) (by omega) (fun c24 => ?_) (fun c24 => ?_)
    · exact last T p I J (by omega) t1 hc hd k _ _ _ ⟨rfl, rfl, rfl, trivial⟩
    · omega
  | succ f ih =>
    intro T p I J hp hf t1 hc hd k rc rs
    have s1 : rT I p (-1) 1580 122 0 = iI p := rfl
    have s2 : rT I p (-1) 1579 122 0 = iI n := t1.1
    have n2 := t1.2.1
    have c256 := t1.2.2.1
    have w1 := hc.2.2.2.1
    unfold treR at k
    first | refine x_aload_n hP rfl rfl ?_ | refine x_aload_nN hP rfl rfl ?_
    refine x_getI hP rfl (by first | assumption | rfl) (by first | assumption | exact hR _ _ _ _ rfl | exact hR1 _ _ _ _ rfl | exact hR2 _ _ _ _ rfl | rfl) ?_
    first | refine x_aload_n hP rfl rfl ?_ | refine x_aload_nN hP rfl rfl ?_
    refine x_getI hP rfl (by first | assumption | rfl) (by first | assumption | exact hR _ _ _ _ rfl | exact hR1 _ _ _ _ rfl | exact hR2 _ _ _ _ rfl | rfl) ?_
    refine z_icmp_ge hP rfl (by omega) (by omega) (fun c24 => ?_) (fun c24 => ?_)
    · rw [if_neg (by omega)] at k
      exact last T p I J (by omega) t1 hc hd k _ _ _ ⟨rfl, rfl, rfl, trivial⟩
    rw [if_pos (by omega)] at k
    first | refine x_aload_n hP rfl rfl ?_ | refine x_aload_nN hP rfl rfl ?_
    refine x_callV0 (ci := 9) hP 0 0 rfl rfl rfl (by first | assumption | rfl) rfl rfl rfl (Nat.zero_le _) (Nat.zero_le _) ?_
    refine r_badO hP ?_
    first | refine zb_if_ne hP rfl (fun c31 => ?_) (fun c31 => ?_) | refine zl_if_ne hP rfl (fun c31 => ?_) (fun c31 => ?_) | refine z_if_ne hP rfl (by omega) (fun c31 => ?_) (fun c31 => ?_)
    · cases c31
    first | refine x_aload_n hP rfl rfl ?_ | refine x_aload_nN hP rfl rfl ?_
    refine x_getI hP rfl (by first | assumption | rfl) (by first | assumption | exact hR _ _ _ _ rfl | exact hR1 _ _ _ _ rfl | exact hR2 _ _ _ _ rfl | rfl) ?_
    refine x_istore_n hP rfl ?_
    first | refine x_aload_n hP rfl rfl ?_ | refine x_aload_nN hP rfl rfl ?_
    refine x_iconst hP rfl ?_
    refine x_callV1 (ci := 9) hP 0 0 rfl rfl rfl (by first | assumption | rfl) rfl rfl rfl (Nat.zero_le _) (Nat.zero_le _) ?_
    refine r_nameO (wd := true) hP hR t1 hp ?_
    rw [nmR_eq]
    by_cases a : isLt (ch c n p) = true ∧ rl c n p ≤ 8
    rotate_left
    · rw [show (if isLt (ch c n p) = true then (if rl c n p ≤ 8 then .inr (wk c p (rl c n p), p + rl c n p) else .inl (if true = true then p else p + 8)) else .inl p : Nat ⊕ (Int64 × Nat)) = .inl p by
        by_cases a1 : isLt (ch c n p) = true
        · rw [if_pos a1, if_neg (fun z => a ⟨a1, z⟩), if_pos rfl]
        · rw [if_neg a1]]
      rw [show linR T c n p = .inl p by unfold linR; rw [if_neg fun z => a (mayS_wd c256 hp z)]] at k
      intro q v hv
      rw [hv]
      refine x_lstore hP rfl ?_
      first | refine x_aload_n hP rfl rfl ?_ | refine x_aload_nN hP rfl rfl ?_
      refine x_callV0 (ci := 9) hP 0 0 rfl rfl rfl (by first | assumption | rfl) rfl rfl rfl (Nat.zero_le _) (Nat.zero_le _) ?_
      refine r_badB hP (by omega) ?_
      first | refine zb_if_eq hP rfl (fun c50 => ?_) (fun c50 => ?_) | refine zl_if_eq hP rfl (fun c50 => ?_) (fun c50 => ?_) | refine z_if_eq hP rfl (by omega) (fun c50 => ?_) (fun c50 => ?_)
      · cases c50
      refine x_vret hP rfl rfl ?_
      exact k I J q (by omega) (frP_refl _ _) (frP_refl _ _)
    rw [if_pos a.1, if_pos a.2]
    have ew : wdV c n p = wk c p (rl c n p) := by unfold wdV; rw [if_pos a.2]
    have hrl := rl_le (c := c) hp
    have lr := fun T' q => linR_rg (T := T) (T' := T') (c := c) (n := n) (p := p) (q := q) c256 hp
    unfold linR at k lr
    rw [ew] at k lr
    show P _ _ _ _ (Value.long (wk c p (rl c n p)) :: _) _ _ _ _
    generalize wk c p (rl c n p) = v at k lr ⊢
    generalize p + rl c n p = p2 at k lr hrl ⊢
    refine x_lstore hP rfl ?_
    first | refine x_aload_n hP rfl rfl ?_ | refine x_aload_nN hP rfl rfl ?_
    refine x_callV0 (ci := 9) hP 0 0 rfl rfl rfl (by first | assumption | rfl) rfl rfl rfl (Nat.zero_le _) (Nat.zero_le _) ?_
    refine r_badO hP ?_
    first | refine zb_if_eq hP rfl (fun c50 => ?_) (fun c50 => ?_) | refine zl_if_eq hP rfl (fun c50 => ?_) (fun c50 => ?_) | refine z_if_eq hP rfl (by omega) (fun c50 => ?_) (fun c50 => ?_)
    rotate_left
    · cases c50
    refine r_tt_is (vf := p) hP hR hc (fun L r1 r2 hL => ?_) _ _ _ ⟨rfl, rfl, rfl, rfl, rfl, trivial⟩
    refine x_re hP _ hL ?_
    by_cases hm : mayS T v = true
    rotate_left
    · rw [if_neg hm] at k
      refine x_iload hP rfl rfl ?_
      first | refine zb_if_ne hP rfl (fun c145 => ?_) (fun c145 => ?_) | refine zl_if_ne hP rfl (fun c145 => ?_) (fun c145 => ?_) | refine z_if_ne hP rfl (by omega) (fun c145 => ?_) (fun c145 => ?_)
      · exact absurd c145 hm
      first | refine x_aload_n hP rfl rfl ?_ | refine x_aload_nN hP rfl rfl ?_
      refine x_iload_n hP rfl rfl ?_
      refine x_callV1 (ci := 9) hP 0 0 rfl rfl rfl (by first | assumption | rfl) rfl rfl rfl (Nat.zero_le _) (Nat.zero_le _) ?_
      refine r_failO hP ?_
      refine x_vret hP rfl rfl ?_
      exact k I J _ (by omega) (frP_refl _ _) (frP_refl _ _)
    rw [if_pos hm] at k lr
    refine x_iload hP rfl rfl ?_
    first | refine zb_if_ne hP rfl (fun c145 => ?_) (fun c145 => ?_) | refine zl_if_ne hP rfl (fun c145 => ?_) (fun c145 => ?_) | refine z_if_ne hP rfl (by omega) (fun c145 => ?_) (fun c145 => ?_)
    rotate_left
    · rw [hm] at c145; cases c145
    first | refine x_aload_n hP rfl rfl ?_ | refine x_aload_nN hP rfl rfl ?_
    refine x_bipush hP rfl ?_
    refine x_callV1 (ci := 9) hP 0 0 rfl rfl rfl (by first | assumption | rfl) rfl rfl rfl (Nat.zero_le _) (Nat.zero_le _) ?_
    refine r_needO hP hR t1 hrl (by decide) (fun y1 y2 => ?_) (fun y1 => ?_)
    rotate_left
    · rw [if_neg y1] at k
      exact r_tt160B hP hR w1 hm (by omega) (fun I' J' w1 w2 => k I' J' _ (by omega) w1 w2) _ _ _ ⟨rfl, rfl, rfl, rfl, trivial⟩
    rw [if_pos y1] at k lr
    unfold newR at k lr
    have s1 : rT I (p2 + 1 : Nat) (-1) 1580 122 0 = iI (p2 + 1 : Nat) := rfl
    first | refine x_aload_n hP rfl rfl ?_ | refine x_aload_nN hP rfl rfl ?_
    refine x_getI hP rfl (by first | assumption | rfl) (by first | assumption | exact hR _ _ _ _ rfl | exact hR1 _ _ _ _ rfl | exact hR2 _ _ _ _ rfl | rfl) ?_
    refine x_istore_n hP rfl ?_
    first | refine x_aload_n hP rfl rfl ?_ | refine x_aload_nN hP rfl rfl ?_
    refine x_iconst hP rfl ?_
    refine x_callV1 (ci := 9) hP 0 0 rfl rfl rfl (by first | assumption | rfl) rfl rfl rfl (Nat.zero_le _) (Nat.zero_le _) ?_
    refine r_nameO (p := p2 + 1) (wd := false) hP hR t1 y2 ?_
    rw [show nmR false c n (p2 + 1) = namR c n (p2 + 1) from rfl]
    have rg := fun v q => namR_rg (c := c) (n := n) (p := p2 + 1) (v := v) (q := q) c256 y2
    have eb : ∀ e, namR c n (p2 + 1) = .inl e → e ≤ n + 8 := fun e h => namR_e y2 h
    generalize namR c n (p2 + 1) = on at k rg eb lr ⊢
    match on, k, rg, eb, lr with
    | .inl er, k, _, eb, _ =>
      have eb := eb er rfl
      intro q v hv
      rw [hv]
      refine x_lstore hP rfl ?_
      exact r_tt172B hP hR w1 hm (by omega) (fun I' J' w1 w2 => k I' J' _ eb w1 w2) _ _ _ ⟨rfl, rfl, rfl, rfl, rfl, trivial⟩
    | .inr (u, q), k, rg, _, lr =>
      have rg := rg u q rfl
      dsimp only at k lr
      show P _ _ _ _ (Value.long u :: _) _ _ _ _
      refine x_lstore hP rfl ?_
      first | refine x_aload_n hP rfl rfl ?_ | refine x_aload_nN hP rfl rfl ?_
      refine x_callV0 (ci := 9) hP 0 0 rfl rfl rfl (by first | assumption | rfl) rfl rfl rfl (Nat.zero_le _) (Nat.zero_le _) ?_
      refine r_badO hP ?_
      first | refine zb_if_ne hP rfl (fun c176 => ?_) (fun c176 => ?_) | refine zl_if_ne hP rfl (fun c176 => ?_) (fun c176 => ?_) | refine z_if_ne hP rfl (by omega) (fun c176 => ?_) (fun c176 => ?_)
      · cases c176
      have fl : (isRes u = true ∨ ¬ fMem T u = none ∨ ¬ fMk T u = none) → ∀ L r1 r2, x_ag L 0 [some (.ref 122), some (.int (iI (tD T))), some (.int (iI (tM T))), some (.int (iI (p2 + 1 : Nat))), some (.long v), none, none, some (.long u)] → P 161 (d + 4) 198 L [] (x_hp (rT I q (-1)) J R) r1 r2 Q := by
        intro hb L r1 r2 hL
        refine x_re hP _ hL ?_
        rw [if_pos hb] at k
        first | refine x_aload_n hP rfl rfl ?_ | refine x_aload_nN hP rfl rfl ?_
        refine x_iload_n hP rfl rfl ?_
        refine x_callV1 (ci := 9) hP 0 0 rfl rfl rfl (by first | assumption | rfl) rfl rfl rfl (Nat.zero_le _) (Nat.zero_le _) ?_
        refine r_failO hP ?_
        exact r_tt203B (e := p2 + 1) hP hR w1 hm (by omega) (fun I' J' w1 w2 => k I' J' _ (by omega) w1 w2) _ _ _ ⟨rfl, rfl, rfl, rfl, rfl, trivial⟩
      refine x_lload hP rfl rfl ?_
      refine x_callS1 hP 0 0 rfl rfl rfl rfl rfl (Nat.zero_le _) (Nat.zero_le _) ?_
      refine r_isReserved hP ?_
      first | refine zb_if_ne hP rfl (fun c184 => ?_) (fun c184 => ?_) | refine zl_if_ne hP rfl (fun c184 => ?_) (fun c184 => ?_) | refine z_if_ne hP rfl (by omega) (fun c184 => ?_) (fun c184 => ?_)
      · exact fl (Or.inl c184) _ _ _ ⟨rfl, rfl, rfl, rfl, rfl, rfl, trivial⟩
      first | refine x_aload_n hP rfl rfl ?_ | refine x_aload_nN hP rfl rfl ?_
      refine x_lload hP rfl rfl ?_
      refine x_iload_n hP rfl rfl ?_
      refine x_iload_n hP rfl rfl ?_
      refine x_callV3 (ci := 9) hP 0 0 rfl rfl rfl (by first | assumption | rfl) rfl rfl rfl (Nat.zero_le _) (Nat.zero_le _) ?_
      refine r_isThere hP hR (rNw_rT hc _ _) (fun x1 => ?_) (fun x1 x2 => ?_)
      · first | refine zb_if_eq hP rfl (fun c195 => ?_) (fun c195 => ?_) | refine zl_if_eq hP rfl (fun c195 => ?_) (fun c195 => ?_) | refine z_if_eq hP rfl (by omega) (fun c195 => ?_) (fun c195 => ?_)
        · cases c195
        · exact fl (Or.inr x1) _ _ _ ⟨rfl, rfl, rfl, rfl, rfl, rfl, trivial⟩
      have nb : ¬ (isRes u = true ∨ ¬ fMem T u = none ∨ ¬ fMk T u = none) := fun z => by
        rcases z with z | z | z
        · rw [z] at c184; cases c184
        · exact z x1
        · exact z x2
      rw [if_neg nb] at k lr
      dsimp only at k lr
      first | refine zb_if_eq hP rfl (fun c195 => ?_) (fun c195 => ?_) | refine zl_if_eq hP rfl (fun c195 => ?_) (fun c195 => ?_) | refine z_if_eq hP rfl (by omega) (fun c195 => ?_) (fun c195 => ?_)
      rotate_left
      · cases c195
      refine r_tt203 hP hR t1 rg.2.1 hc hd hm x1 ?_ _ _ _ ⟨rfl, rfl, rfl, rfl, rfl, trivial⟩
      have k : ttP Q I J R n (match tlR T v u c n q with | .inl e => .inl e | .inr (T', q) => treR c n f T' q) := k
      have lr : ∀ T' q', tlR T v u c n q = .inr (T', q') → p < q' ∧ q' ≤ n := lr
      generalize tlR T v u c n q = ot at k lr ⊢
      match ot, k, lr with
      | .inl er, k, _ => exact k
      | .inr (T', q'), k, lr =>
        have lr := lr T' q' rfl
        dsimp only at k ⊢
        intro I' J' L r1 r2 _ g1 g2 g3 g4 hL
        exact x_re hP [some (.ref 122), some (.int (iI (tD T'))), some (.int (iI (tM T')))] hL (ih T' q' I' J' lr.2 (by omega) (txB_n t1 g3 fun _ _ _ => nF_tx) g1 g2 (ttP_fr k g3 g4) _ _)
end
