/-! what each side leaves to the other; what the state keeps -/
section
variable {I I' : x_M Int32} {J J' : x_M Int64} {R : x_M (Option Nat)} {S : x_St} {F : Int}
theorem rfI_lo (h : rfI I J S) (hf : frP (fun _ a _ => lo a) I I') (hg : frP (fun _ a _ => lo a) J J') : rfI I' J' S := by
  obtain ⟨b1, b2, b3, b4, ⟨a1, a2, a3, a4, a5⟩, b6, b7⟩ := h
  have fs : ∀ {k a i}, 122 ≤ a → I' k a i = I k a i := fun h => hf _ _ _ fun z => by unfold lo at z; omega
  exact ⟨⟨(fs (by decide)).trans b1.1, b1.2.1, b1.2.2.1, fun i hi => (fs (by decide)).trans (b1.2.2.2 i hi)⟩, rTr_fr b2 hf hg fun k a i z => by unfold lo at z; omega, rLy_fr b3 hf fun k a i z => by unfold lo at z; omega, rNu_fr b4 hf fun k a i z => by unfold lo at z; omega, ⟨(fs (by decide)).trans a1, (fs (by decide)).trans a2, a3, a4, fun q => rq_fr (a5 q) hf fun k a i z y => by unfold rsF at z; unfold lo at y; omega⟩, fun j hj => ⟨fun q => (fs (by decide)).trans ((b6 j hj).1 q), fun q => rq_fr ((b6 j hj).2 q) hf fun k a i z y => by unfold rsF at z; unfold lo at y; omega⟩, ⟨(fs (by decide)).trans b7.1, b7.2.1, fun i hi => (fs (by decide)).trans (b7.2.2 i hi)⟩⟩
theorem clI_hh (h : clI I J R S F) (hf : frP (fun _ a _ => hh a) I I') (hg : frP (fun _ a _ => hh a) J J') : clI I' J' R S F := by
  obtain ⟨t, t2, σ, tn, hR, h2, h3, h4, h5, ⟨⟨e1, e2, e3, e4⟩, ta, e5, e6, e7, e8⟩, h7, h8, h9⟩ := h
  have fs : ∀ {k a i}, a < 122 → I' k a i = I k a i := fun h => hf _ _ _ fun z => by unfold hh at z; omega
  have tr := isTa_rg ta
  have t1 : t ≤ 110 := tr.2
  exact ⟨t, t2, σ, tn, hR, h2, h3, h4, h5, ⟨⟨(fs (by decide)).trans e1, e2, e3, fun i hi => (fs (by decide)).trans (e4 i hi)⟩, ta, ct_fr e5 hf hg fun k a i z => by unfold hh at z; omega, stP_fr e6 hf fun k a i z => by unfold hh at z; omega, nuP_fr e7 hf fun k a i z => by unfold hh at z; omega, fun k hk => ⟨rw_fr (e8 k hk).1 hf fun k' a i q z => by have := rg_a q; unfold hh at z; omega, (e8 k hk).2⟩⟩, ⟨rw_fr h7.1 hf fun k' a i q z => by have := rg_a q; unfold hh at z; omega, h7.2⟩, ⟨jnv_fr2 h8.1 hf fun k a i q => by unfold hh at q; unfold jA; omega, h8.2⟩, shI_fr h9 hf fun k a i q => by unfold hh at q; omega⟩
theorem gS_of (h : clI I J R S F) (hn : nuV (zT (sZ S)) (zN (sZ S))) (hm : nmsOk (zT (sZ S))) : gS S := by
  obtain ⟨t, t2, σ, tn, hR, h2, h3, h4, h5, ⟨e1, ta, e5, e6, e7, e8⟩, h7, h8, h9⟩ := h
  exact ⟨e5.2.2.2.2.2, h7.2, fun k hk => (e8 k hk).2, hn, hm⟩
theorem clI_fin (h : clI I J R S F) : x_fin R := by
  obtain ⟨t, t2, σ, tn, hR, h2⟩ := h
  exact hR
end
theorem wN_ok {c : Nat → Nat} {p : Nat} : ∀ m, (∀ i, i < m → 48 ≤ c (p + i) ∧ c (p + i) ≤ 122) → ∀ s, wN c p m >>> (8 * s) % 256 < 128 ∧ (¬ wN c p m >>> (8 * s) = 0 → ¬ wN c p m >>> (8 * s) % 256 = 0)
  | 0, _, s => by
    rw [show wN c p 0 = 0 from rfl, Nat.zero_shiftRight]
    exact ⟨by decide, fun z => absurd rfl z⟩
  | m + 1, h, 0 => by
    have := h m (Nat.lt_succ_self m)
    rw [show wN c p (m + 1) = wN c p m * 256 + c (p + m) from rfl, Nat.shiftRight_zero]
    omega
  | m + 1, h, s + 1 => by
    have := h m (Nat.lt_succ_self m)
    rw [show wN c p (m + 1) = wN c p m * 256 + c (p + m) from rfl, show 8 * (s + 1) = 8 + 8 * s by omega, Nat.shiftRight_add, show (wN c p m * 256 + c (p + m)) >>> 8 = wN c p m by rw [Nat.shiftRight_eq_div_pow]; omega]
    exact wN_ok m (fun i hi => h i (by omega)) s
theorem bn_lI {z : Nat} (h : z < 9223372036854775808) : bn (lI z) = z := by
  have : lI z = Int64.ofNat z := Int64.ofInt_eq_ofNat
  unfold bn
  rw [this]
  show (BitVec.ofNat 64 z).toNat = z
  rw [BitVec.toNat_ofNat]
  exact Nat.mod_eq_of_lt (by omega)
theorem namR_ok {c : Nat → Nat} {n p q : Nat} {v : Int64} (hc : ∀ i, c i < 256) (hp : p ≤ n) (h : namR c n p = .inr (v, q)) : nmOk v := by
  unfold namR at h
  split at h
  · split at h
    · next hl =>
      cases h
      have dg : ∀ i, i < rl c n p → 48 ≤ c (p + i) ∧ c (p + i) ≤ 122 := fun i hi => (LD_rg (rn_LD _ _ i hi)).2
      rw [wk_eq c p hc]
      generalize rl c n p = m at hl dg
      have b : wN c p m < 9223372036854775808 := by
        cases m with
        | zero => exact (by decide : (0 : Nat) < 9223372036854775808)
        | succ m =>
          have t := wN_top (c := c) (p := p) m fun i _ => hc _
          have d0 := dg 0 (by omega)
          rw [Nat.add_zero] at d0
          have pw : 256 ^ m ≤ 256 ^ 7 := Nat.pow_le_pow_right (by decide) (by omega)
          have b1 : (c p + 1) * 256 ^ m ≤ 123 * 256 ^ 7 := Nat.mul_le_mul (by omega) pw
          exact Nat.lt_trans (Nat.lt_of_lt_of_le t.2 b1) (by decide)
      intro s hs
      unfold lb
      rw [bn_lI b]
      exact wN_ok m dg s
    · cases h
  · cases h
theorem nms_addD {T : x_T} {v : Int64} (h : nmsOk T) (hv : nmOk v) : nmsOk (tAddD T v) := by
  have e1 : tS (tNewD T) (tD (tNewD T) - 1) = 0 := by
    show uf1 (tS T) (tD T) 0 (tD T + 1 - 1) = 0
    rw [Nat.add_sub_cancel, uf1_s]
  have e2 : tD (tNewD T) - 1 = tD T := by show tD T + 1 - 1 = tD T; omega
  have es : ∀ a, tS (tAddD T v) a = uf1 (uf1 (tS T) (tD T) 0) (tD T) 1 a := fun a => by
    show uf1 (tS (tNewD T)) (tD (tNewD T) - 1) (tS (tNewD T) (tD (tNewD T) - 1) + 1) a = _
    rw [e1, e2]; rfl
  have en : ∀ a i, tN (tAddD T v) a i = uf2 (tN T) (tD T) 0 v a i := fun a i => by
    show uf2 (tN (tNewD T)) (tD (tNewD T) - 1) (tS (tNewD T) (tD (tNewD T) - 1)) v a i = _
    rw [e1, e2]; rfl
  intro e he i hi
  have he : e < tD T + 1 := he
  rw [es] at hi
  rw [en]
  by_cases q : e = tD T
  · rw [q, uf1_s] at hi
    rw [q, show i = 0 by omega, uf2_s]
    exact hv
  · rw [uf1_n _ _ q, uf1_n _ _ q] at hi
    rw [uf2_n _ _ (by omega)]
    exact h e (by omega) i hi
theorem nms_add {T : x_T} {v : Int64} {x : Int} (h : nmsOk T) (hv : nmOk v) : nmsOk (tAdd T v x) := by
  intro e he i hi
  have he : e < tD T := he
  have hi : i < uf1 (tS T) (tD T - 1) (tS T (tD T - 1) + 1) e := hi
  show nmOk (uf2 (tN T) (tD T - 1) (tS T (tD T - 1)) v e i)
  by_cases q : e = tD T - 1 ∧ i = tS T (tD T - 1)
  · rw [q.1, q.2, uf2_s]; exact hv
  · rw [uf2_n _ _ q]
    refine h e he i ?_
    by_cases q2 : e = tD T - 1
    · rw [q2, uf1_s] at hi; rw [q2]; omega
    · rw [uf1_n _ _ q2] at hi; exact hi
theorem tellR_nms {T T' : x_T} {v u : Int64} {c : Nat → Nat} {n p q : Nat} (h : nmsOk T) (hu : nmOk u) (hr : tellR T v u c n p = .inr (T', q)) : nmsOk T' := by
  unfold tellR at hr
  split at hr
  · cases hr; exact nms_addD h hu
  · split at hr
    · cases hr; exact h
    · unfold parR at hr
      split at hr
      · split at hr
        · cases hr
        · split at hr
          · cases hr
          · split at hr
            · cases hr
            · cases hr; exact nms_add h hu
      · cases hr
theorem linR_nms {T T' : x_T} {c : Nat → Nat} {n p q : Nat} (hc : ∀ i, c i < 256) (hp : p ≤ n) (h : nmsOk T) (hr : linR T c n p = .inr (T', q)) : nmsOk T' := by
  unfold linR at hr
  split at hr
  · split at hr
    · next e0 =>
      have hlt : p + rl c n p < n := by unfold ch at e0; split at e0 <;> omega
      split at hr
      · cases hr
      · next u q1 e1 =>
        have hu := namR_ok hc hlt (newR_rg hc hlt e1).2.2.2.1
        split at hr
        · cases hr
        · next T1 q2 e2 =>
          split at hr
          · cases hr; exact tellR_nms h hu e2
          · cases hr
    · cases hr
  · cases hr
theorem treR_nms {c : Nat → Nat} {n : Nat} (hc : ∀ i, c i < 256) : ∀ (f : Nat) (T : x_T) (p : Nat) (T' : x_T), p ≤ n → nmsOk T → treR c n f T p = .inr T' → nmsOk T'
  | 0, T, p, T', _, h, hr => by
    unfold treR at hr
    split at hr
    · cases hr
    · cases hr; exact h
  | f + 1, T, p, T', hp, h, hr => by
    unfold treR at hr
    split at hr
    · split at hr
      · cases hr
      · next T1 q e =>
        have := linR_rg hc hp e
        exact treR_nms hc f T1 q T' this.2 (linR_nms hc hp h e) hr
    · split at hr
      · cases hr
      · cases hr; exact h
/-- what the state keeps beside the two sides -/
def kpS (S : x_St) : Prop := nuV (zT (sZ S)) (zN (sZ S)) ∧ nmsOk (zT (sZ S)) ∧ (∀ i, sC S i < 256) ∧ sN S ≤ 2000
theorem kp_tree {S : x_St} (h : kpS S) : kpS (spTree S).2 := by
  unfold spTree
  have k := fun T' => treR_nms (c := sC S) (n := sN S) h.2.2.1 (sN S) tNil 0 T' (Nat.zero_le _) (fun e he => absurd he (Nat.not_lt_zero _))
  generalize treR (sC S) (sN S) (sN S) tNil 0 = ot at k
  match ot, k with
  | .inl e, _ => exact ⟨h.1, h.2.1, h.2.2.1, Nat.zero_le _⟩
  | .inr T, k => exact ⟨fun m e z _ _ _ _ => rfl, k T rfl, h.2.2.1, Nat.zero_le _⟩
theorem kp_mark {S : x_St} (h : kpS S) : kpS (spMark S).2 := by
  unfold spMark
  have k : ∀ m e z v, mkR (sZ S) (sC S) (sN S) = .inr (m, e, z, v) → e < tD (zT (sZ S)) ∧ z < tS (zT (sZ S)) e := by
    intro m e z v hr
    unfold mkR at hr
    split at hr
    · cases hr
    · next e1 z1 q h1 =>
      have rg := memR_rg h.2.2.1 (Nat.zero_le _) h1
      split at hr
      · split at hr
        · cases hr
        · split at hr
          · split at hr
            · cases hr; exact ⟨rg.2.2.1, rg.2.2.2⟩
            · split at hr
              · cases hr
              · split at hr
                · cases hr
                · split at hr
                  · cases hr; exact ⟨rg.2.2.1, rg.2.2.2⟩
                  · cases hr
          · cases hr
      · cases hr
  generalize mkR (sZ S) (sC S) (sN S) = om at k
  match om, k with
  | .inl e, _ => exact ⟨h.1, h.2.1, h.2.2.1, Nat.zero_le _⟩
  | .inr (m, e, z, v), k =>
    have ⟨k1, k2⟩ := k m e z v rfl
    exact ⟨nuV_U h.1 k1 k2, h.2.1, h.2.2.1, Nat.zero_le _⟩
theorem kp_set {S : x_St} (h : kpS S) : kpS (spSet S).2 := by
  unfold spSet
  generalize setR (sZ S) (sC S) (sN S) = os
  match os with
  | .inl e => exact ⟨h.1, h.2.1, h.2.2.1, Nat.zero_le _⟩
  | .inr ((V, tm), q) =>
    dsimp only
    split
    · exact ⟨h.1, h.2.1, h.2.2.1, Nat.zero_le _⟩
    · exact ⟨h.1, h.2.1, h.2.2.1, Nat.zero_le _⟩
theorem cU_lt {c : Nat → Nat} {m b : Nat} (h : ∀ i, c i < 256) (hb : b < 256) : ∀ i, cU c m b i < 256 := fun i => by
  unfold cU
  split
  · exact hb
  · exact h i
theorem c4_lt {c : Nat → Nat} {m : Nat} {x : Int32} (h : ∀ i, c i < 256) : ∀ i, c4 c m x i < 256 := cU_lt (cU_lt (cU_lt (cU_lt h (byt_lt _ _)) (byt_lt _ _)) (byt_lt _ _)) (byt_lt _ _)
theorem kp_feed {S : x_St} {x1 x2 x3 x4 x5 : Int32} (h : kpS S) : kpS (spFeed x1 x2 x3 x4 x5 S).2 := by
  unfold spFeed
  split
  · next z => exact ⟨h.1, h.2.1, c4_lt (c4_lt (c4_lt (c4_lt (c4_lt h.2.2.1)))), z⟩
  · exact h
theorem kp_end {S : x_St} {x : Int} (h : kpS S) : kpS (spEnd x S).2 := by
  unfold spEnd
  split
  · exact h
  · next z => exact ⟨h.1, h.2.1, h.2.2.1, by have := h.2.2.2; show x.toNat ≤ 2000; omega⟩
theorem kp_keep {S : x_St} {x : Int} (h : kpS S) : kpS (spKeep x S).2 := by
  unfold spKeep
  split <;> exact h
theorem kp_drop {S : x_St} {x : Int} (h : kpS S) : kpS (spDrop x S).2 := by
  unfold spDrop
  split <;> exact h
theorem kp_print {S : x_St} (h : kpS S) : kpS (spPrint S).2 := by
  unfold spPrint
  split <;> exact h
theorem kp_place {S : x_St} (h : kpS S) : kpS (spPlace S).2 := ⟨h.1, h.2.1, h.2.2.1, Nat.zero_le _⟩
theorem kp_0 : kpS S0 := ⟨fun m e z _ _ _ _ => rfl, fun e he i hi => by
  have he : e < 1 := he
  obtain rfl : e = 0 := by omega
  have hi : i < 1 := hi
  obtain rfl : i = 0 := by omega
  show nmOk (lI 116)
  exact (show ∀ s, s < 8 → lb (lI 116) (8 * s) < 128 ∧ (¬ bn (lI 116) >>> (8 * s) = 0 → ¬ lb (lI 116) (8 * s) = 0) by decide +kernel), fun _ => (by show 0 < 256; decide), Nat.zero_le _⟩
section
variable {E : x_E} {P : x_Pr} {d rc rs : Nat} {I : x_M Int32} {J : x_M Int64} {R : x_M (Option Nat)} {Q : x_Q} {S : x_St}
theorem rfI_tape (hc : rfI I J S) {I' : x_M Int32} {n : Nat} {c : Nat → Nat} (ht : tpR I' n c) (hf : frP rG I I') : rfI I' J (n, c, sZ S, sV S, sP S) := by
  obtain ⟨b1, b2, b3, b4, ⟨a1, a2, a3, a4, a5⟩, b6, b7⟩ := hc
  have fs : ∀ {k a i}, ¬ rG k a i → I' k a i = I k a i := fun q => hf _ _ _ q
  exact ⟨ht, rTr_fr b2 hf (frP_refl _ _) fun k a i z => by unfold rG at z; omega, rLy_fr b3 hf fun k a i z => by unfold rG at z; omega, rNu_fr b4 hf fun k a i z => by unfold rG at z; omega, ⟨(fs fun z => by unfold rG at z; omega).trans a1, (fs fun z => by unfold rG at z; omega).trans a2, a3, a4, fun q => rq_fr (a5 q) hf fun k a i z y => by unfold rsF at z; unfold rG at y; omega⟩, fun j hj => ⟨fun q => (fs fun z => by unfold rG at z; omega).trans ((b6 j hj).1 q), fun q => rq_fr ((b6 j hj).2 q) hf fun k a i z y => by unfold rsF at z; unfold rG at y; omega⟩, ⟨(fs fun z => by unfold rG at z; omega).trans b7.1, b7.2.1, fun i hi => (fs fun z => by unfold rG at z; omega).trans (b7.2.2 i hi)⟩⟩
theorem rG_hh {k a i : Nat} (h : rG k a i) : hh a := by unfold rG at h; unfold hh; omega
theorem r_feedS (hP : x_closed E P) (hR : x_fin R) {x1 x2 x3 x4 x5 : Int32} (hc : rfI I J S) (k : ∀ I', rfI I' J (spFeed x1 x2 x3 x4 x5 S).2 → frP (fun _ a _ => hh a) I I' → Q (some (.int (iI (spFeed x1 x2 x3 x4 x5 S).1))) (x_hp I' J R)) : P 156 (d + 1) 0 (x_la 0 [.ref 122, .int x1, .int x2, .int x3, .int x4, .int x5]) [] (x_hp I J R) rc rs Q := by
  unfold spFeed at k
  refine r_feed hP hR hc.1 (fun z I' g1 g2 => ?_) (fun z => ?_)
  · rw [if_pos z] at k
    exact k I' (rfI_tape hc g1 g2) (frP_mono g2 fun _ _ _ => rG_hh)
  · rw [if_neg z] at k
    exact k I hc (frP_refl _ _)
theorem r_endS (hP : x_closed E P) (hR : x_fin R) {x : Int} (hx : -2147483648 ≤ x ∧ x < 2147483648) (hc : rfI I J S) (k : ∀ I', rfI I' J (spEnd x S).2 → frP (fun _ a _ => hh a) I I' → Q (some (.int (iI (spEnd x S).1))) (x_hp I' J R)) : P 158 (d + 1) 0 (x_la 0 [.ref 122, .int (iI x)]) [] (x_hp I J R) rc rs Q := by
  unfold spEnd at k
  refine r_end hP hR hx hc.1 (fun m hm hl I' g1 g2 => ?_) (fun z => ?_)
  · rw [if_neg (by omega)] at k
    subst hm
    rw [Int.toNat_natCast] at k
    exact k I' (rfI_tape hc g1 g2) (frP_mono g2 fun _ _ _ => rG_hh)
  · rw [if_pos z] at k
    exact k I hc (frP_refl _ _)
end
