/-! TreeReader: a line, and all -/
theorem mayS_cases {T : x_T} {v : Int64} (h : mayS T v = true) : (v = kDIM ∧ tM T = 0 ∧ tD T < 4) ∨ (¬ v = kDIM ∧ v = kMAR ∧ 0 < tD T ∧ tM T < 3) ∨ (¬ v = kDIM ∧ ¬ v = kMAR ∧ v = kMEM ∧ 0 < tD T ∧ tS T (tD T - 1) < 30) := by
  unfold mayS at h
  have e1 : ¬ kMEM = kMAR := by decide
  split at h
  · next e => exact Or.inl ⟨e, of_decide_eq_true h⟩
  · next e =>
    split at h
    · next e2 => have := of_decide_eq_true h; exact Or.inr (Or.inr ⟨e, by rw [e2]; exact e1, e2, this.2⟩)
    · have := of_decide_eq_true h; exact Or.inr (Or.inl ⟨e, this⟩)
theorem parR_rg {T T' : x_T} {v : Int64} {c : Nat → Nat} {n p q : Nat} (hc : ∀ i, c i < 256) (hp : p ≤ n) (h : parR T v c n p = .inr (T', q)) : p < q ∧ q ≤ n := by
  unfold parR at h
  split at h
  · next e =>
    have hlt : p < n := by unfold ch at e; split at e <;> omega
    split at h
    · cases h
    · next a q' e2 =>
      split at h
      · cases h
      · split at h
        · cases h
        · cases h
          have := namR_rg hc hlt e2
          omega
  · cases h
theorem tellR_rg {T T' : x_T} {v w : Int64} {c : Nat → Nat} {n p q : Nat} (hc : ∀ i, c i < 256) (hp : p ≤ n) (h : tellR T v w c n p = .inr (T', q)) : p ≤ q ∧ q ≤ n := by
  unfold tellR at h
  split at h
  · cases h; omega
  · split at h
    · cases h; omega
    · have := parR_rg hc hp h; omega
theorem linR_rg {T T' : x_T} {c : Nat → Nat} {n p q : Nat} (hc : ∀ i, c i < 256) (hp : p ≤ n) (h : linR T c n p = .inr (T', q)) : p < q ∧ q ≤ n := by
  unfold linR at h
  split at h
  · split at h
    · next e0 =>
      have hlt : p + rl c n p < n := by unfold ch at e0; split at e0 <;> omega
      split at h
      · cases h
      · next e =>
        split at h
        · cases h
        · next e2 =>
          split at h
          · next e3 =>
            cases h
            have h1 := newR_rg hc hlt e
            have h2 := tellR_rg hc h1.2.1 e2
            unfold ch at e3
            split at e3 <;> omega
          · cases h
    · cases h
  · cases h
def treR (c : Nat → Nat) (n : Nat) : Nat → x_T → Nat → Nat ⊕ x_T
  | 0, T, p => if tM T = 0 then .inl p else .inr T
  | f + 1, T, p => if p < n then (match linR T c n p with
      | .inl e => .inl e
      | .inr (T', q) => treR c n f T' q) else (if tM T = 0 then .inl p else .inr T)
section
variable {E : x_E} {P : x_Pr} {d rc rs : Nat} {I : x_M Int32} {J : x_M Int64} {R : x_M (Option Nat)} {Q : x_Q} {t : Nat} {T : x_T} {n p : Nat} {w : Int} {c : Nat → Nat}
theorem c_wd (hP : x_closed E P) (hR : x_fin R) (ht : tpB I n c) (hp : p ≤ n) (k : Q (some (.long (wdV c n p))) (x_hp (tI I (p + rl c n p : Nat) w) J R)) : P 31 (d + 1) 0 (x_la 0 [.ref 1]) [] (x_hp (tI I p w) J R) rc rs Q := c_readWord hP hR ht hp k
theorem c_readLine (hP : x_closed E P) (hR : x_fin R) (hx : R 1128 3 0 = some 1) (ht : isTr R t) (h3 : 3 ≤ t) (hb : tpB I n c) (hp : p ≤ n) (hc : ct I J t T) (k : tPost Q I J R t n c (linR T c n p)) : P 29 (d + 4) 0 (x_la 0 [.ref 3, .ref t]) [] (x_hp (tI I p w) J R) rc rs Q := by
  have t0 := ht.1
  have hw := hc.2.2.2.2.2
  unfold linR at k
  first | refine x_aload_n hP rfl rfl ?_ | refine x_aload_nN hP rfl rfl ?_
  refine x_getR hP rfl (by first | assumption | rfl) (by first | assumption | exact hR _ _ _ _ rfl | exact hR1 _ _ _ _ rfl | exact hR2 _ _ _ _ rfl | rfl) ?_
  refine x_callV0 (ci := 1) hP 0 0 rfl rfl rfl (by first | assumption | rfl) rfl rfl rfl (Nat.zero_le _) (Nat.zero_le _) ?_
  refine c_at hP ?_
  refine x_istore_n hP rfl ?_
  first | refine x_aload_n hP rfl rfl ?_ | refine x_aload_nN hP rfl rfl ?_
  refine x_getR hP rfl (by first | assumption | rfl) (by first | assumption | exact hR _ _ _ _ rfl | exact hR1 _ _ _ _ rfl | exact hR2 _ _ _ _ rfl | rfl) ?_
  refine x_callV0 (ci := 1) hP 0 0 rfl rfl rfl (by first | assumption | rfl) rfl rfl rfl (Nat.zero_le _) (Nat.zero_le _) ?_
  refine c_wd hP hR hb hp ?_
  have hrl := rl_le (c := c) hp
  refine x_lstore_n hP rfl ?_
  refine x_lload_n hP rfl rfl ?_
  first | refine x_aload_n hP rfl rfl ?_ | refine x_aload_nN hP rfl rfl ?_
  refine x_callS2 hP 0 0 rfl rfl rfl rfl rfl (Nat.zero_le _) (Nat.zero_le _) ?_
  refine c_mayStand (T := T) hP ht (ct_tI hc h3 _ _) ?_
  first | refine zb_if_ne hP rfl (fun c21 => ?_) (fun c21 => ?_) | refine zl_if_ne hP rfl (fun c21 => ?_) (fun c21 => ?_) | refine z_if_ne hP rfl (by omega) (fun c21 => ?_) (fun c21 => ?_)
  · rw [if_pos c21] at k
    have hm := mayS_cases c21
    first | refine x_aload_n hP rfl rfl ?_ | refine x_aload_nN hP rfl rfl ?_
    refine x_getR hP rfl (by first | assumption | rfl) (by first | assumption | exact hR _ _ _ _ rfl | exact hR1 _ _ _ _ rfl | exact hR2 _ _ _ _ rfl | rfl) ?_
    refine x_bipush hP rfl ?_
    refine x_callV1 (ci := 1) hP 0 0 rfl rfl rfl (by first | assumption | rfl) rfl rfl rfl (Nat.zero_le _) (Nat.zero_le _) ?_
    refine c_skip hP hR hb hrl (by decide) (fun e1 hlt => ?_) (fun e1 => ?_)
    · rw [if_pos e1] at k
      first | refine zb_if_ne hP rfl (fun c42 => ?_) (fun c42 => ?_) | refine zl_if_ne hP rfl (fun c42 => ?_) (fun c42 => ?_) | refine z_if_ne hP rfl (by omega) (fun c42 => ?_) (fun c42 => ?_)
      rotate_left
      · cases c42
      first | refine x_aload_n hP rfl rfl ?_ | refine x_aload_nN hP rfl rfl ?_
      first | refine x_aload_n hP rfl rfl ?_ | refine x_aload_nN hP rfl rfl ?_
      refine x_callV1 (ci := 2) hP 0 0 rfl rfl rfl (by first | assumption | rfl) rfl rfl rfl (Nat.zero_le _) (Nat.zero_le _) ?_
      refine c_newName hP hR hx ht h3 hb (p := p + rl c n p + 1) hlt hc ?_
      cases e : newR T c n (p + rl c n p + 1) with
      | inl er =>
        rw [e] at k
        intro q
        refine x_lstore hP rfl ?_
        refine x_lload hP rfl rfl ?_
        refine x_lconst hP rfl ?_
        refine x_lcmp hP rfl ?_
        first | refine zb_if_ne hP rfl (fun c58 => ?_) (fun c58 => ?_) | refine zl_if_ne hP rfl (fun c58 => ?_) (fun c58 => ?_) | refine z_if_ne hP rfl (by omega) (fun c58 => ?_) (fun c58 => ?_)
        · exact absurd rfl c58
        refine x_iconst hP rfl ?_
        refine x_zret hP rfl rfl (by first | exact Or.inl iI_0 | exact Or.inr iI_1 | exact bI_or _ | assumption) ?_
        exact k _ _ q hb (frA_refl _) (frA_refl _)
      | inr vq =>
        obtain ⟨v, q⟩ := vq
        have hv := newR_rg hb.2.2.1 hlt e
        rw [e] at k
        dsimp only at k
        show P _ _ _ _ _ _ _ _ _
        have fin : ∀ (I1 : x_M Int32) (J1 : x_M Int64) (T' : x_T) (q' : Nat) (w' : Int) L r1 r2, x_ag L 0 [some (.ref 3)] → q' ≤ n → tellR T (wdV c n p) v c n q = .inr (T', q') → tpB I1 n c → ct I1 J1 t T' → frP (fun _ a _ => tA t a) I I1 → frP (fun _ a _ => tA t a) J J1 → P 29 (d + 4) 109 L [] (x_hp (tI I1 q' w') J1 R) r1 r2 Q := by
          intro I1 J1 T' q' w' L r1 r2 hL hq' et hb1 hc1 f1 f2
          rw [et] at k
          dsimp only at k
          refine x_re hP _ hL ?_
          first | refine x_aload_n hP rfl rfl ?_ | refine x_aload_nN hP rfl rfl ?_
          refine x_getR hP rfl (by first | assumption | rfl) (by first | assumption | exact hR _ _ _ _ rfl | exact hR1 _ _ _ _ rfl | exact hR2 _ _ _ _ rfl | rfl) ?_
          refine x_bipush hP rfl ?_
          refine x_callV1 (ci := 1) hP 0 0 rfl rfl rfl (by first | assumption | rfl) rfl rfl rfl (Nat.zero_le _) (Nat.zero_le _) ?_
          refine c_skip hP hR hb1 hq' (by decide) (fun e2 hlt2 => ?_) (fun e2 => ?_)
          · rw [if_pos e2] at k
            refine x_zret hP rfl rfl (by first | exact Or.inl iI_0 | exact Or.inr iI_1 | exact bI_or _ | assumption) ?_
            exact k I1 J1 w' hb1 hc1 f1 f2
          · rw [if_neg e2] at k
            refine x_zret hP rfl rfl (by first | exact Or.inl iI_0 | exact Or.inr iI_1 | exact bI_or _ | assumption) ?_
            exact k I1 J1 q' hb1 f1 f2
        refine x_lstore hP rfl ?_
        refine x_lload hP rfl rfl ?_
        refine x_lconst hP rfl ?_
        refine x_lcmp hP rfl ?_
        first | refine zb_if_ne hP rfl (fun c58 => ?_) (fun c58 => ?_) | refine zl_if_ne hP rfl (fun c58 => ?_) (fun c58 => ?_) | refine z_if_ne hP rfl (by omega) (fun c58 => ?_) (fun c58 => ?_)
        rotate_left
        · exact absurd c58 hv.2.2.1
        refine x_lload_n hP rfl rfl ?_
        refine x_ldcL hP rfl ?_
        refine x_lcmp hP rfl ?_
        first | refine zb_if_ne hP rfl (fun c68 => ?_) (fun c68 => ?_) | refine zl_if_ne hP rfl (fun c68 => ?_) (fun c68 => ?_) | refine z_if_ne hP rfl (by omega) (fun c68 => ?_) (fun c68 => ?_)
        · refine x_lload_n hP rfl rfl ?_
          refine x_ldcL hP rfl ?_
          refine x_lcmp hP rfl ?_
          first | refine zb_if_ne hP rfl (fun c85 => ?_) (fun c85 => ?_) | refine zl_if_ne hP rfl (fun c85 => ?_) (fun c85 => ?_) | refine z_if_ne hP rfl (by omega) (fun c85 => ?_) (fun c85 => ?_)
          · have hm3 := (hm.resolve_left (fun z => c68 z.1)).resolve_left (fun z => c85 z.2.1)
            first | refine x_aload_n hP rfl rfl ?_ | refine x_aload_nN hP rfl rfl ?_
            first | refine x_aload_n hP rfl rfl ?_ | refine x_aload_nN hP rfl rfl ?_
            refine x_lload hP rfl rfl ?_
            refine x_callV2 (ci := 2) hP 0 0 rfl rfl rfl (by first | assumption | rfl) rfl rfl rfl (Nat.zero_le _) (Nat.zero_le _) ?_
            have et : tellR T (wdV c n p) v c n q = parR T v c n q := by
              unfold tellR; rw [if_neg hm3.1, if_neg hm3.2.1]
            refine c_readParent hP hR hx ht h3 hb hv.2.1 hc hm3.2.2.2.1 hm3.2.2.2.2 ?_
            cases ep : parR T v c n q with
            | inl er =>
              intro I1 J1 q1 hb1 f1 f2
              rw [et, ep] at k
              first | refine zb_if_ne hP rfl (fun c104 => ?_) (fun c104 => ?_) | refine zl_if_ne hP rfl (fun c104 => ?_) (fun c104 => ?_) | refine z_if_ne hP rfl (by omega) (fun c104 => ?_) (fun c104 => ?_)
              · cases c104
              refine x_iconst hP rfl ?_
              refine x_zret hP rfl rfl (by first | exact Or.inl iI_0 | exact Or.inr iI_1 | exact bI_or _ | assumption) ?_
              exact k I1 J1 q1 hb1 f1 f2
            | inr tq =>
              obtain ⟨T', q'⟩ := tq
              intro I1 J1 w1 hb1 hc1 f1 f2
              have := parR_rg hb.2.2.1 hv.2.1 ep
              first | refine zb_if_ne hP rfl (fun c104 => ?_) (fun c104 => ?_) | refine zl_if_ne hP rfl (fun c104 => ?_) (fun c104 => ?_) | refine z_if_ne hP rfl (by omega) (fun c104 => ?_) (fun c104 => ?_)
              · exact fin I1 J1 T' q' w1 _ _ _ ⟨rfl, trivial⟩ this.2 (by rw [et, ep]) hb1 hc1 f1 f2
              · cases c104
          · have hm2 := (hm.resolve_left (fun z => c68 z.1)).resolve_right (fun z => z.2.1 c85)
            first | refine x_aload_n hP rfl rfl ?_ | refine x_aload_nN hP rfl rfl ?_
            refine x_lload hP rfl rfl ?_
            refine x_callV1 (ci := 8) hP 0 0 rfl rfl rfl (by first | assumption | rfl) rfl rfl rfl (Nat.zero_le _) (Nat.zero_le _) ?_
            refine c_addMark hP ht (ct_tI hc h3 _ _) hm2.2.2.2 (fun I1 J1 hc1 f1 f2 => ?_)
            have hq := tp_fr hb f1 (fun k a i h => by unfold gT at h; omega)
            refine x_goto hP rfl ?_
            have := fin I1 J1 (tAddK T v) q w
            rw [hq.1] at this
            refine this _ _ _ ⟨rfl, trivial⟩ hv.2.1 (by unfold tellR; rw [if_neg hm2.1, if_pos hm2.2.1]) hq.2 hc1 (frP_tr (tI_fr I q w) f1 (fun _ _ _ h => Or.inl h) (fun _ _ _ h => gT_tA h)) (frP_mono f2 (fun _ _ _ h => gT_tA h))
        · have hm1 : tM T = 0 ∧ tD T < 4 := by
            rcases hm with z | z | z
            · exact z.2
            · exact absurd c68 z.1
            · exact absurd c68 z.1
          first | refine x_aload_n hP rfl rfl ?_ | refine x_aload_nN hP rfl rfl ?_
          refine x_lload hP rfl rfl ?_
          refine x_callV1 (ci := 8) hP 0 0 rfl rfl rfl (by first | assumption | rfl) rfl rfl rfl (Nat.zero_le _) (Nat.zero_le _) ?_
          refine c_addDimension hP ht (ct_tI hc h3 _ _) hm1.2 (fun I1 J1 hc1 f1 f2 => ?_)
          have hq := tp_fr hb f1 (fun k a i h => by unfold gT at h; omega)
          refine x_goto hP rfl ?_
          have := fin I1 J1 (tAddD T v) q w
          rw [hq.1] at this
          refine this _ _ _ ⟨rfl, trivial⟩ hv.2.1 (by unfold tellR; rw [if_pos c68]) hq.2 hc1 (frP_tr (tI_fr I q w) f1 (fun _ _ _ h => Or.inl h) (fun _ _ _ h => gT_tA h)) (frP_mono f2 (fun _ _ _ h => gT_tA h))
    · rw [if_neg e1] at k
      first | refine zb_if_ne hP rfl (fun c42 => ?_) (fun c42 => ?_) | refine zl_if_ne hP rfl (fun c42 => ?_) (fun c42 => ?_) | refine z_if_ne hP rfl (by omega) (fun c42 => ?_) (fun c42 => ?_)
      · cases c42
      refine x_iconst hP rfl ?_
      refine x_zret hP rfl rfl (by first | exact Or.inl iI_0 | exact Or.inr iI_1 | exact bI_or _ | assumption) ?_
      exact k _ _ _ hb (frA_refl _) (frA_refl _)
  · rw [if_neg (by rw [show mayS T (wdV c n p) = false from c21]; decide)] at k
    first | refine x_aload_n hP rfl rfl ?_ | refine x_aload_nN hP rfl rfl ?_
    refine x_getR hP rfl (by first | assumption | rfl) (by first | assumption | exact hR _ _ _ _ rfl | exact hR1 _ _ _ _ rfl | exact hR2 _ _ _ _ rfl | rfl) ?_
    refine x_iload_n hP rfl rfl ?_
    refine x_callV1 (ci := 1) hP 0 0 rfl rfl rfl (by first | assumption | rfl) rfl rfl rfl (Nat.zero_le _) (Nat.zero_le _) ?_
    refine c_fail hP ?_
    refine x_zret hP rfl rfl (by first | exact Or.inl iI_0 | exact Or.inr iI_1 | exact bI_or _ | assumption) ?_
    exact k _ _ _ hb (frA_refl _) (frA_refl _)
/-- how the reading of a TREE TEXT ends -/
def tPost2 (Q : x_Q) (I : x_M Int32) (J : x_M Int64) (R : x_M (Option Nat)) (t n : Nat) (c : Nat → Nat) (r : Nat ⊕ x_T) : Prop := match r with
  | .inl e => ∀ I' J' (q : Nat), tpB I' n c → frP (fun _ a _ => tA t a) I I' → frP (fun _ a _ => tA t a) J J' → Q (some (.int (bI false))) (x_hp (tI I' q e) J' R)
  | .inr T' => ∀ I' J' (q : Nat) (w : Int), tpB I' n c → ct I' J' t T' → stP I' t T' (tD T') → frP (fun _ a _ => tA t a) I I' → frP (fun _ a _ => tA t a) J J' → Q (some (.int (bI true))) (x_hp (tI I' q w) J' R)
theorem c_read_loop (hP : x_closed E P) (hR : x_fin R) (hx : R 1128 3 0 = some 1) (ht : isTr R t) (h3 : 3 ≤ t) : ∀ (f : Nat) (T : x_T) (p l : Nat) (w : Int) (I : x_M Int32) (J : x_M Int64), p ≤ n → n - p ≤ f → l ≤ p → tpB I n c → ct I J t T → tPost2 Q I J R t n c (treR c n f T p) → P 26 (d + 5) 11 (x_ls [some (.ref 3), some (.ref 1), some (.ref t), some (.int (iI l))]) [] (x_hp (tI I p w) J R) rc rs Q := by
  have t0 := ht.1
  have ex : ∀ (T : x_T) (p : Nat) (w : Int) (I : x_M Int32) (J : x_M Int64) L r1 r2, x_ag L 0 [some (.ref 3), some (.ref 1), some (.ref t)] → tpB I n c → ct I J t T → tPost2 Q I J R t n c (if tM T = 0 then .inl p else .inr T) → P 26 (d + 5) 44 L [] (x_hp (tI I p w) J R) r1 r2 Q := by
    intro T p w I J L r1 r2 hL hb hc k
    have hc' := ct_tI hc h3 p w
    have hm := hc'.2.1
    have hw := hc.2.2.2.2.2.2.1
    refine x_re hP _ hL ?_
    first | refine x_aload_n hP rfl rfl ?_ | refine x_aload_nN hP rfl rfl ?_
    refine x_getI hP rfl (by first | assumption | rfl) (by first | assumption | exact hR _ _ _ _ rfl | exact hR1 _ _ _ _ rfl | exact hR2 _ _ _ _ rfl | rfl) ?_
    first | refine zb_if_ne hP rfl (fun c48 => ?_) (fun c48 => ?_) | refine zl_if_ne hP rfl (fun c48 => ?_) (fun c48 => ?_) | refine z_if_ne hP rfl (by omega) (fun c48 => ?_) (fun c48 => ?_)
    · rw [if_neg (by omega)] at k
      first | refine x_aload_n hP rfl rfl ?_ | refine x_aload_nN hP rfl rfl ?_
      refine x_callV0 (ci := 8) hP 0 0 rfl rfl rfl (by first | assumption | rfl) rfl rfl rfl (Nat.zero_le _) (Nat.zero_le _) ?_
      refine c_settle hP ht hc' (fun I1 hc1 s1 f1 f2 => ?_)
      have hq := tp_fr hb f1 (fun k a i h => by unfold gT at h; omega)
      refine x_iconst hP rfl ?_
      refine x_zret hP rfl rfl (by first | exact Or.inl iI_0 | exact Or.inr iI_1 | exact bI_or _ | assumption) ?_
      have := k I1 J p w hq.2 hc1 s1 (frP_tr (tI_fr I p w) f1 (fun _ _ _ h => Or.inl h) (fun _ _ _ h => gT_tA h)) (frP_refl _ _)
      rw [hq.1] at this
      exact this
    · rw [if_pos (by omega)] at k
      first | refine x_aload_n hP rfl rfl ?_ | refine x_aload_nN hP rfl rfl ?_
      refine x_getR hP rfl (by first | assumption | rfl) (by first | assumption | exact hR _ _ _ _ rfl | exact hR1 _ _ _ _ rfl | exact hR2 _ _ _ _ rfl | rfl) ?_
      first | refine x_aload_n hP rfl rfl ?_ | refine x_aload_nN hP rfl rfl ?_
      refine x_getR hP rfl (by first | assumption | rfl) (by first | assumption | exact hR _ _ _ _ rfl | exact hR1 _ _ _ _ rfl | exact hR2 _ _ _ _ rfl | rfl) ?_
      refine x_callV0 (ci := 1) hP 0 0 rfl rfl rfl (by first | assumption | rfl) rfl rfl rfl (Nat.zero_le _) (Nat.zero_le _) ?_
      refine c_at hP ?_
      refine x_callV1 (ci := 1) hP 0 0 rfl rfl rfl (by first | assumption | rfl) rfl rfl rfl (Nat.zero_le _) (Nat.zero_le _) ?_
      refine c_fail hP ?_
      refine x_zret hP rfl rfl (by first | exact Or.inl iI_0 | exact Or.inr iI_1 | exact bI_or _ | assumption) ?_
      exact k I J p hb (frA_refl _) (frA_refl _)
  intro f
  induction f with
  | zero =>
    intro T p l w I J hp hf hl hb hc k
    have h2 := hb.2.1
    refine x_iload_n hP rfl rfl ?_
    refine x_sipush hP rfl ?_
    refine z_icmp_ge hP rfl (by omega) (by omega) (fun c15 => ?_) (fun c15 => ?_)
    · exact ex T p w I J _ _ _ ⟨rfl, rfl, rfl, trivial⟩ hb hc k
    first | refine x_aload_n hP rfl rfl ?_ | refine x_aload_nN hP rfl rfl ?_
    refine x_getR hP rfl (by first | assumption | rfl) (by first | assumption | exact hR _ _ _ _ rfl | exact hR1 _ _ _ _ rfl | exact hR2 _ _ _ _ rfl | rfl) ?_
    refine x_callV0 (ci := 1) hP 0 0 rfl rfl rfl (by first | assumption | rfl) rfl rfl rfl (Nat.zero_le _) (Nat.zero_le _) ?_
    refine c_hasMore hP hb hp ?_
    first | refine zb_if_eq hP rfl (fun c25 => ?_) (fun c25 => ?_) | refine zl_if_eq hP rfl (fun c25 => ?_) (fun c25 => ?_) | refine z_if_eq hP rfl (by omega) (fun c25 => ?_) (fun c25 => ?_)
    · exact ex T p w I J _ _ _ ⟨rfl, rfl, rfl, trivial⟩ hb hc k
    · have := of_decide_eq_true c25; omega
  | succ f ih =>
    intro T p l w I J hp hf hl hb hc k
    have h2 := hb.2.1
    unfold treR at k
    have kk : ∀ L r1 r2, x_ag L 0 [some (.ref 3), some (.ref 1), some (.ref t)] → ¬ p < n → P 26 (d + 5) 44 L [] (x_hp (tI I p w) J R) r1 r2 Q := fun L r1 r2 hL hn => by
      rw [if_neg hn] at k
      exact ex T p w I J L r1 r2 hL hb hc k
    refine x_iload_n hP rfl rfl ?_
    refine x_sipush hP rfl ?_
    refine z_icmp_ge hP rfl (by omega) (by omega) (fun c15 => ?_) (fun c15 => ?_)
    · exact kk _ _ _ ⟨rfl, rfl, rfl, trivial⟩ (by omega)
    first | refine x_aload_n hP rfl rfl ?_ | refine x_aload_nN hP rfl rfl ?_
    refine x_getR hP rfl (by first | assumption | rfl) (by first | assumption | exact hR _ _ _ _ rfl | exact hR1 _ _ _ _ rfl | exact hR2 _ _ _ _ rfl | rfl) ?_
    refine x_callV0 (ci := 1) hP 0 0 rfl rfl rfl (by first | assumption | rfl) rfl rfl rfl (Nat.zero_le _) (Nat.zero_le _) ?_
    refine c_hasMore hP hb hp ?_
    first | refine zb_if_eq hP rfl (fun c25 => ?_) (fun c25 => ?_) | refine zl_if_eq hP rfl (fun c25 => ?_) (fun c25 => ?_) | refine z_if_eq hP rfl (by omega) (fun c25 => ?_) (fun c25 => ?_)
    · exact kk _ _ _ ⟨rfl, rfl, rfl, trivial⟩ (of_decide_eq_false c25)
    have hlt := of_decide_eq_true c25
    rw [if_pos hlt] at k
    first | refine x_aload_n hP rfl rfl ?_ | refine x_aload_nN hP rfl rfl ?_
    first | refine x_aload_n hP rfl rfl ?_ | refine x_aload_nN hP rfl rfl ?_
    refine x_callV1 (ci := 2) hP 0 0 rfl rfl rfl (by first | assumption | rfl) rfl rfl rfl (Nat.zero_le _) (Nat.zero_le _) ?_
    refine c_readLine hP hR hx ht h3 hb hp hc ?_
    cases e : linR T c n p with
    | inl er =>
      rw [e] at k
      intro I1 J1 q hb1 f1 f2
      first | refine zb_if_ne hP rfl (fun c33 => ?_) (fun c33 => ?_) | refine zl_if_ne hP rfl (fun c33 => ?_) (fun c33 => ?_) | refine z_if_ne hP rfl (by omega) (fun c33 => ?_) (fun c33 => ?_)
      · cases c33
      refine x_iconst hP rfl ?_
      refine x_zret hP rfl rfl (by first | exact Or.inl iI_0 | exact Or.inr iI_1 | exact bI_or _ | assumption) ?_
      exact k I1 J1 q hb1 f1 f2
    | inr tq =>
      obtain ⟨T', q⟩ := tq
      rw [e] at k
      dsimp only at k
      have hq := linR_rg hb.2.2.1 hp e
      intro I1 J1 w1 hb1 hc1 f1 f2
      first | refine zb_if_ne hP rfl (fun c33 => ?_) (fun c33 => ?_) | refine zl_if_ne hP rfl (fun c33 => ?_) (fun c33 => ?_) | refine z_if_ne hP rfl (by omega) (fun c33 => ?_) (fun c33 => ?_)
      rotate_left
      · cases c33
      refine z_iinc hP rfl rfl rfl ?_
      refine x_goto hP rfl ?_
      refine x_re hP [some (.ref 3), some (.ref 1), some (.ref t), some (.int (iI (l + 1 : Nat)))] ⟨rfl, rfl, rfl, rfl, trivial⟩ (ih T' q (l + 1) w1 I1 J1 hq.2 (by omega) (by omega) hb1 hc1 ?_)
      cases er : treR c n f T' q with
      | inl e1 =>
        rw [er] at k
        exact fun I2 J2 q2 hb2 g1 g2 => k I2 J2 q2 hb2 (frP_trans f1 g1) (frP_trans f2 g2)
      | inr T2 =>
        rw [er] at k
        exact fun I2 J2 q2 w2 hb2 hc2 s2 g1 g2 => k I2 J2 q2 w2 hb2 hc2 s2 (frP_trans f1 g1) (frP_trans f2 g2)
theorem c_read (hP : x_closed E P) (hR : x_fin R) (hta : isTa t) (hb : tpB I n c) (k : ∀ I1, nuP I1 t nuNil → tpB I1 n c → frP (fun _ a _ => t ≤ a ∧ a ≤ t + 11) (tI I 0 0) I1 → tPost2 Q I1 J (x_at R 1128 3 0 (some 1)) t n c (treR c n n tNil 0)) : P 26 (d + 5) 0 (x_la 0 [.ref 3, .ref 1, .ref t]) [] (x_hp (tI I 0 0) J R) rc rs Q := by
  have h3 := isTa_rg hta
  have hR' : x_fin (x_at R 1128 3 0 (some 1)) := x_fin_at hR rfl
  have hx : (x_at R 1128 3 0 (some 1)) 1128 3 0 = some 1 := rfl
  have ht := isTr_of hR' hta
  have t0 := ht.1
  first | refine x_aload_n hP rfl rfl ?_ | refine x_aload_nN hP rfl rfl ?_
  first | refine x_aload_n hP rfl rfl ?_ | refine x_aload_nN hP rfl rfl ?_
  refine x_putR hP rfl (by first | assumption | rfl) ?_
  first | refine w_nI ?_ | refine w_nL ?_ | refine w_nR ?_ | refine w_mI ?_ | refine w_mL ?_ | refine w_mR ?_ | skip
  first | refine x_aload_n hP rfl rfl ?_ | refine x_aload_nN hP rfl rfl ?_
  refine x_callV0 (ci := 8) hP 0 0 rfl rfl rfl (by first | assumption | rfl) rfl rfl rfl (Nat.zero_le _) (Nat.zero_le _) ?_
  refine c_trClear hP ht (fun I1 hc hn hf => ?_)
  have hq := tp_fr hb hf (fun k a i h => by omega)
  refine x_iconst hP rfl ?_
  refine x_istore_n hP rfl ?_
  refine x_re hP [some (.ref 3), some (.ref 1), some (.ref t), some (.int (iI (0 : Nat)))] ⟨rfl, rfl, rfl, rfl, trivial⟩ ?_
  have := c_read_loop hP hR' hx ht (by omega) n tNil 0 0 0 I1 J (Nat.zero_le _) (by omega) (Nat.le_refl _) hq.2 hc (k I1 hn hq.2 hf) (d := d) (rc := rc - 0) (rs := rs - 0)
  rw [show (((0 : Nat) : Int)) = 0 from rfl, hq.1] at this
  exact this
end
