/-! TreeReader -/
abbrev kDIM : Int64 := lI 6580589
abbrev kMEM : Int64 := lI 7169389
abbrev kMAR : Int64 := lI 7168370
/-- the word that stands at p, as the class takes it -/
def wdV (c : Nat → Nat) (n p : Nat) : Int64 := if rl c n p ≤ 8 then wk c p (rl c n p) else lI 0
def mayS (T : x_T) (v : Int64) : Bool := if v = kDIM then decide (tM T = 0 ∧ tD T < 4) else if v = kMEM then decide (tM T = 0 ∧ 0 < tD T ∧ tS T (tD T - 1) < 30) else decide (v = kMAR ∧ 0 < tD T ∧ tM T < 3)
def isRes (v : Int64) : Bool := decide (v = kDIM ∨ v = kMEM ∨ v = kMAR)
/-- a NAME that no one has -/
def newR (T : x_T) (c : Nat → Nat) (n p : Nat) : Nat ⊕ (Int64 × Nat) := match namR c n p with
  | .inl e => .inl e
  | .inr (v, q) => if isRes v = true ∨ ¬ fMem T v = none ∨ ¬ fMk T v = none then .inl p else .inr (v, q)
/-- a MEMBER's parent, and the MEMBER -/
def parR (T : x_T) (v : Int64) (c : Nat → Nat) (n p : Nat) : Nat ⊕ (x_T × Nat) := if ch c n p = 32 then match namR c n (p + 1) with
    | .inl e => .inl e
    | .inr (a, q) => match fIn T (tD T - 1) a with
      | none => .inl (p + 1)
      | some k => if 6 ≤ tH T (tD T - 1) k then .inl (p + 1) else .inr (tAdd T v k, q)
  else .inl p
/-- what a line tells, but for its end -/
def tellR (T : x_T) (v w : Int64) (c : Nat → Nat) (n p : Nat) : Nat ⊕ (x_T × Nat) := if v = kDIM then .inr (tAddD T w, p) else if v = kMAR then .inr (tAddK T w, p) else parR T w c n p
def linR (T : x_T) (c : Nat → Nat) (n p : Nat) : Nat ⊕ (x_T × Nat) := if mayS T (wdV c n p) = true then
    if ch c n (p + rl c n p) = 32 then match newR T c n (p + rl c n p + 1) with
      | .inl e => .inl e
      | .inr (w, q) => match tellR T (wdV c n p) w c n q with
        | .inl e => .inl e
        | .inr (T', q') => if ch c n q' = 10 then .inr (T', q' + 1) else .inl q'
    else .inl (p + rl c n p)
  else .inl p
section
variable {E : x_E} {P : x_Pr} {d rc rs : Nat} {I : x_M Int32} {J : x_M Int64} {R : x_M (Option Nat)} {Q : x_Q} {t : Nat} {T : x_T} {n p : Nat} {w : Int} {c : Nat → Nat}
theorem c_mayStand (hP : x_closed E P) (ht : isTr R t) (hc : ct I J t T) {v : Int64} (k : Q (some (.int (bI (mayS T v)))) (x_hp I J R)) : P 34 (d + 1) 0 (x_la 0 [.long v, .ref t]) [] (x_hp I J R) rc rs Q := by
  have ht' := ht
  have hc' := hc
  obtain ⟨t0, t1, t2, t3, t4, t5, t6, t7, t8, t9, t10, t11, u1, u2, u3, u4, u5, u6, u7, u8, u9, u10, u11⟩ := ht
  obtain ⟨h1, h2, h3, h4, h5, w1, w2, w3⟩ := hc
  unfold mayS at k
  refine x_lload_n hP rfl rfl ?_
  refine x_ldcL hP rfl ?_
  refine x_lcmp hP rfl ?_
  first | refine zb_if_ne hP rfl (fun c5 => ?_) (fun c5 => ?_) | refine zl_if_ne hP rfl (fun c5 => ?_) (fun c5 => ?_) | refine z_if_ne hP rfl (by omega) (fun c5 => ?_) (fun c5 => ?_)
  · rw [if_neg c5] at k
    refine x_lload_n hP rfl rfl ?_
    refine x_ldcL hP rfl ?_
    refine x_lcmp hP rfl ?_
    first | refine zb_if_ne hP rfl (fun c34 => ?_) (fun c34 => ?_) | refine zl_if_ne hP rfl (fun c34 => ?_) (fun c34 => ?_) | refine z_if_ne hP rfl (by omega) (fun c34 => ?_) (fun c34 => ?_)
    · rw [if_neg c34] at k
      refine x_lload_n hP rfl rfl ?_
      refine x_ldcL hP rfl ?_
      refine x_lcmp hP rfl ?_
      first | refine zb_if_ne hP rfl (fun c62 => ?_) (fun c62 => ?_) | refine zl_if_ne hP rfl (fun c62 => ?_) (fun c62 => ?_) | refine z_if_ne hP rfl (by omega) (fun c62 => ?_) (fun c62 => ?_)
      · rw [decide_eq_false (fun q => c62 q.1)] at k
        refine x_iconst hP rfl ?_
        refine x_zret hP rfl rfl (by first | exact Or.inl iI_0 | exact Or.inr iI_1 | exact bI_or _ | assumption) ?_
        exact k
      · first | refine x_aload_n hP rfl rfl ?_ | refine x_aload_nN hP rfl rfl ?_
        refine x_getI hP rfl (by first | assumption | rfl) (by first | assumption | exact hR _ _ _ _ rfl | exact hR1 _ _ _ _ rfl | exact hR2 _ _ _ _ rfl | rfl) ?_
        refine z_if_le hP rfl (by omega) (fun c69 => ?_) (fun c69 => ?_)
        · rw [decide_eq_false (by omega)] at k
          refine x_iconst hP rfl ?_
          refine x_zret hP rfl rfl (by first | exact Or.inl iI_0 | exact Or.inr iI_1 | exact bI_or _ | assumption) ?_
          exact k
        · first | refine x_aload_n hP rfl rfl ?_ | refine x_aload_nN hP rfl rfl ?_
          refine x_getI hP rfl (by first | assumption | rfl) (by first | assumption | exact hR _ _ _ _ rfl | exact hR1 _ _ _ _ rfl | exact hR2 _ _ _ _ rfl | rfl) ?_
          refine x_iconst hP rfl ?_
          refine z_icmp_ge hP rfl (by omega) (by omega) (fun c77 => ?_) (fun c77 => ?_)
          · rw [decide_eq_false (by omega)] at k
            refine x_iconst hP rfl ?_
            refine x_zret hP rfl rfl (by first | exact Or.inl iI_0 | exact Or.inr iI_1 | exact bI_or _ | assumption) ?_
            exact k
          · rw [decide_eq_true ⟨c62, by omega, by omega⟩] at k
            refine x_iconst hP rfl ?_
            refine x_goto hP rfl ?_
            refine x_zret hP rfl rfl (by first | exact Or.inl iI_0 | exact Or.inr iI_1 | exact bI_or _ | assumption) ?_
            exact k
    · rw [if_pos c34] at k
      first | refine x_aload_n hP rfl rfl ?_ | refine x_aload_nN hP rfl rfl ?_
      refine x_getI hP rfl (by first | assumption | rfl) (by first | assumption | exact hR _ _ _ _ rfl | exact hR1 _ _ _ _ rfl | exact hR2 _ _ _ _ rfl | rfl) ?_
      first | refine zb_if_ne hP rfl (fun c41 => ?_) (fun c41 => ?_) | refine zl_if_ne hP rfl (fun c41 => ?_) (fun c41 => ?_) | refine z_if_ne hP rfl (by omega) (fun c41 => ?_) (fun c41 => ?_)
      · rw [decide_eq_false (by omega)] at k
        refine x_iconst hP rfl ?_
        refine x_zret hP rfl rfl (by first | exact Or.inl iI_0 | exact Or.inr iI_1 | exact bI_or _ | assumption) ?_
        exact k
      · first | refine x_aload_n hP rfl rfl ?_ | refine x_aload_nN hP rfl rfl ?_
        refine x_callV0 (ci := 8) hP 0 0 rfl rfl rfl (by first | assumption | rfl) rfl rfl rfl (Nat.zero_le _) (Nat.zero_le _) ?_
        refine c_hasRoomM hP ht' (ct_m.mp hc').1 w1 (fun z hz => (w3 z hz).2.1) ?_
        first | refine zb_if_eq hP rfl (fun c48 => ?_) (fun c48 => ?_) | refine zl_if_eq hP rfl (fun c48 => ?_) (fun c48 => ?_) | refine z_if_eq hP rfl (by omega) (fun c48 => ?_) (fun c48 => ?_)
        · rw [decide_eq_false (by have := of_decide_eq_false c48; omega)] at k
          refine x_iconst hP rfl ?_
          refine x_zret hP rfl rfl (by first | exact Or.inl iI_0 | exact Or.inr iI_1 | exact bI_or _ | assumption) ?_
          exact k
        · rw [decide_eq_true (by have := of_decide_eq_true c48; omega)] at k
          refine x_iconst hP rfl ?_
          refine x_goto hP rfl ?_
          refine x_zret hP rfl rfl (by first | exact Or.inl iI_0 | exact Or.inr iI_1 | exact bI_or _ | assumption) ?_
          exact k
  · rw [if_pos c5] at k
    first | refine x_aload_n hP rfl rfl ?_ | refine x_aload_nN hP rfl rfl ?_
    refine x_getI hP rfl (by first | assumption | rfl) (by first | assumption | exact hR _ _ _ _ rfl | exact hR1 _ _ _ _ rfl | exact hR2 _ _ _ _ rfl | rfl) ?_
    first | refine zb_if_ne hP rfl (fun c12 => ?_) (fun c12 => ?_) | refine zl_if_ne hP rfl (fun c12 => ?_) (fun c12 => ?_) | refine z_if_ne hP rfl (by omega) (fun c12 => ?_) (fun c12 => ?_)
    · rw [decide_eq_false (by omega)] at k
      refine x_iconst hP rfl ?_
      refine x_zret hP rfl rfl (by first | exact Or.inl iI_0 | exact Or.inr iI_1 | exact bI_or _ | assumption) ?_
      exact k
    · first | refine x_aload_n hP rfl rfl ?_ | refine x_aload_nN hP rfl rfl ?_
      refine x_getI hP rfl (by first | assumption | rfl) (by first | assumption | exact hR _ _ _ _ rfl | exact hR1 _ _ _ _ rfl | exact hR2 _ _ _ _ rfl | rfl) ?_
      refine x_iconst hP rfl ?_
      refine z_icmp_ge hP rfl (by omega) (by omega) (fun c20 => ?_) (fun c20 => ?_)
      · rw [decide_eq_false (by omega)] at k
        refine x_iconst hP rfl ?_
        refine x_zret hP rfl rfl (by first | exact Or.inl iI_0 | exact Or.inr iI_1 | exact bI_or _ | assumption) ?_
        exact k
      · rw [decide_eq_true (by omega)] at k
        refine x_iconst hP rfl ?_
        refine x_goto hP rfl ?_
        refine x_zret hP rfl rfl (by first | exact Or.inl iI_0 | exact Or.inr iI_1 | exact bI_or _ | assumption) ?_
        exact k
theorem c_newName (hP : x_closed E P) (hR : x_fin R) (hx : R 1128 3 0 = some 1) (ht : isTr R t) (h3 : 3 ≤ t) (hb : tpB I n c) (hp : p ≤ n) (hc : ct I J t T) (k : pPost Q I J R w (.long (lI 0)) (fun v => .long v) (newR T c n p)) : P 37 (d + 3) 0 (x_la 0 [.ref 3, .ref t]) [] (x_hp (tI I p w) J R) rc rs Q := by
  have t0 := ht.1
  have hw := hc.2.2.2.2.2
  have h2 := hb.2.1
  unfold newR at k
  first | refine x_aload_n hP rfl rfl ?_ | refine x_aload_nN hP rfl rfl ?_
  refine x_getR hP rfl (by first | assumption | rfl) (by first | assumption | exact hR _ _ _ _ rfl | exact hR1 _ _ _ _ rfl | exact hR2 _ _ _ _ rfl | rfl) ?_
  refine x_callV0 (ci := 1) hP 0 0 rfl rfl rfl (by first | assumption | rfl) rfl rfl rfl (Nat.zero_le _) (Nat.zero_le _) ?_
  refine c_at hP ?_
  refine x_istore_n hP rfl ?_
  first | refine x_aload_n hP rfl rfl ?_ | refine x_aload_nN hP rfl rfl ?_
  refine x_getR hP rfl (by first | assumption | rfl) (by first | assumption | exact hR _ _ _ _ rfl | exact hR1 _ _ _ _ rfl | exact hR2 _ _ _ _ rfl | rfl) ?_
  refine x_callV0 (ci := 1) hP 0 0 rfl rfl rfl (by first | assumption | rfl) rfl rfl rfl (Nat.zero_le _) (Nat.zero_le _) ?_
  refine c_nam hP hR hb hp ?_
  cases e : namR c n p with
  | inl er =>
    rw [e] at k
    intro q
    refine x_lstore_n hP rfl ?_
    refine x_lload_n hP rfl rfl ?_
    refine x_lconst hP rfl ?_
    refine x_lcmp hP rfl ?_
    first | refine zb_if_ne hP rfl (fun c19 => ?_) (fun c19 => ?_) | refine zl_if_ne hP rfl (fun c19 => ?_) (fun c19 => ?_) | refine z_if_ne hP rfl (by omega) (fun c19 => ?_) (fun c19 => ?_)
    · exact absurd rfl c19
    refine x_lconst hP rfl ?_
    refine x_lret hP rfl rfl ?_
    exact k q
  | inr vq =>
    obtain ⟨v, q⟩ := vq
    have hv := namR_rg hb.2.2.1 hp e
    rw [e] at k
    dsimp only at k
    show P _ _ _ _ _ _ _ _ _
    have bad : (isRes v = true ∨ ¬ fMem T v = none ∨ ¬ fMk T v = none) → ∀ L dd r1 r2, x_ag L 0 [some (.ref 3), none, some (.int (iI p))] → P 37 (dd + 1) 76 L [] (x_hp (tI I q w) J R) r1 r2 Q := by
      intro hbad L dd r1 r2 hL
      rw [if_pos hbad] at k
      refine x_re hP _ hL ?_
      first | refine x_aload_n hP rfl rfl ?_ | refine x_aload_nN hP rfl rfl ?_
      refine x_getR hP rfl (by first | assumption | rfl) (by first | assumption | exact hR _ _ _ _ rfl | exact hR1 _ _ _ _ rfl | exact hR2 _ _ _ _ rfl | rfl) ?_
      refine x_iload_n hP rfl rfl ?_
      refine x_callV1 (ci := 1) hP 0 0 rfl rfl rfl (by first | assumption | rfl) rfl rfl rfl (Nat.zero_le _) (Nat.zero_le _) ?_
      refine c_fail hP ?_
      refine x_pop hP rfl rfl ?_
      refine x_lconst hP rfl ?_
      refine x_lret hP rfl rfl ?_
      exact k q
    have good : isRes v = false → ∀ L r1 r2, x_ag L 0 [some (.ref 3), some (.ref t), some (.int (iI p)), some (.long v), none, none] → P 37 (d + 3) 60 L [] (x_hp (tI I q w) J R) r1 r2 Q := by
      intro hgood L r1 r2 hL
      refine x_re hP _ hL ?_
      first | refine x_aload_n hP rfl rfl ?_ | refine x_aload_nN hP rfl rfl ?_
      refine x_lload_n hP rfl rfl ?_
      refine x_callV1 (ci := 8) hP 0 0 rfl rfl rfl (by first | assumption | rfl) rfl rfl rfl (Nat.zero_le _) (Nat.zero_le _) ?_
      refine c_findMember hP ht (ct_tI hc h3 _ _) ?_
      have hm := mI_rg (v := v) hw
      first | refine zl_if_ge hP rfl (fun c65 => ?_) (fun c65 => ?_) | refine z_if_ge hP rfl (by omega) (fun c65 => ?_) (fun c65 => ?_)
      · refine bad (Or.inr (Or.inl (fun q => ?_))) _ _ _ _ ⟨rfl, rfl, trivial⟩
        have := hm.2.2.mpr q
        omega
      · first | refine x_aload_n hP rfl rfl ?_ | refine x_aload_nN hP rfl rfl ?_
        refine x_lload_n hP rfl rfl ?_
        refine x_callV1 (ci := 8) hP 0 0 rfl rfl rfl (by first | assumption | rfl) rfl rfl rfl (Nat.zero_le _) (Nat.zero_le _) ?_
        refine c_findMark hP ht (ct_tI hc h3 _ _) ?_
        have hm2 := oI_rg (o := fMk T v) (fun z h => by have := fO_lt _ _ _ h; have := hw.2.1; omega)
        refine z_if_lt hP rfl (by omega) (fun c73 => ?_) (fun c73 => ?_)
        · rw [if_neg (by rw [hgood]; intro q; rcases q with q | q | q; cases q; exact q (hm.2.2.mp (by omega)); exact q (hm2.2.2.mp (by omega)))] at k
          refine x_lload_n hP rfl rfl ?_
          refine x_lret hP rfl rfl ?_
          exact k
        · refine bad (Or.inr (Or.inr (fun q => ?_))) _ _ _ _ ⟨rfl, rfl, trivial⟩
          have := hm2.2.2.mpr q
          omega
    have yes : isRes v = true → ∀ L r1 r2, x_ag L 0 [some (.ref 3), some (.ref t), some (.int (iI p)), some (.long v), none, none] → P 37 (d + 3) 48 L [] (x_hp (tI I q w) J R) r1 r2 Q := by
      intro hy L r1 r2 hL
      refine x_re hP _ hL ?_
      refine x_iconst hP rfl ?_
      refine x_goto hP rfl ?_
      refine x_istore hP rfl ?_
      refine x_iload hP rfl rfl ?_
      first | refine zb_if_ne hP rfl (fun c57 => ?_) (fun c57 => ?_) | refine zl_if_ne hP rfl (fun c57 => ?_) (fun c57 => ?_) | refine z_if_ne hP rfl (by omega) (fun c57 => ?_) (fun c57 => ?_)
      · exact bad (Or.inl hy) _ _ _ _ ⟨rfl, rfl, trivial⟩
      · exact absurd c57 (by decide)
    refine x_lstore_n hP rfl ?_
    refine x_lload_n hP rfl rfl ?_
    refine x_lconst hP rfl ?_
    refine x_lcmp hP rfl ?_
    first | refine zb_if_ne hP rfl (fun c19 => ?_) (fun c19 => ?_) | refine zl_if_ne hP rfl (fun c19 => ?_) (fun c19 => ?_) | refine z_if_ne hP rfl (by omega) (fun c19 => ?_) (fun c19 => ?_)
    rotate_left
    · exact absurd c19 hv.2.2.1
    refine x_lload_n hP rfl rfl ?_
    refine x_ldcL hP rfl ?_
    refine x_lcmp hP rfl ?_
    first | refine zb_if_eq hP rfl (fun c29 => ?_) (fun c29 => ?_) | refine zl_if_eq hP rfl (fun c29 => ?_) (fun c29 => ?_) | refine z_if_eq hP rfl (by omega) (fun c29 => ?_) (fun c29 => ?_)
    · exact yes (decide_eq_true (Or.inl c29)) _ _ _ ⟨rfl, rfl, rfl, rfl, trivial⟩
    refine x_lload_n hP rfl rfl ?_
    refine x_ldcL hP rfl ?_
    refine x_lcmp hP rfl ?_
    first | refine zb_if_eq hP rfl (fun c37 => ?_) (fun c37 => ?_) | refine zl_if_eq hP rfl (fun c37 => ?_) (fun c37 => ?_) | refine z_if_eq hP rfl (by omega) (fun c37 => ?_) (fun c37 => ?_)
    · exact yes (decide_eq_true (Or.inr (Or.inl c37))) _ _ _ ⟨rfl, rfl, rfl, rfl, trivial⟩
    refine x_lload_n hP rfl rfl ?_
    refine x_ldcL hP rfl ?_
    refine x_lcmp hP rfl ?_
    first | refine zb_if_ne hP rfl (fun c45 => ?_) (fun c45 => ?_) | refine zl_if_ne hP rfl (fun c45 => ?_) (fun c45 => ?_) | refine z_if_ne hP rfl (by omega) (fun c45 => ?_) (fun c45 => ?_)
    · refine x_iconst hP rfl ?_
      refine x_istore hP rfl ?_
      refine x_iload hP rfl rfl ?_
      first | refine zb_if_ne hP rfl (fun c57 => ?_) (fun c57 => ?_) | refine zl_if_ne hP rfl (fun c57 => ?_) (fun c57 => ?_) | refine z_if_ne hP rfl (by omega) (fun c57 => ?_) (fun c57 => ?_)
      · exact absurd rfl c57
      · exact good (decide_eq_false (fun q => by rcases q with q | q | q; exact c29 q; exact c37 q; exact c45 q)) _ _ _ ⟨rfl, rfl, rfl, rfl, trivial⟩
    · exact yes (decide_eq_true (Or.inr (Or.inr c45))) _ _ _ ⟨rfl, rfl, rfl, rfl, trivial⟩
theorem newR_rg {q : Nat} {v : Int64} (hc : ∀ i, c i < 256) (hp : p ≤ n) (h : newR T c n p = .inr (v, q)) : p < q ∧ q ≤ n ∧ ¬ v = lI 0 ∧ namR c n p = .inr (v, q) ∧ fMem T v = none ∧ fMk T v = none := by
  unfold newR at h
  split at h
  · cases h
  · next v' q' e =>
    split at h
    · cases h
    · next hn =>
      cases h
      have := namR_rg hc hp e
      refine ⟨this.1, this.2.1, this.2.2.1, e, ?_, ?_⟩
      · by_cases z : fMem T v = none
        · exact z
        · exact absurd (Or.inr (Or.inl z)) hn
      · by_cases z : fMk T v = none
        · exact z
        · exact absurd (Or.inr (Or.inr z)) hn
/-- how a step of the reading ends: wrong at a place, or with other trees, behind it -/
def tPost (Q : x_Q) (I : x_M Int32) (J : x_M Int64) (R : x_M (Option Nat)) (t n : Nat) (c : Nat → Nat) (r : Nat ⊕ (x_T × Nat)) : Prop := match r with
  | .inl e => ∀ I' J' (q : Nat), tpB I' n c → frP (fun _ a _ => tA t a) I I' → frP (fun _ a _ => tA t a) J J' → Q (some (.int (bI false))) (x_hp (tI I' q e) J' R)
  | .inr (T', q) => ∀ I' J' (w : Int), tpB I' n c → ct I' J' t T' → frP (fun _ a _ => tA t a) I I' → frP (fun _ a _ => tA t a) J J' → Q (some (.int (bI true))) (x_hp (tI I' q w) J' R)
theorem frA_refl {α : Type} {A : Nat → Prop} (I : x_M α) : frP (fun _ a _ => A a) I I := frP_refl _ I
theorem c_readParent (hP : x_closed E P) (hR : x_fin R) (hx : R 1128 3 0 = some 1) (ht : isTr R t) (h3 : 3 ≤ t) (hb : tpB I n c) (hp : p ≤ n) (hc : ct I J t T) (h0 : 0 < tD T) (hs : tS T (tD T - 1) < 30) {v : Int64} (k : tPost Q I J R t n c (parR T v c n p)) : P 44 (d + 3) 0 (x_la 0 [.ref 3, .ref t, .long v]) [] (x_hp (tI I p w) J R) rc rs Q := by
  have ht' := ht
  have hw := hc.2.2.2.2.2
  have h2 := hb.2.1
  have hcc := fun p w => ct_tI hc h3 p w
  obtain ⟨t0, t1, t2, t3, t4, t5, t6, t7, t8, t9, t10, t11, u1, u2, u3, u4, u5, u6, u7, u8, u9, u10, u11⟩ := ht
  unfold parR at k
  have hv1 : ∀ p w : Int, (tI I p w) 1512 t 0 = iI (tD T) := fun p w => (hcc p w).1
  first | refine x_aload_n hP rfl rfl ?_ | refine x_aload_nN hP rfl rfl ?_
  refine x_getR hP rfl (by first | assumption | rfl) (by first | assumption | exact hR _ _ _ _ rfl | exact hR1 _ _ _ _ rfl | exact hR2 _ _ _ _ rfl | rfl) ?_
  refine x_bipush hP rfl ?_
  refine x_callV1 (ci := 1) hP 0 0 rfl rfl rfl (by first | assumption | rfl) rfl rfl rfl (Nat.zero_le _) (Nat.zero_le _) ?_
  refine c_skip hP hR hb hp (by decide) (fun e1 hlt => ?_) (fun e1 => ?_)
  · rw [if_pos e1] at k
    first | refine zb_if_ne hP rfl (fun c9 => ?_) (fun c9 => ?_) | refine zl_if_ne hP rfl (fun c9 => ?_) (fun c9 => ?_) | refine z_if_ne hP rfl (by omega) (fun c9 => ?_) (fun c9 => ?_)
    rotate_left
    · cases c9
    first | refine x_aload_n hP rfl rfl ?_ | refine x_aload_nN hP rfl rfl ?_
    refine x_getR hP rfl (by first | assumption | rfl) (by first | assumption | exact hR _ _ _ _ rfl | exact hR1 _ _ _ _ rfl | exact hR2 _ _ _ _ rfl | rfl) ?_
    refine x_callV0 (ci := 1) hP 0 0 rfl rfl rfl (by first | assumption | rfl) rfl rfl rfl (Nat.zero_le _) (Nat.zero_le _) ?_
    refine c_at hP ?_
    refine x_istore hP rfl ?_
    first | refine x_aload_n hP rfl rfl ?_ | refine x_aload_nN hP rfl rfl ?_
    refine x_getR hP rfl (by first | assumption | rfl) (by first | assumption | exact hR _ _ _ _ rfl | exact hR1 _ _ _ _ rfl | exact hR2 _ _ _ _ rfl | rfl) ?_
    refine x_callV0 (ci := 1) hP 0 0 rfl rfl rfl (by first | assumption | rfl) rfl rfl rfl (Nat.zero_le _) (Nat.zero_le _) ?_
    refine c_nam hP hR hb (p := p + 1) hlt ?_
    cases e : namR c n (p + 1) with
    | inl er =>
      rw [e] at k
      intro q
      refine x_lstore hP rfl ?_
      refine x_lload hP rfl rfl ?_
      refine x_lconst hP rfl ?_
      refine x_lcmp hP rfl ?_
      first | refine zb_if_ne hP rfl (fun c36 => ?_) (fun c36 => ?_) | refine zl_if_ne hP rfl (fun c36 => ?_) (fun c36 => ?_) | refine z_if_ne hP rfl (by omega) (fun c36 => ?_) (fun c36 => ?_)
      · exact absurd rfl c36
      refine x_iconst hP rfl ?_
      refine x_zret hP rfl rfl (by first | exact Or.inl iI_0 | exact Or.inr iI_1 | exact bI_or _ | assumption) ?_
      exact k _ _ q hb (frA_refl _) (frA_refl _)
    | inr vq =>
      obtain ⟨a, q⟩ := vq
      have hv := namR_rg hb.2.2.1 hlt e
      rw [e] at k
      dsimp only at k
      show P _ _ _ _ _ _ _ _ _
      have hv1' := hv1 q w
      have bad : tPost Q I J R t n c (.inl (p + 1)) → ∀ L dd r1 r2, x_ag L 0 [some (.ref 3), none, none, none, some (.int (iI (p + 1 : Nat)))] → P 44 (dd + 1) 81 L [] (x_hp (tI I q w) J R) r1 r2 Q := by
        intro kb L dd r1 r2 hL
        refine x_re hP _ hL ?_
        first | refine x_aload_n hP rfl rfl ?_ | refine x_aload_nN hP rfl rfl ?_
        refine x_getR hP rfl (by first | assumption | rfl) (by first | assumption | exact hR _ _ _ _ rfl | exact hR1 _ _ _ _ rfl | exact hR2 _ _ _ _ rfl | rfl) ?_
        refine x_iload hP rfl rfl ?_
        refine x_callV1 (ci := 1) hP 0 0 rfl rfl rfl (by first | assumption | rfl) rfl rfl rfl (Nat.zero_le _) (Nat.zero_le _) ?_
        refine c_fail hP ?_
        refine x_zret hP rfl rfl (by first | exact Or.inl iI_0 | exact Or.inr iI_1 | exact bI_or _ | assumption) ?_
        exact kb _ _ q hb (frA_refl _) (frA_refl _)
      refine x_lstore hP rfl ?_
      refine x_lload hP rfl rfl ?_
      refine x_lconst hP rfl ?_
      refine x_lcmp hP rfl ?_
      first | refine zb_if_ne hP rfl (fun c36 => ?_) (fun c36 => ?_) | refine zl_if_ne hP rfl (fun c36 => ?_) (fun c36 => ?_) | refine z_if_ne hP rfl (by omega) (fun c36 => ?_) (fun c36 => ?_)
      rotate_left
      · exact absurd c36 hv.2.2.1
      have ed : (tD T : Int) - 1 = ((tD T - 1 : Nat) : Int) := by omega
      first | refine x_aload_n hP rfl rfl ?_ | refine x_aload_nN hP rfl rfl ?_
      refine x_getI hP rfl (by first | assumption | rfl) (by first | assumption | exact hR _ _ _ _ rfl | exact hR1 _ _ _ _ rfl | exact hR2 _ _ _ _ rfl | rfl) ?_
      refine x_iconst hP rfl ?_
      first | refine z_isub hP rfl ?_ | refine x_isub hP rfl ?_
      rw [ed]
      refine x_istore hP rfl ?_
      first | refine x_aload_n hP rfl rfl ?_ | refine x_aload_nN hP rfl rfl ?_
      refine x_iload hP rfl rfl ?_
      refine x_lload hP rfl rfl ?_
      refine x_callV2 (ci := 8) hP 0 0 rfl rfl rfl (by first | assumption | rfl) rfl rfl rfl (Nat.zero_le _) (Nat.zero_le _) ?_
      refine c_findIn hP ht' (hcc _ _) (e := tD T - 1) (by omega) ?_
      cases ef : fIn T (tD T - 1) a with
      | none =>
        rw [ef] at k
        rw [show oI none = -1 from rfl]
        refine x_istore hP rfl ?_
        refine x_iload hP rfl rfl ?_
        refine z_if_lt hP rfl (by omega) (fun c61 => ?_) (fun c61 => ?_)
        · exact bad k _ _ _ _ ⟨rfl, rfl, trivial⟩
        · exact absurd c61 (by decide)
      | some z =>
        rw [ef] at k
        dsimp only at k
        have hz := fO_lt _ _ _ ef
        have hzz := hw.2.2 (tD T - 1) (by omega)
        have hz3 := (hzz.2.2.2.2 z (by omega)).1
        have hw1 := hw.1
        have hd : (tI I q w) 1 (t + 4) (32 * (tD T - 1) + z) = iI (tH T (tD T - 1) z) := ((hcc q w).2.2.2.1 _ (by omega) z (by omega)).2.2
        rw [show oI (some z) = (z : Int) from rfl]
        refine x_istore hP rfl ?_
        refine x_iload hP rfl rfl ?_
        refine z_if_lt hP rfl (by omega) (fun c61 => ?_) (fun c61 => ?_)
        · omega
        first | refine x_aload_n hP rfl rfl ?_ | refine x_aload_nN hP rfl rfl ?_
        refine x_getR hP rfl (by first | assumption | rfl) (by first | assumption | exact hR _ _ _ _ rfl | exact hR1 _ _ _ _ rfl | exact hR2 _ _ _ _ rfl | rfl) ?_
        refine x_iload hP rfl rfl ?_
        refine x_iload hP rfl rfl ?_
        refine x_callS2 hP 0 0 rfl rfl rfl rfl rfl (Nat.zero_le _) (Nat.zero_le _) ?_
        refine c_idOf hP (by omega) (by omega) ?_
        refine z_iald hP rfl (by first | assumption | rfl) (by first | decide | omega) (by omega) (by first | assumption | exact hR _ _ _ _ rfl | exact hR1 _ _ _ _ rfl | exact hR2 _ _ _ _ rfl | rfl) ?_
        refine x_bipush hP rfl ?_
        refine z_icmp_lt hP rfl (by omega) (by omega) (fun c78 => ?_) (fun c78 => ?_)
        · rw [if_neg (by omega)] at k
          first | refine x_aload_n hP rfl rfl ?_ | refine x_aload_nN hP rfl rfl ?_
          refine x_lload_n hP rfl rfl ?_
          refine x_iload hP rfl rfl ?_
          refine x_callV2 (ci := 8) hP 0 0 rfl rfl rfl (by first | assumption | rfl) rfl rfl rfl (Nat.zero_le _) (Nat.zero_le _) ?_
          refine c_addMember hP ht' (ct_m.mp (hcc _ _)).1 h0 (by omega) hs (fun z hz => (hw.2.2 z hz).2.1) (x := z) (Or.inr ⟨by omega, by omega⟩) (fun I1 J1 hc1 f1 f2 => ?_)
          have hq := tp_fr hb f1 (fun k a i h => by unfold gT at h; omega)
          have hc2 : ct I1 J1 t (tAdd T v z) := ct_m.mpr ⟨hc1, twf_addM hw h0 hs (by omega) (by omega)⟩
          refine x_iconst hP rfl ?_
          refine x_zret hP rfl rfl (by first | exact Or.inl iI_0 | exact Or.inr iI_1 | exact bI_or _ | assumption) ?_
          have := k I1 J1 w hq.2 hc2 (frP_tr (tI_fr I q w) f1 (fun _ _ _ h => Or.inl h) (fun _ _ _ h => gT_tA h)) (frP_mono f2 (fun _ _ _ h => gT_tA h))
          rw [hq.1] at this
          exact this
        · rw [if_pos (by omega)] at k
          exact bad k _ _ _ _ ⟨rfl, rfl, trivial⟩
  · rw [if_neg e1] at k
    first | refine zb_if_ne hP rfl (fun c9 => ?_) (fun c9 => ?_) | refine zl_if_ne hP rfl (fun c9 => ?_) (fun c9 => ?_) | refine z_if_ne hP rfl (by omega) (fun c9 => ?_) (fun c9 => ?_)
    · cases c9
    refine x_iconst hP rfl ?_
    refine x_zret hP rfl rfl (by first | exact Or.inl iI_0 | exact Or.inr iI_1 | exact bI_or _ | assumption) ?_
    exact k _ _ p hb (frA_refl _) (frA_refl _)
end
