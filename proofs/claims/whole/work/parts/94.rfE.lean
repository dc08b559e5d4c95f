/-! THE REFERENCE: MEMBERS, counts -/
def kdC (p : Nat → Int) (k : Nat) : Nat → Nat := sumS fun c => if p c = (k : Int) then 1 else 0
def lvC (p : Nat → Int) (s k : Nat) : Nat → Nat := sumS fun j => if und p k j = true then (if kdn p s j = 0 then 1 else 0) else 0
theorem kdC_le (p : Nat → Int) (k n : Nat) : kdC p k n ≤ n := by
  have := sumS_mono (f := fun c => if p c = (k : Int) then 1 else 0) (g := fun _ => 1) n fun j _ => by split <;> omega
  have e2 := sumS_ltn n n (Nat.le_refl _)
  rw [sumS_congr n (f := fun _ => 1) (g := fun q => if q < n then 1 else 0) (fun j hj => (if_pos hj).symm), e2] at this
  exact this
theorem lvC_le (p : Nat → Int) (s k n : Nat) : lvC p s k n ≤ n := by
  have := sumS_mono (f := fun j => if und p k j = true then (if kdn p s j = 0 then 1 else 0) else 0) (g := fun _ => 1) n fun j _ => by split <;> (try split) <;> omega
  have e2 := sumS_ltn n n (Nat.le_refl _)
  rw [sumS_congr n (f := fun _ => 1) (g := fun q => if q < n then 1 else 0) (fun j hj => (if_pos hj).symm), e2] at this
  exact this
section
variable {E : x_E} {P : x_Pr} {d rc rs : Nat} {I : x_M Int32} {J : x_M Int64} {R : x_M (Option Nat)} {Q : x_Q} {S : x_St} {T : x_T}
theorem r_member_loop (hP : x_closed E P) (hR : x_fin R) (hc : rTr I J T) (hy : rLy I T) {a b : Nat} (ha : a < tD T) (hb : b < tS T a) {vm : Int} (k : ∀ L r1 r2, x_ag L 0 [some (.ref 122), some (.int (iI a)), some (.int (iI b)), some (.int (iI vm)), some (.int (iI (30 * a : Nat))), some (.int (iI (kdn (tP T a) (tS T a) b))), some (.int (iI (lvs (tP T a) (tS T a) b)))] → P 217 (d + 1) 132 L [] (x_hp I J R) r1 r2 Q) : ∀ (f i : Nat), i + f = tS T a → ∀ rc rs, P 217 (d + 1) 26 (x_ls [some (.ref 122), some (.int (iI a)), some (.int (iI b)), some (.int (iI vm)), some (.int (iI (30 * a : Nat))), some (.int (iI (kdC (tP T a) b i))), some (.int (iI (lvC (tP T a) (tS T a) b i))), some (.int (iI i)), none]) [] (x_hp I J R) rc rs Q := by
  have ⟨h1, h2, h3, h4, h5, hw⟩ := hc
  have w1 := hw.1
  have w2 := (hw.2.2 a ha).2.1
  have wf := twf_wfp hw ha
  have v3 := h3 a ha
  have ⟨y1, y2, y3⟩ := hy a ha b hb
  have rb := rk_lt wf hb
  intro f
  induction f with
  | zero =>
    intro i hi rc rs
    obtain rfl : i = tS T a := by omega
    refine x_iload hP rfl rfl ?_
    first | refine x_aload_n hP rfl rfl ?_ | refine x_aload_nN hP rfl rfl ?_
    refine x_getR hP rfl (by first | assumption | rfl) (by first | assumption | exact hR _ _ _ _ rfl | exact hR1 _ _ _ _ rfl | exact hR2 _ _ _ _ rfl | rfl) ?_
    refine x_iload_n hP rfl rfl ?_
    refine z_iald hP rfl (by first | assumption | rfl) (by first | decide | omega) (by omega) (by first | assumption | exact hR _ _ _ _ rfl | exact hR1 _ _ _ _ rfl | exact hR2 _ _ _ _ rfl | rfl) ?_
    refine z_icmp_ge hP rfl (by omega) (by omega) (fun c34 => ?_) (fun c34 => ?_)
    · exact k _ _ _ ⟨rfl, rfl, rfl, rfl, rfl, rfl, rfl, trivial⟩
    · omega
  | succ f ih =>
    intro i hi rc rs
    have hlt : i < tS T a := by omega
    have ⟨z1, z2, z3⟩ := hy a ha i hlt
    have v4 := (h4 a ha i hlt).2.1
    have ri := rk_lt wf hlt
    have pr := wfp_rg wf hlt
    have b1 := kdC_le (tP T a) b i
    have b2 := lvC_le (tP T a) (tS T a) b i
    have ui := und_iff wf hb hlt
    have s1 := spn_1 wf hlt
    have e1 : kdC (tP T a) b (i + 1) = kdC (tP T a) b i + (if tP T a i = (b : Int) then 1 else 0) := rfl
    have e2 : lvC (tP T a) (tS T a) b (i + 1) = lvC (tP T a) (tS T a) b i + (if und (tP T a) b i = true then (if kdn (tP T a) (tS T a) i = 0 then 1 else 0) else 0) := rfl
    have nx : ∀ q L r1 r2, lvC (tP T a) (tS T a) b (i + 1) = lvC (tP T a) (tS T a) b i + q → x_ag L 0 [some (.ref 122), some (.int (iI a)), some (.int (iI b)), some (.int (iI vm)), some (.int (iI (30 * a : Nat))), some (.int (iI (kdC (tP T a) b (i + 1)))), some (.int (iI (lvC (tP T a) (tS T a) b i + q : Nat))), some (.int (iI i))] → P 217 (d + 1) 126 L [] (x_hp I J R) r1 r2 Q := by
      intro q L r1 r2 hq hL
      rw [← hq] at hL
      refine x_re hP _ hL ?_
      refine z_iinc hP rfl rfl rfl ?_
      refine x_goto hP rfl ?_
      exact x_re hP [some (.ref 122), some (.int (iI a)), some (.int (iI b)), some (.int (iI vm)), some (.int (iI (30 * a : Nat))), some (.int (iI (kdC (tP T a) b (i + 1)))), some (.int (iI (lvC (tP T a) (tS T a) b (i + 1)))), some (.int (iI (i + 1 : Nat))), none] ⟨rfl, rfl, rfl, rfl, rfl, rfl, rfl, rfl, trivial⟩ (ih (i + 1) (by omega) _ _)
    have hmid : ∀ L r1 r2, x_ag L 0 [some (.ref 122), some (.int (iI a)), some (.int (iI b)), some (.int (iI vm)), some (.int (iI (30 * a : Nat))), some (.int (iI (kdC (tP T a) b (i + 1)))), some (.int (iI (lvC (tP T a) (tS T a) b i))), some (.int (iI i)), some (.int (iI ((rk (tP T a) (tS T a) i : Int) - (rk (tP T a) (tS T a) b : Int))))] → P 217 (d + 1) 83 L [] (x_hp I J R) r1 r2 Q := by
      intro L r1 r2 hL
      refine x_re hP _ hL ?_
      refine x_iload hP rfl rfl ?_
      refine x_iload hP rfl rfl ?_
      refine z_if_lt hP rfl (by omega) (fun c87 => ?_) (fun c87 => ?_)
      · rw [if_neg (fun z => by have := (ui.mp z).1; omega)] at e2
        refine x_iconst hP rfl ?_
        first | refine z_iadd hP rfl ?_ | refine x_iadd hP rfl ?_
        refine x_istore hP rfl ?_
        exact nx 0 _ _ _ e2 ⟨rfl, rfl, rfl, rfl, rfl, rfl, rfl, rfl, trivial⟩
      refine x_iload hP rfl rfl ?_
      first | refine x_aload_n hP rfl rfl ?_ | refine x_aload_nN hP rfl rfl ?_
      refine x_getR hP rfl (by first | assumption | rfl) (by first | assumption | exact hR _ _ _ _ rfl | exact hR1 _ _ _ _ rfl | exact hR2 _ _ _ _ rfl | rfl) ?_
      refine x_iload hP rfl rfl ?_
      refine x_iload_n hP rfl rfl ?_
      first | refine z_iadd hP rfl ?_ | refine x_iadd hP rfl ?_
      refine z_iald hP rfl (by first | assumption | rfl) (by first | decide | omega) (by omega) (by first | assumption | exact hR _ _ _ _ rfl | exact hR1 _ _ _ _ rfl | exact hR2 _ _ _ _ rfl | rfl) ?_
      refine z_icmp_ge hP rfl (by omega) (by omega) (fun c101 => ?_) (fun c101 => ?_)
      · rw [if_neg (fun z => by have := (ui.mp z).2; omega)] at e2
        refine x_iconst hP rfl ?_
        first | refine z_iadd hP rfl ?_ | refine x_iadd hP rfl ?_
        refine x_istore hP rfl ?_
        exact nx 0 _ _ _ e2 ⟨rfl, rfl, rfl, rfl, rfl, rfl, rfl, rfl, trivial⟩
      rw [if_pos (ui.mpr ⟨by omega, by omega⟩)] at e2
      first | refine x_aload_n hP rfl rfl ?_ | refine x_aload_nN hP rfl rfl ?_
      refine x_getR hP rfl (by first | assumption | rfl) (by first | assumption | exact hR _ _ _ _ rfl | exact hR1 _ _ _ _ rfl | exact hR2 _ _ _ _ rfl | rfl) ?_
      refine x_iload hP rfl rfl ?_
      refine x_iload hP rfl rfl ?_
      first | refine z_iadd hP rfl ?_ | refine x_iadd hP rfl ?_
      refine z_iald hP rfl (by first | assumption | rfl) (by first | decide | omega) (by omega) (by first | assumption | exact hR _ _ _ _ rfl | exact hR1 _ _ _ _ rfl | exact hR2 _ _ _ _ rfl | rfl) ?_
      refine x_iconst hP rfl ?_
      first | refine z_icmp_ne hP rfl (by omega) (by omega) (fun c115 => ?_) (fun c115 => ?_) | refine x_icmp_ne hP rfl (fun c115 => ?_) (fun c115 => ?_)
      · rw [if_neg (fun z => by have := s1.mpr z; omega)] at e2
        refine x_iconst hP rfl ?_
        first | refine z_iadd hP rfl ?_ | refine x_iadd hP rfl ?_
        refine x_istore hP rfl ?_
        exact nx 0 _ _ _ e2 ⟨rfl, rfl, rfl, rfl, rfl, rfl, rfl, rfl, trivial⟩
      · rw [if_pos (s1.mp (by omega))] at e2
        refine x_iconst hP rfl ?_
        refine x_goto hP rfl ?_
        first | refine z_iadd hP rfl ?_ | refine x_iadd hP rfl ?_
        refine x_istore hP rfl ?_
        exact nx 1 _ _ _ e2 ⟨rfl, rfl, rfl, rfl, rfl, rfl, rfl, rfl, trivial⟩
    refine x_iload hP rfl rfl ?_
    first | refine x_aload_n hP rfl rfl ?_ | refine x_aload_nN hP rfl rfl ?_
    refine x_getR hP rfl (by first | assumption | rfl) (by first | assumption | exact hR _ _ _ _ rfl | exact hR1 _ _ _ _ rfl | exact hR2 _ _ _ _ rfl | rfl) ?_
    refine x_iload_n hP rfl rfl ?_
    refine z_iald hP rfl (by first | assumption | rfl) (by first | decide | omega) (by omega) (by first | assumption | exact hR _ _ _ _ rfl | exact hR1 _ _ _ _ rfl | exact hR2 _ _ _ _ rfl | rfl) ?_
    refine z_icmp_ge hP rfl (by omega) (by omega) (fun c34 => ?_) (fun c34 => ?_)
    · omega
    first | refine x_aload_n hP rfl rfl ?_ | refine x_aload_nN hP rfl rfl ?_
    refine x_getR hP rfl (by first | assumption | rfl) (by first | assumption | exact hR _ _ _ _ rfl | exact hR1 _ _ _ _ rfl | exact hR2 _ _ _ _ rfl | rfl) ?_
    refine x_iload hP rfl rfl ?_
    refine x_iload hP rfl rfl ?_
    first | refine z_iadd hP rfl ?_ | refine x_iadd hP rfl ?_
    refine z_iald hP rfl (by first | assumption | rfl) (by first | decide | omega) (by omega) (by first | assumption | exact hR _ _ _ _ rfl | exact hR1 _ _ _ _ rfl | exact hR2 _ _ _ _ rfl | rfl) ?_
    first | refine x_aload_n hP rfl rfl ?_ | refine x_aload_nN hP rfl rfl ?_
    refine x_getR hP rfl (by first | assumption | rfl) (by first | assumption | exact hR _ _ _ _ rfl | exact hR1 _ _ _ _ rfl | exact hR2 _ _ _ _ rfl | rfl) ?_
    refine x_iload hP rfl rfl ?_
    refine x_iload_n hP rfl rfl ?_
    first | refine z_iadd hP rfl ?_ | refine x_iadd hP rfl ?_
    refine z_iald hP rfl (by first | assumption | rfl) (by first | decide | omega) (by omega) (by first | assumption | exact hR _ _ _ _ rfl | exact hR1 _ _ _ _ rfl | exact hR2 _ _ _ _ rfl | rfl) ?_
    first | refine z_isub hP rfl ?_ | refine x_isub hP rfl ?_
    refine x_istore hP rfl ?_
    refine x_iload hP rfl rfl ?_
    first | refine x_aload_n hP rfl rfl ?_ | refine x_aload_nN hP rfl rfl ?_
    refine x_getR hP rfl (by first | assumption | rfl) (by first | assumption | exact hR _ _ _ _ rfl | exact hR1 _ _ _ _ rfl | exact hR2 _ _ _ _ rfl | rfl) ?_
    refine x_iload hP rfl rfl ?_
    refine x_iload hP rfl rfl ?_
    first | refine z_iadd hP rfl ?_ | refine x_iadd hP rfl ?_
    refine z_iald hP rfl (by first | assumption | rfl) (by first | decide | omega) (by omega) (by first | assumption | exact hR _ _ _ _ rfl | exact hR1 _ _ _ _ rfl | exact hR2 _ _ _ _ rfl | rfl) ?_
    refine x_iload_n hP rfl rfl ?_
    first | refine z_icmp_ne hP rfl (by omega) (by omega) (fun c72 => ?_) (fun c72 => ?_) | refine x_icmp_ne hP rfl (fun c72 => ?_) (fun c72 => ?_)
    · rw [if_neg c72] at e1
      refine x_iconst hP rfl ?_
      first | refine z_iadd hP rfl ?_ | refine x_iadd hP rfl ?_
      refine x_istore hP rfl ?_
      exact hmid _ _ _ ⟨rfl, rfl, rfl, rfl, rfl, by rw [e1]; rfl, rfl, rfl, rfl, trivial⟩
    · rw [if_pos c72] at e1
      refine x_iconst hP rfl ?_
      refine x_goto hP rfl ?_
      first | refine z_iadd hP rfl ?_ | refine x_iadd hP rfl ?_
      refine x_istore hP rfl ?_
      exact hmid _ _ _ ⟨rfl, rfl, rfl, rfl, rfl, by rw [e1]; rfl, rfl, rfl, rfl, trivial⟩
theorem r_member (hP : x_closed E P) (hR : x_fin R) {x e m : Int} (hx : -2147483648 ≤ x ∧ x < 2147483648) (he : -2147483648 ≤ e ∧ e < 2147483648) (hm : -2147483648 ≤ m ∧ m < 2147483648) (hc : rfI I J S) (k : Q (some (.int (iI (spMember x e m S)))) (x_hp I J R)) : P 217 (d + 1) 0 (x_la 0 [.ref 122, .int (iI x), .int (iI e), .int (iI m)]) [] (x_hp I J R) rc rs Q := by
  obtain ⟨h1, h2, h3, h4, h5⟩ := hc
  have w3 := h2.2.2.2.2.2
  have w1 := w3.1
  unfold spMember isMb at k
  first | refine x_aload_n hP rfl rfl ?_ | refine x_aload_nN hP rfl rfl ?_
  refine x_iload_n hP rfl rfl ?_
  refine x_iload_n hP rfl rfl ?_
  refine x_callV2 (ci := 9) hP 0 0 rfl rfl rfl (by first | assumption | rfl) rfl rfl rfl (Nat.zero_le _) (Nat.zero_le _) ?_
  refine r_isMember hP hR h2 hx he ?_
  unfold isMb
  first | refine zb_if_ne hP rfl (fun c6 => ?_) (fun c6 => ?_) | refine zl_if_ne hP rfl (fun c6 => ?_) (fun c6 => ?_) | refine z_if_ne hP rfl (by omega) (fun c6 => ?_) (fun c6 => ?_)
  rotate_left
  · rw [if_neg (fun z => of_decide_eq_false c6 (of_decide_eq_true z))] at k
    refine x_iconst hP rfl ?_
    refine x_iret hP rfl rfl ?_
    exact k
  have c6 := of_decide_eq_true c6
  rw [if_pos (decide_eq_true c6)] at k
  obtain ⟨a, rfl⟩ : ∃ m : Nat, x = m := ⟨x.toNat, by omega⟩
  obtain ⟨b, rfl⟩ : ∃ m : Nat, e = m := ⟨e.toNat, by omega⟩
  rw [Int.toNat_natCast, Int.toNat_natCast] at k
  rw [Int.toNat_natCast] at c6
  have ha : a < tD (zT (sZ S)) := by omega
  have hb : b < tS (zT (sZ S)) a := by omega
  have w4 := (w3.2.2 a ha).2.1
  have ⟨g1, g2⟩ := (h2.2.2.2.1 a ha b hb).2
  refine x_bipush hP rfl ?_
  refine x_iload_n hP rfl rfl ?_
  first | refine z_imul hP rfl ?_ | refine x_imul hP rfl ?_
  rw [show 30 * (a : Int) = ((30 * a : Nat) : Int) by omega]
  refine x_istore hP rfl ?_
  refine x_iconst hP rfl ?_
  refine x_istore hP rfl ?_
  refine x_iconst hP rfl ?_
  refine x_istore hP rfl ?_
  refine x_iconst hP rfl ?_
  refine x_istore hP rfl ?_
  refine x_re hP [some (.ref 122), some (.int (iI a)), some (.int (iI b)), some (.int (iI m)), some (.int (iI (30 * a : Nat))), some (.int (iI (kdC (tP (zT (sZ S)) a) b 0))), some (.int (iI (lvC (tP (zT (sZ S)) a) (tS (zT (sZ S)) a) b 0))), some (.int (iI (0 : Nat))), none] ⟨rfl, rfl, rfl, rfl, rfl, rfl, rfl, rfl, trivial⟩ (r_member_loop hP hR h2 h3 ha hb (fun L r1 r2 hL => ?_) _ 0 (Nat.zero_add _) _ _)
  refine x_re hP _ hL ?_
  refine x_iload_n hP rfl rfl ?_

  by_cases q0 : m = 0
  · rw [if_pos q0] at k
    rw [q0]
    refine x_tsw (tg := 164) hP rfl (by decide +kernel) ?_
    first | refine x_aload_n hP rfl rfl ?_ | refine x_aload_nN hP rfl rfl ?_
    refine x_getR hP rfl (by first | assumption | rfl) (by first | assumption | exact hR _ _ _ _ rfl | exact hR1 _ _ _ _ rfl | exact hR2 _ _ _ _ rfl | rfl) ?_
    refine x_iload hP rfl rfl ?_
    refine x_iload_n hP rfl rfl ?_
    first | refine z_iadd hP rfl ?_ | refine x_iadd hP rfl ?_
    refine z_iald hP rfl (by first | assumption | rfl) (by first | decide | omega) (by omega) (by first | assumption | exact hR _ _ _ _ rfl | exact hR1 _ _ _ _ rfl | exact hR2 _ _ _ _ rfl | rfl) ?_
    refine x_iret hP rfl rfl ?_
    exact k
  rw [if_neg q0] at k
  by_cases q1 : m = 1
  · rw [if_pos q1] at k
    rw [q1]
    refine x_tsw (tg := 174) hP rfl (by decide +kernel) ?_
    refine x_iload hP rfl rfl ?_
    refine x_iret hP rfl rfl ?_
    exact k
  rw [if_neg q1] at k
  by_cases q2 : m = 2
  · rw [if_pos q2] at k
    rw [q2]
    refine x_tsw (tg := 177) hP rfl (by decide +kernel) ?_
    first | refine x_aload_n hP rfl rfl ?_ | refine x_aload_nN hP rfl rfl ?_
    refine x_getR hP rfl (by first | assumption | rfl) (by first | assumption | exact hR _ _ _ _ rfl | exact hR1 _ _ _ _ rfl | exact hR2 _ _ _ _ rfl | rfl) ?_
    refine x_iload hP rfl rfl ?_
    refine x_iload_n hP rfl rfl ?_
    first | refine z_iadd hP rfl ?_ | refine x_iadd hP rfl ?_
    refine z_iald hP rfl (by first | assumption | rfl) (by first | decide | omega) (by omega) (by first | assumption | exact hR _ _ _ _ rfl | exact hR1 _ _ _ _ rfl | exact hR2 _ _ _ _ rfl | rfl) ?_
    refine x_iret hP rfl rfl ?_
    exact k
  rw [if_neg q2] at k
  by_cases q3 : m = 3
  · rw [if_pos q3] at k
    rw [q3]
    refine x_tsw (tg := 187) hP rfl (by decide +kernel) ?_
    refine x_iload hP rfl rfl ?_
    refine x_iret hP rfl rfl ?_
    exact k
  rw [if_neg q3] at k
  refine x_tsw (tg := 190) hP rfl (by simp only [x_tgt]; rw [iI_toInt hm, if_pos (by omega)]; rfl) ?_
  refine x_iconst hP rfl ?_
  refine x_iret hP rfl rfl ?_
  exact k
theorem nKept_le (K : Nat → x_V) (i : Nat) : nKept K i ≤ i := by
  have := sumS_mono (f := fun k => if (K k).1 = [] then 0 else 1) (g := fun _ => 1) i fun j _ => by split <;> omega
  have e2 := sumS_ltn i i (Nat.le_refl _)
  rw [sumS_congr i (f := fun _ => 1) (g := fun q => if q < i then 1 else 0) (fun j hj => (if_pos hj).symm), e2] at this
  exact this
theorem r_count_kept (hP : x_closed E P) (hR : x_fin R) {K : Nat → x_V} (hk : rkp I K) {vm all : Int} (k : ∀ L r1 r2, x_ag L 0 [some (.ref 122), some (.int (iI vm)), some (.int (iI all)), some (.int (iI (nKept K 6)))] → P 220 d 64 L [] (x_hp I J R) r1 r2 Q) : ∀ (f i : Nat), i + f = 6 → ∀ rc rs, P 220 d 32 (x_ls [some (.ref 122), some (.int (iI vm)), some (.int (iI all)), some (.int (iI (nKept K i))), some (.int (iI (1 + i : Nat)))]) [] (x_hp I J R) rc rs Q := by
  intro f
  induction f with
  | zero =>
    intro i hi rc rs
    obtain rfl : i = 6 := by omega
    refine x_iload hP rfl rfl ?_
    refine x_bipush hP rfl ?_
    refine z_icmp_ge hP rfl (by omega) (by omega) (fun c36 => ?_) (fun c36 => ?_)
    · exact k _ _ _ ⟨rfl, rfl, rfl, rfl, trivial⟩
    · omega
  | succ f ih =>
    intro i hi rc rs
    have hi6 : i < 6 := by omega
    have ⟨a1, a2⟩ := hk i hi6
    have nk := nKept_le K i
    have st : nKept K (i + 1) = nKept K i + (if (K i).1 = [] then 0 else 1) := rfl
    refine x_iload hP rfl rfl ?_
    refine x_bipush hP rfl ?_
    refine z_icmp_ge hP rfl (by omega) (by omega) (fun c36 => ?_) (fun c36 => ?_)
    · omega
    by_cases em : (K i).1 = []
    · have v := a1 em
      rw [if_pos em] at st
      refine x_iload_n hP rfl rfl ?_
      first | refine x_aload_n hP rfl rfl ?_ | refine x_aload_nN hP rfl rfl ?_
      refine x_getR hP rfl (by first | assumption | rfl) (by first | assumption | exact hR _ _ _ _ rfl | exact hR1 _ _ _ _ rfl | exact hR2 _ _ _ _ rfl | rfl) ?_
      refine x_iload hP rfl rfl ?_
      refine z_iald hP rfl (by first | assumption | rfl) (by first | decide | omega) (by omega) (by first | assumption | exact hR _ _ _ _ rfl | exact hR1 _ _ _ _ rfl | exact hR2 _ _ _ _ rfl | rfl) ?_
      refine x_iconst hP rfl ?_
      first | refine z_icmp_eq hP rfl (by omega) (by omega) (fun c48 => ?_) (fun c48 => ?_) | refine x_icmp_eq hP rfl (fun c48 => ?_) (fun c48 => ?_)
      · refine x_iconst hP rfl ?_
        first | refine z_iadd hP rfl ?_ | refine x_iadd hP rfl ?_
        refine x_istore_n hP rfl ?_
        refine z_iinc hP rfl rfl rfl ?_
        refine x_goto hP rfl ?_
        exact x_re hP [some (.ref 122), some (.int (iI vm)), some (.int (iI all)), some (.int (iI (nKept K (i + 1)))), some (.int (iI (1 + (i + 1) : Nat)))] ⟨rfl, rfl, rfl, by rw [st]; rfl, rfl, trivial⟩ (ih (i + 1) (by omega) _ _)
      · exact absurd rfl c48
    · have v := (a2 em).2.2.1
      have ok := okd_256 (a2 em).2.2.2.2.2.1 (a2 em).2.2.2.2.1
      rw [if_neg em] at st
      refine x_iload_n hP rfl rfl ?_
      first | refine x_aload_n hP rfl rfl ?_ | refine x_aload_nN hP rfl rfl ?_
      refine x_getR hP rfl (by first | assumption | rfl) (by first | assumption | exact hR _ _ _ _ rfl | exact hR1 _ _ _ _ rfl | exact hR2 _ _ _ _ rfl | rfl) ?_
      refine x_iload hP rfl rfl ?_
      refine z_iald hP rfl (by first | assumption | rfl) (by first | decide | omega) (by omega) (by first | assumption | exact hR _ _ _ _ rfl | exact hR1 _ _ _ _ rfl | exact hR2 _ _ _ _ rfl | rfl) ?_
      refine x_iconst hP rfl ?_
      first | refine z_icmp_eq hP rfl (by omega) (by omega) (fun c48 => ?_) (fun c48 => ?_) | refine x_icmp_eq hP rfl (fun c48 => ?_) (fun c48 => ?_)
      · omega
      · refine x_iconst hP rfl ?_
        refine x_goto hP rfl ?_
        first | refine z_iadd hP rfl ?_ | refine x_iadd hP rfl ?_
        refine x_istore_n hP rfl ?_
        refine z_iinc hP rfl rfl rfl ?_
        refine x_goto hP rfl ?_
        exact x_re hP [some (.ref 122), some (.int (iI vm)), some (.int (iI all)), some (.int (iI (nKept K (i + 1)))), some (.int (iI (1 + (i + 1) : Nat)))] ⟨rfl, rfl, rfl, by rw [st]; rfl, rfl, trivial⟩ (ih (i + 1) (by omega) _ _)
theorem r_count_all (hP : x_closed E P) (hR : x_fin R) (hc : rTr I J T) {vm : Int} (k : ∀ L r1 r2, x_ag L 0 [some (.ref 122), some (.int (iI vm)), some (.int (iI (sumS (tS T) (tD T))))] → P 220 d 27 L [] (x_hp I J R) r1 r2 Q) : ∀ (f i : Nat), i + f = tD T → ∀ rc rs, P 220 d 4 (x_ls [some (.ref 122), some (.int (iI vm)), some (.int (iI (sumS (tS T) i))), some (.int (iI i))]) [] (x_hp I J R) rc rs Q := by
  have ⟨h1, h2, h3, h4, h5, hw⟩ := hc
  have w1 := hw.1
  intro f
  induction f with
  | zero =>
    intro i hi rc rs
    obtain rfl : i = tD T := by omega
    refine x_iload_n hP rfl rfl ?_
    first | refine x_aload_n hP rfl rfl ?_ | refine x_aload_nN hP rfl rfl ?_
    refine x_getI hP rfl (by first | assumption | rfl) (by first | assumption | exact hR _ _ _ _ rfl | exact hR1 _ _ _ _ rfl | exact hR2 _ _ _ _ rfl | rfl) ?_
    refine z_icmp_ge hP rfl (by omega) (by omega) (fun c9 => ?_) (fun c9 => ?_)
    · exact k _ _ _ ⟨rfl, rfl, rfl, trivial⟩
    · omega
  | succ f ih =>
    intro i hi rc rs
    have v := h3 i (by omega)
    have b := sumS_le (s := tS T) i fun d hd => (hw.2.2 d (by omega)).2.1
    have b2 := (hw.2.2 i (by omega)).2.1
    refine x_iload_n hP rfl rfl ?_
    first | refine x_aload_n hP rfl rfl ?_ | refine x_aload_nN hP rfl rfl ?_
    refine x_getI hP rfl (by first | assumption | rfl) (by first | assumption | exact hR _ _ _ _ rfl | exact hR1 _ _ _ _ rfl | exact hR2 _ _ _ _ rfl | rfl) ?_
    refine z_icmp_ge hP rfl (by omega) (by omega) (fun c9 => ?_) (fun c9 => ?_)
    · omega
    refine x_iload_n hP rfl rfl ?_
    first | refine x_aload_n hP rfl rfl ?_ | refine x_aload_nN hP rfl rfl ?_
    refine x_getR hP rfl (by first | assumption | rfl) (by first | assumption | exact hR _ _ _ _ rfl | exact hR1 _ _ _ _ rfl | exact hR2 _ _ _ _ rfl | rfl) ?_
    refine x_iload_n hP rfl rfl ?_
    refine z_iald hP rfl (by first | assumption | rfl) (by first | decide | omega) (by omega) (by first | assumption | exact hR _ _ _ _ rfl | exact hR1 _ _ _ _ rfl | exact hR2 _ _ _ _ rfl | rfl) ?_
    first | refine z_iadd hP rfl ?_ | refine x_iadd hP rfl ?_
    refine x_istore_n hP rfl ?_
    refine z_iinc hP rfl rfl rfl ?_
    refine x_goto hP rfl ?_
    exact x_re hP [some (.ref 122), some (.int (iI vm)), some (.int (iI (sumS (tS T) (i + 1)))), some (.int (iI (i + 1 : Nat)))] ⟨rfl, rfl, rfl, rfl, trivial⟩ (ih (i + 1) (by omega) _ _)
theorem r_count (hP : x_closed E P) (hR : x_fin R) {m : Int} (hm : -2147483648 ≤ m ∧ m < 2147483648) (hc : rfI I J S) (k : Q (some (.int (iI (spCount m S)))) (x_hp I J R)) : P 220 d 0 (x_la 0 [.ref 122, .int (iI m)]) [] (x_hp I J R) rc rs Q := by
  obtain ⟨h1, h2, h3, h4, h5, h6, h7⟩ := hc
  have ⟨g1, g2, g3⟩ := h2
  have ⟨a1, a2, a3⟩ := h5
  have s1 := h7.1
  unfold spCount at k
  refine x_iconst hP rfl ?_
  refine x_istore_n hP rfl ?_
  refine x_iconst hP rfl ?_
  refine x_istore_n hP rfl ?_
  refine x_re hP [some (.ref 122), some (.int (iI m)), some (.int (iI (sumS (tS (zT (sZ S))) 0))), some (.int (iI (0 : Nat)))] ⟨rfl, rfl, rfl, rfl, trivial⟩ (r_count_all hP hR h2 (fun L r1 r2 hL => ?_) _ 0 (Nat.zero_add _) _ _)
  refine x_re hP _ hL ?_
  refine x_iconst hP rfl ?_
  refine x_istore_n hP rfl ?_
  refine x_iconst hP rfl ?_
  refine x_istore hP rfl ?_
  refine x_re hP [some (.ref 122), some (.int (iI m)), some (.int (iI (sumS (tS (zT (sZ S))) (tD (zT (sZ S)))))), some (.int (iI (nKept (zK (sZ S)) 0))), some (.int (iI (1 + 0 : Nat)))] ⟨rfl, rfl, rfl, rfl, rfl, trivial⟩ (r_count_kept hP hR h6 (fun L r1 r2 hL => ?_) 6 0 rfl _ _)
  refine x_re hP _ hL ?_
  refine x_iload_n hP rfl rfl ?_

  by_cases q0 : m = 0
  · rw [if_pos q0] at k
    rw [q0]
    refine x_tsw (tg := 108) hP rfl (by decide +kernel) ?_
    first | refine x_aload_n hP rfl rfl ?_ | refine x_aload_nN hP rfl rfl ?_
    refine x_getI hP rfl (by first | assumption | rfl) (by first | assumption | exact hR _ _ _ _ rfl | exact hR1 _ _ _ _ rfl | exact hR2 _ _ _ _ rfl | rfl) ?_
    refine x_iret hP rfl rfl ?_
    exact k
  rw [if_neg q0] at k
  by_cases q1 : m = 1
  · rw [if_pos q1] at k
    rw [q1]
    refine x_tsw (tg := 113) hP rfl (by decide +kernel) ?_
    first | refine x_aload_n hP rfl rfl ?_ | refine x_aload_nN hP rfl rfl ?_
    refine x_getI hP rfl (by first | assumption | rfl) (by first | assumption | exact hR _ _ _ _ rfl | exact hR1 _ _ _ _ rfl | exact hR2 _ _ _ _ rfl | rfl) ?_
    refine x_iret hP rfl rfl ?_
    exact k
  rw [if_neg q1] at k
  by_cases q2 : m = 2
  · rw [if_pos q2] at k
    rw [q2]
    refine x_tsw (tg := 118) hP rfl (by decide +kernel) ?_
    refine x_iload_n hP rfl rfl ?_
    refine x_iret hP rfl rfl ?_
    exact k
  rw [if_neg q2] at k
  by_cases q3 : m = 3
  · rw [if_pos q3] at k
    rw [q3]
    refine x_tsw (tg := 120) hP rfl (by decide +kernel) ?_
    first | refine x_aload_n hP rfl rfl ?_ | refine x_aload_nN hP rfl rfl ?_
    refine x_getR hP rfl (by first | assumption | rfl) (by first | assumption | exact hR _ _ _ _ rfl | exact hR1 _ _ _ _ rfl | exact hR2 _ _ _ _ rfl | rfl) ?_
    refine x_iconst hP rfl ?_
    refine z_iald hP rfl (by first | assumption | rfl) (by first | decide | omega) (by omega) (by first | assumption | exact hR _ _ _ _ rfl | exact hR1 _ _ _ _ rfl | exact hR2 _ _ _ _ rfl | rfl) ?_
    refine x_iret hP rfl rfl ?_
    exact k
  rw [if_neg q3] at k
  by_cases q4 : m = 4
  · rw [if_pos q4] at k
    rw [q4]
    refine x_tsw (tg := 127) hP rfl (by decide +kernel) ?_
    first | refine x_aload_n hP rfl rfl ?_ | refine x_aload_nN hP rfl rfl ?_
    refine x_getR hP rfl (by first | assumption | rfl) (by first | assumption | exact hR _ _ _ _ rfl | exact hR1 _ _ _ _ rfl | exact hR2 _ _ _ _ rfl | rfl) ?_
    refine x_iconst hP rfl ?_
    refine z_iald hP rfl (by first | assumption | rfl) (by first | decide | omega) (by omega) (by first | assumption | exact hR _ _ _ _ rfl | exact hR1 _ _ _ _ rfl | exact hR2 _ _ _ _ rfl | rfl) ?_
    refine x_iret hP rfl rfl ?_
    exact k
  rw [if_neg q4] at k
  by_cases q5 : m = 5
  · rw [if_pos q5] at k
    rw [q5]
    refine x_tsw (tg := 134) hP rfl (by decide +kernel) ?_
    refine x_iload_n hP rfl rfl ?_
    refine x_iret hP rfl rfl ?_
    exact k
  rw [if_neg q5] at k
  by_cases q6 : m = 6
  · rw [if_pos q6] at k
    rw [q6]
    refine x_tsw (tg := 136) hP rfl (by decide +kernel) ?_
    first | refine x_aload_n hP rfl rfl ?_ | refine x_aload_nN hP rfl rfl ?_
    refine x_getI hP rfl (by first | assumption | rfl) (by first | assumption | exact hR _ _ _ _ rfl | exact hR1 _ _ _ _ rfl | exact hR2 _ _ _ _ rfl | rfl) ?_
    refine x_iret hP rfl rfl ?_
    exact k
  rw [if_neg q6] at k
  refine x_tsw (tg := 141) hP rfl (by simp only [x_tgt]; rw [iI_toInt hm, if_pos (by omega)]; rfl) ?_
  refine x_iconst hP rfl ?_
  refine x_iret hP rfl rfl ?_
  exact k
end
