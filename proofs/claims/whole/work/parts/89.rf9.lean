/-! THE REFERENCE: the acts -/
def kinB (p : Nat → Int) (k j : Nat) : Bool := decide (¬ p k = -1 ∧ p j = p k ∨ p k = -1 ∧ j = k)
/-- does the act of k find j -/
def isB (p : Nat → Int) (s : Nat) (H : Nat → Nat) (a k j : Nat) : Bool :=
  match a with
  | 0 => decide (p j = k)
  | 1 => decide (rk p s k ≤ rk p s j ∧ rk p s j < rk p s k + spn p s k)
  | 2 => decide (rk p s k ≤ rk p s j ∧ rk p s j < rk p s k + spn p s k ∧ spn p s j = 1)
  | 3 => decide ((j : Int) = p k)
  | 4 => false
  | 5 => kinB p k j
  | 6 => kinB p k j && decide ((j : Int) = nxS p (p k) (s - (k + 1)) (k + 1))
  | 7 => kinB p k j && decide ((j : Int) = bkS p (p k) k)
  | _ => decide (H j = H k)
def jOf (p : Nat → Int) (s a i : Nat) : Nat := if a = 1 ∨ a = 2 then orr p s i else i
section
variable {E : x_E} {P : x_Pr} {d : Nat} {I : x_M Int32} {J : x_M Int64} {R : x_M (Option Nat)} {Q : x_Q} {T : x_T} {e : Nat}
theorem r_isC (hP : x_closed E P) (hR : x_fin R) (hc : rTr I J T) (hy : rLy I T) (he : e < tD T) {kk j a i : Nat} {rw0 : Int} (hk : kk < tS T e) (hj : j < tS T e) (ha : a < 9) (k : ∀ L r1 r2, x_ag L 0 [some (.ref 122), some (.int (iI a)), some (.int (iI (30 * e + kk : Nat))), some (.int (iI rw0)), some (.int (iI e)), some (.int (iI (30 * e : Nat))), some (.int (iI kk)), some (.int (iI (tP T e kk))), some (.int (iI i)), some (.int (iI j)), none, some (.int (bI (isB (tP T e) (tS T e) (tH T e) a kk j)))] → P 188 (d + 1) 423 L [] (x_hp I J R) r1 r2 Q) : ∀ L r1 r2, x_ag L 0 [some (.ref 122), some (.int (iI a)), some (.int (iI (30 * e + kk : Nat))), some (.int (iI rw0)), some (.int (iI e)), some (.int (iI (30 * e : Nat))), some (.int (iI kk)), some (.int (iI (tP T e kk))), some (.int (iI i)), some (.int (iI j)), some (.int (bI (kinB (tP T e) kk j)))] → P 188 (d + 1) 110 L [] (x_hp I J R) r1 r2 Q := by
  intro L r1 r2 hL
  have w3 := hc.2.2.2.2.2
  have w1 := w3.1
  have w2 := (w3.2.2 e he).2.1
  have wf := twf_wfp w3 he
  have pk := wfp_rg wf hk
  have pj := wfp_rg wf hj
  have ⟨n1, n2, n3⟩ := hc.2.2.2.1 e he j hj
  have ⟨m1, m2, m3⟩ := hc.2.2.2.1 e he kk hk
  have ⟨y1, y2, y3⟩ := hy e he j hj
  have ⟨z1, z2, z3⟩ := hy e he kk hk
  have hj6 := ((w3.2.2 e he).2.2.2.2 j hj).1
  have hk6 := ((w3.2.2 e he).2.2.2.2 kk hk).1
  have rj := rk_lt wf hj
  have rkk := rk_lt wf hk
  refine x_re hP _ hL ?_
  refine x_iload_n hP rfl rfl ?_
  match a, ha, k with
  | 0, _, k =>
    refine x_tsw (tg := 156) hP rfl (by decide +kernel) ?_
    first | refine x_aload_n hP rfl rfl ?_ | refine x_aload_nN hP rfl rfl ?_
    refine x_getR hP rfl (by first | assumption | rfl) (by first | assumption | exact hR _ _ _ _ rfl | exact hR1 _ _ _ _ rfl | exact hR2 _ _ _ _ rfl | rfl) ?_
    refine x_iload hP rfl rfl ?_
    refine x_iload hP rfl rfl ?_
    first | refine z_iadd hP rfl ?_ | refine x_iadd hP rfl ?_
    refine z_iald hP rfl (by first | assumption | rfl) (by first | decide | omega) (by omega) (by first | assumption | exact hR _ _ _ _ rfl | exact hR1 _ _ _ _ rfl | exact hR2 _ _ _ _ rfl | rfl) ?_
    refine x_iload hP rfl rfl ?_
    first | refine z_icmp_ne hP rfl (by omega) (by omega) (fun c168 => ?_) (fun c168 => ?_) | refine x_icmp_ne hP rfl (fun c168 => ?_) (fun c168 => ?_)
    · refine x_iconst hP rfl ?_
      refine x_istore hP rfl ?_
      refine x_goto hP rfl ?_
      refine k _ _ _ ⟨rfl, rfl, rfl, rfl, rfl, rfl, rfl, rfl, rfl, rfl, ?_, trivial⟩
      rw [show isB (tP T e) (tS T e) (tH T e) 0 kk j = false from decide_eq_false c168]
      rfl
    · refine x_iconst hP rfl ?_
      refine x_goto hP rfl ?_
      refine x_istore hP rfl ?_
      refine x_goto hP rfl ?_
      refine k _ _ _ ⟨rfl, rfl, rfl, rfl, rfl, rfl, rfl, rfl, rfl, rfl, ?_, trivial⟩
      rw [show isB (tP T e) (tS T e) (tH T e) 0 kk j = true from decide_eq_true c168]
      rfl
  | 1, _, k =>
    refine x_tsw (tg := 181) hP rfl (by decide +kernel) ?_
    first | refine x_aload_n hP rfl rfl ?_ | refine x_aload_nN hP rfl rfl ?_
    refine x_getR hP rfl (by first | assumption | rfl) (by first | assumption | exact hR _ _ _ _ rfl | exact hR1 _ _ _ _ rfl | exact hR2 _ _ _ _ rfl | rfl) ?_
    refine x_iload hP rfl rfl ?_
    refine x_iload hP rfl rfl ?_
    first | refine z_iadd hP rfl ?_ | refine x_iadd hP rfl ?_
    refine z_iald hP rfl (by first | assumption | rfl) (by first | decide | omega) (by omega) (by first | assumption | exact hR _ _ _ _ rfl | exact hR1 _ _ _ _ rfl | exact hR2 _ _ _ _ rfl | rfl) ?_
    first | refine x_aload_n hP rfl rfl ?_ | refine x_aload_nN hP rfl rfl ?_
    refine x_getR hP rfl (by first | assumption | rfl) (by first | assumption | exact hR _ _ _ _ rfl | exact hR1 _ _ _ _ rfl | exact hR2 _ _ _ _ rfl | rfl) ?_
    refine x_iload_n hP rfl rfl ?_
    refine z_iald hP rfl (by first | assumption | rfl) (by first | decide | omega) (by omega) (by first | assumption | exact hR _ _ _ _ rfl | exact hR1 _ _ _ _ rfl | exact hR2 _ _ _ _ rfl | rfl) ?_
    refine z_icmp_lt hP rfl (by omega) (by omega) (fun c197 => ?_) (fun c197 => ?_)
    · refine x_iconst hP rfl ?_
      refine x_istore hP rfl ?_
      refine x_goto hP rfl ?_
      refine k _ _ _ ⟨rfl, rfl, rfl, rfl, rfl, rfl, rfl, rfl, rfl, rfl, ?_, trivial⟩
      rw [show isB (tP T e) (tS T e) (tH T e) 1 kk j = false from decide_eq_false (by omega)]
      rfl
    first | refine x_aload_n hP rfl rfl ?_ | refine x_aload_nN hP rfl rfl ?_
    refine x_getR hP rfl (by first | assumption | rfl) (by first | assumption | exact hR _ _ _ _ rfl | exact hR1 _ _ _ _ rfl | exact hR2 _ _ _ _ rfl | rfl) ?_
    refine x_iload hP rfl rfl ?_
    refine x_iload hP rfl rfl ?_
    first | refine z_iadd hP rfl ?_ | refine x_iadd hP rfl ?_
    refine z_iald hP rfl (by first | assumption | rfl) (by first | decide | omega) (by omega) (by first | assumption | exact hR _ _ _ _ rfl | exact hR1 _ _ _ _ rfl | exact hR2 _ _ _ _ rfl | rfl) ?_
    first | refine x_aload_n hP rfl rfl ?_ | refine x_aload_nN hP rfl rfl ?_
    refine x_getR hP rfl (by first | assumption | rfl) (by first | assumption | exact hR _ _ _ _ rfl | exact hR1 _ _ _ _ rfl | exact hR2 _ _ _ _ rfl | rfl) ?_
    refine x_iload_n hP rfl rfl ?_
    refine z_iald hP rfl (by first | assumption | rfl) (by first | decide | omega) (by omega) (by first | assumption | exact hR _ _ _ _ rfl | exact hR1 _ _ _ _ rfl | exact hR2 _ _ _ _ rfl | rfl) ?_
    first | refine x_aload_n hP rfl rfl ?_ | refine x_aload_nN hP rfl rfl ?_
    refine x_getR hP rfl (by first | assumption | rfl) (by first | assumption | exact hR _ _ _ _ rfl | exact hR1 _ _ _ _ rfl | exact hR2 _ _ _ _ rfl | rfl) ?_
    refine x_iload_n hP rfl rfl ?_
    refine z_iald hP rfl (by first | assumption | rfl) (by first | decide | omega) (by omega) (by first | assumption | exact hR _ _ _ _ rfl | exact hR1 _ _ _ _ rfl | exact hR2 _ _ _ _ rfl | rfl) ?_
    first | refine z_iadd hP rfl ?_ | refine x_iadd hP rfl ?_
    refine z_icmp_ge hP rfl (by omega) (by omega) (fun c223 => ?_) (fun c223 => ?_)
    · refine x_iconst hP rfl ?_
      refine x_istore hP rfl ?_
      refine x_goto hP rfl ?_
      refine k _ _ _ ⟨rfl, rfl, rfl, rfl, rfl, rfl, rfl, rfl, rfl, rfl, ?_, trivial⟩
      rw [show isB (tP T e) (tS T e) (tH T e) 1 kk j = false from decide_eq_false (by omega)]
      rfl
    · refine x_iconst hP rfl ?_
      refine x_goto hP rfl ?_
      refine x_istore hP rfl ?_
      refine x_goto hP rfl ?_
      refine k _ _ _ ⟨rfl, rfl, rfl, rfl, rfl, rfl, rfl, rfl, rfl, rfl, ?_, trivial⟩
      rw [show isB (tP T e) (tS T e) (tH T e) 1 kk j = true from decide_eq_true (by omega)]
      rfl
  | 2, _, k =>
    refine x_tsw (tg := 236) hP rfl (by decide +kernel) ?_
    first | refine x_aload_n hP rfl rfl ?_ | refine x_aload_nN hP rfl rfl ?_
    refine x_getR hP rfl (by first | assumption | rfl) (by first | assumption | exact hR _ _ _ _ rfl | exact hR1 _ _ _ _ rfl | exact hR2 _ _ _ _ rfl | rfl) ?_
    refine x_iload hP rfl rfl ?_
    refine x_iload hP rfl rfl ?_
    first | refine z_iadd hP rfl ?_ | refine x_iadd hP rfl ?_
    refine z_iald hP rfl (by first | assumption | rfl) (by first | decide | omega) (by omega) (by first | assumption | exact hR _ _ _ _ rfl | exact hR1 _ _ _ _ rfl | exact hR2 _ _ _ _ rfl | rfl) ?_
    first | refine x_aload_n hP rfl rfl ?_ | refine x_aload_nN hP rfl rfl ?_
    refine x_getR hP rfl (by first | assumption | rfl) (by first | assumption | exact hR _ _ _ _ rfl | exact hR1 _ _ _ _ rfl | exact hR2 _ _ _ _ rfl | rfl) ?_
    refine x_iload_n hP rfl rfl ?_
    refine z_iald hP rfl (by first | assumption | rfl) (by first | decide | omega) (by omega) (by first | assumption | exact hR _ _ _ _ rfl | exact hR1 _ _ _ _ rfl | exact hR2 _ _ _ _ rfl | rfl) ?_
    refine z_icmp_lt hP rfl (by omega) (by omega) (fun c252 => ?_) (fun c252 => ?_)
    · refine x_iconst hP rfl ?_
      refine x_istore hP rfl ?_
      refine x_goto hP rfl ?_
      refine k _ _ _ ⟨rfl, rfl, rfl, rfl, rfl, rfl, rfl, rfl, rfl, rfl, ?_, trivial⟩
      rw [show isB (tP T e) (tS T e) (tH T e) 2 kk j = false from decide_eq_false (by omega)]
      rfl
    first | refine x_aload_n hP rfl rfl ?_ | refine x_aload_nN hP rfl rfl ?_
    refine x_getR hP rfl (by first | assumption | rfl) (by first | assumption | exact hR _ _ _ _ rfl | exact hR1 _ _ _ _ rfl | exact hR2 _ _ _ _ rfl | rfl) ?_
    refine x_iload hP rfl rfl ?_
    refine x_iload hP rfl rfl ?_
    first | refine z_iadd hP rfl ?_ | refine x_iadd hP rfl ?_
    refine z_iald hP rfl (by first | assumption | rfl) (by first | decide | omega) (by omega) (by first | assumption | exact hR _ _ _ _ rfl | exact hR1 _ _ _ _ rfl | exact hR2 _ _ _ _ rfl | rfl) ?_
    first | refine x_aload_n hP rfl rfl ?_ | refine x_aload_nN hP rfl rfl ?_
    refine x_getR hP rfl (by first | assumption | rfl) (by first | assumption | exact hR _ _ _ _ rfl | exact hR1 _ _ _ _ rfl | exact hR2 _ _ _ _ rfl | rfl) ?_
    refine x_iload_n hP rfl rfl ?_
    refine z_iald hP rfl (by first | assumption | rfl) (by first | decide | omega) (by omega) (by first | assumption | exact hR _ _ _ _ rfl | exact hR1 _ _ _ _ rfl | exact hR2 _ _ _ _ rfl | rfl) ?_
    first | refine x_aload_n hP rfl rfl ?_ | refine x_aload_nN hP rfl rfl ?_
    refine x_getR hP rfl (by first | assumption | rfl) (by first | assumption | exact hR _ _ _ _ rfl | exact hR1 _ _ _ _ rfl | exact hR2 _ _ _ _ rfl | rfl) ?_
    refine x_iload_n hP rfl rfl ?_
    refine z_iald hP rfl (by first | assumption | rfl) (by first | decide | omega) (by omega) (by first | assumption | exact hR _ _ _ _ rfl | exact hR1 _ _ _ _ rfl | exact hR2 _ _ _ _ rfl | rfl) ?_
    first | refine z_iadd hP rfl ?_ | refine x_iadd hP rfl ?_
    refine z_icmp_ge hP rfl (by omega) (by omega) (fun c278 => ?_) (fun c278 => ?_)
    · refine x_iconst hP rfl ?_
      refine x_istore hP rfl ?_
      refine x_goto hP rfl ?_
      refine k _ _ _ ⟨rfl, rfl, rfl, rfl, rfl, rfl, rfl, rfl, rfl, rfl, ?_, trivial⟩
      rw [show isB (tP T e) (tS T e) (tH T e) 2 kk j = false from decide_eq_false (by omega)]
      rfl
    first | refine x_aload_n hP rfl rfl ?_ | refine x_aload_nN hP rfl rfl ?_
    refine x_getR hP rfl (by first | assumption | rfl) (by first | assumption | exact hR _ _ _ _ rfl | exact hR1 _ _ _ _ rfl | exact hR2 _ _ _ _ rfl | rfl) ?_
    refine x_iload hP rfl rfl ?_
    refine x_iload hP rfl rfl ?_
    first | refine z_iadd hP rfl ?_ | refine x_iadd hP rfl ?_
    refine z_iald hP rfl (by first | assumption | rfl) (by first | decide | omega) (by omega) (by first | assumption | exact hR _ _ _ _ rfl | exact hR1 _ _ _ _ rfl | exact hR2 _ _ _ _ rfl | rfl) ?_
    refine x_iconst hP rfl ?_
    first | refine z_icmp_ne hP rfl (by omega) (by omega) (fun c292 => ?_) (fun c292 => ?_) | refine x_icmp_ne hP rfl (fun c292 => ?_) (fun c292 => ?_)
    · refine x_iconst hP rfl ?_
      refine x_istore hP rfl ?_
      refine x_goto hP rfl ?_
      refine k _ _ _ ⟨rfl, rfl, rfl, rfl, rfl, rfl, rfl, rfl, rfl, rfl, ?_, trivial⟩
      rw [show isB (tP T e) (tS T e) (tH T e) 2 kk j = false from decide_eq_false (by omega)]
      rfl
    · refine x_iconst hP rfl ?_
      refine x_goto hP rfl ?_
      refine x_istore hP rfl ?_
      refine x_goto hP rfl ?_
      refine k _ _ _ ⟨rfl, rfl, rfl, rfl, rfl, rfl, rfl, rfl, rfl, rfl, ?_, trivial⟩
      rw [show isB (tP T e) (tS T e) (tH T e) 2 kk j = true from decide_eq_true (by omega)]
      rfl
  | 3, _, k =>
    refine x_tsw (tg := 305) hP rfl (by decide +kernel) ?_
    refine x_iload hP rfl rfl ?_
    refine x_iload hP rfl rfl ?_
    first | refine z_icmp_ne hP rfl (by omega) (by omega) (fun c309 => ?_) (fun c309 => ?_) | refine x_icmp_ne hP rfl (fun c309 => ?_) (fun c309 => ?_)
    · refine x_iconst hP rfl ?_
      refine x_istore hP rfl ?_
      refine x_goto hP rfl ?_
      refine k _ _ _ ⟨rfl, rfl, rfl, rfl, rfl, rfl, rfl, rfl, rfl, rfl, ?_, trivial⟩
      rw [show isB (tP T e) (tS T e) (tH T e) 3 kk j = false from decide_eq_false c309]
      rfl
    · refine x_iconst hP rfl ?_
      refine x_goto hP rfl ?_
      refine x_istore hP rfl ?_
      refine x_goto hP rfl ?_
      refine k _ _ _ ⟨rfl, rfl, rfl, rfl, rfl, rfl, rfl, rfl, rfl, rfl, ?_, trivial⟩
      rw [show isB (tP T e) (tS T e) (tH T e) 3 kk j = true from decide_eq_true c309]
      rfl
  | 4, _, k =>
    refine x_tsw (tg := 322) hP rfl (by decide +kernel) ?_
    refine x_iconst hP rfl ?_
    refine x_istore hP rfl ?_
    refine x_goto hP rfl ?_
    refine k _ _ _ ⟨rfl, rfl, rfl, rfl, rfl, rfl, rfl, rfl, rfl, rfl, ?_, trivial⟩
    rw [show isB (tP T e) (tS T e) (tH T e) 4 kk j = false from rfl]
    rfl
  | 5, _, k =>
    refine x_tsw (tg := 328) hP rfl (by decide +kernel) ?_
    refine x_iload hP rfl rfl ?_
    refine x_istore hP rfl ?_
    refine x_goto hP rfl ?_
    exact k _ _ _ ⟨rfl, rfl, rfl, rfl, rfl, rfl, rfl, rfl, rfl, rfl, rfl, trivial⟩
  | 6, _, k =>
    refine x_tsw (tg := 335) hP rfl (by decide +kernel) ?_
    refine x_iload hP rfl rfl ?_
    first | refine zb_if_eq hP rfl (fun c337 => ?_) (fun c337 => ?_) | refine zl_if_eq hP rfl (fun c337 => ?_) (fun c337 => ?_) | refine z_if_eq hP rfl (by omega) (fun c337 => ?_) (fun c337 => ?_)
    · refine x_iconst hP rfl ?_
      refine x_istore hP rfl ?_
      refine x_goto hP rfl ?_
      refine k _ _ _ ⟨rfl, rfl, rfl, rfl, rfl, rfl, rfl, rfl, rfl, rfl, ?_, trivial⟩
      rw [show isB (tP T e) (tS T e) (tH T e) 6 kk j = false from by show (kinB (tP T e) kk j && _) = false; rw [c337]; rfl]
      rfl
    refine x_iload hP rfl rfl ?_
    first | refine x_aload_n hP rfl rfl ?_ | refine x_aload_nN hP rfl rfl ?_
    refine x_iload hP rfl rfl ?_
    refine x_iload hP rfl rfl ?_
    refine x_iload hP rfl rfl ?_
    refine x_iconst hP rfl ?_
    refine x_callV4 (ci := 9) hP 0 0 rfl rfl rfl (by first | assumption | rfl) rfl rfl rfl (Nat.zero_le _) (Nat.zero_le _) ?_
    refine r_besideN hP hR hc he hk ?_
    have nb := nxS_rg (p := tP T e) (x := tP T e kk) (tS T e - (kk + 1)) (kk + 1)
    first | refine z_icmp_ne hP rfl (by omega) (by omega) (fun c353 => ?_) (fun c353 => ?_) | refine x_icmp_ne hP rfl (fun c353 => ?_) (fun c353 => ?_)
    · refine x_iconst hP rfl ?_
      refine x_istore hP rfl ?_
      refine x_goto hP rfl ?_
      refine k _ _ _ ⟨rfl, rfl, rfl, rfl, rfl, rfl, rfl, rfl, rfl, rfl, ?_, trivial⟩
      rw [show isB (tP T e) (tS T e) (tH T e) 6 kk j = false from by show (kinB (tP T e) kk j && decide _) = false; rw [c337, decide_eq_false c353]; rfl]
      rfl
    · refine x_iconst hP rfl ?_
      refine x_goto hP rfl ?_
      refine x_istore hP rfl ?_
      refine x_goto hP rfl ?_
      refine k _ _ _ ⟨rfl, rfl, rfl, rfl, rfl, rfl, rfl, rfl, rfl, rfl, ?_, trivial⟩
      rw [show isB (tP T e) (tS T e) (tH T e) 6 kk j = true from by show (kinB (tP T e) kk j && decide _) = true; rw [c337, decide_eq_true c353]; rfl]
      rfl
  | 7, _, k =>
    refine x_tsw (tg := 366) hP rfl (by decide +kernel) ?_
    refine x_iload hP rfl rfl ?_
    first | refine zb_if_eq hP rfl (fun c368 => ?_) (fun c368 => ?_) | refine zl_if_eq hP rfl (fun c368 => ?_) (fun c368 => ?_) | refine z_if_eq hP rfl (by omega) (fun c368 => ?_) (fun c368 => ?_)
    · refine x_iconst hP rfl ?_
      refine x_istore hP rfl ?_
      refine x_goto hP rfl ?_
      refine k _ _ _ ⟨rfl, rfl, rfl, rfl, rfl, rfl, rfl, rfl, rfl, rfl, ?_, trivial⟩
      rw [show isB (tP T e) (tS T e) (tH T e) 7 kk j = false from by show (kinB (tP T e) kk j && _) = false; rw [c368]; rfl]
      rfl
    refine x_iload hP rfl rfl ?_
    first | refine x_aload_n hP rfl rfl ?_ | refine x_aload_nN hP rfl rfl ?_
    refine x_iload hP rfl rfl ?_
    refine x_iload hP rfl rfl ?_
    refine x_iload hP rfl rfl ?_
    refine x_iconst hP rfl ?_
    refine x_callV4 (ci := 9) hP 0 0 rfl rfl rfl (by first | assumption | rfl) rfl rfl rfl (Nat.zero_le _) (Nat.zero_le _) ?_
    refine r_besideB hP hR hc he hk ?_
    have nb := bkS_rg (p := tP T e) (x := tP T e kk) kk
    first | refine z_icmp_ne hP rfl (by omega) (by omega) (fun c384 => ?_) (fun c384 => ?_) | refine x_icmp_ne hP rfl (fun c384 => ?_) (fun c384 => ?_)
    · refine x_iconst hP rfl ?_
      refine x_istore hP rfl ?_
      refine x_goto hP rfl ?_
      refine k _ _ _ ⟨rfl, rfl, rfl, rfl, rfl, rfl, rfl, rfl, rfl, rfl, ?_, trivial⟩
      rw [show isB (tP T e) (tS T e) (tH T e) 7 kk j = false from by show (kinB (tP T e) kk j && decide _) = false; rw [c368, decide_eq_false c384]; rfl]
      rfl
    · refine x_iconst hP rfl ?_
      refine x_goto hP rfl ?_
      refine x_istore hP rfl ?_
      refine x_goto hP rfl ?_
      refine k _ _ _ ⟨rfl, rfl, rfl, rfl, rfl, rfl, rfl, rfl, rfl, rfl, ?_, trivial⟩
      rw [show isB (tP T e) (tS T e) (tH T e) 7 kk j = true from by show (kinB (tP T e) kk j && decide _) = true; rw [c368, decide_eq_true c384]; rfl]
      rfl
  | 8, _, k =>
    refine x_tsw (tg := 397) hP rfl (by decide +kernel) ?_
    first | refine x_aload_n hP rfl rfl ?_ | refine x_aload_nN hP rfl rfl ?_
    refine x_getR hP rfl (by first | assumption | rfl) (by first | assumption | exact hR _ _ _ _ rfl | exact hR1 _ _ _ _ rfl | exact hR2 _ _ _ _ rfl | rfl) ?_
    refine x_iload hP rfl rfl ?_
    refine x_iload hP rfl rfl ?_
    first | refine z_iadd hP rfl ?_ | refine x_iadd hP rfl ?_
    refine z_iald hP rfl (by first | assumption | rfl) (by first | decide | omega) (by omega) (by first | assumption | exact hR _ _ _ _ rfl | exact hR1 _ _ _ _ rfl | exact hR2 _ _ _ _ rfl | rfl) ?_
    first | refine x_aload_n hP rfl rfl ?_ | refine x_aload_nN hP rfl rfl ?_
    refine x_getR hP rfl (by first | assumption | rfl) (by first | assumption | exact hR _ _ _ _ rfl | exact hR1 _ _ _ _ rfl | exact hR2 _ _ _ _ rfl | rfl) ?_
    refine x_iload_n hP rfl rfl ?_
    refine z_iald hP rfl (by first | assumption | rfl) (by first | decide | omega) (by omega) (by first | assumption | exact hR _ _ _ _ rfl | exact hR1 _ _ _ _ rfl | exact hR2 _ _ _ _ rfl | rfl) ?_
    first | refine z_icmp_ne hP rfl (by omega) (by omega) (fun c413 => ?_) (fun c413 => ?_) | refine x_icmp_ne hP rfl (fun c413 => ?_) (fun c413 => ?_)
    · refine x_iconst hP rfl ?_
      refine x_istore hP rfl ?_
      refine k _ _ _ ⟨rfl, rfl, rfl, rfl, rfl, rfl, rfl, rfl, rfl, rfl, ?_, trivial⟩
      rw [show isB (tP T e) (tS T e) (tH T e) 8 kk j = false from decide_eq_false (by omega)]
      rfl
    · refine x_iconst hP rfl ?_
      refine x_goto hP rfl ?_
      refine x_istore hP rfl ?_
      refine k _ _ _ ⟨rfl, rfl, rfl, rfl, rfl, rfl, rfl, rfl, rfl, rfl, ?_, trivial⟩
      rw [show isB (tP T e) (tS T e) (tH T e) 8 kk j = true from decide_eq_true (by omega)]
      rfl
  | a + 9, ha, _ => exact absurd ha (by omega)
end
