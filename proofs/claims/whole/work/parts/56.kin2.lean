/-! Kin: the walk, the path, the neighbours -/
theorem inj_surj {g : Nat → Nat} {n : Nat} (hl : ∀ j, j < n → g j < n) (hi : ∀ i j, i < n → j < n → g i = g j → i = j) {i : Nat} (h : i < n) : ∃ j, j < n ∧ g j = i := by
  refine Classical.byContradiction fun hno => ?_
  have c0 : ∀ z, sumS (fun j => if z = g j then 1 else 0) n ≤ if z = i then 0 else 1 := fun z => by
    by_cases q : z = i
    · rw [if_pos q, sumS_z fun j hj => if_neg fun e => hno ⟨j, hj, by omega⟩]; exact Nat.le_refl _
    · rw [if_neg q]
      have := eqc_le1 (A := fun j => (g j : Int)) (z := z) n fun a b ha hb e => hi a b ha hb (by omega)
      refine Nat.le_trans (Nat.le_of_eq (sumS_congr n fun j _ => ?_)) this
      by_cases w : z = g j
      · rw [if_pos w, if_pos (show (g j : Int) = z by omega)]
      · rw [if_neg w, if_neg (show ¬ (g j : Int) = z by omega)]
  have h1 := sumS_swap (fun c j => if j = g c then 1 else 0) n n
  have h2 : sumS (fun c => sumS (fun j => if j = g c then 1 else 0) n) n = sumS (fun _ => 1) n := sumS_congr n fun c hc => by rw [sumS_one, if_pos (hl c hc)]
  have h3 := sumS_mono n fun z _ => c0 z
  have h4 := sumS_add (fun z => if z = i then 0 else 1) (fun z => if z = i then 1 else 0) n
  rw [sumS_one, if_pos h] at h4
  have h5 : sumS (fun z => (if z = i then 0 else 1) + (if z = i then 1 else 0)) n = sumS (fun _ => 1) n := sumS_congr n fun z _ => by by_cases w : z = i <;> simp only [w, if_true, if_false]
  rw [h5] at h4
  rw [h1, h2] at h3
  omega
/-- the MEMBER of rank i -/
def orr (p : Nat → Int) (s i : Nat) : Nat := ixF (rk p s) i s 0
theorem orr_rk {p : Nat → Int} {s k : Nat} (h : wfp p s) (hk : k < s) : orr p s (rk p s k) = k := ixF_eq rfl s 0 (Nat.zero_le _) (by omega) fun q _ q2 q3 => rk_inj h (by omega) hk q3
theorem orr_ok {p : Nat → Int} {s i : Nat} (h : wfp p s) (hi : i < s) : orr p s i < s ∧ rk p s (orr p s i) = i := by
  obtain ⟨j, h1, h2⟩ := inj_surj (g := rk p s) (fun j hj => by have := rk_lt h hj; have := spn_pos h hj; omega) (fun i j hi hj e => rk_inj h hi hj e) hi
  rw [← h2, orr_rk h h1]
  exact ⟨h1, rfl⟩
def wl (p : Nat → Int) (s F n : Nat) : List Nat := mk n fun q => orr p s (F + q)
def lf0 (p : Nat → Int) (s : Nat) (fl : Bool) (j : Nat) : Bool := !fl || decide (kdn p s j = 0)
def pth (p : Nat → Int) : Nat → Int → List Nat
  | 0, _ => []
  | f + 1, x => if x < 0 then [] else x.toNat :: pth p f (p x.toNat)
def nxS (p : Nat → Int) (x : Int) : Nat → Nat → Int
  | 0, _ => -1
  | f + 1, j => if p j = x then j else nxS p x f (j + 1)
def bkS (p : Nat → Int) (x : Int) : Nat → Int
  | 0 => -1
  | j + 1 => if p j = x then j else bkS p x j
theorem nxS_rg {p : Nat → Int} {x : Int} : ∀ f j, -1 ≤ nxS p x f j ∧ nxS p x f j < (j + f : Nat)
  | 0, j => ⟨by unfold nxS; omega, by unfold nxS; omega⟩
  | f + 1, j => by unfold nxS; have := nxS_rg (p := p) (x := x) f (j + 1); split <;> omega
theorem bkS_rg {p : Nat → Int} {x : Int} : ∀ j, -1 ≤ bkS p x j ∧ bkS p x j < (j : Nat)
  | 0 => ⟨by unfold bkS; omega, by unfold bkS; omega⟩
  | j + 1 => by unfold bkS; have := bkS_rg (p := p) (x := x) j; split <;> omega
theorem adds_app (fd a b : List Nat) : adds fd (a ++ b) = adds (adds fd a) b := by unfold adds; rw [List.foldl_append]
theorem wfp_rg {p : Nat → Int} {s i : Nat} (h : wfp p s) (hi : i < s) : -1 ≤ p i ∧ p i < i := by
  rcases Nat.eq_zero_or_pos i with q | q
  · rw [q, h.1]; omega
  · have := h.2 i q hi; omega
section
variable {E : x_E} {P : x_Pr} {d rc rs : Nat} {I : x_M Int32} {J : x_M Int64} {R : x_M (Option Nat)} {Q : x_Q} {t e s : Nat} {fd : List Nat} {p : Nat → Int} {H : Nat → Nat}
theorem c_addWalk_loop (hP : x_closed E P) (hR : x_fin R) (hta : isTa t) {k : Nat} (hk : k < s) {fl : Bool} : ∀ (f i r : Nat) (I : x_M Int32), i + f = spn p s k → r = rk p s k + i → dm1 I t e p s H → kn I R t e (adds fd ((wl p s (rk p s k) i).filter (lf0 p s fl))) → (∀ I', kn I' R t e (adds fd ((wl p s (rk p s k) (spn p s k)).filter (lf0 p s fl))) → frP (fun _ a _ => kA a) I I' → Q none (x_hp I' J R)) → ∀ rc rs, P 113 (d + 1) 26 (x_ls [some (.ref 95), some (.int (iI k)), some (.int (bI fl)), some (.int (iI (32 * e : Nat))), some (.int (iI (rk p s k))), some (.int (iI r)), none]) [] (x_hp I J R) rc rs Q := by
  have ht := isTr_of hR hta
  obtain ⟨t0, t1, t2, t3, t4, t5, t6, t7, t8, t9, t10, t11, u1, u2, u3, u4, u5, u6, u7, u8, u9, u10, u11⟩ := ht
  intro f
  induction f with
  | zero =>
    intro i r I hi hr hd hkn k1 rc rs
    have hd' := hd
    obtain ⟨d0, d1, d2, d3, d4, d5, d6, d7, d8, d9⟩ := hd
    obtain ⟨n1, n2, n3, n4⟩ := hkn
    have hkn : kn I R t e (adds fd ((wl p s (rk p s k) i).filter (lf0 p s fl))) := ⟨n1, n2, n3, n4⟩
    have v7 : I 1 (t + 7) (32 * e + k) = iI (spn p s k : Nat) := d8.2.2 k hk
    have r1 := rk_lt d3 hk
    obtain rfl : i = spn p s k := by omega
    refine x_iload hP rfl rfl ?_
    refine x_iload hP rfl rfl ?_
    first | refine x_aload_n hP rfl rfl ?_ | refine x_aload_nN hP rfl rfl ?_
    refine x_getR hP rfl (by first | assumption | rfl) (by first | assumption | exact hR _ _ _ _ rfl | exact hR1 _ _ _ _ rfl | exact hR2 _ _ _ _ rfl | rfl) ?_
    refine x_getR hP rfl (by first | assumption | rfl) (by first | assumption | exact hR _ _ _ _ rfl | exact hR1 _ _ _ _ rfl | exact hR2 _ _ _ _ rfl | rfl) ?_
    refine x_iload_n hP rfl rfl ?_
    refine x_iload_n hP rfl rfl ?_
    first | refine z_iadd hP rfl ?_ | refine x_iadd hP rfl ?_
    refine z_iald hP rfl (by first | assumption | rfl) (by first | decide | omega) (by omega) (by first | assumption | exact hR _ _ _ _ rfl | exact hR1 _ _ _ _ rfl | exact hR2 _ _ _ _ rfl | rfl) ?_
    first | refine z_iadd hP rfl ?_ | refine x_iadd hP rfl ?_
    refine z_icmp_ge hP rfl (by omega) (by omega) (fun c42 => ?_) (fun c42 => ?_)
    · refine x_vret hP rfl rfl ?_
      exact k1 I hkn (frP_refl _ _)
    · omega
  | succ f ih =>
    intro i r I hi hr hd hkn k1 rc rs
    have hd' := hd
    obtain ⟨d0, d1, d2, d3, d4, d5, d6, d7, d8, d9⟩ := hd
    obtain ⟨n1, n2, n3, n4⟩ := hkn
    have hkn : kn I R t e (adds fd ((wl p s (rk p s k) i).filter (lf0 p s fl))) := ⟨n1, n2, n3, n4⟩
    have v7 : I 1 (t + 7) (32 * e + k) = iI (spn p s k : Nat) := d8.2.2 k hk
    have r1 := rk_lt d3 hk
    have ⟨o1, o2⟩ := orr_ok (i := r) d3 (by omega)
    have v9 : I 1 (t + 9) (32 * e + r) = iI (orr p s r : Nat) := by have := d9.2 _ o1; rw [o2] at this; exact this
    have v5 : I 1 (t + 5) (32 * e + orr p s r) = iI (kdn p s (orr p s r) : Nat) := d8.1 _ o1
    have e1 : wl p s (rk p s k) (i + 1) = wl p s (rk p s k) i ++ [orr p s r] := by unfold wl; rw [mk_snoc, hr]
    have kb : kdn p s (orr p s r) ≤ 30 := by
      have := sumS_mono (f := fun c => if p c = (orr p s r : Nat) then 1 else 0) (g := fun _ => 1) s (fun j _ => by split <;> omega)
      have e2 : sumS (fun _ => 1) s = s := by have := sumS_ltn s s (Nat.le_refl _); exact Eq.trans (sumS_congr s fun j hj => (if_pos hj).symm) this
      rw [e2] at this
      exact Nat.le_trans this d2
    have fin : ∀ I1, kn I1 R t e (adds fd ((wl p s (rk p s k) (i + 1)).filter (lf0 p s fl))) → frP (fun _ a _ => kA a) I I1 → ∀ r1 r2 x, P 113 (d + 1) 84 (x_ls [some (.ref 95), some (.int (iI k)), some (.int (bI fl)), some (.int (iI (32 * e : Nat))), some (.int (iI (rk p s k))), some (.int (iI r)), x]) [] (x_hp I1 J R) r1 r2 Q := by
      intro I1 h1 h2 r1 r2 x
      refine z_iinc hP rfl rfl rfl ?_
      refine x_goto hP rfl ?_
      exact x_re hP [some (.ref 95), some (.int (iI k)), some (.int (bI fl)), some (.int (iI (32 * e : Nat))), some (.int (iI (rk p s k))), some (.int (iI (r + 1 : Nat))), none] ⟨rfl, rfl, rfl, rfl, rfl, rfl, trivial⟩ (ih (i + 1) (r + 1) I1 (by omega) (by omega) (dm1_fr hd' h2 (fun k a i h => kA_out (k := k) (i := i) hta h)) h1 (fun I' w1 w2 => k1 I' w1 (frP_trans h2 w2)) _ _)
    have add : lf0 p s fl (orr p s r) = true → ∀ r1 r2, P 113 (d + 1) 78 (x_ls [some (.ref 95), some (.int (iI k)), some (.int (bI fl)), some (.int (iI (32 * e : Nat))), some (.int (iI (rk p s k))), some (.int (iI r)), some (.int (iI (orr p s r : Nat)))]) [] (x_hp I J R) r1 r2 Q := by
      intro hl r1 r2
      first | refine x_aload_n hP rfl rfl ?_ | refine x_aload_nN hP rfl rfl ?_
      refine x_iload hP rfl rfl ?_
      refine x_callV1 (ci := 7) hP 0 0 rfl rfl rfl (by first | assumption | rfl) rfl rfl rfl (Nat.zero_le _) (Nat.zero_le _) ?_
      refine c_kinAdd hP hR (by omega) hkn (fun I1 h1 h2 => ?_)
      refine fin I1 ?_ h2 _ _ _
      rw [e1, List.filter_append, List.filter_cons_of_pos hl, List.filter_nil, adds_snoc]
      exact h1
    refine x_iload hP rfl rfl ?_
    refine x_iload hP rfl rfl ?_
    first | refine x_aload_n hP rfl rfl ?_ | refine x_aload_nN hP rfl rfl ?_
    refine x_getR hP rfl (by first | assumption | rfl) (by first | assumption | exact hR _ _ _ _ rfl | exact hR1 _ _ _ _ rfl | exact hR2 _ _ _ _ rfl | rfl) ?_
    refine x_getR hP rfl (by first | assumption | rfl) (by first | assumption | exact hR _ _ _ _ rfl | exact hR1 _ _ _ _ rfl | exact hR2 _ _ _ _ rfl | rfl) ?_
    refine x_iload_n hP rfl rfl ?_
    refine x_iload_n hP rfl rfl ?_
    first | refine z_iadd hP rfl ?_ | refine x_iadd hP rfl ?_
    refine z_iald hP rfl (by first | assumption | rfl) (by first | decide | omega) (by omega) (by first | assumption | exact hR _ _ _ _ rfl | exact hR1 _ _ _ _ rfl | exact hR2 _ _ _ _ rfl | rfl) ?_
    first | refine z_iadd hP rfl ?_ | refine x_iadd hP rfl ?_
    refine z_icmp_ge hP rfl (by omega) (by omega) (fun c42 => ?_) (fun c42 => ?_)
    · omega
    first | refine x_aload_n hP rfl rfl ?_ | refine x_aload_nN hP rfl rfl ?_
    refine x_getR hP rfl (by first | assumption | rfl) (by first | assumption | exact hR _ _ _ _ rfl | exact hR1 _ _ _ _ rfl | exact hR2 _ _ _ _ rfl | rfl) ?_
    refine x_getR hP rfl (by first | assumption | rfl) (by first | assumption | exact hR _ _ _ _ rfl | exact hR1 _ _ _ _ rfl | exact hR2 _ _ _ _ rfl | rfl) ?_
    refine x_iload_n hP rfl rfl ?_
    refine x_iload hP rfl rfl ?_
    first | refine z_iadd hP rfl ?_ | refine x_iadd hP rfl ?_
    refine z_iald hP rfl (by first | assumption | rfl) (by first | decide | omega) (by omega) (by first | assumption | exact hR _ _ _ _ rfl | exact hR1 _ _ _ _ rfl | exact hR2 _ _ _ _ rfl | rfl) ?_
    refine x_istore hP rfl ?_
    refine x_iload_n hP rfl rfl ?_
    first | refine zb_if_eq hP rfl (fun c60 => ?_) (fun c60 => ?_) | refine zl_if_eq hP rfl (fun c60 => ?_) (fun c60 => ?_) | refine z_if_eq hP rfl (by omega) (fun c60 => ?_) (fun c60 => ?_)
    · have q : fl = false := c60
      exact x_re hP [some (.ref 95), some (.int (iI k)), some (.int (bI fl)), some (.int (iI (32 * e : Nat))), some (.int (iI (rk p s k))), some (.int (iI r)), some (.int (iI (orr p s r : Nat)))] ⟨rfl, rfl, rfl, rfl, rfl, rfl, rfl, trivial⟩ (add (by unfold lf0; rw [q]; rfl) _ _)
    · have q : fl = true := c60
      first | refine x_aload_n hP rfl rfl ?_ | refine x_aload_nN hP rfl rfl ?_
      refine x_getR hP rfl (by first | assumption | rfl) (by first | assumption | exact hR _ _ _ _ rfl | exact hR1 _ _ _ _ rfl | exact hR2 _ _ _ _ rfl | rfl) ?_
      refine x_getR hP rfl (by first | assumption | rfl) (by first | assumption | exact hR _ _ _ _ rfl | exact hR1 _ _ _ _ rfl | exact hR2 _ _ _ _ rfl | rfl) ?_
      refine x_iload_n hP rfl rfl ?_
      refine x_iload hP rfl rfl ?_
      first | refine z_iadd hP rfl ?_ | refine x_iadd hP rfl ?_
      refine z_iald hP rfl (by first | assumption | rfl) (by first | decide | omega) (by omega) (by first | assumption | exact hR _ _ _ _ rfl | exact hR1 _ _ _ _ rfl | exact hR2 _ _ _ _ rfl | rfl) ?_
      first | refine zb_if_ne hP rfl (fun c75 => ?_) (fun c75 => ?_) | refine zl_if_ne hP rfl (fun c75 => ?_) (fun c75 => ?_) | refine z_if_ne hP rfl (by omega) (fun c75 => ?_) (fun c75 => ?_)
      · refine x_re hP [some (.ref 95), some (.int (iI k)), some (.int (bI fl)), some (.int (iI (32 * e : Nat))), some (.int (iI (rk p s k))), some (.int (iI r)), some (.int (iI (orr p s r : Nat)))] ⟨rfl, rfl, rfl, rfl, rfl, rfl, rfl, trivial⟩ (fin I ?_ (frP_refl _ _) _ _ _)
        rw [e1, List.filter_append, List.filter_cons_of_neg (by unfold lf0; rw [q, decide_eq_false (by omega)]; decide), List.filter_nil, List.append_nil]
        exact hkn
      · exact x_re hP [some (.ref 95), some (.int (iI k)), some (.int (bI fl)), some (.int (iI (32 * e : Nat))), some (.int (iI (rk p s k))), some (.int (iI r)), some (.int (iI (orr p s r : Nat)))] ⟨rfl, rfl, rfl, rfl, rfl, rfl, rfl, trivial⟩ (add (by unfold lf0; rw [q, decide_eq_true (by omega)]; rfl) _ _)
theorem c_addWalk (hP : x_closed E P) (hR : x_fin R) (hta : isTa t) {k : Nat} (hk : k < s) {fl : Bool} (hd : dm1 I t e p s H) (hkn : kn I R t e fd) (k1 : ∀ I', kn I' R t e (adds fd ((wl p s (rk p s k) (spn p s k)).filter (lf0 p s fl))) → frP (fun _ a _ => kA a) I I' → Q none (x_hp I' J R)) : P 113 (d + 1) 0 (x_la 0 [.ref 95, .int (iI k), .int (bI fl)]) [] (x_hp I J R) rc rs Q := by
  have ht := isTr_of hR hta
  obtain ⟨t0, t1, t2, t3, t4, t5, t6, t7, t8, t9, t10, t11, u1, u2, u3, u4, u5, u6, u7, u8, u9, u10, u11⟩ := ht
  have hd' := hd
  obtain ⟨d0, d1, d2, d3, d4, d5, d6, d7, d8, d9⟩ := hd
  obtain ⟨n1, n2, n3, n4⟩ := hkn
  have v8 : I 1 (t + 8) (32 * e + k) = iI (rk p s k : Nat) := d9.1 k hk
  first | refine x_aload_n hP rfl rfl ?_ | refine x_aload_nN hP rfl rfl ?_
  refine x_getI hP rfl (by first | assumption | rfl) (by first | assumption | exact hR _ _ _ _ rfl | exact hR1 _ _ _ _ rfl | exact hR2 _ _ _ _ rfl | rfl) ?_
  refine x_iconst hP rfl ?_
  refine x_callS2 hP 0 0 rfl rfl rfl rfl rfl (Nat.zero_le _) (Nat.zero_le _) ?_
  refine c_idOf hP (k := 0) d0 (by decide) ?_
  refine x_istore_n hP rfl ?_
  first | refine x_aload_n hP rfl rfl ?_ | refine x_aload_nN hP rfl rfl ?_
  refine x_getR hP rfl (by first | assumption | rfl) (by first | assumption | exact hR _ _ _ _ rfl | exact hR1 _ _ _ _ rfl | exact hR2 _ _ _ _ rfl | rfl) ?_
  refine x_getR hP rfl (by first | assumption | rfl) (by first | assumption | exact hR _ _ _ _ rfl | exact hR1 _ _ _ _ rfl | exact hR2 _ _ _ _ rfl | rfl) ?_
  refine x_iload_n hP rfl rfl ?_
  refine x_iload_n hP rfl rfl ?_
  first | refine z_iadd hP rfl ?_ | refine x_iadd hP rfl ?_
  refine z_iald hP rfl (by first | assumption | rfl) (by first | decide | omega) (by omega) (by first | assumption | exact hR _ _ _ _ rfl | exact hR1 _ _ _ _ rfl | exact hR2 _ _ _ _ rfl | rfl) ?_
  refine x_istore hP rfl ?_
  refine x_iload hP rfl rfl ?_
  refine x_istore hP rfl ?_
  exact x_re hP [some (.ref 95), some (.int (iI k)), some (.int (bI fl)), some (.int (iI (32 * e : Nat))), some (.int (iI (rk p s k))), some (.int (iI (rk p s k))), none] ⟨rfl, rfl, rfl, rfl, rfl, rfl, trivial⟩ (c_addWalk_loop hP hR hta hk (spn p s k) 0 _ I (by omega) rfl hd' ⟨n1, n2, n3, n4⟩ k1 _ _)
theorem c_addPath_loop (hP : x_closed E P) (hR : x_fin R) (hta : isTa t) : ∀ (f i : Nat) (x : Int) (fd : List Nat) (I : x_M Int32), i + f = 7 → -1 ≤ x ∧ x < s → dm1 I t e p s H → kn I R t e fd → (∀ I', kn I' R t e (adds fd (pth p f x)) → frP (fun _ a _ => kA a) I I' → Q none (x_hp I' J R)) → ∀ rc rs, P 115 (d + 1) 14 (x_ls [some (.ref 95), none, some (.int (iI (32 * e : Nat))), some (.int (iI x)), some (.int (iI i))]) [] (x_hp I J R) rc rs Q := by
  have ht := isTr_of hR hta
  obtain ⟨t0, t1, t2, t3, t4, t5, t6, t7, t8, t9, t10, t11, u1, u2, u3, u4, u5, u6, u7, u8, u9, u10, u11⟩ := ht
  intro f
  induction f with
  | zero =>
    intro i x fd I hi hx hd hkn k1 rc rs
    obtain rfl : i = 7 := by omega
    refine x_iload hP rfl rfl ?_
    refine x_bipush hP rfl ?_
    refine z_icmp_gt hP rfl (by omega) (by omega) (fun c18 => ?_) (fun c18 => ?_)
    · refine x_vret hP rfl rfl ?_
      exact k1 I hkn (frP_refl _ _)
    · omega
  | succ f ih =>
    intro i x fd I hi hx hd hkn k1 rc rs
    have hd' := hd
    obtain ⟨d0, d1, d2, d3, d4, d5, d6, d7, d8, d9⟩ := hd
    unfold pth at k1
    refine x_iload hP rfl rfl ?_
    refine x_bipush hP rfl ?_
    refine z_icmp_gt hP rfl (by omega) (by omega) (fun c18 => ?_) (fun c18 => ?_)
    · omega
    refine x_iload_n hP rfl rfl ?_
    refine z_if_lt hP rfl (by omega) (fun c22 => ?_) (fun c22 => ?_)
    · rw [if_pos (by omega)] at k1
      refine x_vret hP rfl rfl ?_
      exact k1 I hkn (frP_refl _ _)
    · rw [if_neg (by omega)] at k1
      obtain ⟨y, rfl⟩ : ∃ y : Nat, x = y := ⟨x.toNat, by omega⟩
      rw [Int.toNat_natCast] at k1
      first | refine x_aload_n hP rfl rfl ?_ | refine x_aload_nN hP rfl rfl ?_
      refine x_iload_n hP rfl rfl ?_
      refine x_callV1 (ci := 7) hP 0 0 rfl rfl rfl (by first | assumption | rfl) rfl rfl rfl (Nat.zero_le _) (Nat.zero_le _) ?_
      refine c_kinAdd hP hR (by omega) hkn (fun I1 h1 h2 => ?_)
      have hd1 := dm1_fr hd' h2 (fun k a i h => kA_out (k := k) (i := i) hta h)
      have hd1' := hd1
      obtain ⟨d0, d1, d2, d3, d4, d5, d6, d7, d8, d9⟩ := hd1
      have v3 : I1 1 (t + 3) (32 * e + y) = iI (p y) := d6 y (by omega)
      have ⟨n1, n2⟩ := h1
      have pr := wfp_rg d3 (i := y) (by omega)
      first | refine x_aload_n hP rfl rfl ?_ | refine x_aload_nN hP rfl rfl ?_
      refine x_getR hP rfl (by first | assumption | rfl) (by first | assumption | exact hR _ _ _ _ rfl | exact hR1 _ _ _ _ rfl | exact hR2 _ _ _ _ rfl | rfl) ?_
      refine x_getR hP rfl (by first | assumption | rfl) (by first | assumption | exact hR _ _ _ _ rfl | exact hR1 _ _ _ _ rfl | exact hR2 _ _ _ _ rfl | rfl) ?_
      refine x_iload_n hP rfl rfl ?_
      refine x_iload_n hP rfl rfl ?_
      first | refine z_iadd hP rfl ?_ | refine x_iadd hP rfl ?_
      refine z_iald hP rfl (by first | assumption | rfl) (by first | decide | omega) (by omega) (by first | assumption | exact hR _ _ _ _ rfl | exact hR1 _ _ _ _ rfl | exact hR2 _ _ _ _ rfl | rfl) ?_
      refine x_istore_n hP rfl ?_
      refine z_iinc hP rfl rfl rfl ?_
      refine x_goto hP rfl ?_
      exact x_re hP [some (.ref 95), none, some (.int (iI (32 * e : Nat))), some (.int (iI (p y))), some (.int (iI (i + 1 : Nat)))] ⟨rfl, rfl, rfl, rfl, trivial⟩ (ih (i + 1) (p y) (adL fd y) I1 (by omega) (by omega) hd1' h1 (fun I' w1 w2 => k1 I' w1 (frP_trans h2 w2)) _ _)
theorem c_addPath (hP : x_closed E P) (hR : x_fin R) (hta : isTa t) {k : Nat} (hk : k < s) (hd : dm1 I t e p s H) (hkn : kn I R t e fd) (k1 : ∀ I', kn I' R t e (adds fd (pth p 7 k)) → frP (fun _ a _ => kA a) I I' → Q none (x_hp I' J R)) : P 115 (d + 1) 0 (x_la 0 [.ref 95, .int (iI k)]) [] (x_hp I J R) rc rs Q := by
  have ⟨n1, n2, n3⟩ := hkn
  first | refine x_aload_n hP rfl rfl ?_ | refine x_aload_nN hP rfl rfl ?_
  refine x_getI hP rfl (by first | assumption | rfl) (by first | assumption | exact hR _ _ _ _ rfl | exact hR1 _ _ _ _ rfl | exact hR2 _ _ _ _ rfl | rfl) ?_
  refine x_iconst hP rfl ?_
  refine x_callS2 hP 0 0 rfl rfl rfl rfl rfl (Nat.zero_le _) (Nat.zero_le _) ?_
  refine c_idOf hP (k := 0) hd.1 (by decide) ?_
  refine x_istore_n hP rfl ?_
  refine x_iload_n hP rfl rfl ?_
  refine x_istore_n hP rfl ?_
  refine x_iconst hP rfl ?_
  refine x_istore hP rfl ?_
  exact x_re hP [some (.ref 95), none, some (.int (iI (32 * e : Nat))), some (.int (iI (k : Nat))), some (.int (iI (0 : Nat)))] ⟨rfl, rfl, rfl, rfl, trivial⟩ (c_addPath_loop hP hR hta 7 0 k fd I (by omega) (by omega) hd hkn k1 _ _)
theorem c_besideN_loop (hP : x_closed E P) (hR : x_fin R) (hta : isTa t) {k : Nat} (hk : k < s) (hd : dm1 I t e p s H) (hkn : kn I R t e fd) : ∀ (f j : Nat), j + f = s → Q (some (.int (iI (nxS p (p k) f j)))) (x_hp I J R) → P 116 (d + 1) 14 (x_ls [some (.ref 95), some (.int (iI k)), some (.int (iI 1)), some (.int (iI (32 * e : Nat))), some (.int (iI j))]) [] (x_hp I J R) rc rs Q := by
  have ht := isTr_of hR hta
  obtain ⟨t0, t1, t2, t3, t4, t5, t6, t7, t8, t9, t10, t11, u1, u2, u3, u4, u5, u6, u7, u8, u9, u10, u11⟩ := ht
  have hd' := hd
  obtain ⟨d0, d1, d2, d3, d4, d5, d6, d7, d8, d9⟩ := hd
  have ⟨n1, n2, n3⟩ := hkn
  intro f
  induction f with
  | zero =>
    intro j hj k1
    refine x_iload hP rfl rfl ?_
    refine z_if_lt hP rfl (by omega) (fun c16 => ?_) (fun c16 => ?_)
    · omega
    refine x_iload hP rfl rfl ?_
    first | refine x_aload_n hP rfl rfl ?_ | refine x_aload_nN hP rfl rfl ?_
    refine x_getR hP rfl (by first | assumption | rfl) (by first | assumption | exact hR _ _ _ _ rfl | exact hR1 _ _ _ _ rfl | exact hR2 _ _ _ _ rfl | rfl) ?_
    refine x_getR hP rfl (by first | assumption | rfl) (by first | assumption | exact hR _ _ _ _ rfl | exact hR1 _ _ _ _ rfl | exact hR2 _ _ _ _ rfl | rfl) ?_
    first | refine x_aload_n hP rfl rfl ?_ | refine x_aload_nN hP rfl rfl ?_
    refine x_getI hP rfl (by first | assumption | rfl) (by first | assumption | exact hR _ _ _ _ rfl | exact hR1 _ _ _ _ rfl | exact hR2 _ _ _ _ rfl | rfl) ?_
    refine z_iald hP rfl (by first | assumption | rfl) (by first | decide | omega) (by omega) (by first | assumption | exact hR _ _ _ _ rfl | exact hR1 _ _ _ _ rfl | exact hR2 _ _ _ _ rfl | rfl) ?_
    refine z_icmp_ge hP rfl (by omega) (by omega) (fun c33 => ?_) (fun c33 => ?_)
    · refine x_iconst hP rfl ?_
      refine x_iret hP rfl rfl ?_
      exact k1
    · omega
  | succ f ih =>
    intro j hj k1
    unfold nxS at k1
    have v1 : I 1 (t + 3) (32 * e + j) = iI (p j) := d6 j (by omega)
    have v2 : I 1 (t + 3) (32 * e + k) = iI (p k) := d6 k hk
    have p1 := wfp_rg d3 (i := j) (by omega)
    have p2 := wfp_rg d3 (i := k) (by omega)
    refine x_iload hP rfl rfl ?_
    refine z_if_lt hP rfl (by omega) (fun c16 => ?_) (fun c16 => ?_)
    · omega
    refine x_iload hP rfl rfl ?_
    first | refine x_aload_n hP rfl rfl ?_ | refine x_aload_nN hP rfl rfl ?_
    refine x_getR hP rfl (by first | assumption | rfl) (by first | assumption | exact hR _ _ _ _ rfl | exact hR1 _ _ _ _ rfl | exact hR2 _ _ _ _ rfl | rfl) ?_
    refine x_getR hP rfl (by first | assumption | rfl) (by first | assumption | exact hR _ _ _ _ rfl | exact hR1 _ _ _ _ rfl | exact hR2 _ _ _ _ rfl | rfl) ?_
    first | refine x_aload_n hP rfl rfl ?_ | refine x_aload_nN hP rfl rfl ?_
    refine x_getI hP rfl (by first | assumption | rfl) (by first | assumption | exact hR _ _ _ _ rfl | exact hR1 _ _ _ _ rfl | exact hR2 _ _ _ _ rfl | rfl) ?_
    refine z_iald hP rfl (by first | assumption | rfl) (by first | decide | omega) (by omega) (by first | assumption | exact hR _ _ _ _ rfl | exact hR1 _ _ _ _ rfl | exact hR2 _ _ _ _ rfl | rfl) ?_
    refine z_icmp_ge hP rfl (by omega) (by omega) (fun c33 => ?_) (fun c33 => ?_)
    · omega
    first | refine x_aload_n hP rfl rfl ?_ | refine x_aload_nN hP rfl rfl ?_
    refine x_getR hP rfl (by first | assumption | rfl) (by first | assumption | exact hR _ _ _ _ rfl | exact hR1 _ _ _ _ rfl | exact hR2 _ _ _ _ rfl | rfl) ?_
    refine x_getR hP rfl (by first | assumption | rfl) (by first | assumption | exact hR _ _ _ _ rfl | exact hR1 _ _ _ _ rfl | exact hR2 _ _ _ _ rfl | rfl) ?_
    refine x_iload_n hP rfl rfl ?_
    refine x_iload hP rfl rfl ?_
    first | refine z_iadd hP rfl ?_ | refine x_iadd hP rfl ?_
    refine z_iald hP rfl (by first | assumption | rfl) (by first | decide | omega) (by omega) (by first | assumption | exact hR _ _ _ _ rfl | exact hR1 _ _ _ _ rfl | exact hR2 _ _ _ _ rfl | rfl) ?_
    first | refine x_aload_n hP rfl rfl ?_ | refine x_aload_nN hP rfl rfl ?_
    refine x_getR hP rfl (by first | assumption | rfl) (by first | assumption | exact hR _ _ _ _ rfl | exact hR1 _ _ _ _ rfl | exact hR2 _ _ _ _ rfl | rfl) ?_
    refine x_getR hP rfl (by first | assumption | rfl) (by first | assumption | exact hR _ _ _ _ rfl | exact hR1 _ _ _ _ rfl | exact hR2 _ _ _ _ rfl | rfl) ?_
    refine x_iload_n hP rfl rfl ?_
    refine x_iload_n hP rfl rfl ?_
    first | refine z_iadd hP rfl ?_ | refine x_iadd hP rfl ?_
    refine z_iald hP rfl (by first | assumption | rfl) (by first | decide | omega) (by omega) (by first | assumption | exact hR _ _ _ _ rfl | exact hR1 _ _ _ _ rfl | exact hR2 _ _ _ _ rfl | rfl) ?_
    first | refine z_icmp_ne hP rfl (by omega) (by omega) (fun c59 => ?_) (fun c59 => ?_) | refine x_icmp_ne hP rfl (fun c59 => ?_) (fun c59 => ?_)
    · rw [if_neg c59] at k1
      refine x_iload hP rfl rfl ?_
      refine x_iload_n hP rfl rfl ?_
      first | refine z_iadd hP rfl ?_ | refine x_iadd hP rfl ?_
      refine x_istore hP rfl ?_
      refine x_goto hP rfl ?_
      exact x_re hP [some (.ref 95), some (.int (iI k)), some (.int (iI 1)), some (.int (iI (32 * e : Nat))), some (.int (iI (j + 1 : Nat)))] ⟨rfl, rfl, rfl, rfl, rfl, trivial⟩ (ih (j + 1) (by omega) k1)
    · rw [if_pos c59] at k1
      refine x_iload hP rfl rfl ?_
      refine x_iret hP rfl rfl ?_
      exact k1
theorem c_besideB_loop (hP : x_closed E P) (hR : x_fin R) (hta : isTa t) {k : Nat} (hk : k < s) (hd : dm1 I t e p s H) (hkn : kn I R t e fd) : ∀ (f : Nat), f ≤ s → Q (some (.int (iI (bkS p (p k) f)))) (x_hp I J R) → P 116 (d + 1) 14 (x_ls [some (.ref 95), some (.int (iI k)), some (.int (iI (-1))), some (.int (iI (32 * e : Nat))), some (.int (iI ((f : Int) - 1)))]) [] (x_hp I J R) rc rs Q := by
  have ht := isTr_of hR hta
  obtain ⟨t0, t1, t2, t3, t4, t5, t6, t7, t8, t9, t10, t11, u1, u2, u3, u4, u5, u6, u7, u8, u9, u10, u11⟩ := ht
  have hd' := hd
  obtain ⟨d0, d1, d2, d3, d4, d5, d6, d7, d8, d9⟩ := hd
  have ⟨n1, n2, n3⟩ := hkn
  intro f
  induction f with
  | zero =>
    intro hj k1
    refine x_iload hP rfl rfl ?_
    refine z_if_lt hP rfl (by omega) (fun c16 => ?_) (fun c16 => ?_)
    · refine x_iconst hP rfl ?_
      refine x_iret hP rfl rfl ?_
      exact k1
    · omega
  | succ f ih =>
    intro hj k1
    unfold bkS at k1
    have v1 : I 1 (t + 3) (32 * e + f) = iI (p f) := d6 f (by omega)
    have v2 : I 1 (t + 3) (32 * e + k) = iI (p k) := d6 k hk
    have p1 := wfp_rg d3 (i := f) (by omega)
    have p2 := wfp_rg d3 (i := k) (by omega)
    rw [show (((f + 1 : Nat) : Int) - 1) = (f : Nat) by omega]
    refine x_iload hP rfl rfl ?_
    refine z_if_lt hP rfl (by omega) (fun c16 => ?_) (fun c16 => ?_)
    · omega
    refine x_iload hP rfl rfl ?_
    first | refine x_aload_n hP rfl rfl ?_ | refine x_aload_nN hP rfl rfl ?_
    refine x_getR hP rfl (by first | assumption | rfl) (by first | assumption | exact hR _ _ _ _ rfl | exact hR1 _ _ _ _ rfl | exact hR2 _ _ _ _ rfl | rfl) ?_
    refine x_getR hP rfl (by first | assumption | rfl) (by first | assumption | exact hR _ _ _ _ rfl | exact hR1 _ _ _ _ rfl | exact hR2 _ _ _ _ rfl | rfl) ?_
    first | refine x_aload_n hP rfl rfl ?_ | refine x_aload_nN hP rfl rfl ?_
    refine x_getI hP rfl (by first | assumption | rfl) (by first | assumption | exact hR _ _ _ _ rfl | exact hR1 _ _ _ _ rfl | exact hR2 _ _ _ _ rfl | rfl) ?_
    refine z_iald hP rfl (by first | assumption | rfl) (by first | decide | omega) (by omega) (by first | assumption | exact hR _ _ _ _ rfl | exact hR1 _ _ _ _ rfl | exact hR2 _ _ _ _ rfl | rfl) ?_
    refine z_icmp_ge hP rfl (by omega) (by omega) (fun c33 => ?_) (fun c33 => ?_)
    · omega
    first | refine x_aload_n hP rfl rfl ?_ | refine x_aload_nN hP rfl rfl ?_
    refine x_getR hP rfl (by first | assumption | rfl) (by first | assumption | exact hR _ _ _ _ rfl | exact hR1 _ _ _ _ rfl | exact hR2 _ _ _ _ rfl | rfl) ?_
    refine x_getR hP rfl (by first | assumption | rfl) (by first | assumption | exact hR _ _ _ _ rfl | exact hR1 _ _ _ _ rfl | exact hR2 _ _ _ _ rfl | rfl) ?_
    refine x_iload_n hP rfl rfl ?_
    refine x_iload hP rfl rfl ?_
    first | refine z_iadd hP rfl ?_ | refine x_iadd hP rfl ?_
    refine z_iald hP rfl (by first | assumption | rfl) (by first | decide | omega) (by omega) (by first | assumption | exact hR _ _ _ _ rfl | exact hR1 _ _ _ _ rfl | exact hR2 _ _ _ _ rfl | rfl) ?_
    first | refine x_aload_n hP rfl rfl ?_ | refine x_aload_nN hP rfl rfl ?_
    refine x_getR hP rfl (by first | assumption | rfl) (by first | assumption | exact hR _ _ _ _ rfl | exact hR1 _ _ _ _ rfl | exact hR2 _ _ _ _ rfl | rfl) ?_
    refine x_getR hP rfl (by first | assumption | rfl) (by first | assumption | exact hR _ _ _ _ rfl | exact hR1 _ _ _ _ rfl | exact hR2 _ _ _ _ rfl | rfl) ?_
    refine x_iload_n hP rfl rfl ?_
    refine x_iload_n hP rfl rfl ?_
    first | refine z_iadd hP rfl ?_ | refine x_iadd hP rfl ?_
    refine z_iald hP rfl (by first | assumption | rfl) (by first | decide | omega) (by omega) (by first | assumption | exact hR _ _ _ _ rfl | exact hR1 _ _ _ _ rfl | exact hR2 _ _ _ _ rfl | rfl) ?_
    first | refine z_icmp_ne hP rfl (by omega) (by omega) (fun c59 => ?_) (fun c59 => ?_) | refine x_icmp_ne hP rfl (fun c59 => ?_) (fun c59 => ?_)
    · rw [if_neg c59] at k1
      refine x_iload hP rfl rfl ?_
      refine x_iload_n hP rfl rfl ?_
      first | refine z_iadd hP rfl ?_ | refine x_iadd hP rfl ?_
      refine x_istore hP rfl ?_
      refine x_goto hP rfl ?_
      exact x_re hP [some (.ref 95), some (.int (iI k)), some (.int (iI (-1))), some (.int (iI (32 * e : Nat))), some (.int (iI ((f : Int) - 1)))] ⟨rfl, rfl, rfl, rfl, rfl, trivial⟩ (ih (by omega) k1)
    · rw [if_pos c59] at k1
      refine x_iload hP rfl rfl ?_
      refine x_iret hP rfl rfl ?_
      exact k1
theorem c_besideN (hP : x_closed E P) (hR : x_fin R) (hta : isTa t) {k : Nat} (hk : k < s) (hd : dm1 I t e p s H) (hkn : kn I R t e fd) (k1 : Q (some (.int (iI (nxS p (p k) (s - (k + 1)) (k + 1))))) (x_hp I J R)) : P 116 (d + 1) 0 (x_la 0 [.ref 95, .int (iI k), .int (iI 1)]) [] (x_hp I J R) rc rs Q := by
  have ⟨n1, n2, n3⟩ := hkn
  first | refine x_aload_n hP rfl rfl ?_ | refine x_aload_nN hP rfl rfl ?_
  refine x_getI hP rfl (by first | assumption | rfl) (by first | assumption | exact hR _ _ _ _ rfl | exact hR1 _ _ _ _ rfl | exact hR2 _ _ _ _ rfl | rfl) ?_
  refine x_iconst hP rfl ?_
  refine x_callS2 hP 0 0 rfl rfl rfl rfl rfl (Nat.zero_le _) (Nat.zero_le _) ?_
  refine c_idOf hP (k := 0) hd.1 (by decide) ?_
  refine x_istore_n hP rfl ?_
  refine x_iload_n hP rfl rfl ?_
  refine x_iload_n hP rfl rfl ?_
  first | refine z_iadd hP rfl ?_ | refine x_iadd hP rfl ?_
  refine x_istore hP rfl ?_
  exact x_re hP [some (.ref 95), some (.int (iI k)), some (.int (iI 1)), some (.int (iI (32 * e : Nat))), some (.int (iI (k + 1 : Nat)))] ⟨rfl, rfl, rfl, rfl, rfl, trivial⟩ (c_besideN_loop hP hR hta hk hd hkn (s - (k + 1)) (k + 1) (by omega) k1)
theorem c_besideB (hP : x_closed E P) (hR : x_fin R) (hta : isTa t) {k : Nat} (hk : k < s) (hd : dm1 I t e p s H) (hkn : kn I R t e fd) (k1 : Q (some (.int (iI (bkS p (p k) k)))) (x_hp I J R)) : P 116 (d + 1) 0 (x_la 0 [.ref 95, .int (iI k), .int (iI (-1))]) [] (x_hp I J R) rc rs Q := by
  have ⟨n1, n2, n3⟩ := hkn
  first | refine x_aload_n hP rfl rfl ?_ | refine x_aload_nN hP rfl rfl ?_
  refine x_getI hP rfl (by first | assumption | rfl) (by first | assumption | exact hR _ _ _ _ rfl | exact hR1 _ _ _ _ rfl | exact hR2 _ _ _ _ rfl | rfl) ?_
  refine x_iconst hP rfl ?_
  refine x_callS2 hP 0 0 rfl rfl rfl rfl rfl (Nat.zero_le _) (Nat.zero_le _) ?_
  refine c_idOf hP (k := 0) hd.1 (by decide) ?_
  refine x_istore_n hP rfl ?_
  refine x_iload_n hP rfl rfl ?_
  refine x_iload_n hP rfl rfl ?_
  first | refine z_iadd hP rfl ?_ | refine x_iadd hP rfl ?_
  refine x_istore hP rfl ?_
  exact x_re hP [some (.ref 95), some (.int (iI k)), some (.int (iI (-1))), some (.int (iI (32 * e : Nat))), some (.int (iI ((k : Int) - 1)))] ⟨rfl, rfl, rfl, rfl, rfl, trivial⟩ (c_besideB_loop hP hR hta hk hd hkn k (by omega) k1)
theorem c_kfill_loop (hP : x_closed E P) (hR : x_fin R) {r : Nat} (hr : isRw R r) (hrk : ¬ (95 ≤ r + 2 ∧ r ≤ 96)) (he : e < 4) : ∀ (f i : Nat) (I : x_M Int32), i + f = fd.length → kn I R t e fd → rw I r [e] ((fd.take i).map (tp e)) → (∀ I', rw I' r [e] (fd.map (tp e)) → frP (rg r) I I' → Q none (x_hp I' J R)) → ∀ rc rs, P 103 (d + 2) 10 (x_ls [some (.ref 95), some (.ref r), some (.int (iI i))]) [] (x_hp I J R) rc rs Q := by
  intro f
  induction f with
  | zero =>
    intro i I hi hkn hw k1 rc rs
    have ⟨n1, n2, n3, n4, n5, n6⟩ := hkn
    have nl := gd_len n5
    refine x_iload_n hP rfl rfl ?_
    first | refine x_aload_n hP rfl rfl ?_ | refine x_aload_nN hP rfl rfl ?_
    refine x_getI hP rfl (by first | assumption | rfl) (by first | assumption | exact hR _ _ _ _ rfl | exact hR1 _ _ _ _ rfl | exact hR2 _ _ _ _ rfl | rfl) ?_
    refine z_icmp_ge hP rfl (by omega) (by omega) (fun c15 => ?_) (fun c15 => ?_)
    · refine x_vret hP rfl rfl ?_
      rw [List.take_of_length_le (by omega)] at hw
      exact k1 I hw (frP_refl _ _)
    · omega
  | succ f ih =>
    intro i I hi hkn hw k1 rc rs
    have ⟨n1, n2, n3, n4, n5, n6⟩ := hkn
    have nl := gd_len n5
    have v := n4 i (by omega)
    have hm : fd.getD i 0 < 30 := n5.1 _ (getD_mem (by omega))
    have kk : x_kd0 r = (1003, 0) := hr.1
    refine x_iload_n hP rfl rfl ?_
    first | refine x_aload_n hP rfl rfl ?_ | refine x_aload_nN hP rfl rfl ?_
    refine x_getI hP rfl (by first | assumption | rfl) (by first | assumption | exact hR _ _ _ _ rfl | exact hR1 _ _ _ _ rfl | exact hR2 _ _ _ _ rfl | rfl) ?_
    refine z_icmp_ge hP rfl (by omega) (by omega) (fun c15 => ?_) (fun c15 => ?_)
    · omega
    first | refine x_aload_n hP rfl rfl ?_ | refine x_aload_nN hP rfl rfl ?_
    first | refine x_aload_n hP rfl rfl ?_ | refine x_aload_nN hP rfl rfl ?_
    refine x_getI hP rfl (by first | assumption | rfl) (by first | assumption | exact hR _ _ _ _ rfl | exact hR1 _ _ _ _ rfl | exact hR2 _ _ _ _ rfl | rfl) ?_
    first | refine x_aload_n hP rfl rfl ?_ | refine x_aload_nN hP rfl rfl ?_
    refine x_getR hP rfl (by first | assumption | rfl) (by first | assumption | exact hR _ _ _ _ rfl | exact hR1 _ _ _ _ rfl | exact hR2 _ _ _ _ rfl | rfl) ?_
    refine x_iload_n hP rfl rfl ?_
    refine z_iald hP rfl (by first | assumption | rfl) (by first | decide | omega) (by omega) (by first | assumption | exact hR _ _ _ _ rfl | exact hR1 _ _ _ _ rfl | exact hR2 _ _ _ _ rfl | rfl) ?_
    refine x_callS2 hP 0 0 rfl rfl rfl rfl rfl (Nat.zero_le _) (Nat.zero_le _) ?_
    refine c_idOf hP (k := fd.getD i 0) he (by omega) ?_
    refine x_callS1 hP 0 0 rfl rfl rfl rfl rfl (Nat.zero_le _) (Nat.zero_le _) ?_
    refine c_tupleOf hP he (by omega) ?_
    refine x_callV1 (ci := 3) hP 0 0 rfl rfl rfl (by first | assumption | rfl) rfl rfl rfl (Nat.zero_le _) (Nat.zero_le _) ?_
    have tl := tp_lt (k := fd.getD i 0) he (show _ < 32 by omega)
    refine c_rowAppend hP hr hw tl (fun _ I1 h1 h2 => ?_) (fun q => ?_)
    · refine x_pop hP rfl rfl ?_
      refine z_iinc hP rfl rfl rfl ?_
      refine x_goto hP rfl ?_
      refine x_re hP [some (.ref 95), some (.ref r), some (.int (iI (i + 1 : Nat)))] ⟨rfl, rfl, rfl, trivial⟩ (ih (i + 1) I1 (by omega) ?_ ?_ (fun I' w1 w2 => k1 I' w1 (frP_trans h2 w2)) _ _)
      · have g : ∀ k a i, a = 95 ∨ a = 96 → I1 k a i = I k a i := fun k a i q => h2 k a i (by unfold rg; omega)
        obtain ⟨M, m1, m2⟩ := n6
        exact ⟨n1, (g _ _ _ (Or.inl rfl)).trans n2, (g _ _ _ (Or.inl rfl)).trans n3, fun j hj => (g _ _ _ (Or.inr rfl)).trans (n4 j hj), n5, M, (g _ _ _ (Or.inl rfl)).trans m1, m2⟩
      · rw [takec (by omega), List.map_append]; exact h1
    · rw [List.length_map, List.length_take] at q; omega
theorem c_kinFill (hP : x_closed E P) (hR : x_fin R) {r : Nat} (hr : isRw R r) (hrk : ¬ (95 ≤ r + 2 ∧ r ≤ 96)) (he : e < 4) (hkn : kn I R t e fd) (k1 : ∀ I', rw I' r [e] (fd.map (tp e)) → frP (rg r) I I' → Q none (x_hp I' J R)) : P 103 (d + 2) 0 (x_la 0 [.ref 95, .ref r]) [] (x_hp I J R) rc rs Q := by
  have ⟨n1, n2, n3, n4, n5, n6⟩ := hkn
  have kk : x_kd0 r = (1003, 0) := hr.1
  first | refine x_aload_n hP rfl rfl ?_ | refine x_aload_nN hP rfl rfl ?_
  first | refine x_aload_n hP rfl rfl ?_ | refine x_aload_nN hP rfl rfl ?_
  refine x_getI hP rfl (by first | assumption | rfl) (by first | assumption | exact hR _ _ _ _ rfl | exact hR1 _ _ _ _ rfl | exact hR2 _ _ _ _ rfl | rfl) ?_
  refine x_callV1 (ci := 3) hP 0 0 rfl rfl rfl (by first | assumption | rfl) rfl rfl rfl (Nat.zero_le _) (Nat.zero_le _) ?_
  refine c_beginOf hP hr he (fun I1 h1 h2 => ?_)
  refine x_iconst hP rfl ?_
  refine x_istore_n hP rfl ?_
  have g : ∀ k a i, a = 95 ∨ a = 96 → I1 k a i = I k a i := fun k a i q => h2 k a i (by unfold rg; omega)
  obtain ⟨M, m1, m2⟩ := n6
  exact x_re hP [some (.ref 95), some (.ref r), some (.int (iI (0 : Nat)))] ⟨rfl, rfl, rfl, trivial⟩ (c_kfill_loop hP hR hr hrk he fd.length 0 I1 (by omega) ⟨n1, (g _ _ _ (Or.inl rfl)).trans n2, (g _ _ _ (Or.inl rfl)).trans n3, fun j hj => (g _ _ _ (Or.inr rfl)).trans (n4 j hj), n5, M, (g _ _ _ (Or.inl rfl)).trans m1, m2⟩ h1 (fun I' w1 w2 => k1 I' w1 (frP_trans h2 w2)) _ _)
end
