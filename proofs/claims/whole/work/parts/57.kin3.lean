/-! Kin: the order of the walk, the acts -/
theorem vpA {E : x_E} {i : Int32} (h : ¬ (i < 0 ∨ 9 ≤ i.toNatClampNeg)) : vp_in i (x_arn E 4) := h
theorem vpA2 {E : x_E} {i : Int32} (h : ¬ (i < 0 ∨ 9 ≤ i.toNatClampNeg)) : vp_in i (x_arn E 2) := h
theorem vpF {E : x_E} {i : Int32} (h : ¬ (i < 0 ∨ 12 ≤ i.toNatClampNeg)) : vp_in i (x_arn E 3) := h
theorem vpF2 {E : x_E} {i : Int32} (h : ¬ (i < 0 ∨ 12 ≤ i.toNatClampNeg)) : vp_in i (x_arn E 1) := h
section
variable {E : x_E} {P : x_Pr} {d rc rs : Nat} {I : x_M Int32} {J : x_M Int64} {R : x_M (Option Nat)} {Q : x_Q} {t e s : Nat} {fd : List Nat} {p : Nat → Int} {H : Nat → Nat}
theorem c_sbw1 (hP : x_closed E P) (hR : x_fin R) {r : Nat} (hr : isRw R r) (he : e < 4) {l : List Nat} {o : List Nat} (hkn : kn I R t e fd) (hw : rw I r o l) (hx : ∀ x ∈ l, pt x e < 30) (k1 : ∀ M : Nat, bts M (l.map fun x => pt x e) → ∀ L r1 r2, x_ag L 0 [some (.ref 95), some (.ref r), some (.int (iI M))] → P 101 (d + 1) 36 L [] (x_hp I J R) r1 r2 Q) : ∀ (f i M : Nat), i + f = l.length → bts M ((l.take i).map fun x => pt x e) → ∀ rc rs, P 101 (d + 1) 4 (x_ls [some (.ref 95), some (.ref r), some (.int (iI M)), some (.int (iI i))]) [] (x_hp I J R) rc rs Q := by
  have ⟨n1, n2, n3⟩ := hkn
  obtain ⟨w1, w2, w3, w4, w5, w6, w7, w8⟩ := hw
  obtain ⟨y1, y2, y3, y4, y5⟩ := hr
  intro f
  induction f with
  | zero =>
    intro i M hi hM rc rs
    refine x_iload_n hP rfl rfl ?_
    first | refine x_aload_n hP rfl rfl ?_ | refine x_aload_nN hP rfl rfl ?_
    refine x_getI hP rfl (by first | assumption | rfl) (by first | assumption | exact hR _ _ _ _ rfl | exact hR1 _ _ _ _ rfl | exact hR2 _ _ _ _ rfl | rfl) ?_
    refine z_icmp_ge hP rfl (by omega) (by omega) (fun c9 => ?_) (fun c9 => ?_)
    · rw [List.take_of_length_le (by omega)] at hM
      exact k1 M hM _ _ _ ⟨rfl, rfl, rfl, trivial⟩
    · omega
  | succ f ih =>
    intro i M hi hM rc rs
    have v := w6 i (by omega)
    have lt := w7 _ (getD_mem (l := l) (i := i) (by omega))
    have h30 := hx _ (getD_mem (l := l) (i := i) (by omega))
    refine x_iload_n hP rfl rfl ?_
    first | refine x_aload_n hP rfl rfl ?_ | refine x_aload_nN hP rfl rfl ?_
    refine x_getI hP rfl (by first | assumption | rfl) (by first | assumption | exact hR _ _ _ _ rfl | exact hR1 _ _ _ _ rfl | exact hR2 _ _ _ _ rfl | rfl) ?_
    refine z_icmp_ge hP rfl (by omega) (by omega) (fun c9 => ?_) (fun c9 => ?_)
    · omega
    refine x_iload_n hP rfl rfl ?_
    refine x_iconst hP rfl ?_
    first | refine x_aload_n hP rfl rfl ?_ | refine x_aload_nN hP rfl rfl ?_
    refine x_getR hP rfl (by first | assumption | rfl) (by first | assumption | exact hR _ _ _ _ rfl | exact hR1 _ _ _ _ rfl | exact hR2 _ _ _ _ rfl | rfl) ?_
    refine x_iload_n hP rfl rfl ?_
    refine z_iald hP rfl (by first | assumption | rfl) (by first | decide | omega) (by omega) (by first | assumption | exact hR _ _ _ _ rfl | exact hR1 _ _ _ _ rfl | exact hR2 _ _ _ _ rfl | rfl) ?_
    first | refine x_aload_n hP rfl rfl ?_ | refine x_aload_nN hP rfl rfl ?_
    refine x_getI hP rfl (by first | assumption | rfl) (by first | assumption | exact hR _ _ _ _ rfl | exact hR1 _ _ _ _ rfl | exact hR2 _ _ _ _ rfl | rfl) ?_
    refine x_callS2 hP 0 0 rfl rfl rfl rfl rfl (Nat.zero_le _) (Nat.zero_le _) ?_
    refine c_partOf hP lt he ?_
    refine x_ishl hP rfl ?_
    rw [show iI 1 = iI ((1 : Nat) : Int) from rfl, iI_shl 1 _ (by omega)]
    refine x_ior hP rfl ?_
    rw [iI_or]
    refine x_istore_n hP rfl ?_
    refine z_iinc hP rfl rfl rfl ?_
    refine x_goto hP rfl ?_
    refine x_re hP [some (.ref 95), some (.ref r), some (.int (iI (M ||| 1 <<< pt (l.getD i 0) e : Nat))), some (.int (iI (i + 1 : Nat)))] ⟨rfl, rfl, rfl, rfl, trivial⟩ (ih (i + 1) _ (by omega) ?_ _ _)
    rw [takec (by omega), List.map_append]
    exact bts_ad hM h30
theorem c_sbw2 (hP : x_closed E P) (hR : x_fin R) (hta : isTa t) {r : Nat} {M : Nat} {ms : List Nat} (hM : bts M ms) : ∀ (f i : Nat) (I : x_M Int32), i + f = s → dm1 I t e p s H → kn I R t e (adds fd ((wl p s 0 i).filter fun k => decide (k ∈ ms))) → (∀ I' L r1 r2, kn I' R t e (adds fd ((wl p s 0 s).filter fun k => decide (k ∈ ms))) → frP (fun _ a _ => kA a) I I' → x_ag L 0 [some (.ref 95), some (.ref r)] → P 101 (d + 1) 100 L [] (x_hp I' J R) r1 r2 Q) → ∀ rc rs, P 101 (d + 1) 48 (x_ls [some (.ref 95), some (.ref r), some (.int (iI M)), some (.int (iI (32 * e : Nat))), some (.int (iI i)), none]) [] (x_hp I J R) rc rs Q := by
  have ht := isTr_of hR hta
  obtain ⟨t0, t1, t2, t3, t4, t5, t6, t7, t8, t9, t10, t11, u1, u2, u3, u4, u5, u6, u7, u8, u9, u10, u11⟩ := ht
  intro f
  induction f with
  | zero =>
    intro i I hi hd hkn k1 rc rs
    have hd' := hd
    obtain ⟨d0, d1, d2, d3, d4, d5, d6, d7, d8, d9⟩ := hd
    have ⟨n1, n2, n3⟩ := hkn
    obtain rfl : i = s := by omega
    refine x_iload hP rfl rfl ?_
    first | refine x_aload_n hP rfl rfl ?_ | refine x_aload_nN hP rfl rfl ?_
    refine x_getR hP rfl (by first | assumption | rfl) (by first | assumption | exact hR _ _ _ _ rfl | exact hR1 _ _ _ _ rfl | exact hR2 _ _ _ _ rfl | rfl) ?_
    refine x_getR hP rfl (by first | assumption | rfl) (by first | assumption | exact hR _ _ _ _ rfl | exact hR1 _ _ _ _ rfl | exact hR2 _ _ _ _ rfl | rfl) ?_
    first | refine x_aload_n hP rfl rfl ?_ | refine x_aload_nN hP rfl rfl ?_
    refine x_getI hP rfl (by first | assumption | rfl) (by first | assumption | exact hR _ _ _ _ rfl | exact hR1 _ _ _ _ rfl | exact hR2 _ _ _ _ rfl | rfl) ?_
    refine z_iald hP rfl (by first | assumption | rfl) (by first | decide | omega) (by omega) (by first | assumption | exact hR _ _ _ _ rfl | exact hR1 _ _ _ _ rfl | exact hR2 _ _ _ _ rfl | rfl) ?_
    refine z_icmp_ge hP rfl (by omega) (by omega) (fun c62 => ?_) (fun c62 => ?_)
    · exact k1 I _ _ _ hkn (frP_refl _ _) ⟨rfl, rfl, trivial⟩
    · omega
  | succ f ih =>
    intro i I hi hd hkn k1 rc rs
    have hd' := hd
    obtain ⟨d0, d1, d2, d3, d4, d5, d6, d7, d8, d9⟩ := hd
    have ⟨n1, n2, n3⟩ := hkn
    have ⟨o1, o2⟩ := orr_ok (i := i) d3 (by omega)
    have v9 : I 1 (t + 9) (32 * e + i) = iI (orr p s i : Nat) := by have := d9.2 _ o1; rw [o2] at this; exact this
    have e1 : wl p s 0 (i + 1) = wl p s 0 i ++ [orr p s i] := by unfold wl; rw [mk_snoc, Nat.zero_add]
    have fin : ∀ I1, kn I1 R t e (adds fd ((wl p s 0 (i + 1)).filter fun k => decide (k ∈ ms))) → frP (fun _ a _ => kA a) I I1 → ∀ r1 r2 x, P 101 (d + 1) 94 (x_ls [some (.ref 95), some (.ref r), some (.int (iI M)), some (.int (iI (32 * e : Nat))), some (.int (iI i)), x]) [] (x_hp I1 J R) r1 r2 Q := by
      intro I1 h1 h2 r1 r2 x
      refine z_iinc hP rfl rfl rfl ?_
      refine x_goto hP rfl ?_
      exact x_re hP [some (.ref 95), some (.ref r), some (.int (iI M)), some (.int (iI (32 * e : Nat))), some (.int (iI (i + 1 : Nat))), none] ⟨rfl, rfl, rfl, rfl, rfl, trivial⟩ (ih (i + 1) I1 (by omega) (dm1_fr hd' h2 (fun k a i h => kA_out (k := k) (i := i) hta h)) h1 (fun I' L r1 r2 w1 w2 => k1 I' L r1 r2 w1 (frP_trans h2 w2)) _ _)
    refine x_iload hP rfl rfl ?_
    first | refine x_aload_n hP rfl rfl ?_ | refine x_aload_nN hP rfl rfl ?_
    refine x_getR hP rfl (by first | assumption | rfl) (by first | assumption | exact hR _ _ _ _ rfl | exact hR1 _ _ _ _ rfl | exact hR2 _ _ _ _ rfl | rfl) ?_
    refine x_getR hP rfl (by first | assumption | rfl) (by first | assumption | exact hR _ _ _ _ rfl | exact hR1 _ _ _ _ rfl | exact hR2 _ _ _ _ rfl | rfl) ?_
    first | refine x_aload_n hP rfl rfl ?_ | refine x_aload_nN hP rfl rfl ?_
    refine x_getI hP rfl (by first | assumption | rfl) (by first | assumption | exact hR _ _ _ _ rfl | exact hR1 _ _ _ _ rfl | exact hR2 _ _ _ _ rfl | rfl) ?_
    refine z_iald hP rfl (by first | assumption | rfl) (by first | decide | omega) (by omega) (by first | assumption | exact hR _ _ _ _ rfl | exact hR1 _ _ _ _ rfl | exact hR2 _ _ _ _ rfl | rfl) ?_
    refine z_icmp_ge hP rfl (by omega) (by omega) (fun c62 => ?_) (fun c62 => ?_)
    · omega
    first | refine x_aload_n hP rfl rfl ?_ | refine x_aload_nN hP rfl rfl ?_
    refine x_getR hP rfl (by first | assumption | rfl) (by first | assumption | exact hR _ _ _ _ rfl | exact hR1 _ _ _ _ rfl | exact hR2 _ _ _ _ rfl | rfl) ?_
    refine x_getR hP rfl (by first | assumption | rfl) (by first | assumption | exact hR _ _ _ _ rfl | exact hR1 _ _ _ _ rfl | exact hR2 _ _ _ _ rfl | rfl) ?_
    refine x_iload_n hP rfl rfl ?_
    refine x_iload hP rfl rfl ?_
    first | refine z_iadd hP rfl ?_ | refine x_iadd hP rfl ?_
    refine z_iald hP rfl (by first | assumption | rfl) (by first | decide | omega) (by omega) (by first | assumption | exact hR _ _ _ _ rfl | exact hR1 _ _ _ _ rfl | exact hR2 _ _ _ _ rfl | rfl) ?_
    refine x_istore hP rfl ?_
    refine x_iload_n hP rfl rfl ?_
    refine x_iload hP rfl rfl ?_
    refine x_ishr hP rfl ?_
    refine x_iconst hP rfl ?_
    refine x_iand hP rfl ?_
    rw [shr1 hM.1 (by omega), hM.2 _ (by omega)]
    by_cases q : orr p s i ∈ ms
    · rw [if_pos (decide_eq_true q)]
      first | refine zb_if_eq hP rfl (fun c85 => ?_) (fun c85 => ?_) | refine zl_if_eq hP rfl (fun c85 => ?_) (fun c85 => ?_) | refine z_if_eq hP rfl (by omega) (fun c85 => ?_) (fun c85 => ?_)
      · omega
      first | refine x_aload_n hP rfl rfl ?_ | refine x_aload_nN hP rfl rfl ?_
      refine x_iload hP rfl rfl ?_
      refine x_callV1 (ci := 7) hP 0 0 rfl rfl rfl (by first | assumption | rfl) rfl rfl rfl (Nat.zero_le _) (Nat.zero_le _) ?_
      refine c_kinAdd hP hR (by omega) hkn (fun I1 h1 h2 => ?_)
      refine x_re hP [some (.ref 95), some (.ref r), some (.int (iI M)), some (.int (iI (32 * e : Nat))), some (.int (iI i)), some (.int (iI (orr p s i : Nat)))] ⟨rfl, rfl, rfl, rfl, rfl, rfl, trivial⟩ (fin I1 ?_ h2 _ _ _)
      rw [e1, List.filter_append, List.filter_cons_of_pos (by exact decide_eq_true q), List.filter_nil, adds_snoc]
      exact h1
    · rw [if_neg (by rw [decide_eq_true_iff]; exact q)]
      first | refine zb_if_eq hP rfl (fun c85 => ?_) (fun c85 => ?_) | refine zl_if_eq hP rfl (fun c85 => ?_) (fun c85 => ?_) | refine z_if_eq hP rfl (by omega) (fun c85 => ?_) (fun c85 => ?_)
      · refine x_re hP [some (.ref 95), some (.ref r), some (.int (iI M)), some (.int (iI (32 * e : Nat))), some (.int (iI i)), some (.int (iI (orr p s i : Nat)))] ⟨rfl, rfl, rfl, rfl, rfl, rfl, trivial⟩ (fin I ?_ (frP_refl _ _) _ _ _)
        rw [e1, List.filter_append, List.filter_cons_of_neg (by rw [decide_eq_true_iff]; exact q), List.filter_nil, List.append_nil]
        exact hkn
      · omega
/-- a row in the order of the walk -/
def wkL (p : Nat → Int) (s e : Nat) (l : List Nat) : List Nat := (adds [] ((wl p s 0 s).filter fun k => decide (k ∈ l.map fun x => pt x e))).map (tp e)
theorem c_sortByWalk (hP : x_closed E P) (hR : x_fin R) (hta : isTa t) {r : Nat} (hr : isRw R r) (hrk : ¬ (95 ≤ r + 2 ∧ r ≤ 96)) {o l : List Nat} (hd : dm1 I t e p s H) (hkn : kn I R t e []) (hw : rw I r o l) (hx : ∀ x ∈ l, pt x e < 30) (k1 : ∀ I', rw I' r [e] (wkL p s e l) → frP (fun k a i => kA a ∨ rg r k a i) I I' → Q none (x_hp I' J R)) : P 101 (d + 3) 0 (x_la 0 [.ref 95, .ref r]) [] (x_hp I J R) rc rs Q := by
  have ⟨n1, n2, n3⟩ := hkn
  refine x_iconst hP rfl ?_
  refine x_istore_n hP rfl ?_
  refine x_iconst hP rfl ?_
  refine x_istore_n hP rfl ?_
  refine x_re hP [some (.ref 95), some (.ref r), some (.int (iI (0 : Nat))), some (.int (iI (0 : Nat)))] ⟨rfl, rfl, rfl, rfl, trivial⟩ (c_sbw1 hP hR hr hd.1 hkn hw hx ?_ l.length 0 0 (by omega) ⟨by decide, fun j hj => by rw [Nat.zero_testBit]; exact (decide_eq_false List.not_mem_nil).symm⟩ _ _)
  intro M hM L r1 r2 hL
  refine x_re hP [some (.ref 95), some (.ref r), some (.int (iI M))] hL ?_
  first | refine x_aload_n hP rfl rfl ?_ | refine x_aload_nN hP rfl rfl ?_
  refine x_getI hP rfl (by first | assumption | rfl) (by first | assumption | exact hR _ _ _ _ rfl | exact hR1 _ _ _ _ rfl | exact hR2 _ _ _ _ rfl | rfl) ?_
  refine x_iconst hP rfl ?_
  refine x_callS2 hP 0 0 rfl rfl rfl rfl rfl (Nat.zero_le _) (Nat.zero_le _) ?_
  refine c_idOf hP (k := 0) hd.1 (by decide) ?_
  refine x_istore_n hP rfl ?_
  refine x_iconst hP rfl ?_
  refine x_istore hP rfl ?_
  refine x_re hP [some (.ref 95), some (.ref r), some (.int (iI M)), some (.int (iI (32 * e : Nat))), some (.int (iI (0 : Nat))), none] ⟨rfl, rfl, rfl, rfl, rfl, trivial⟩ (c_sbw2 (fd := []) hP hR hta hM s 0 I (by omega) hd hkn (fun I1 L r1 r2 h1 h2 hL => ?_) _ _)
  refine x_re hP [some (.ref 95), some (.ref r)] hL ?_
  first | refine x_aload_n hP rfl rfl ?_ | refine x_aload_nN hP rfl rfl ?_
  first | refine x_aload_n hP rfl rfl ?_ | refine x_aload_nN hP rfl rfl ?_
  refine x_callV1 (ci := 7) hP 0 0 rfl rfl rfl (by first | assumption | rfl) rfl rfl rfl (Nat.zero_le _) (Nat.zero_le _) ?_
  refine c_kinFill hP hR hr hrk hd.1 h1 (fun I2 g1 g2 => ?_)
  refine x_vret hP rfl rfl ?_
  refine k1 I2 g1 (frP_trans (frP_mono h2 fun k a i => Or.inl) (frP_mono g2 fun k a i => Or.inr))
theorem c_ordA {h : x_H} (hP : x_closed E P) {a : Nat} (ha : a < 9) (k : Q (some (.int (iI a))) h) : P 90 d 0 (x_la 0 [.ref (1000013 + a)]) [] h rc rs Q := by
  match a, ha, k with
  | 0, _, k => exact x_aload_n hP rfl rfl (x_getO (k := 48) (iz := 13) hP rfl rfl rfl (x_iret (x := iI 0) hP rfl rfl k))
  | 1, _, k => exact x_aload_n hP rfl rfl (x_getO (k := 50) (iz := 14) hP rfl rfl rfl (x_iret (x := iI 1) hP rfl rfl k))
  | 2, _, k => exact x_aload_n hP rfl rfl (x_getO (k := 52) (iz := 15) hP rfl rfl rfl (x_iret (x := iI 2) hP rfl rfl k))
  | 3, _, k => exact x_aload_n hP rfl rfl (x_getO (k := 54) (iz := 16) hP rfl rfl rfl (x_iret (x := iI 3) hP rfl rfl k))
  | 4, _, k => exact x_aload_n hP rfl rfl (x_getO (k := 56) (iz := 17) hP rfl rfl rfl (x_iret (x := iI 4) hP rfl rfl k))
  | 5, _, k => exact x_aload_n hP rfl rfl (x_getO (k := 58) (iz := 18) hP rfl rfl rfl (x_iret (x := iI 5) hP rfl rfl k))
  | 6, _, k => exact x_aload_n hP rfl rfl (x_getO (k := 60) (iz := 19) hP rfl rfl rfl (x_iret (x := iI 6) hP rfl rfl k))
  | 7, _, k => exact x_aload_n hP rfl rfl (x_getO (k := 62) (iz := 20) hP rfl rfl rfl (x_iret (x := iI 7) hP rfl rfl k))
  | 8, _, k => exact x_aload_n hP rfl rfl (x_getO (k := 64) (iz := 21) hP rfl rfl rfl (x_iret (x := iI 8) hP rfl rfl k))
  | a + 9, ha, _ => exact absurd ha (by omega)
theorem c_ordF {h : x_H} (hP : x_closed E P) {a : Nat} (ha : a < 12) (k : Q (some (.int (iI a))) h) : P 90 d 0 (x_la 0 [.ref (1000001 + a)]) [] h rc rs Q := by
  match a, ha, k with
  | 0, _, k => exact x_aload_n hP rfl rfl (x_getO (k := 0) (iz := 1) hP rfl rfl rfl (x_iret (x := iI 0) hP rfl rfl k))
  | 1, _, k => exact x_aload_n hP rfl rfl (x_getO (k := 4) (iz := 2) hP rfl rfl rfl (x_iret (x := iI 1) hP rfl rfl k))
  | 2, _, k => exact x_aload_n hP rfl rfl (x_getO (k := 8) (iz := 3) hP rfl rfl rfl (x_iret (x := iI 2) hP rfl rfl k))
  | 3, _, k => exact x_aload_n hP rfl rfl (x_getO (k := 12) (iz := 4) hP rfl rfl rfl (x_iret (x := iI 3) hP rfl rfl k))
  | 4, _, k => exact x_aload_n hP rfl rfl (x_getO (k := 16) (iz := 5) hP rfl rfl rfl (x_iret (x := iI 4) hP rfl rfl k))
  | 5, _, k => exact x_aload_n hP rfl rfl (x_getO (k := 20) (iz := 6) hP rfl rfl rfl (x_iret (x := iI 5) hP rfl rfl k))
  | 6, _, k => exact x_aload_n hP rfl rfl (x_getO (k := 24) (iz := 7) hP rfl rfl rfl (x_iret (x := iI 6) hP rfl rfl k))
  | 7, _, k => exact x_aload_n hP rfl rfl (x_getO (k := 28) (iz := 8) hP rfl rfl rfl (x_iret (x := iI 7) hP rfl rfl k))
  | 8, _, k => exact x_aload_n hP rfl rfl (x_getO (k := 32) (iz := 9) hP rfl rfl rfl (x_iret (x := iI 8) hP rfl rfl k))
  | 9, _, k => exact x_aload_n hP rfl rfl (x_getO (k := 36) (iz := 10) hP rfl rfl rfl (x_iret (x := iI 9) hP rfl rfl k))
  | 10, _, k => exact x_aload_n hP rfl rfl (x_getO (k := 40) (iz := 11) hP rfl rfl rfl (x_iret (x := iI 10) hP rfl rfl k))
  | 11, _, k => exact x_aload_n hP rfl rfl (x_getO (k := 44) (iz := 12) hP rfl rfl rfl (x_iret (x := iI 11) hP rfl rfl k))
  | a + 12, ha, _ => exact absurd ha (by omega)
/-- what an ACT adds -/
def actL (p : Nat → Int) (s : Nat) (H : Nat → Nat) (a k : Nat) : List Nat :=
  match a with
  | 0 => rfi (fun j => decide (p j = k)) s
  | 1 => (wl p s (rk p s k) (spn p s k)).filter (lf0 p s false)
  | 2 => (wl p s (rk p s k) (spn p s k)).filter (lf0 p s true)
  | 3 => if p k < 0 then [] else [(p k).toNat]
  | 4 => pth p 7 k
  | 5 => rfi (fun j => decide (p j = p k)) s
  | 6 => if nxS p (p k) (s - (k + 1)) (k + 1) < 0 then [] else [(nxS p (p k) (s - (k + 1)) (k + 1)).toNat]
  | 7 => if bkS p (p k) k < 0 then [] else [(bkS p (p k) k).toNat]
  | _ => rfi (fun j => decide (H j = H k)) s
theorem c_addAct (hP : x_closed E P) (hR : x_fin R) (hta : isTa t) {a k : Nat} (ha : a < 9) (hk : k < s) (hd : dm1 I t e p s H) (hkn : kn I R t e fd) (k1 : ∀ I', kn I' R t e (adds fd (actL p s H a k)) → frP (fun _ a _ => kA a) I I' → Q none (x_hp I' J R)) : P 111 (d + 3) 0 (x_la 0 [.ref 95, .ref (1000013 + a), .int (iI k)]) [] (x_hp I J R) rc rs Q := by
  have ht := isTr_of hR hta
  obtain ⟨t0, t1, t2, t3, t4, t5, t6, t7, t8, t9, t10, t11, u1, u2, u3, u4, u5, u6, u7, u8, u9, u10, u11⟩ := ht
  have hd' := hd
  obtain ⟨d0, d1, d2, d3, d4, d5, d6, d7, d8, d9⟩ := hd
  have ⟨n1, n2, n3⟩ := hkn
  have v3 : I 1 (t + 3) (32 * e + k) = iI (p k) := d6 k hk
  have v4 : I 1 (t + 4) (32 * e + k) = iI (H k : Nat) := d7 k hk
  have pr := wfp_rg d3 hk
  have h6 := d4 k hk
  first | refine x_aload_n hP rfl rfl ?_ | refine x_aload_nN hP rfl rfl ?_
  refine x_getI hP rfl (by first | assumption | rfl) (by first | assumption | exact hR _ _ _ _ rfl | exact hR1 _ _ _ _ rfl | exact hR2 _ _ _ _ rfl | rfl) ?_
  refine x_iconst hP rfl ?_
  refine x_callS2 hP 0 0 rfl rfl rfl rfl rfl (Nat.zero_le _) (Nat.zero_le _) ?_
  refine c_idOf hP (k := 0) d0 (by decide) ?_
  refine x_istore_n hP rfl ?_
  match a, ha, k1 with
  | 0, _, k1 =>
    refine x_gets hP rfl ?_
    show P _ _ _ _ [Value.ref (1000000 + 25)] _ _ _ _
    first | refine x_aload_n hP rfl rfl ?_ | refine x_aload_nN hP rfl rfl ?_
    refine x_callU (k := 12) (iz := 13) (mc := 0) (ms := 0) hP rfl rfl rfl rfl (by decide) (by decide) (Nat.zero_le _) (Nat.zero_le _) ?_
    refine c_ordA (a := 0) hP (by decide) ?_
    refine x_ialdS (k := 4) (iz := 25) hP rfl rfl (vpA (by decide)) rfl ?_
    refine x_tsw (tg := 64) hP rfl (by decide +kernel) ?_
    first | refine x_aload_n hP rfl rfl ?_ | refine x_aload_nN hP rfl rfl ?_
    refine x_iload_n hP rfl rfl ?_
    refine x_callV1 (ci := 7) hP 0 0 rfl rfl rfl (by first | assumption | rfl) rfl rfl rfl (Nat.zero_le _) (Nat.zero_le _) ?_
    refine c_addUnder hP hR hta (by omega) hd' hkn (fun I1 h1 h2 => ?_)
    refine x_goto hP rfl ?_
    refine x_vret hP rfl rfl ?_
    exact k1 I1 h1 h2
  | 1, _, k1 =>
    refine x_gets hP rfl ?_
    show P _ _ _ _ [Value.ref (1000000 + 25)] _ _ _ _
    first | refine x_aload_n hP rfl rfl ?_ | refine x_aload_nN hP rfl rfl ?_
    refine x_callU (k := 13) (iz := 14) (mc := 0) (ms := 0) hP rfl rfl rfl rfl (by decide) (by decide) (Nat.zero_le _) (Nat.zero_le _) ?_
    refine c_ordA (a := 1) hP (by decide) ?_
    refine x_ialdS (k := 4) (iz := 25) hP rfl rfl (vpA (by decide)) rfl ?_
    refine x_tsw (tg := 72) hP rfl (by decide +kernel) ?_
    first | refine x_aload_n hP rfl rfl ?_ | refine x_aload_nN hP rfl rfl ?_
    refine x_iload_n hP rfl rfl ?_
    refine x_iconst hP rfl ?_
    refine x_callV2 (ci := 7) hP 0 0 rfl rfl rfl (by first | assumption | rfl) rfl rfl rfl (Nat.zero_le _) (Nat.zero_le _) ?_
    refine c_addWalk (fl := false) hP hR hta hk hd' hkn (fun I1 h1 h2 => ?_)
    refine x_goto hP rfl ?_
    refine x_vret hP rfl rfl ?_
    exact k1 I1 h1 h2
  | 2, _, k1 =>
    refine x_gets hP rfl ?_
    show P _ _ _ _ [Value.ref (1000000 + 25)] _ _ _ _
    first | refine x_aload_n hP rfl rfl ?_ | refine x_aload_nN hP rfl rfl ?_
    refine x_callU (k := 14) (iz := 15) (mc := 0) (ms := 0) hP rfl rfl rfl rfl (by decide) (by decide) (Nat.zero_le _) (Nat.zero_le _) ?_
    refine c_ordA (a := 2) hP (by decide) ?_
    refine x_ialdS (k := 4) (iz := 25) hP rfl rfl (vpA (by decide)) rfl ?_
    refine x_tsw (tg := 81) hP rfl (by decide +kernel) ?_
    first | refine x_aload_n hP rfl rfl ?_ | refine x_aload_nN hP rfl rfl ?_
    refine x_iload_n hP rfl rfl ?_
    refine x_iconst hP rfl ?_
    refine x_callV2 (ci := 7) hP 0 0 rfl rfl rfl (by first | assumption | rfl) rfl rfl rfl (Nat.zero_le _) (Nat.zero_le _) ?_
    refine c_addWalk (fl := true) hP hR hta hk hd' hkn (fun I1 h1 h2 => ?_)
    refine x_goto hP rfl ?_
    refine x_vret hP rfl rfl ?_
    exact k1 I1 h1 h2
  | 3, _, k1 =>
    refine x_gets hP rfl ?_
    show P _ _ _ _ [Value.ref (1000000 + 25)] _ _ _ _
    first | refine x_aload_n hP rfl rfl ?_ | refine x_aload_nN hP rfl rfl ?_
    refine x_callU (k := 15) (iz := 16) (mc := 0) (ms := 0) hP rfl rfl rfl rfl (by decide) (by decide) (Nat.zero_le _) (Nat.zero_le _) ?_
    refine c_ordA (a := 3) hP (by decide) ?_
    refine x_ialdS (k := 4) (iz := 25) hP rfl rfl (vpA (by decide)) rfl ?_
    refine x_tsw (tg := 90) hP rfl (by decide +kernel) ?_
    first | refine x_aload_n hP rfl rfl ?_ | refine x_aload_nN hP rfl rfl ?_
    first | refine x_aload_n hP rfl rfl ?_ | refine x_aload_nN hP rfl rfl ?_
    refine x_getR hP rfl (by first | assumption | rfl) (by first | assumption | exact hR _ _ _ _ rfl | exact hR1 _ _ _ _ rfl | exact hR2 _ _ _ _ rfl | rfl) ?_
    refine x_getR hP rfl (by first | assumption | rfl) (by first | assumption | exact hR _ _ _ _ rfl | exact hR1 _ _ _ _ rfl | exact hR2 _ _ _ _ rfl | rfl) ?_
    refine x_iload_n hP rfl rfl ?_
    refine x_iload_n hP rfl rfl ?_
    first | refine z_iadd hP rfl ?_ | refine x_iadd hP rfl ?_
    refine z_iald hP rfl (by first | assumption | rfl) (by first | decide | omega) (by omega) (by first | assumption | exact hR _ _ _ _ rfl | exact hR1 _ _ _ _ rfl | exact hR2 _ _ _ _ rfl | rfl) ?_
    refine x_callV1 (ci := 7) hP 0 0 rfl rfl rfl (by first | assumption | rfl) rfl rfl rfl (Nat.zero_le _) (Nat.zero_le _) ?_
    refine c_addIfAny hP hR (by omega) hkn (fun I1 h1 h2 => ?_)
    refine x_goto hP rfl ?_
    refine x_vret hP rfl rfl ?_
    exact k1 I1 h1 h2
  | 4, _, k1 =>
    refine x_gets hP rfl ?_
    show P _ _ _ _ [Value.ref (1000000 + 25)] _ _ _ _
    first | refine x_aload_n hP rfl rfl ?_ | refine x_aload_nN hP rfl rfl ?_
    refine x_callU (k := 16) (iz := 17) (mc := 0) (ms := 0) hP rfl rfl rfl rfl (by decide) (by decide) (Nat.zero_le _) (Nat.zero_le _) ?_
    refine c_ordA (a := 4) hP (by decide) ?_
    refine x_ialdS (k := 4) (iz := 25) hP rfl rfl (vpA (by decide)) rfl ?_
    refine x_tsw (tg := 108) hP rfl (by decide +kernel) ?_
    first | refine x_aload_n hP rfl rfl ?_ | refine x_aload_nN hP rfl rfl ?_
    refine x_iload_n hP rfl rfl ?_
    refine x_callV1 (ci := 7) hP 0 0 rfl rfl rfl (by first | assumption | rfl) rfl rfl rfl (Nat.zero_le _) (Nat.zero_le _) ?_
    refine c_addPath hP hR hta hk hd' hkn (fun I1 h1 h2 => ?_)
    refine x_goto hP rfl ?_
    refine x_vret hP rfl rfl ?_
    exact k1 I1 h1 h2
  | 5, _, k1 =>
    refine x_gets hP rfl ?_
    show P _ _ _ _ [Value.ref (1000000 + 25)] _ _ _ _
    first | refine x_aload_n hP rfl rfl ?_ | refine x_aload_nN hP rfl rfl ?_
    refine x_callU (k := 17) (iz := 18) (mc := 0) (ms := 0) hP rfl rfl rfl rfl (by decide) (by decide) (Nat.zero_le _) (Nat.zero_le _) ?_
    refine c_ordA (a := 5) hP (by decide) ?_
    refine x_ialdS (k := 4) (iz := 25) hP rfl rfl (vpA (by decide)) rfl ?_
    refine x_tsw (tg := 116) hP rfl (by decide +kernel) ?_
    first | refine x_aload_n hP rfl rfl ?_ | refine x_aload_nN hP rfl rfl ?_
    first | refine x_aload_n hP rfl rfl ?_ | refine x_aload_nN hP rfl rfl ?_
    refine x_getR hP rfl (by first | assumption | rfl) (by first | assumption | exact hR _ _ _ _ rfl | exact hR1 _ _ _ _ rfl | exact hR2 _ _ _ _ rfl | rfl) ?_
    refine x_getR hP rfl (by first | assumption | rfl) (by first | assumption | exact hR _ _ _ _ rfl | exact hR1 _ _ _ _ rfl | exact hR2 _ _ _ _ rfl | rfl) ?_
    refine x_iload_n hP rfl rfl ?_
    refine x_iload_n hP rfl rfl ?_
    first | refine z_iadd hP rfl ?_ | refine x_iadd hP rfl ?_
    refine z_iald hP rfl (by first | assumption | rfl) (by first | decide | omega) (by omega) (by first | assumption | exact hR _ _ _ _ rfl | exact hR1 _ _ _ _ rfl | exact hR2 _ _ _ _ rfl | rfl) ?_
    refine x_callV1 (ci := 7) hP 0 0 rfl rfl rfl (by first | assumption | rfl) rfl rfl rfl (Nat.zero_le _) (Nat.zero_le _) ?_
    refine c_addUnder hP hR hta (by omega) hd' hkn (fun I1 h1 h2 => ?_)
    refine x_goto hP rfl ?_
    refine x_vret hP rfl rfl ?_
    exact k1 I1 h1 h2
  | 6, _, k1 =>
    refine x_gets hP rfl ?_
    show P _ _ _ _ [Value.ref (1000000 + 25)] _ _ _ _
    first | refine x_aload_n hP rfl rfl ?_ | refine x_aload_nN hP rfl rfl ?_
    refine x_callU (k := 18) (iz := 19) (mc := 0) (ms := 0) hP rfl rfl rfl rfl (by decide) (by decide) (Nat.zero_le _) (Nat.zero_le _) ?_
    refine c_ordA (a := 6) hP (by decide) ?_
    refine x_ialdS (k := 4) (iz := 25) hP rfl rfl (vpA (by decide)) rfl ?_
    refine x_tsw (tg := 134) hP rfl (by decide +kernel) ?_
    first | refine x_aload_n hP rfl rfl ?_ | refine x_aload_nN hP rfl rfl ?_
    first | refine x_aload_n hP rfl rfl ?_ | refine x_aload_nN hP rfl rfl ?_
    refine x_iload_n hP rfl rfl ?_
    refine x_iconst hP rfl ?_
    refine x_callV2 (ci := 7) hP 0 0 rfl rfl rfl (by first | assumption | rfl) rfl rfl rfl (Nat.zero_le _) (Nat.zero_le _) ?_
    refine c_besideN hP hR hta hk hd' hkn ?_
    have b := nxS_rg (p := p) (x := p k) (s - (k + 1)) (k + 1)
    refine x_callV1 (ci := 7) hP 0 0 rfl rfl rfl (by first | assumption | rfl) rfl rfl rfl (Nat.zero_le _) (Nat.zero_le _) ?_
    refine c_addIfAny hP hR (by omega) hkn (fun I1 h1 h2 => ?_)
    refine x_goto hP rfl ?_
    refine x_vret hP rfl rfl ?_
    exact k1 I1 h1 h2
  | 7, _, k1 =>
    refine x_gets hP rfl ?_
    show P _ _ _ _ [Value.ref (1000000 + 25)] _ _ _ _
    first | refine x_aload_n hP rfl rfl ?_ | refine x_aload_nN hP rfl rfl ?_
    refine x_callU (k := 19) (iz := 20) (mc := 0) (ms := 0) hP rfl rfl rfl rfl (by decide) (by decide) (Nat.zero_le _) (Nat.zero_le _) ?_
    refine c_ordA (a := 7) hP (by decide) ?_
    refine x_ialdS (k := 4) (iz := 25) hP rfl rfl (vpA (by decide)) rfl ?_
    refine x_tsw (tg := 147) hP rfl (by decide +kernel) ?_
    first | refine x_aload_n hP rfl rfl ?_ | refine x_aload_nN hP rfl rfl ?_
    first | refine x_aload_n hP rfl rfl ?_ | refine x_aload_nN hP rfl rfl ?_
    refine x_iload_n hP rfl rfl ?_
    refine x_iconst hP rfl ?_
    refine x_callV2 (ci := 7) hP 0 0 rfl rfl rfl (by first | assumption | rfl) rfl rfl rfl (Nat.zero_le _) (Nat.zero_le _) ?_
    refine c_besideB hP hR hta hk hd' hkn ?_
    have b := bkS_rg (p := p) (x := p k) k
    refine x_callV1 (ci := 7) hP 0 0 rfl rfl rfl (by first | assumption | rfl) rfl rfl rfl (Nat.zero_le _) (Nat.zero_le _) ?_
    refine c_addIfAny hP hR (by omega) hkn (fun I1 h1 h2 => ?_)
    refine x_goto hP rfl ?_
    refine x_vret hP rfl rfl ?_
    exact k1 I1 h1 h2
  | 8, _, k1 =>
    refine x_gets hP rfl ?_
    show P _ _ _ _ [Value.ref (1000000 + 25)] _ _ _ _
    first | refine x_aload_n hP rfl rfl ?_ | refine x_aload_nN hP rfl rfl ?_
    refine x_callU (k := 20) (iz := 21) (mc := 0) (ms := 0) hP rfl rfl rfl rfl (by decide) (by decide) (Nat.zero_le _) (Nat.zero_le _) ?_
    refine c_ordA (a := 8) hP (by decide) ?_
    refine x_ialdS (k := 4) (iz := 25) hP rfl rfl (vpA (by decide)) rfl ?_
    refine x_tsw (tg := 160) hP rfl (by decide +kernel) ?_
    first | refine x_aload_n hP rfl rfl ?_ | refine x_aload_nN hP rfl rfl ?_
    first | refine x_aload_n hP rfl rfl ?_ | refine x_aload_nN hP rfl rfl ?_
    refine x_getR hP rfl (by first | assumption | rfl) (by first | assumption | exact hR _ _ _ _ rfl | exact hR1 _ _ _ _ rfl | exact hR2 _ _ _ _ rfl | rfl) ?_
    refine x_getR hP rfl (by first | assumption | rfl) (by first | assumption | exact hR _ _ _ _ rfl | exact hR1 _ _ _ _ rfl | exact hR2 _ _ _ _ rfl | rfl) ?_
    refine x_iload_n hP rfl rfl ?_
    refine x_iload_n hP rfl rfl ?_
    first | refine z_iadd hP rfl ?_ | refine x_iadd hP rfl ?_
    refine z_iald hP rfl (by first | assumption | rfl) (by first | decide | omega) (by omega) (by first | assumption | exact hR _ _ _ _ rfl | exact hR1 _ _ _ _ rfl | exact hR2 _ _ _ _ rfl | rfl) ?_
    refine x_callV1 (ci := 7) hP 0 0 rfl rfl rfl (by first | assumption | rfl) rfl rfl rfl (Nat.zero_le _) (Nat.zero_le _) ?_
    refine c_addDeep hP hR hta h6 hd' hkn (fun I1 h1 h2 => ?_)
    refine x_vret hP rfl rfl ?_
    exact k1 I1 h1 h2
  | a + 9, ha, _ => exact absurd ha (by omega)
end
