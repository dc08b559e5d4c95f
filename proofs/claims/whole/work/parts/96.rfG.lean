/-! THE REFERENCE: a TUPLE's place; the SHEET -/
theorem rem30 {z : Nat} (h : z < 120) : iI (z : Nat) - iI (z : Nat) / iI 30 * iI 30 = iI (z % 30 : Nat) := (show ∀ z : Nat, z < 120 → iI (z : Nat) - iI (z : Nat) / iI 30 * iI 30 = iI (z % 30 : Nat) by decide +kernel) z h
theorem rq_rT {I : x_M Int32} {s : Nat} {o ts : List Nat} (h : rq I s o ts) (p w : Int) : rq (rT I p w) s o ts := rq_fr h (rT_fr I p w) fun k a i z y => by unfold rsF at z; unfold rC at y; omega
theorem fnd_map {f : Nat → Nat} {x : Nat} : ∀ (l : List Nat) (i : Nat), (∀ y ∈ l, f y = f x → y = x) → fnd (f x) (l.map f) i = fnd x l i
  | [], _, _ => rfl
  | y :: l, i, h => by
    show (if f y = f x then (i : Int) else fnd (f x) (l.map f) (i + 1)) = if y = x then (i : Int) else fnd x l (i + 1)
    rw [fnd_map l (i + 1) fun z hz => h z (List.mem_cons_of_mem _ hz)]
    by_cases q : y = x
    · rw [if_pos q, if_pos (by rw [q])]
    · rw [if_neg q, if_neg fun z => q (h y List.mem_cons_self z)]
theorem lsr_255 (x : Int64) {i : Nat} (hi : i < 8) : (x >>> ((iI (8 * i : Nat)).toInt64 &&& 63)) &&& lI 255 = lI (lb x (8 * i) : Nat) := by
  apply Int64.toBitVec_inj.1
  rw [Int64.toBitVec_and, Int64.toBitVec_shiftRight]
  have e1 : ∀ z : Nat, (lI z).toBitVec = BitVec.ofNat 64 z := fun z => by
    have : lI z = Int64.ofNat z := Int64.ofInt_eq_ofNat
    rw [this]; rfl
  have dec : ∀ i, i < 8 → (((iI (8 * i : Nat)).toInt64 &&& 63).toBitVec.smod 64).toNat = 8 * i := by decide +kernel
  show x.toBitVec.sshiftRight ((((iI (8 * i : Nat)).toInt64 &&& 63).toBitVec.smod 64).toNat) &&& (lI (255 : Nat)).toBitVec = _
  rw [dec i hi, e1, e1]
  apply BitVec.eq_of_getLsbD_eq
  intro j hj
  rw [BitVec.getLsbD_and, BitVec.getLsbD_sshiftRight, BitVec.getLsbD_ofNat, BitVec.getLsbD_ofNat]
  unfold lb bn
  rw [show (255 : Nat) = 2 ^ 8 - 1 from rfl, show (256 : Nat) = 2 ^ 8 from rfl, Nat.testBit_mod_two_pow, Nat.testBit_shiftRight, Nat.testBit_two_pow_sub_one]
  by_cases h8 : j < 8
  · rw [if_pos (show 8 * i + j < 64 by omega), decide_eq_false (show ¬ 64 ≤ j by omega), decide_eq_true h8, decide_eq_true hj]
    show ((!false && x.toBitVec.toNat.testBit (8 * i + j)) && (true && true)) = (true && (true && x.toBitVec.toNat.testBit (8 * i + j)))
    cases x.toBitVec.toNat.testBit (8 * i + j) <;> rfl
  · simp [h8]
theorem lI_z {z : Nat} (h : z < 256) : lI (z : Nat) = lI 0 ↔ z = 0 := (show ∀ z : Nat, z < 256 → (lI (z : Nat) = lI 0 ↔ z = 0) by decide +kernel) z h
theorem l2i_z {z : Nat} (h : z < 256) : (lI (z : Nat)).toInt32 = iI z := (show ∀ z : Nat, z < 256 → (lI (z : Nat)).toInt32 = iI z by decide +kernel) z h
section
variable {E : x_E} {P : x_Pr} {d rc rs : Nat} {I : x_M Int32} {J : x_M Int64} {R : x_M (Option Nat)} {Q : x_Q} {S : x_St} {T : x_T} {n : Nat} {c : Nat → Nat} {ol l : List Nat}
theorem r_pl116 (hP : x_closed E P) (hR : x_fin R) {q e : Nat} (he : e < 3000) (k : Q (some (.int (iI (-1000 - e)))) (x_hp (rT I q e) J R)) : ∀ L r1 r2, x_ag L 0 [some (.ref 122)] → P 213 (d + 4) 116 L [] (x_hp (rT I q e) J R) r1 r2 Q := by
  intro L r1 r2 hL
  refine x_re hP _ hL ?_
  have g : rT I q e 1581 122 0 = iI e := rfl
  first | refine x_aload_n hP rfl rfl ?_ | refine x_aload_nN hP rfl rfl ?_
  refine x_callV0 (ci := 9) hP 0 0 rfl rfl rfl (by first | assumption | rfl) rfl rfl rfl (Nat.zero_le _) (Nat.zero_le _) ?_
  refine r_badB hP (by omega) ?_
  first | refine zb_if_eq hP rfl (fun c120 => ?_) (fun c120 => ?_) | refine zl_if_eq hP rfl (fun c120 => ?_) (fun c120 => ?_) | refine z_if_eq hP rfl (by omega) (fun c120 => ?_) (fun c120 => ?_)
  · cases c120
  refine x_sipush hP rfl ?_
  first | refine x_aload_n hP rfl rfl ?_ | refine x_aload_nN hP rfl rfl ?_
  refine x_getI hP rfl (by first | assumption | rfl) (by first | assumption | exact hR _ _ _ _ rfl | exact hR1 _ _ _ _ rfl | exact hR2 _ _ _ _ rfl | rfl) ?_
  first | refine z_isub hP rfl ?_ | refine x_isub hP rfl ?_
  refine x_iret hP rfl rfl ?_
  exact k
theorem r_pl90 (hP : x_closed E P) (hR : x_fin R) {q e : Nat} (he : e < 3000) (k : Q (some (.int (iI (-1000 - e)))) (x_hp (rT I q e) J R)) : ∀ L r1 r2, x_ag L 0 [some (.ref 122)] → P 213 (d + 4) 90 L [] (x_hp (rT I q e) J R) r1 r2 Q := by
  intro L r1 r2 hL
  refine x_re hP _ hL ?_
  first | refine x_aload_n hP rfl rfl ?_ | refine x_aload_nN hP rfl rfl ?_
  refine x_callV0 (ci := 9) hP 0 0 rfl rfl rfl (by first | assumption | rfl) rfl rfl rfl (Nat.zero_le _) (Nat.zero_le _) ?_
  refine r_badB hP (by omega) ?_
  first | refine zb_if_ne hP rfl (fun c94 => ?_) (fun c94 => ?_) | refine zl_if_ne hP rfl (fun c94 => ?_) (fun c94 => ?_) | refine z_if_ne hP rfl (by omega) (fun c94 => ?_) (fun c94 => ?_)
  rotate_left
  · cases c94
  exact r_pl116 hP hR he k _ _ _ ⟨rfl, trivial⟩
theorem r_pl8 (hP : x_closed E P) (hR : x_fin R) {q e : Nat} {i : Int} (hi : 0 ≤ i ∧ i ≤ 5) (ho : I 1 141 0 = iI ol.length) (h4 : ol.length ≤ 4) (he : e < 3000) (k : Q (some (.int (iI (-1000 - e)))) (x_hp (rT I q e) J R)) : ∀ L r1 r2, x_ag L 0 [some (.ref 122), none, some (.int (iI i))] → P 213 (d + 4) 8 L [] (x_hp (rT I q e) J R) r1 r2 Q := by
  intro L r1 r2 hL
  refine x_re hP _ hL ?_
  have g : rT I q e 1 141 0 = iI ol.length := ho
  refine x_iload_n hP rfl rfl ?_
  first | refine x_aload_n hP rfl rfl ?_ | refine x_aload_nN hP rfl rfl ?_
  refine x_getR hP rfl (by first | assumption | rfl) (by first | assumption | exact hR _ _ _ _ rfl | exact hR1 _ _ _ _ rfl | exact hR2 _ _ _ _ rfl | rfl) ?_
  refine x_iconst hP rfl ?_
  refine z_iald hP rfl (by first | assumption | rfl) (by first | decide | omega) (by omega) (by first | assumption | exact hR _ _ _ _ rfl | exact hR1 _ _ _ _ rfl | exact hR2 _ _ _ _ rfl | rfl) ?_
  refine z_icmp_ge hP rfl (by omega) (by omega) (fun c15 => ?_) (fun c15 => ?_)
  · exact r_pl90 hP hR he k _ _ _ ⟨rfl, trivial⟩
  first | refine x_aload_n hP rfl rfl ?_ | refine x_aload_nN hP rfl rfl ?_
  refine x_callV0 (ci := 9) hP 0 0 rfl rfl rfl (by first | assumption | rfl) rfl rfl rfl (Nat.zero_le _) (Nat.zero_le _) ?_
  refine r_badB hP (by omega) ?_
  first | refine zb_if_ne hP rfl (fun c22 => ?_) (fun c22 => ?_) | refine zl_if_ne hP rfl (fun c22 => ?_) (fun c22 => ?_) | refine z_if_ne hP rfl (by omega) (fun c22 => ?_) (fun c22 => ?_)
  · exact r_pl90 hP hR he k _ _ _ ⟨rfl, trivial⟩
  · cases c22
theorem r_pl72 (hP : x_closed E P) (hR : x_fin R) {q e : Nat} {i : Nat} (hi : i < 5) {x y : Int32} (ho : I 1 141 0 = iI ol.length) (h4 : ol.length ≤ 4) (he : e < 3000) (k : Q (some (.int (iI (-1000 - e)))) (x_hp (rT I q e) J R)) : ∀ L r1 r2, x_ag L 0 [some (.ref 122), some (.int x), some (.int (iI i)), none, some (.int y)] → P 213 (d + 4) 72 L [] (x_hp (rT I q e) J R) r1 r2 Q := by
  intro L r1 r2 hL
  refine x_re hP _ hL ?_
  refine x_iload_n hP rfl rfl ?_
  refine x_iload hP rfl rfl ?_
  refine x_bipush hP rfl ?_
  refine x_irem hP rfl (by decide) ?_
  refine x_iconst hP rfl ?_
  refine x_iload_n hP rfl rfl ?_
  first | refine z_imul hP rfl ?_ | refine x_imul hP rfl ?_
  refine x_ishl hP rfl ?_
  refine x_ior hP rfl ?_
  refine x_istore_n hP rfl ?_
  refine z_iinc hP rfl rfl rfl ?_
  refine x_goto hP rfl ?_
  exact r_pl8 (i := (i : Int) + 1) hP hR (by omega) ho h4 he k _ _ _ ⟨rfl, rfl, trivial⟩
theorem r_pl46 (hP : x_closed E P) (hR : x_fin R) {q e : Nat} {i : Nat} (hi : i < 5) {x y : Int32} (ho : I 1 141 0 = iI ol.length) (h4 : ol.length ≤ 4) (he : e < 3000) (k : Q (some (.int (iI (-1000 - e)))) (x_hp (rT I q e) J R)) : ∀ L r1 r2, x_ag L 0 [some (.ref 122), some (.int x), some (.int (iI i)), none, some (.int y)] → P 213 (d + 4) 46 L [] (x_hp (rT I q e) J R) r1 r2 Q := by
  intro L r1 r2 hL
  refine x_re hP _ hL ?_
  first | refine x_aload_n hP rfl rfl ?_ | refine x_aload_nN hP rfl rfl ?_
  refine x_callV0 (ci := 9) hP 0 0 rfl rfl rfl (by first | assumption | rfl) rfl rfl rfl (Nat.zero_le _) (Nat.zero_le _) ?_
  refine r_badB hP (by omega) ?_
  first | refine zb_if_ne hP rfl (fun c50 => ?_) (fun c50 => ?_) | refine zl_if_ne hP rfl (fun c50 => ?_) (fun c50 => ?_) | refine z_if_ne hP rfl (by omega) (fun c50 => ?_) (fun c50 => ?_)
  rotate_left
  · cases c50
  exact r_pl72 hP hR hi ho h4 he k _ _ _ ⟨rfl, rfl, rfl, rfl, trivial⟩
theorem r_pl35 (hP : x_closed E P) (hR : x_fin R) {q e : Nat} {i : Nat} (hi : i < 5) {x : Int32} (ho : I 1 141 0 = iI ol.length) (h4 : ol.length ≤ 4) (he : e < 3000) (k : Q (some (.int (iI (-1000 - e)))) (x_hp (rT I q e) J R)) : ∀ L r1 r2, x_ag L 0 [some (.ref 122), some (.int x), some (.int (iI i))] → P 213 (d + 4) 35 L [] (x_hp (rT I q e) J R) r1 r2 Q := by
  intro L r1 r2 hL
  refine x_re hP _ hL ?_
  have g : rT I q e 1580 122 0 = iI q := rfl
  first | refine x_aload_n hP rfl rfl ?_ | refine x_aload_nN hP rfl rfl ?_
  refine x_getI hP rfl (by first | assumption | rfl) (by first | assumption | exact hR _ _ _ _ rfl | exact hR1 _ _ _ _ rfl | exact hR2 _ _ _ _ rfl | rfl) ?_
  refine x_istore_n hP rfl ?_
  first | refine x_aload_n hP rfl rfl ?_ | refine x_aload_nN hP rfl rfl ?_
  refine x_callV0 (ci := 9) hP 0 0 rfl rfl rfl (by first | assumption | rfl) rfl rfl rfl (Nat.zero_le _) (Nat.zero_le _) ?_
  refine r_member0B hP (by omega) ?_
  refine x_istore hP rfl ?_
  exact r_pl46 hP hR hi ho h4 he k _ _ _ ⟨rfl, rfl, rfl, rfl, trivial⟩
theorem r_plF (hP : x_closed E P) (hR : x_fin R) {ts : List Nat} (hm : I 1 140 0 = iI ts.length) (hl : ts.length ≤ 200) (ht : ∀ i, i < ts.length → I 1 139 i = iI (ts.getD i 0)) (hb : ∀ t ∈ ts, t < 1048576) {x : Nat} (hx : x < 1048576) : ∀ (f i : Nat), i + f = ts.length → Q (some (.int (iI (fnd x (ts.drop i) i)))) (x_hp I J R) → ∀ rc rs, P 213 (d + 4) 134 (x_ls [some (.ref 122), some (.int (iI x)), some (.int (iI i))]) [] (x_hp I J R) rc rs Q := by
  intro f
  induction f with
  | zero =>
    intro i hi k rc rs
    rw [drop_all (by omega)] at k
    refine x_iload_n hP rfl rfl ?_
    first | refine x_aload_n hP rfl rfl ?_ | refine x_aload_nN hP rfl rfl ?_
    refine x_getR hP rfl (by first | assumption | rfl) (by first | assumption | exact hR _ _ _ _ rfl | exact hR1 _ _ _ _ rfl | exact hR2 _ _ _ _ rfl | rfl) ?_
    refine x_iconst hP rfl ?_
    refine z_iald hP rfl (by first | assumption | rfl) (by first | decide | omega) (by omega) (by first | assumption | exact hR _ _ _ _ rfl | exact hR1 _ _ _ _ rfl | exact hR2 _ _ _ _ rfl | rfl) ?_
    refine z_icmp_ge hP rfl (by omega) (by omega) (fun c141 => ?_) (fun c141 => ?_)
    · refine x_iconst hP rfl ?_
      refine x_iret hP rfl rfl ?_
      exact k
    · omega
  | succ f ih =>
    intro i hi k rc rs
    have hlt : i < ts.length := by omega
    have v := ht i hlt
    have b := hb _ (getD_mem hlt)
    rw [dropc hlt] at k
    unfold fnd at k
    refine x_iload_n hP rfl rfl ?_
    first | refine x_aload_n hP rfl rfl ?_ | refine x_aload_nN hP rfl rfl ?_
    refine x_getR hP rfl (by first | assumption | rfl) (by first | assumption | exact hR _ _ _ _ rfl | exact hR1 _ _ _ _ rfl | exact hR2 _ _ _ _ rfl | rfl) ?_
    refine x_iconst hP rfl ?_
    refine z_iald hP rfl (by first | assumption | rfl) (by first | decide | omega) (by omega) (by first | assumption | exact hR _ _ _ _ rfl | exact hR1 _ _ _ _ rfl | exact hR2 _ _ _ _ rfl | rfl) ?_
    refine z_icmp_ge hP rfl (by omega) (by omega) (fun c141 => ?_) (fun c141 => ?_)
    · omega
    first | refine x_aload_n hP rfl rfl ?_ | refine x_aload_nN hP rfl rfl ?_
    refine x_getR hP rfl (by first | assumption | rfl) (by first | assumption | exact hR _ _ _ _ rfl | exact hR1 _ _ _ _ rfl | exact hR2 _ _ _ _ rfl | rfl) ?_
    refine x_iload_n hP rfl rfl ?_
    refine z_iald hP rfl (by first | assumption | rfl) (by first | decide | omega) (by omega) (by first | assumption | exact hR _ _ _ _ rfl | exact hR1 _ _ _ _ rfl | exact hR2 _ _ _ _ rfl | rfl) ?_
    refine x_iload_n hP rfl rfl ?_
    first | refine z_icmp_ne hP rfl (by omega) (by omega) (fun c151 => ?_) (fun c151 => ?_) | refine x_icmp_ne hP rfl (fun c151 => ?_) (fun c151 => ?_)
    · rw [if_neg (by omega)] at k
      refine z_iinc hP rfl rfl rfl ?_
      refine x_goto hP rfl ?_
      exact x_re hP [some (.ref 122), some (.int (iI x)), some (.int (iI (i + 1 : Nat)))] ⟨rfl, rfl, rfl, trivial⟩ (ih (i + 1) (by omega) k _ _)
    · rw [if_pos (by omega)] at k
      refine x_iload_n hP rfl rfl ?_
      refine x_iret hP rfl rfl ?_
      exact k
theorem r_place_loop (hP : x_closed E P) (hR : x_fin R) (t1 : txB I n c) (hr : rTr I J T) (h0 : r0 I (ol, l)) (hn : ol = [] → l = []) (hnd : ol.Nodup) (hv : ∀ x ∈ l, vt T ol x) : ∀ (o2 o1 : List Nat) (p x : Nat), ol = o1 ++ o2 → p ≤ n → vt T o1 x → (match (match plL T c n o1.length o2 p x with | .inl e => .inl e | .inr (x, q) => if q = n then .inr x else .inl q : Nat ⊕ Nat) with
    | .inl e => ∀ q : Nat, Q (some (.int (iI (-1000 - e)))) (x_hp (rT I q e) J R)
    | .inr y => ∀ q : Nat, Q (some (.int (iI (fnd y l 0)))) (x_hp (rT I q (-1)) J R)) → ∀ rc rs, P 213 (d + 4) 8 (x_ls [some (.ref 122), some (.int (iI (rfE o1 x))), some (.int (iI o1.length)), none, none]) [] (x_hp (rT I p (-1)) J R) rc rs Q := by
  have ⟨a1, a2, a3, a4, a5⟩ := h0
  have a1 : I 1 140 0 = iI l.length := a1
  have a2 : I 1 141 0 = iI ol.length := a2
  have a3 : l.length ≤ 200 := a3
  have a4 : ol.length ≤ 4 := a4
  have hn2 := t1.2.1
  have c256 := t1.2.2.1
  have hw := hr.2.2.2.2.2
  have w1 := hw.1
  intro o2
  induction o2 with
  | nil =>
    intro o1 p x ho hp hx k rc rs
    rw [List.append_nil] at ho
    rw [← ho] at hx k ⊢
    unfold plL at k
    dsimp only at k
    have g1 : rT I p (-1) 1 141 0 = iI ol.length := a2
    have s1 : rT I p (-1) 1580 122 0 = iI p := rfl
    have s2 : rT I p (-1) 1579 122 0 = iI n := t1.1
    refine x_iload_n hP rfl rfl ?_
    first | refine x_aload_n hP rfl rfl ?_ | refine x_aload_nN hP rfl rfl ?_
    refine x_getR hP rfl (by first | assumption | rfl) (by first | assumption | exact hR _ _ _ _ rfl | exact hR1 _ _ _ _ rfl | exact hR2 _ _ _ _ rfl | rfl) ?_
    refine x_iconst hP rfl ?_
    refine z_iald hP rfl (by first | assumption | rfl) (by first | decide | omega) (by omega) (by first | assumption | exact hR _ _ _ _ rfl | exact hR1 _ _ _ _ rfl | exact hR2 _ _ _ _ rfl | rfl) ?_
    refine z_icmp_ge hP rfl (by omega) (by omega) (fun c15 => ?_) (fun c15 => ?_)
    rotate_left
    · omega
    first | refine x_aload_n hP rfl rfl ?_ | refine x_aload_nN hP rfl rfl ?_
    refine x_callV0 (ci := 9) hP 0 0 rfl rfl rfl (by first | assumption | rfl) rfl rfl rfl (Nat.zero_le _) (Nat.zero_le _) ?_
    refine r_badO hP ?_
    first | refine zb_if_ne hP rfl (fun c94 => ?_) (fun c94 => ?_) | refine zl_if_ne hP rfl (fun c94 => ?_) (fun c94 => ?_) | refine z_if_ne hP rfl (by omega) (fun c94 => ?_) (fun c94 => ?_)
    · cases c94
    first | refine x_aload_n hP rfl rfl ?_ | refine x_aload_nN hP rfl rfl ?_
    refine x_getI hP rfl (by first | assumption | rfl) (by first | assumption | exact hR _ _ _ _ rfl | exact hR1 _ _ _ _ rfl | exact hR2 _ _ _ _ rfl | rfl) ?_
    first | refine x_aload_n hP rfl rfl ?_ | refine x_aload_nN hP rfl rfl ?_
    refine x_getI hP rfl (by first | assumption | rfl) (by first | assumption | exact hR _ _ _ _ rfl | exact hR1 _ _ _ _ rfl | exact hR2 _ _ _ _ rfl | rfl) ?_
    refine z_icmp_ge hP rfl (by omega) (by omega) (fun c105 => ?_) (fun c105 => ?_)
    · rw [if_pos (show p = n by omega)] at k
      first | refine x_aload_n hP rfl rfl ?_ | refine x_aload_nN hP rfl rfl ?_
      refine x_callV0 (ci := 9) hP 0 0 rfl rfl rfl (by first | assumption | rfl) rfl rfl rfl (Nat.zero_le _) (Nat.zero_le _) ?_
      refine r_badO hP ?_
      first | refine zb_if_eq hP rfl (fun c120 => ?_) (fun c120 => ?_) | refine zl_if_eq hP rfl (fun c120 => ?_) (fun c120 => ?_) | refine z_if_eq hP rfl (by omega) (fun c120 => ?_) (fun c120 => ?_)
      rotate_left
      · cases c120
      refine x_iconst hP rfl ?_
      refine x_istore_n hP rfl ?_
      have ml : (l.map (rfE ol)).length = l.length := List.length_map _
      refine x_re hP [some (.ref 122), some (.int (iI (rfE ol x))), some (.int (iI (0 : Nat)))] ⟨rfl, rfl, rfl, trivial⟩ (r_plF (ts := l.map (rfE ol)) hP hR (by rw [ml]; exact a1) (by rw [ml]; exact a3) (fun i hi => ?_) (fun t ht => ?_) (rfE_20 x a4) l.length 0 (by rw [ml]; omega) ?_ _ _)
      · have ne : ¬ ol = [] := fun z => by rw [hn z] at hi; exact absurd hi (Nat.not_lt_zero _)
        have := (rq_rT (a5 ne) p (-1)).2.2.2.2.2.2.1 i hi
        rw [show 201 * 0 + i = i by omega] at this
        exact this
      · obtain ⟨y, y1, rfl⟩ := List.mem_map.mp ht
        exact rfE_20 y a4
      · rw [List.drop_zero, fnd_map l 0 fun y hy e => rfE_inj (hv y hy) hx e]
        exact k p
    · rw [if_neg (show ¬ p = n by omega)] at k
      first | refine x_aload_n hP rfl rfl ?_ | refine x_aload_nN hP rfl rfl ?_
      first | refine x_aload_n hP rfl rfl ?_ | refine x_aload_nN hP rfl rfl ?_
      refine x_getI hP rfl (by first | assumption | rfl) (by first | assumption | exact hR _ _ _ _ rfl | exact hR1 _ _ _ _ rfl | exact hR2 _ _ _ _ rfl | rfl) ?_
      refine x_callV1 (ci := 9) hP 0 0 rfl rfl rfl (by first | assumption | rfl) rfl rfl rfl (Nat.zero_le _) (Nat.zero_le _) ?_
      refine r_failO hP ?_
      exact r_pl116 hP hR (by omega) (k _) _ _ _ ⟨rfl, trivial⟩
  | cons e o2 ih =>
    intro o1 p x ho hp hx k rc rs
    have hl : o1.length < ol.length := by rw [ho, List.length_append, List.length_cons]; omega
    have ne : ¬ ol = [] := fun z => by rw [z] at hl; exact absurd hl (Nat.not_lt_zero _)
    have ge : ol.getD o1.length 0 = e := by rw [ho, getD_app2 (Nat.le_refl _), Nat.sub_self]; rfl
    have nd : ¬ e ∈ o1 := fun z => by
      rw [ho] at hnd
      exact (List.nodup_append.mp hnd).2.2 e z e List.mem_cons_self rfl
    have rq5 := a5 ne
    have rq5 : rq I 0 ol (l.map (rfE ol)) := rq5
    have r20 := rfE_20 x (show o1.length ≤ 4 by omega)
    have g1 : rT I p (-1) 1 141 0 = iI ol.length := a2
    unfold plL at k
    have mid : ∀ p2 : Nat, p2 ≤ n → (if 0 < o1.length then p + 1 else p) = p2 → ¬ (0 < o1.length ∧ ¬ ch c n p = 46) → ∀ L r1 r2, x_ag L 0 [some (.ref 122), some (.int (iI (rfE o1 x))), some (.int (iI o1.length))] → P 213 (d + 4) 35 L [] (x_hp (rT I p2 (-1)) J R) r1 r2 Q := by
      intro p2 hp2 he2 hno L r1 r2 hL
      refine x_re hP _ hL ?_
      rw [if_neg hno, he2] at k
      have s1 : rT I p2 (-1) 1580 122 0 = iI p2 := rfl
      first | refine x_aload_n hP rfl rfl ?_ | refine x_aload_nN hP rfl rfl ?_
      refine x_getI hP rfl (by first | assumption | rfl) (by first | assumption | exact hR _ _ _ _ rfl | exact hR1 _ _ _ _ rfl | exact hR2 _ _ _ _ rfl | rfl) ?_
      refine x_istore_n hP rfl ?_
      first | refine x_aload_n hP rfl rfl ?_ | refine x_aload_nN hP rfl rfl ?_
      refine x_callV0 (ci := 9) hP 0 0 rfl rfl rfl (by first | assumption | rfl) rfl rfl rfl (Nat.zero_le _) (Nat.zero_le _) ?_
      refine r_member0 (p := p2) hP hR t1 hr hp2 ?_
      have eb := fun e h => memR_e (T := T) (c := c) (n := n) (p := p2) (e := e) hp2 h
      have rg := fun a b q h => memR_rg (T := T) (c := c) (n := n) (p := p2) (a := a) (b := b) (q := q) c256 hp2 h
      generalize memR T c n p2 = om at k eb rg ⊢
      match om, k, eb, rg with
      | .inl e2, k, eb, _ =>
        have eb := eb e2 rfl
        intro q v ⟨z, hz⟩
        rw [hz]
        refine x_istore hP rfl ?_
        exact r_pl46 hP hR (by omega) a2 a4 (by omega) (k _) _ _ _ ⟨rfl, rfl, rfl, rfl, trivial⟩
      | .inr ((e2, z), q), k2, _, rg =>
        have ⟨f1, f2, f3, f4⟩ := rg e2 z q rfl
        have w3 := (hw.2.2 e2 f3).2.1
        dsimp only at k2
        show P _ _ _ _ (Value.int (iI (30 * e2 + z : Nat)) :: _) _ _ _ _
        refine x_istore hP rfl ?_
        first | refine x_aload_n hP rfl rfl ?_ | refine x_aload_nN hP rfl rfl ?_
        refine x_callV0 (ci := 9) hP 0 0 rfl rfl rfl (by first | assumption | rfl) rfl rfl rfl (Nat.zero_le _) (Nat.zero_le _) ?_
        refine r_badO hP ?_
        first | refine zb_if_ne hP rfl (fun c50 => ?_) (fun c50 => ?_) | refine zl_if_ne hP rfl (fun c50 => ?_) (fun c50 => ?_) | refine z_if_ne hP rfl (by omega) (fun c50 => ?_) (fun c50 => ?_)
        · cases c50
        refine x_iload hP rfl rfl ?_
        refine x_bipush hP rfl ?_
        refine x_idiv hP rfl (by decide) ?_
        rw [div30 (by omega), show (30 * e2 + z) / 30 = e2 by omega]
        first | refine x_aload_n hP rfl rfl ?_ | refine x_aload_nN hP rfl rfl ?_
        refine x_iconst hP rfl ?_
        refine x_iload_n hP rfl rfl ?_
        refine x_callV2 (ci := 9) hP 0 0 rfl rfl rfl (by first | assumption | rfl) rfl rfl rfl (Nat.zero_le _) (Nat.zero_le _) ?_
        refine r_dimension hP hR (by decide) (rq_rT rq5 _ _) hl ?_
        rw [ge]
        have e4 := rq5.2.2.2.2.2.1 e (by rw [ho]; exact List.mem_append_right _ List.mem_cons_self)
        first | refine z_icmp_eq hP rfl (by omega) (by omega) (fun c64 => ?_) (fun c64 => ?_) | refine x_icmp_eq hP rfl (fun c64 => ?_) (fun c64 => ?_)
        · have ee : e2 = e := by omega
          rw [if_pos ee] at k2
          subst ee
          refine x_iload_n hP rfl rfl ?_
          refine x_iload hP rfl rfl ?_
          refine x_bipush hP rfl ?_
          refine x_irem hP rfl (by decide) ?_
          rw [rem30 (by omega), show (30 * e2 + z) % 30 = z by omega]
          refine x_iconst hP rfl ?_
          refine x_iload_n hP rfl rfl ?_
          first | refine z_imul hP rfl ?_ | refine x_imul hP rfl ?_
          rw [show 5 * (o1.length : Int) = ((5 * o1.length : Nat) : Int) by omega]
          refine x_ishl hP rfl ?_
          rw [iI_shl _ _ (by omega)]
          refine x_ior hP rfl ?_
          have z32 : z < 32 := by omega
          have pe := pt_tp (d := e2) (k := z) e4 z32
          have px : pt x e2 = 0 := hx.2.2 e2 e4 nd
          have key : rfE o1 x ||| z <<< (5 * o1.length) = rfE (o1 ++ [e2]) (x ||| tp e2 z) := by
            rw [← rfE_app o1 [e2] x (tp e2 z) (x ||| tp e2 z) (fun y hy => ?_) (fun y hy => ?_)]
            · show _ = _ ||| (pt (tp e2 z) e2 + 32 * 0) <<< _
              rw [pe]; rfl
            · have y4 := rq5.2.2.2.2.2.1 y (by rw [ho]; exact List.mem_append_left _ hy)
              rw [pt_or, pt_tp_ne e4 y4 z32 (fun q => nd (by rw [q]; exact hy)), Nat.or_zero]
            · rw [List.mem_singleton.mp hy, pt_or, px, Nat.zero_or]
          rw [iI_or, key]
          refine x_istore_n hP rfl ?_
          refine z_iinc hP rfl rfl rfl ?_
          refine x_goto hP rfl ?_
          have ll : (o1 ++ [e2]).length = o1.length + 1 := by rw [List.length_append]; rfl
          refine x_re hP [some (.ref 122), some (.int (iI (rfE (o1 ++ [e2]) (x ||| tp e2 z)))), some (.int (iI (o1 ++ [e2]).length)), none, none] ⟨rfl, rfl, by rw [ll]; rfl, trivial⟩ (ih (o1 ++ [e2]) q (x ||| tp e2 z) (by rw [ho, List.append_assoc]; rfl) f2 ?_ (by rw [ll]; exact k2) _ _)
          refine vt_or (T := T) (o := o1) (o2 := [e2]) (fun y hy => rq5.2.2.2.2.2.1 y (by rw [ho]; exact List.mem_append_left _ hy)) (fun y hy => by rw [List.mem_singleton.mp hy]; exact e4) hx (vt_one e4 f4 w3) (fun y hy z => nd (by rw [← List.mem_singleton.mp z]; exact hy))
        · have ee : ¬ e2 = e := by omega
          rw [if_neg ee] at k2
          first | refine x_aload_n hP rfl rfl ?_ | refine x_aload_nN hP rfl rfl ?_
          refine x_iload_n hP rfl rfl ?_
          refine x_callV1 (ci := 9) hP 0 0 rfl rfl rfl (by first | assumption | rfl) rfl rfl rfl (Nat.zero_le _) (Nat.zero_le _) ?_
          refine r_failO hP ?_
          exact r_pl72 (e := p2) hP hR (by omega) a2 a4 (by omega) (k2 _) _ _ _ ⟨rfl, rfl, rfl, rfl, trivial⟩
    refine x_iload_n hP rfl rfl ?_
    first | refine x_aload_n hP rfl rfl ?_ | refine x_aload_nN hP rfl rfl ?_
    refine x_getR hP rfl (by first | assumption | rfl) (by first | assumption | exact hR _ _ _ _ rfl | exact hR1 _ _ _ _ rfl | exact hR2 _ _ _ _ rfl | rfl) ?_
    refine x_iconst hP rfl ?_
    refine z_iald hP rfl (by first | assumption | rfl) (by first | decide | omega) (by omega) (by first | assumption | exact hR _ _ _ _ rfl | exact hR1 _ _ _ _ rfl | exact hR2 _ _ _ _ rfl | rfl) ?_
    refine z_icmp_ge hP rfl (by omega) (by omega) (fun c15 => ?_) (fun c15 => ?_)
    · omega
    first | refine x_aload_n hP rfl rfl ?_ | refine x_aload_nN hP rfl rfl ?_
    refine x_callV0 (ci := 9) hP 0 0 rfl rfl rfl (by first | assumption | rfl) rfl rfl rfl (Nat.zero_le _) (Nat.zero_le _) ?_
    refine r_badO hP ?_
    first | refine zb_if_ne hP rfl (fun c22 => ?_) (fun c22 => ?_) | refine zl_if_ne hP rfl (fun c22 => ?_) (fun c22 => ?_) | refine z_if_ne hP rfl (by omega) (fun c22 => ?_) (fun c22 => ?_)
    · cases c22
    refine x_iload_n hP rfl rfl ?_
    refine z_if_le hP rfl (by omega) (fun c26 => ?_) (fun c26 => ?_)
    · exact mid p hp (if_neg (by omega)) (by omega) _ _ _ ⟨rfl, rfl, rfl, trivial⟩
    first | refine x_aload_n hP rfl rfl ?_ | refine x_aload_nN hP rfl rfl ?_
    refine x_bipush hP rfl ?_
    refine x_callV1 (ci := 9) hP 0 0 rfl rfl rfl (by first | assumption | rfl) rfl rfl rfl (Nat.zero_le _) (Nat.zero_le _) ?_
    refine r_needO hP hR t1 hp (by decide) (fun z1 z2 => ?_) (fun z1 => ?_)
    · exact mid (p + 1) (by omega) (if_pos (by omega)) (fun z => z.2 z1) _ _ _ ⟨rfl, rfl, rfl, trivial⟩
    · rw [if_pos ⟨by omega, z1⟩] at k
      exact r_pl35 (e := p) hP hR (by omega) a2 a4 (by omega) (k _) _ _ _ ⟨rfl, rfl, rfl, trivial⟩
theorem vt_nil (T : x_T) : vt T [] 0 := ⟨by decide, fun e he => absurd he List.not_mem_nil, fun e _ _ => by unfold pt; rw [Nat.zero_shiftRight]⟩
theorem r_place (hP : x_closed E P) (hR : x_fin R) (hg : gS S) (hc : rfI I J S) (k : ∀ I', rfI I' J (spPlace S).2 → frP (fun _ a _ => hh a) I I' → Q (some (.int (iI (spPlace S).1))) (x_hp I' J R)) : P 213 (d + 4) 0 (x_la 0 [.ref 122]) [] (x_hp I J R) rc rs Q := by
  first | refine x_aload_n hP rfl rfl ?_ | refine x_aload_nN hP rfl rfl ?_
  refine x_callV0 (ci := 9) hP 0 0 rfl rfl rfl (by first | assumption | rfl) rfl rfl rfl (Nat.zero_le _) (Nat.zero_le _) ?_
  refine r_take hP hR hc.1 (fun I1 t1 t2 t3 t4 t5 => ?_)
  have hc1 : rfI I1 J (cutS S 0) := rfI_cut hc t2 t5
  have hf1 : frP (fun _ a _ => hh a) I I1 := frP_mono t5 fun _ _ _ => rK_hh
  have k : ∀ q e : Int, Q (some (.int (iI (spPlace S).1))) (x_hp (rT I1 q e) J R) := fun q e => k _ (rfI_rT hc1 q e) (frP_trans hf1 (frP_mono (rT_frW I1 q e) fun _ _ _ => rW_hh))
  have hv : (∀ x ∈ (sV S).2, vt (zT (sZ S)) (sV S).1 x) ∧ (sV S).1.Nodup ∧ ((sV S).1 = [] → (sV S).2 = []) := by
    rcases hg.2.1 with q | q
    · rw [q]
      exact ⟨fun x hx => absurd hx List.not_mem_nil, List.nodup_nil, fun _ => rfl⟩
    · exact ⟨q.2, q.1.2.1, fun z => absurd z q.1.1⟩
  refine x_iconst hP rfl ?_
  refine x_istore_n hP rfl ?_
  refine x_iconst hP rfl ?_
  refine x_istore_n hP rfl ?_
  unfold spPlace plR at k
  dsimp only at k
  rw [← t4]
  refine x_re hP [some (.ref 122), some (.int (iI (rfE [] 0))), some (.int (iI ([] : List Nat).length)), none, none] ⟨rfl, rfl, rfl, trivial⟩ (r_place_loop (ol := (sV S).1) (l := (sV S).2) hP hR t1 hc1.2.1 hc1.2.2.2.2.1 hv.2.2 hv.2.1 hv.1 (sV S).1 [] 0 0 rfl (Nat.zero_le _) (vt_nil _) ?_ _ _)
  generalize hpl : plL (zT (sZ S)) (sC S) (sN S) 0 (sV S).1 0 0 = r at k
  have hpl : plL (zT (sZ (cutS S 0))) (sC S) (sN S) ([] : List Nat).length (sV S).1 0 0 = r := hpl
  rw [hpl]
  match r, k with
  | .inl e, k => exact fun q => k q e
  | .inr (x, q0), k =>
    dsimp only at k ⊢
    by_cases z : q0 = sN S
    · rw [if_pos z] at k ⊢
      exact fun q => k q (-1)
    · rw [if_neg z] at k ⊢
      exact fun q => k q q0
end
