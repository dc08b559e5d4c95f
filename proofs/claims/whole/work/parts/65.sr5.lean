/-! SetReader: the FUNCTIONS -/
theorem srR_so {R R' : x_M (Option Nat)} {σ : Nat → Nat → Nat} {t a b : Nat} (h : srR R σ t) (h1 : soR R' a b) (h2 : x_fin R') (h3 : frP (fun _ c _ => c = 90) R R') : srR R' σ t := by
  obtain ⟨a1, a2, a3, a4, a5, a6, x⟩ := h
  exact ⟨h2, (h3 _ _ _ (by decide)).trans a2, (h3 _ _ _ (by decide)).trans a3, (h3 _ _ _ (by decide)).trans a4, fun b j hb hj => (h3 _ _ _ (by omega)).trans (a5 b j hb hj), a6, a, b, h1⟩
/-- the addresses that a FUNCTION changes -/
def apF (r a : Nat) : Prop := kA a ∨ sA a ∨ r ≤ a ∧ a ≤ r + 2
section
variable {E : x_E} {P : x_Pr} {d rc rs : Nat} {I : x_M Int32} {J : x_M Int64} {R : x_M (Option Nat)} {Q : x_Q} {σ : Nat → Nat → Nat} {t n : Nat} {c : Nat → Nat} {Z : x_Z}
theorem c_apply (hP : x_closed E P) {f : Nat} (hf : f < 12) (he : En I J t n c Z) (hr : srR R σ t) {r : Nat} (hs : s18 r) {A : x_AR} {V : x_V} (ha : aok (thg f) A I R) (hw : rw I r V.1 V.2) (hv : vV (zT Z) V) (h1 : oneF f = true → V.1.length = 1) (k : ∀ I' J' R', rw I' r (appL Z f A V).1 (appL Z f A V).2 → srR R' σ t → frP (fun _ a _ => apF r a) I I' → frP (fun _ a _ => sA a) J J' → frP (fun _ a _ => fA a) R R' → Q none (x_hp I' J' R')) : P 89 (d + 5) 0 (x_la 0 [.ref 26, .ref (1000001 + f), .ref r]) [] (x_hp I J R) rc rs Q := by
  have ⟨hR, r2, r3, r4, r5, r6, x, y, hso⟩ := hr
  have hrow := s18_rows hs
  have isr := isRw_of hR hrow
  have ⟨y1, y2, y3, y4, y5⟩ := isr
  have rr := rows_rg hrow
  have hta := he.2.1
  have ta := isTa_rg hta
  have tk : x_kd0 t = (1008, 0) := (isTr_of hR hta).1
  have hnu := he.2.2.2.2.1
  have f1 : ∀ {I' : x_M Int32}, frP (rg r) I I' → frP (fun _ a _ => apF r a) I I' := fun h => frP_mono h fun k a i q => Or.inr (Or.inr (rg_a q))
  have f2 : ∀ {I' : x_M Int32}, frP (fun _ c _ => sA c ∨ r ≤ c ∧ c ≤ r + 2) I I' → frP (fun _ a _ => apF r a) I I' := fun h => frP_mono h fun k a i q => Or.inr q
  have f3 : ∀ {I' : x_M Int32}, frP (fun k a i => kA a ∨ rg r k a i) I I' → frP (fun _ a _ => apF r a) I I' := fun h => frP_mono h fun k a i q => by rcases q with q | q; exact Or.inl q; exact Or.inr (Or.inr (rg_a q))
  have f4 : ∀ {R' : x_M (Option Nat)}, frP (fun _ c _ => c = 90) R R' → frP (fun _ a _ => fA a) R R' := fun h => frP_mono h fun k a i q => by unfold fA; omega
  have srk : srR (x_at R 1451 95 0 (some t)) σ t := srR_at hr rfl (by decide) (by decide) (by decide) (by decide) (by decide)
  have frk : frP (fun _ a _ => fA a) R (x_at R 1451 95 0 (some t)) := frP_at (frP_refl _ _) (by unfold fA; omega)
  obtain ⟨o, l⟩ := V
  have hw : rw I r o l := hw
  have e0 := getD0_mem hv.1.1
  have e1 := hv.1.2.2 _ e0
  have hd := dm1_of he.2.2.1 he.2.2.2.1 e1
  match f, hf, ha, h1, k with
  | 0, _, ha, h1, k =>
    refine x_gets hP rfl ?_
    show P _ _ _ _ [Value.ref (1000000 + 24)] _ _ _ _
    refine x_aload_n hP rfl rfl ?_
    refine x_callU (k := 0) (iz := 1) (mc := 0) (ms := 0) hP rfl rfl rfl rfl (by decide) (by decide) (Nat.zero_le _) (Nat.zero_le _) ?_
    refine c_ordF (a := 0) hP (by decide) ?_
    refine x_ialdS (k := 3) (iz := 24) hP rfl rfl (vpF (by decide)) rfl ?_
    refine x_tsw (tg := 68) hP rfl (by decide +kernel) ?_
    have ⟨n1, n2, n3⟩ := ha.1 (by decide)
    obtain ⟨nn, hnn⟩ : ∃ nn : Nat, A.1 = nn := ⟨A.1.toNat, by omega⟩
    rw [hnn] at n1
    first | refine x_aload_n hP rfl rfl ?_ | refine x_aload_nN hP rfl rfl ?_
    first | refine x_aload_n hP rfl rfl ?_ | refine x_aload_nN hP rfl rfl ?_
    refine x_getI hP rfl (by first | assumption | rfl) (by first | assumption | exact hR _ _ _ _ rfl | exact hR1 _ _ _ _ rfl | exact hR2 _ _ _ _ rfl | rfl) ?_
    refine x_callV1 (ci := 3) hP 0 0 rfl rfl rfl (by first | assumption | rfl) rfl rfl rfl (Nat.zero_le _) (Nat.zero_le _) ?_
    refine c_keepFirst hP isr hw (x := nn) (by omega) (fun I1 g1 g2 => ?_)
    refine x_goto hP rfl ?_
    refine x_vret hP rfl rfl ?_
    refine k I1 J R (by show rw _ _ _ (l.take A.1.toNat); rw [hnn, Int.toNat_natCast]; exact g1) hr (f1 g2) (frP_refl _ _) (frP_refl _ _)
  | 1, _, ha, h1, k =>
    refine x_gets hP rfl ?_
    show P _ _ _ _ [Value.ref (1000000 + 24)] _ _ _ _
    refine x_aload_n hP rfl rfl ?_
    refine x_callU (k := 1) (iz := 2) (mc := 0) (ms := 0) hP rfl rfl rfl rfl (by decide) (by decide) (Nat.zero_le _) (Nat.zero_le _) ?_
    refine c_ordF (a := 1) hP (by decide) ?_
    refine x_ialdS (k := 3) (iz := 24) hP rfl rfl (vpF (by decide)) rfl ?_
    refine x_tsw (tg := 79) hP rfl (by decide +kernel) ?_
    have ⟨n1, n2, n3⟩ := ha.1 (by decide)
    obtain ⟨nn, hnn⟩ : ∃ nn : Nat, A.1 = nn := ⟨A.1.toNat, by omega⟩
    rw [hnn] at n1
    first | refine x_aload_n hP rfl rfl ?_ | refine x_aload_nN hP rfl rfl ?_
    first | refine x_aload_n hP rfl rfl ?_ | refine x_aload_nN hP rfl rfl ?_
    refine x_getI hP rfl (by first | assumption | rfl) (by first | assumption | exact hR _ _ _ _ rfl | exact hR1 _ _ _ _ rfl | exact hR2 _ _ _ _ rfl | rfl) ?_
    refine x_callV1 (ci := 3) hP 0 0 rfl rfl rfl (by first | assumption | rfl) rfl rfl rfl (Nat.zero_le _) (Nat.zero_le _) ?_
    refine c_keepLast hP isr hw (x := nn) (by omega) (fun I1 g1 g2 => ?_)
    refine x_goto hP rfl ?_
    refine x_vret hP rfl rfl ?_
    refine k I1 J R (by show rw _ _ _ (l.drop (l.length - A.1.toNat)); rw [hnn, Int.toNat_natCast]; exact g1) hr (f1 g2) (frP_refl _ _) (frP_refl _ _)
  | 2, _, ha, h1, k =>
    refine x_gets hP rfl ?_
    show P _ _ _ _ [Value.ref (1000000 + 24)] _ _ _ _
    refine x_aload_n hP rfl rfl ?_
    refine x_callU (k := 2) (iz := 3) (mc := 0) (ms := 0) hP rfl rfl rfl rfl (by decide) (by decide) (Nat.zero_le _) (Nat.zero_le _) ?_
    refine c_ordF (a := 2) hP (by decide) ?_
    refine x_ialdS (k := 3) (iz := 24) hP rfl rfl (vpF (by decide)) rfl ?_
    refine x_tsw (tg := 90) hP rfl (by decide +kernel) ?_
    have ⟨m1, m2⟩ := ha.2.1 (by decide)
    first | refine x_aload_n hP rfl rfl ?_ | refine x_aload_nN hP rfl rfl ?_
    first | refine x_aload_n hP rfl rfl ?_ | refine x_aload_nN hP rfl rfl ?_
    first | refine x_aload_n hP rfl rfl ?_ | refine x_aload_nN hP rfl rfl ?_
    refine x_callV2 (ci := 4) hP 0 0 rfl rfl rfl (by first | assumption | rfl) rfl rfl rfl (Nat.zero_le _) (Nat.zero_le _) ?_
    refine c_keepShowing (f := 2) hP hR hta r3 (by decide) hrow m2 (b := 0) (by decide) rfl m1 (fun q => by omega) hnu hw (fun I1 g1 g2 => ?_)
    refine x_goto hP rfl ?_
    refine x_vret hP rfl rfl ?_
    refine k I1 J R (by rw [show l.filter (ksF 2 (shw (zN Z) A.2.1 o) 0) = l.filter (ksF 2 (shw (zN Z) A.2.1 o) A.2.2.1) from List.filter_congr fun x _ => by rw [ksF_eq, ksF_eq]; rfl] at g1; exact g1) hr (f1 g2) (frP_refl _ _) (frP_refl _ _)
  | 3, _, ha, h1, k =>
    refine x_gets hP rfl ?_
    show P _ _ _ _ [Value.ref (1000000 + 24)] _ _ _ _
    refine x_aload_n hP rfl rfl ?_
    refine x_callU (k := 3) (iz := 4) (mc := 0) (ms := 0) hP rfl rfl rfl rfl (by decide) (by decide) (Nat.zero_le _) (Nat.zero_le _) ?_
    refine c_ordF (a := 3) hP (by decide) ?_
    refine x_ialdS (k := 3) (iz := 24) hP rfl rfl (vpF (by decide)) rfl ?_
    refine x_tsw (tg := 90) hP rfl (by decide +kernel) ?_
    have ⟨m1, m2⟩ := ha.2.1 (by decide)
    have ⟨b1, b2, b3⟩ := ha.2.2.1 (by decide)
    first | refine x_aload_n hP rfl rfl ?_ | refine x_aload_nN hP rfl rfl ?_
    first | refine x_aload_n hP rfl rfl ?_ | refine x_aload_nN hP rfl rfl ?_
    first | refine x_aload_n hP rfl rfl ?_ | refine x_aload_nN hP rfl rfl ?_
    refine x_callV2 (ci := 4) hP 0 0 rfl rfl rfl (by first | assumption | rfl) rfl rfl rfl (Nat.zero_le _) (Nat.zero_le _) ?_
    refine c_keepShowing (f := 3) hP hR hta r3 (by decide) hrow m2 (b := A.2.2.1) ⟨b2, b3⟩ rfl m1 (fun _ => b1) hnu hw (fun I1 g1 g2 => ?_)
    refine x_goto hP rfl ?_
    refine x_vret hP rfl rfl ?_
    refine k I1 J R g1 hr (f1 g2) (frP_refl _ _) (frP_refl _ _)
  | 4, _, ha, h1, k =>
    refine x_gets hP rfl ?_
    show P _ _ _ _ [Value.ref (1000000 + 24)] _ _ _ _
    refine x_aload_n hP rfl rfl ?_
    refine x_callU (k := 4) (iz := 5) (mc := 0) (ms := 0) hP rfl rfl rfl rfl (by decide) (by decide) (Nat.zero_le _) (Nat.zero_le _) ?_
    refine c_ordF (a := 4) hP (by decide) ?_
    refine x_ialdS (k := 3) (iz := 24) hP rfl rfl (vpF (by decide)) rfl ?_
    refine x_tsw (tg := 90) hP rfl (by decide +kernel) ?_
    have ⟨m1, m2⟩ := ha.2.1 (by decide)
    have ⟨b1, b2, b3⟩ := ha.2.2.1 (by decide)
    first | refine x_aload_n hP rfl rfl ?_ | refine x_aload_nN hP rfl rfl ?_
    first | refine x_aload_n hP rfl rfl ?_ | refine x_aload_nN hP rfl rfl ?_
    first | refine x_aload_n hP rfl rfl ?_ | refine x_aload_nN hP rfl rfl ?_
    refine x_callV2 (ci := 4) hP 0 0 rfl rfl rfl (by first | assumption | rfl) rfl rfl rfl (Nat.zero_le _) (Nat.zero_le _) ?_
    refine c_keepShowing (f := 4) hP hR hta r3 (by decide) hrow m2 (b := A.2.2.1) ⟨b2, b3⟩ rfl m1 (fun _ => b1) hnu hw (fun I1 g1 g2 => ?_)
    refine x_goto hP rfl ?_
    refine x_vret hP rfl rfl ?_
    refine k I1 J R g1 hr (f1 g2) (frP_refl _ _) (frP_refl _ _)
  | 5, _, ha, h1, k =>
    refine x_gets hP rfl ?_
    show P _ _ _ _ [Value.ref (1000000 + 24)] _ _ _ _
    refine x_aload_n hP rfl rfl ?_
    refine x_callU (k := 5) (iz := 6) (mc := 0) (ms := 0) hP rfl rfl rfl rfl (by decide) (by decide) (Nat.zero_le _) (Nat.zero_le _) ?_
    refine c_ordF (a := 5) hP (by decide) ?_
    refine x_ialdS (k := 3) (iz := 24) hP rfl rfl (vpF (by decide)) rfl ?_
    refine x_tsw (tg := 99) hP rfl (by decide +kernel) ?_
    have ⟨m1, m2⟩ := ha.2.1 (by decide)
    first | refine x_aload_n hP rfl rfl ?_ | refine x_aload_nN hP rfl rfl ?_
    refine x_getR hP rfl (by first | assumption | rfl) (by first | assumption | exact hR _ _ _ _ rfl | exact hR1 _ _ _ _ rfl | exact hR2 _ _ _ _ rfl | rfl) ?_
    first | refine x_aload_n hP rfl rfl ?_ | refine x_aload_nN hP rfl rfl ?_
    first | refine x_aload_n hP rfl rfl ?_ | refine x_aload_nN hP rfl rfl ?_
    refine x_getR hP rfl (by first | assumption | rfl) (by first | assumption | exact hR _ _ _ _ rfl | exact hR1 _ _ _ _ rfl | exact hR2 _ _ _ _ rfl | rfl) ?_
    first | refine x_aload_n hP rfl rfl ?_ | refine x_aload_nN hP rfl rfl ?_
    refine x_getI hP rfl (by first | assumption | rfl) (by first | assumption | exact hR _ _ _ _ rfl | exact hR1 _ _ _ _ rfl | exact hR2 _ _ _ _ rfl | rfl) ?_
    refine x_iconst hP rfl ?_
    refine x_callV4 (ci := 6) hP 0 0 rfl rfl rfl (by first | assumption | rfl) rfl rfl rfl (Nat.zero_le _) (Nat.zero_le _) ?_
    refine c_sort (fl := false) hP hR hta m2 hrow hso rfl hnu hw (fun I1 J1 R1 x1 y1 g1 g2 g3 g4 g5 g6 => ?_)
    refine x_pop hP rfl rfl ?_
    refine x_goto hP rfl ?_
    refine x_vret hP rfl rfl ?_
    exact k I1 J1 R1 g1 (srR_so hr g2 g3 g4) (f2 g5) g6 (f4 g4)
  | 6, _, ha, h1, k =>
    refine x_gets hP rfl ?_
    show P _ _ _ _ [Value.ref (1000000 + 24)] _ _ _ _
    refine x_aload_n hP rfl rfl ?_
    refine x_callU (k := 6) (iz := 7) (mc := 0) (ms := 0) hP rfl rfl rfl rfl (by decide) (by decide) (Nat.zero_le _) (Nat.zero_le _) ?_
    refine c_ordF (a := 6) hP (by decide) ?_
    refine x_ialdS (k := 3) (iz := 24) hP rfl rfl (vpF (by decide)) rfl ?_
    refine x_tsw (tg := 120) hP rfl (by decide +kernel) ?_
    have ⟨m1, m2⟩ := ha.2.1 (by decide)
    first | refine x_aload_n hP rfl rfl ?_ | refine x_aload_nN hP rfl rfl ?_
    refine x_getR hP rfl (by first | assumption | rfl) (by first | assumption | exact hR _ _ _ _ rfl | exact hR1 _ _ _ _ rfl | exact hR2 _ _ _ _ rfl | rfl) ?_
    first | refine x_aload_n hP rfl rfl ?_ | refine x_aload_nN hP rfl rfl ?_
    first | refine x_aload_n hP rfl rfl ?_ | refine x_aload_nN hP rfl rfl ?_
    refine x_getR hP rfl (by first | assumption | rfl) (by first | assumption | exact hR _ _ _ _ rfl | exact hR1 _ _ _ _ rfl | exact hR2 _ _ _ _ rfl | rfl) ?_
    first | refine x_aload_n hP rfl rfl ?_ | refine x_aload_nN hP rfl rfl ?_
    refine x_getI hP rfl (by first | assumption | rfl) (by first | assumption | exact hR _ _ _ _ rfl | exact hR1 _ _ _ _ rfl | exact hR2 _ _ _ _ rfl | rfl) ?_
    refine x_iconst hP rfl ?_
    refine x_callV4 (ci := 6) hP 0 0 rfl rfl rfl (by first | assumption | rfl) rfl rfl rfl (Nat.zero_le _) (Nat.zero_le _) ?_
    refine c_sort (fl := true) hP hR hta m2 hrow hso rfl hnu hw (fun I1 J1 R1 x1 y1 g1 g2 g3 g4 g5 g6 => ?_)
    refine x_pop hP rfl rfl ?_
    refine x_goto hP rfl ?_
    refine x_vret hP rfl rfl ?_
    exact k I1 J1 R1 g1 (srR_so hr g2 g3 g4) (f2 g5) g6 (f4 g4)
  | 7, _, ha, h1, k =>
    refine x_gets hP rfl ?_
    show P _ _ _ _ [Value.ref (1000000 + 24)] _ _ _ _
    refine x_aload_n hP rfl rfl ?_
    refine x_callU (k := 7) (iz := 8) (mc := 0) (ms := 0) hP rfl rfl rfl rfl (by decide) (by decide) (Nat.zero_le _) (Nat.zero_le _) ?_
    refine c_ordF (a := 7) hP (by decide) ?_
    refine x_ialdS (k := 3) (iz := 24) hP rfl rfl (vpF (by decide)) rfl ?_
    refine x_tsw (tg := 141) hP rfl (by decide +kernel) ?_
    have ⟨n1, n2, n3⟩ := ha.1 (by decide)
    obtain ⟨nn, hnn⟩ : ∃ nn : Nat, A.1 = nn := ⟨A.1.toNat, by omega⟩
    have ⟨m1, m2⟩ := ha.2.1 (by decide)
    rw [hnn] at n1
    first | refine x_aload_n hP rfl rfl ?_ | refine x_aload_nN hP rfl rfl ?_
    first | refine x_aload_n hP rfl rfl ?_ | refine x_aload_nN hP rfl rfl ?_
    refine x_getI hP rfl (by first | assumption | rfl) (by first | assumption | exact hR _ _ _ _ rfl | exact hR1 _ _ _ _ rfl | exact hR2 _ _ _ _ rfl | rfl) ?_
    first | refine x_aload_n hP rfl rfl ?_ | refine x_aload_nN hP rfl rfl ?_
    refine x_getR hP rfl (by first | assumption | rfl) (by first | assumption | exact hR _ _ _ _ rfl | exact hR1 _ _ _ _ rfl | exact hR2 _ _ _ _ rfl | rfl) ?_
    first | refine x_aload_n hP rfl rfl ?_ | refine x_aload_nN hP rfl rfl ?_
    first | refine x_aload_n hP rfl rfl ?_ | refine x_aload_nN hP rfl rfl ?_
    refine x_getR hP rfl (by first | assumption | rfl) (by first | assumption | exact hR _ _ _ _ rfl | exact hR1 _ _ _ _ rfl | exact hR2 _ _ _ _ rfl | rfl) ?_
    first | refine x_aload_n hP rfl rfl ?_ | refine x_aload_nN hP rfl rfl ?_
    refine x_getI hP rfl (by first | assumption | rfl) (by first | assumption | exact hR _ _ _ _ rfl | exact hR1 _ _ _ _ rfl | exact hR2 _ _ _ _ rfl | rfl) ?_
    refine x_iconst hP rfl ?_
    refine x_callV4 (ci := 6) hP 0 0 rfl rfl rfl (by first | assumption | rfl) rfl rfl rfl (Nat.zero_le _) (Nat.zero_le _) ?_
    refine c_sort (fl := true) hP hR hta m2 hrow hso rfl hnu hw (fun I1 J1 R1 x1 y1 g1 g2 g3 g4 g5 g6 => ?_)
    have shl : (shn (shw (zN Z) A.2.1 o) l).length ≤ 200 := Nat.le_trans (List.length_filter_le _ _) hw.2.2.1
    refine z_mmin hP rfl rfl (by omega) (by omega) ?_
    rw [show (if (((shn (shw (zN Z) A.2.1 o) l).length : Nat) : Int) < (nn : Int) then (((shn (shw (zN Z) A.2.1 o) l).length : Nat) : Int) else (nn : Int)) = ((min nn (shn (shw (zN Z) A.2.1 o) l).length : Nat) : Int) by split <;> omega]
    refine x_callV1 (ci := 3) hP 0 0 rfl rfl rfl (by first | assumption | rfl) rfl rfl rfl (Nat.zero_le _) (Nat.zero_le _) ?_
    refine c_keepFirst hP (isRw_of g3 hrow) g1 (x := min nn (shn (shw (zN Z) A.2.1 o) l).length) (by omega) (fun I2 g7 g8 => ?_)
    refine x_goto hP rfl ?_
    refine x_vret hP rfl rfl ?_
    refine k I2 J1 R1 (by show rw _ _ _ ((sortL _ _ l).take (min A.1.toNat _)); rw [hnn, Int.toNat_natCast]; exact g7) (srR_so hr g2 g3 g4) (frP_tr g5 g8 (fun k a i q => Or.inr q) fun k a i q => Or.inr (Or.inr (rg_a q))) g6 (f4 g4)
  | 8, _, ha, h1, k =>
    refine x_gets hP rfl ?_
    show P _ _ _ _ [Value.ref (1000000 + 24)] _ _ _ _
    refine x_aload_n hP rfl rfl ?_
    refine x_callU (k := 8) (iz := 9) (mc := 0) (ms := 0) hP rfl rfl rfl rfl (by decide) (by decide) (Nat.zero_le _) (Nat.zero_le _) ?_
    refine c_ordF (a := 8) hP (by decide) ?_
    refine x_ialdS (k := 3) (iz := 24) hP rfl rfl (vpF (by decide)) rfl ?_
    refine x_tsw (tg := 172) hP rfl (by decide +kernel) ?_
    have ⟨n1, n2, n3⟩ := ha.1 (by decide)
    obtain ⟨nn, hnn⟩ : ∃ nn : Nat, A.1 = nn := ⟨A.1.toNat, by omega⟩
    have ⟨m1, m2⟩ := ha.2.1 (by decide)
    rw [hnn] at n1
    first | refine x_aload_n hP rfl rfl ?_ | refine x_aload_nN hP rfl rfl ?_
    first | refine x_aload_n hP rfl rfl ?_ | refine x_aload_nN hP rfl rfl ?_
    refine x_getI hP rfl (by first | assumption | rfl) (by first | assumption | exact hR _ _ _ _ rfl | exact hR1 _ _ _ _ rfl | exact hR2 _ _ _ _ rfl | rfl) ?_
    first | refine x_aload_n hP rfl rfl ?_ | refine x_aload_nN hP rfl rfl ?_
    refine x_getR hP rfl (by first | assumption | rfl) (by first | assumption | exact hR _ _ _ _ rfl | exact hR1 _ _ _ _ rfl | exact hR2 _ _ _ _ rfl | rfl) ?_
    first | refine x_aload_n hP rfl rfl ?_ | refine x_aload_nN hP rfl rfl ?_
    first | refine x_aload_n hP rfl rfl ?_ | refine x_aload_nN hP rfl rfl ?_
    refine x_getR hP rfl (by first | assumption | rfl) (by first | assumption | exact hR _ _ _ _ rfl | exact hR1 _ _ _ _ rfl | exact hR2 _ _ _ _ rfl | rfl) ?_
    first | refine x_aload_n hP rfl rfl ?_ | refine x_aload_nN hP rfl rfl ?_
    refine x_getI hP rfl (by first | assumption | rfl) (by first | assumption | exact hR _ _ _ _ rfl | exact hR1 _ _ _ _ rfl | exact hR2 _ _ _ _ rfl | rfl) ?_
    refine x_iconst hP rfl ?_
    refine x_callV4 (ci := 6) hP 0 0 rfl rfl rfl (by first | assumption | rfl) rfl rfl rfl (Nat.zero_le _) (Nat.zero_le _) ?_
    refine c_sort (fl := false) hP hR hta m2 hrow hso rfl hnu hw (fun I1 J1 R1 x1 y1 g1 g2 g3 g4 g5 g6 => ?_)
    have shl : (shn (shw (zN Z) A.2.1 o) l).length ≤ 200 := Nat.le_trans (List.length_filter_le _ _) hw.2.2.1
    refine z_mmin hP rfl rfl (by omega) (by omega) ?_
    rw [show (if (((shn (shw (zN Z) A.2.1 o) l).length : Nat) : Int) < (nn : Int) then (((shn (shw (zN Z) A.2.1 o) l).length : Nat) : Int) else (nn : Int)) = ((min nn (shn (shw (zN Z) A.2.1 o) l).length : Nat) : Int) by split <;> omega]
    refine x_callV1 (ci := 3) hP 0 0 rfl rfl rfl (by first | assumption | rfl) rfl rfl rfl (Nat.zero_le _) (Nat.zero_le _) ?_
    refine c_keepFirst hP (isRw_of g3 hrow) g1 (x := min nn (shn (shw (zN Z) A.2.1 o) l).length) (by omega) (fun I2 g7 g8 => ?_)
    refine x_goto hP rfl ?_
    refine x_vret hP rfl rfl ?_
    refine k I2 J1 R1 (by show rw _ _ _ ((sortL _ _ l).take (min A.1.toNat _)); rw [hnn, Int.toNat_natCast]; exact g7) (srR_so hr g2 g3 g4) (frP_tr g5 g8 (fun k a i q => Or.inr q) fun k a i q => Or.inr (Or.inr (rg_a q))) g6 (f4 g4)
  | 9, _, ha, h1, k =>
    refine x_gets hP rfl ?_
    show P _ _ _ _ [Value.ref (1000000 + 24)] _ _ _ _
    refine x_aload_n hP rfl rfl ?_
    refine x_callU (k := 9) (iz := 10) (mc := 0) (ms := 0) hP rfl rfl rfl rfl (by decide) (by decide) (Nat.zero_le _) (Nat.zero_le _) ?_
    refine c_ordF (a := 9) hP (by decide) ?_
    refine x_ialdS (k := 3) (iz := 24) hP rfl rfl (vpF (by decide)) rfl ?_
    refine x_tsw (tg := 203) hP rfl (by decide +kernel) ?_
    have ol : o.length = 1 := h1 (by decide)
    obtain ⟨e, rfl⟩ : ∃ e, o = [e] := List.length_eq_one_iff.mp ol
    have e0 : e < tD (zT Z) := e1
    have hd : dm1 I t e (tP (zT Z) e) (tS (zT Z) e) (tH (zT Z) e) := hd
    have w5 : I 1 (r + 2) 0 = iI e := hw.2.2.2.2.1 0 Nat.zero_lt_one
    have hx : ∀ x ∈ l, pt x e < tS (zT Z) e := fun x hx => (hv.2 x hx).2.1 e (List.mem_singleton.mpr rfl)
    have s30 := (he.2.2.1.2.2.2.2.2.2.2 e e0).2.1
    first | refine x_aload_n hP rfl rfl ?_ | refine x_aload_nN hP rfl rfl ?_
    refine x_getR hP rfl (by first | assumption | rfl) (by first | assumption | exact hR _ _ _ _ rfl | exact hR1 _ _ _ _ rfl | exact hR2 _ _ _ _ rfl | rfl) ?_
    first | refine x_aload_n hP rfl rfl ?_ | refine x_aload_nN hP rfl rfl ?_
    refine x_getR hP rfl (by first | assumption | rfl) (by first | assumption | exact hR _ _ _ _ rfl | exact hR1 _ _ _ _ rfl | exact hR2 _ _ _ _ rfl | rfl) ?_
    first | refine x_aload_n hP rfl rfl ?_ | refine x_aload_nN hP rfl rfl ?_
    refine x_getR hP rfl (by first | assumption | rfl) (by first | assumption | exact hR _ _ _ _ rfl | exact hR1 _ _ _ _ rfl | exact hR2 _ _ _ _ rfl | rfl) ?_
    refine x_iconst hP rfl ?_
    refine z_iald hP rfl (by first | assumption | rfl) (by first | decide | omega) (by omega) (by first | assumption | exact hR _ _ _ _ rfl | exact hR1 _ _ _ _ rfl | exact hR2 _ _ _ _ rfl | rfl) ?_
    refine x_callV2 (ci := 7) hP 0 0 rfl rfl rfl (by first | assumption | rfl) rfl rfl rfl (Nat.zero_le _) (Nat.zero_le _) ?_
    refine c_kinBegin hP tk (fun I1 g1 g2 => ?_)
    have hR1 := srk.1
    generalize hRR : x_at R 1451 95 0 (some t) = R1 at g1 srk frk hR1 ⊢
    have hR := hR1
    first | refine x_aload_n hP rfl rfl ?_ | refine x_aload_nN hP rfl rfl ?_
    refine x_getR hP rfl (by first | assumption | rfl) (by first | assumption | exact hR _ _ _ _ rfl | exact hR1 _ _ _ _ rfl | exact hR2 _ _ _ _ rfl | rfl) ?_
    first | refine x_aload_n hP rfl rfl ?_ | refine x_aload_nN hP rfl rfl ?_
    refine x_callV1 (ci := 7) hP 0 0 rfl rfl rfl (by first | assumption | rfl) rfl rfl rfl (Nat.zero_le _) (Nat.zero_le _) ?_
    refine c_sortByWalk hP hR1 hta (isRw_of hR1 hrow) (by omega) (dm1_fr hd g2 (fun k a i h => kA_out (k := k) (i := i) hta h)) g1 (rw_fr hw g2 fun k a i q => by have := rg_a q; unfold kA; omega) (fun x hx1 => by have := hx x hx1; omega) (fun I2 g3 g4 => ?_)
    refine x_goto hP rfl ?_
    refine x_vret hP rfl rfl ?_
    exact k I2 J R1 g3 srk (f3 (frP_tr g2 g4 (fun _ _ _ => Or.inl) fun _ _ _ q => q)) (frP_refl _ _) frk
  | 10, _, ha, h1, k =>
    refine x_gets hP rfl ?_
    show P _ _ _ _ [Value.ref (1000000 + 24)] _ _ _ _
    refine x_aload_n hP rfl rfl ?_
    refine x_callU (k := 10) (iz := 11) (mc := 0) (ms := 0) hP rfl rfl rfl rfl (by decide) (by decide) (Nat.zero_le _) (Nat.zero_le _) ?_
    refine c_ordF (a := 10) hP (by decide) ?_
    refine x_ialdS (k := 3) (iz := 24) hP rfl rfl (vpF (by decide)) rfl ?_
    refine x_tsw (tg := 231) hP rfl (by decide +kernel) ?_
    first | refine x_aload_n hP rfl rfl ?_ | refine x_aload_nN hP rfl rfl ?_
    refine x_callV0 (ci := 3) hP 0 0 rfl rfl rfl (by first | assumption | rfl) rfl rfl rfl (Nat.zero_le _) (Nat.zero_le _) ?_
    refine c_turnRound hP isr hw (fun I1 g1 g2 => ?_)
    refine x_goto hP rfl ?_
    refine x_vret hP rfl rfl ?_
    exact k I1 J R g1 hr (f1 g2) (frP_refl _ _) (frP_refl _ _)
  | 11, _, ha, h1, k =>
    refine x_gets hP rfl ?_
    show P _ _ _ _ [Value.ref (1000000 + 24)] _ _ _ _
    refine x_aload_n hP rfl rfl ?_
    refine x_callU (k := 11) (iz := 12) (mc := 0) (ms := 0) hP rfl rfl rfl rfl (by decide) (by decide) (Nat.zero_le _) (Nat.zero_le _) ?_
    refine c_ordF (a := 11) hP (by decide) ?_
    refine x_ialdS (k := 3) (iz := 24) hP rfl rfl (vpF (by decide)) rfl ?_
    refine x_tsw (tg := 238) hP rfl (by decide +kernel) ?_
    have ol : o.length = 1 := h1 (by decide)
    obtain ⟨e, rfl⟩ : ∃ e, o = [e] := List.length_eq_one_iff.mp ol
    have e0 : e < tD (zT Z) := e1
    have hd : dm1 I t e (tP (zT Z) e) (tS (zT Z) e) (tH (zT Z) e) := hd
    have w5 : I 1 (r + 2) 0 = iI e := hw.2.2.2.2.1 0 Nat.zero_lt_one
    have hx : ∀ x ∈ l, pt x e < tS (zT Z) e := fun x hx => (hv.2 x hx).2.1 e (List.mem_singleton.mpr rfl)
    have s30 := (he.2.2.1.2.2.2.2.2.2.2 e e0).2.1
    have ⟨q1, q2⟩ := ha.2.2.2 (by decide)
    first | refine x_aload_n hP rfl rfl ?_ | refine x_aload_nN hP rfl rfl ?_
    first | refine x_aload_n hP rfl rfl ?_ | refine x_aload_nN hP rfl rfl ?_
    refine x_callV1 (ci := 4) hP 0 0 rfl rfl rfl (by first | assumption | rfl) rfl rfl rfl (Nat.zero_le _) (Nat.zero_le _) ?_
    refine c_goEach hP hR hta r3 q1 q2 hrow hx hd hw (fun I1 g1 g2 => ?_)
    refine x_vret hP rfl rfl ?_
    exact k I1 J _ g1 srk (f3 g2) (frP_refl _ _) frk
  | f + 12, hf, _, _, _ => exact absurd hf (by omega)
end
