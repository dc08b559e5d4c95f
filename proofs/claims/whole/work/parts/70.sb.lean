/-! SetBook: what it is, as one thing; what each call asks -/
/-- tape's length, tape, (trees, numbers, kept SETS), THE SET, the SHEET -/
abbrev x_St := Nat × (Nat → Nat) × x_Z × x_V × List Nat
def sN (S : x_St) : Nat := S.1
def sC (S : x_St) : Nat → Nat := S.2.1
def sZ (S : x_St) : x_Z := S.2.2.1
def sV (S : x_St) : x_V := S.2.2.2.1
def sP (S : x_St) : List Nat := S.2.2.2.2
def c20 (c : Nat → Nat) (n : Nat) (x1 x2 x3 x4 x5 : Int32) : Nat → Nat := c4 (c4 (c4 (c4 (c4 c n x1) (n + 4) x2) (n + 8) x3) (n + 12) x4) (n + 16) x5
def spFeed (x1 x2 x3 x4 x5 : Int32) (S : x_St) : Int × x_St := if sN S + 20 ≤ 2000 then ((sN S + 20 : Nat), (sN S + 20, c20 (sC S) (sN S) x1 x2 x3 x4 x5, sZ S, sV S, sP S)) else (-4, S)
def cutS (S : x_St) (m : Nat) : x_St := (m, sC S, sZ S, sV S, sP S)
def spEnd (x : Int) (S : x_St) : Int × x_St := if x < 0 ∨ (sN S : Int) < x then (-1, S) else (x, cutS S x.toNat)
def updK (K : Nat → x_V) (i : Nat) (V : x_V) : Nat → x_V := fun j => if j = i then V else K j
def spKeep (x : Int) (S : x_St) : Int × x_St := if 0 ≤ x ∧ x < 6 ∧ ¬ (sV S).1 = [] then ((sV S).2.length, (sN S, sC S, (zT (sZ S), zN (sZ S), updK (zK (sZ S)) x.toNat (sV S)), sV S, sP S)) else (-1, S)
def spDrop (x : Int) (S : x_St) : Int × x_St := if 0 ≤ x ∧ x < 6 ∧ ¬ (zK (sZ S) x.toNat).1 = [] then ((zK (sZ S) x.toNat).2.length, (sN S, sC S, (zT (sZ S), zN (sZ S), updK (zK (sZ S)) x.toNat ([], [])), sV S, sP S)) else (-1, S)
def spTuple (i e : Int) (S : x_St) : Int := if (0 ≤ i ∧ i < (sV S).2.length) ∧ hasI e (sV S).1 = true then (pt ((sV S).2.getD i.toNat 0) e.toNat : Nat) else -1
def spShows (i m : Int) (S : x_St) : Int := if (0 ≤ i ∧ i < (sV S).2.length) ∧ 0 ≤ m ∧ m < tM (zT (sZ S)) then shw (zN (sZ S)) m.toNat (sV S).1 ((sV S).2.getD i.toNat 0) else -2000000000
def spPrinted (i : Int) (S : x_St) : Int := if 0 ≤ i ∧ i < (sP S).length then ((sP S).getD i.toNat 0 : Nat) else -1
def isMb (T : x_T) (e k : Int) : Bool := decide (0 ≤ e ∧ e < tD T ∧ 0 ≤ k ∧ k < tS T e.toNat)
def spMember (e k x : Int) (S : x_St) : Int := if isMb (zT (sZ S)) e k = true then (if x = 0 then tP (zT (sZ S)) e.toNat k.toNat else if x = 1 then (kdn (tP (zT (sZ S)) e.toNat) (tS (zT (sZ S)) e.toNat) k.toNat : Nat) else if x = 2 then (tH (zT (sZ S)) e.toNat k.toNat : Nat) else if x = 3 then (lvs (tP (zT (sZ S)) e.toNat) (tS (zT (sZ S)) e.toNat) k.toNat : Nat) else -1) else -1
def spNumber (e k m : Int) (S : x_St) : Int := if isMb (zT (sZ S)) e k = true ∧ 0 ≤ m ∧ m < tM (zT (sZ S)) then zN (sZ S) m.toNat e.toNat k.toNat else -2000000000
def nKept (K : Nat → x_V) : Nat → Nat := sumS fun k => if (K k).1 = [] then 0 else 1
def spCount (x : Int) (S : x_St) : Int := if x = 0 then (tD (zT (sZ S)) : Nat) else if x = 1 then (tM (zT (sZ S)) : Nat) else if x = 2 then (sumS (tS (zT (sZ S))) (tD (zT (sZ S))) : Nat) else if x = 3 then ((sV S).2.length : Nat) else if x = 4 then ((sV S).1.length : Nat) else if x = 5 then (nKept (zK (sZ S)) 6 : Nat) else if x = 6 then ((sP S).length : Nat) else -1
def shI (I : x_M Int32) (sp : List Nat) : Prop := I 1006 0 0 = iI sp.length ∧ sp.length ≤ 3000 ∧ (∀ i, i < sp.length → I 2 97 i = iI (sp.getD i 0)) ∧ ∀ x ∈ sp, x < 128
def clI (I : x_M Int32) (J : x_M Int64) (R : x_M (Option Nat)) (S : x_St) (F : Int) : Prop := ∃ t t2 σ tn, x_fin R ∧ R 1007 0 0 = some t ∧ R 1008 0 0 = some t2 ∧ (isTa t2 ∧ ¬ t = t2) ∧ (sl R σ ∧ pm σ ∧ ∃ a b, soR R a b) ∧ En I J t (sN S) (sC S) (sZ S) ∧ (rw I 4 (sV S).1 (sV S).2 ∧ (sV S = ([], []) ∨ vV (zT (sZ S)) (sV S))) ∧ (jnv I tn ∧ tn + 2 * (sN S : Int) ≤ F) ∧ shI I (sP S)
def lo (a : Nat) : Prop := a < 122
theorem shI_fr {S : Nat → Nat → Nat → Prop} {I I' : x_M Int32} {sp : List Nat} (h : shI I sp) (hf : frP S I I') (hs : ∀ k a i, S k a i → ¬ a = 0 ∧ ¬ a = 97) : shI I' sp := by
  obtain ⟨h1, h2, h3, h4⟩ := h
  exact ⟨(hf _ _ _ fun q => (hs _ _ _ q).1 rfl).trans h1, h2, fun i hi => (hf _ _ _ fun q => (hs _ _ _ q).2 rfl).trans (h3 i hi), h4⟩
theorem en_tp {I I' : x_M Int32} {J : x_M Int64} {t n n' : Nat} {c c' : Nat → Nat} {Z : x_Z} (h : En I J t n c Z) (hf : frP (fun _ a _ => a = 1 ∨ a = 2) I I') (ht : tpB I' n' c') : En I' J t n' c' Z := by
  obtain ⟨h1, h2, h3, h4, h5, h6⟩ := h
  have tr := isTa_rg h2
  exact ⟨ht, h2, ct_fr h3 hf (frP_refl _ J) fun k a i q => by omega, stP_fr h4 hf fun k a i q => by omega, nuP_fr h5 hf fun k a i q => by omega, fun k hk => ⟨rw_fr (h6 k hk).1 hf fun k' a i q => by have := rg_a q; omega, (h6 k hk).2⟩⟩
theorem clI_tp {I I' : x_M Int32} {J : x_M Int64} {R : x_M (Option Nat)} {S : x_St} {F F' : Int} {n' : Nat} {c' : Nat → Nat} (h : clI I J R S F) (hf : frP (fun _ a _ => a = 1 ∨ a = 2) I I') (ht : tpB I' n' c') (hF : F - 2 * (sN S : Int) + 2 * (n' : Int) ≤ F') : clI I' J R (n', c', sZ S, sV S, sP S) F' := by
  obtain ⟨t, t2, σ, tn, h1, h2, h3, h4, h5, h6, h7, h8, h9⟩ := h
  refine ⟨t, t2, σ, tn, h1, h2, h3, h4, h5, en_tp h6 hf ht, ⟨rw_fr h7.1 hf fun k' a i q => by have := rg_a q; omega, h7.2⟩, ⟨jnv_fr2 h8.1 hf fun k a i q => by unfold jA; omega, ?_⟩, shI_fr h9 hf fun k a i q => by omega⟩
  have := h8.2
  show tn + 2 * (n' : Int) ≤ F'
  omega
theorem clI_mono {I : x_M Int32} {J : x_M Int64} {R : x_M (Option Nat)} {S : x_St} {F F' : Int} (h : clI I J R S F) (hF : F ≤ F') : clI I J R S F' := by
  obtain ⟨t, t2, σ, tn, h1, h2, h3, h4, h5, h6, h7, h8, h9⟩ := h
  exact ⟨t, t2, σ, tn, h1, h2, h3, h4, h5, h6, h7, ⟨h8.1, by have := h8.2; omega⟩, h9⟩
theorem St_eta (S : x_St) : (sN S, sC S, sZ S, sV S, sP S) = S := rfl
section
variable {E : x_E} {P : x_Pr} {d rc rs : Nat} {I : x_M Int32} {J : x_M Int64} {R : x_M (Option Nat)} {Q : x_Q} {S : x_St} {F : Int}
theorem m_feed (hP : x_closed E P) {x1 x2 x3 x4 x5 : Int32} (hc : clI I J R S F) (k : ∀ I' J' R', clI I' J' R' (spFeed x1 x2 x3 x4 x5 S).2 (F + 40) → frP (fun _ a _ => lo a) I I' → frP (fun _ a _ => lo a) J J' → Q (some (.int (iI (spFeed x1 x2 x3 x4 x5 S).1))) (x_hp I' J' R')) : P 18 (d + 2) 0 (x_la 0 [.ref 0, .int x1, .int x2, .int x3, .int x4, .int x5]) [] (x_hp I J R) rc rs Q := by
  have hc' := hc
  obtain ⟨t, t2, σ, tn, hR, h2, h3, h4, h5, h6, h7, h8, h9⟩ := hc
  have tp := h6.1
  have n2 := tp.2.1
  unfold spFeed at k
  first | refine x_aload_n hP rfl rfl ?_ | refine x_aload_nN hP rfl rfl ?_
  refine x_getR hP rfl (by first | assumption | rfl) (by first | assumption | exact hR _ _ _ _ rfl | exact hR1 _ _ _ _ rfl | exact hR2 _ _ _ _ rfl | rfl) ?_
  refine x_bipush hP rfl ?_
  refine x_callV1 (ci := 1) hP 0 0 rfl rfl rfl (by first | assumption | rfl) rfl rfl rfl (Nat.zero_le _) (Nat.zero_le _) ?_
  refine c_hasRoom hP (q := sN S) tp.1 (by omega) (by omega) ?_
  first | refine zb_if_ne hP rfl (fun c9 => ?_) (fun c9 => ?_) | refine zl_if_ne hP rfl (fun c9 => ?_) (fun c9 => ?_) | refine z_if_ne hP rfl (by omega) (fun c9 => ?_) (fun c9 => ?_)
  rotate_left
  · have c9 := of_decide_eq_false c9
    rw [if_neg (by omega)] at k
    refine x_bipush hP rfl ?_
    refine x_iret hP rfl rfl ?_
    exact k I J R (clI_mono hc' (by omega)) (frP_refl _ _) (frP_refl _ _)
  have c10 : sN S + 20 ≤ 2000 := by have := of_decide_eq_true c9; omega
  clear c9
  rw [if_pos c10] at k
  first | refine x_aload_n hP rfl rfl ?_ | refine x_aload_nN hP rfl rfl ?_
  refine x_getR hP rfl (by first | assumption | rfl) (by first | assumption | exact hR _ _ _ _ rfl | exact hR1 _ _ _ _ rfl | exact hR2 _ _ _ _ rfl | rfl) ?_
  refine x_iload_n hP rfl rfl ?_
  refine x_callV1 (ci := 1) hP 0 0 rfl rfl rfl (by first | assumption | rfl) rfl rfl rfl (Nat.zero_le _) (Nat.zero_le _) ?_
  refine c_add hP hR tp (by omega) (fun I1 t1 f1 => ?_)
  first | refine x_aload_n hP rfl rfl ?_ | refine x_aload_nN hP rfl rfl ?_
  refine x_getR hP rfl (by first | assumption | rfl) (by first | assumption | exact hR _ _ _ _ rfl | exact hR1 _ _ _ _ rfl | exact hR2 _ _ _ _ rfl | rfl) ?_
  refine x_iload_n hP rfl rfl ?_
  refine x_callV1 (ci := 1) hP 0 0 rfl rfl rfl (by first | assumption | rfl) rfl rfl rfl (Nat.zero_le _) (Nat.zero_le _) ?_
  refine c_add hP hR t1 (by omega) (fun I2 t2' f2 => ?_)
  first | refine x_aload_n hP rfl rfl ?_ | refine x_aload_nN hP rfl rfl ?_
  refine x_getR hP rfl (by first | assumption | rfl) (by first | assumption | exact hR _ _ _ _ rfl | exact hR1 _ _ _ _ rfl | exact hR2 _ _ _ _ rfl | rfl) ?_
  refine x_iload_n hP rfl rfl ?_
  refine x_callV1 (ci := 1) hP 0 0 rfl rfl rfl (by first | assumption | rfl) rfl rfl rfl (Nat.zero_le _) (Nat.zero_le _) ?_
  refine c_add hP hR t2' (by omega) (fun I3 t3 f3 => ?_)
  first | refine x_aload_n hP rfl rfl ?_ | refine x_aload_nN hP rfl rfl ?_
  refine x_getR hP rfl (by first | assumption | rfl) (by first | assumption | exact hR _ _ _ _ rfl | exact hR1 _ _ _ _ rfl | exact hR2 _ _ _ _ rfl | rfl) ?_
  refine x_iload hP rfl rfl ?_
  refine x_callV1 (ci := 1) hP 0 0 rfl rfl rfl (by first | assumption | rfl) rfl rfl rfl (Nat.zero_le _) (Nat.zero_le _) ?_
  refine c_add hP hR t3 (by omega) (fun I4 t4 f4 => ?_)
  first | refine x_aload_n hP rfl rfl ?_ | refine x_aload_nN hP rfl rfl ?_
  refine x_getR hP rfl (by first | assumption | rfl) (by first | assumption | exact hR _ _ _ _ rfl | exact hR1 _ _ _ _ rfl | exact hR2 _ _ _ _ rfl | rfl) ?_
  refine x_iload hP rfl rfl ?_
  refine x_callV1 (ci := 1) hP 0 0 rfl rfl rfl (by first | assumption | rfl) rfl rfl rfl (Nat.zero_le _) (Nat.zero_le _) ?_
  refine c_add hP hR t4 (by omega) (fun I5 t5 f5 => ?_)
  first | refine x_aload_n hP rfl rfl ?_ | refine x_aload_nN hP rfl rfl ?_
  refine x_getR hP rfl (by first | assumption | rfl) (by first | assumption | exact hR _ _ _ _ rfl | exact hR1 _ _ _ _ rfl | exact hR2 _ _ _ _ rfl | rfl) ?_
  refine x_callV0 (ci := 1) hP 0 0 rfl rfl rfl (by first | assumption | rfl) rfl rfl rfl (Nat.zero_le _) (Nat.zero_le _) ?_
  refine c_length hP t5.1 ?_
  refine x_iret hP rfl rfl ?_
  have f : frP tg I I5 := frP_trans f1 (frP_trans f2 (frP_trans f3 (frP_trans f4 f5)))
  exact k I5 J R (clI_tp hc' (frP_mono f fun k a i q => by unfold tg at q; omega) t5 (by omega)) (frP_mono f fun k a i q => by unfold tg at q; unfold lo; omega) (frP_refl _ _)
theorem tpB_cut {I : x_M Int32} {n m : Nat} {c : Nat → Nat} (h : tpB I n c) (hm : m ≤ n) : tpB (x_at I 1065 1 0 (iI m)) m c := by
  obtain ⟨h1, h2, h3, h4⟩ := h
  refine ⟨?_, by omega, h3, fun i hi => ?_⟩
  · rw [x_at_eq, if_pos ⟨rfl, rfl, rfl⟩]
  · rw [x_at_eq, if_neg (by omega)]; exact h4 i (by omega)
theorem m_end (hP : x_closed E P) {x : Int} (hx : -2147483648 ≤ x ∧ x < 2147483648) (hc : clI I J R S F) (k : ∀ I' J' R', clI I' J' R' (spEnd x S).2 (F + 40) → frP (fun _ a _ => lo a) I I' → frP (fun _ a _ => lo a) J J' → Q (some (.int (iI (spEnd x S).1))) (x_hp I' J' R')) : P 22 (d + 2) 0 (x_la 0 [.ref 0, .int (iI x)]) [] (x_hp I J R) rc rs Q := by
  have hc' := hc
  obtain ⟨t, t2, σ, tn, hR, h2, h3, h4, h5, h6, h7, h8, h9⟩ := hc
  have tp := h6.1
  have n2 := tp.2.1
  unfold spEnd at k
  refine x_iload_n hP rfl rfl ?_
  refine z_if_lt hP rfl (by omega) (fun c1 => ?_) (fun c1 => ?_)
  · rw [if_pos (by omega)] at k
    refine x_iconst hP rfl ?_
    refine x_iret hP rfl rfl ?_
    exact k I J R (clI_mono hc' (by omega)) (frP_refl _ _) (frP_refl _ _)
  refine x_iload_n hP rfl rfl ?_
  first | refine x_aload_n hP rfl rfl ?_ | refine x_aload_nN hP rfl rfl ?_
  refine x_getR hP rfl (by first | assumption | rfl) (by first | assumption | exact hR _ _ _ _ rfl | exact hR1 _ _ _ _ rfl | exact hR2 _ _ _ _ rfl | rfl) ?_
  refine x_callV0 (ci := 1) hP 0 0 rfl rfl rfl (by first | assumption | rfl) rfl rfl rfl (Nat.zero_le _) (Nat.zero_le _) ?_
  refine c_length hP tp.1 ?_
  refine z_icmp_le hP rfl (by omega) (by omega) (fun c12 => ?_) (fun c12 => ?_)
  rotate_left
  · rw [if_pos (by omega)] at k
    refine x_iconst hP rfl ?_
    refine x_iret hP rfl rfl ?_
    exact k I J R (clI_mono hc' (by omega)) (frP_refl _ _) (frP_refl _ _)
  rw [if_neg (by omega)] at k
  obtain ⟨m, rfl⟩ : ∃ m : Nat, x = m := ⟨x.toNat, by omega⟩
  first | refine x_aload_n hP rfl rfl ?_ | refine x_aload_nN hP rfl rfl ?_
  refine x_getR hP rfl (by first | assumption | rfl) (by first | assumption | exact hR _ _ _ _ rfl | exact hR1 _ _ _ _ rfl | exact hR2 _ _ _ _ rfl | rfl) ?_
  refine x_iload_n hP rfl rfl ?_
  refine x_callV1 (ci := 1) hP 0 0 rfl rfl rfl (by first | assumption | rfl) rfl rfl rfl (Nat.zero_le _) (Nat.zero_le _) ?_
  refine c_cut hP ?_
  refine x_iload_n hP rfl rfl ?_
  refine x_iret hP rfl rfl ?_
  have f : frP (fun _ a _ => a = 1) I (x_at I 1065 1 0 (iI m)) := frP_at (frP_refl _ _) rfl
  exact k _ J R (clI_tp hc' (frP_mono f fun k a i q => Or.inl q) (tpB_cut tp (show m ≤ sN S by omega)) (by rw [Int.toNat_natCast]; omega)) (frP_mono f fun k a i q => by unfold lo; omega) (frP_refl _ _)
theorem c_isKept (hP : x_closed E P) {h : x_H} {x : Int} (hx : -2147483648 ≤ x ∧ x < 2147483648) (k : Q (some (.int (bI (decide (0 ≤ x ∧ x < 6))))) h) : P 132 d 0 (x_la 0 [.int (iI x)]) [] h rc rs Q := by
  refine x_iload_n hP rfl rfl ?_
  refine z_if_lt hP rfl (by omega) (fun c1 => ?_) (fun c1 => ?_)
  · rw [decide_eq_false (by omega)] at k
    refine x_iconst hP rfl ?_
    refine x_zret hP rfl rfl (by first | exact Or.inl iI_0 | exact Or.inr iI_1 | exact bI_or _ | assumption) ?_
    exact k
  refine x_iload_n hP rfl rfl ?_
  refine x_bipush hP rfl ?_
  refine z_icmp_ge hP rfl (by omega) (by omega) (fun c7 => ?_) (fun c7 => ?_)
  · rw [decide_eq_false (by omega)] at k
    refine x_iconst hP rfl ?_
    refine x_zret hP rfl rfl (by first | exact Or.inl iI_0 | exact Or.inr iI_1 | exact bI_or _ | assumption) ?_
    exact k
  · rw [decide_eq_true (by omega)] at k
    refine x_iconst hP rfl ?_
    refine x_goto hP rfl ?_
    refine x_zret hP rfl rfl (by first | exact Or.inl iI_0 | exact Or.inr iI_1 | exact bI_or _ | assumption) ?_
    exact k
theorem clI_kept {I' : x_M Int32} {i : Nat} {V : x_V} (hi : i < 6) (hc : clI I J R S F) (hw : rw I' (8 + 3 * i) V.1 V.2) (hv : V.1 = [] ∨ vV (zT (sZ S)) V) (hf : frP (rg (8 + 3 * i)) I I') : clI I' J R (sN S, sC S, (zT (sZ S), zN (sZ S), updK (zK (sZ S)) i V), sV S, sP S) (F + 40) := by
  obtain ⟨t, t2, σ, tn, hR, h2, h3, h4, h5, h6, h7, h8, h9⟩ := hc
  have fa : ∀ {k a j}, rg (8 + 3 * i) k a j → 8 ≤ a ∧ a ≤ 25 := fun q => by have := rg_a q; omega
  obtain ⟨g1, g2, g3, g4, g5, g6⟩ := h6
  have tr := isTa_rg g2
  refine ⟨t, t2, σ, tn, hR, h2, h3, h4, h5, ⟨?_, g2, ct_fr g3 hf (frP_refl _ J) fun k a i q => by have := fa q; omega, stP_fr g4 hf fun k a i q => by have := fa q; omega, nuP_fr g5 hf fun k a i q => by have := fa q; omega, fun j hj => ?_⟩, ⟨rw_fr h7.1 hf fun k' a i q z => by have := rg_a q; have := fa z; omega, h7.2⟩, ⟨jnv_fr2 h8.1 hf fun k a i q => by have := fa q; unfold jA; omega, ?_⟩, shI_fr h9 hf fun k a i q => by have := fa q; omega⟩
  · obtain ⟨b1, b2, b3, b4⟩ := g1
    exact ⟨(hf _ _ _ fun q => by have := fa q; omega).trans b1, b2, b3, fun z hz => (hf _ _ _ fun q => by have := fa q; omega).trans (b4 z hz)⟩
  · show rw I' (8 + 3 * j) (updK (zK (sZ S)) i V j).1 (updK (zK (sZ S)) i V j).2 ∧ ((updK (zK (sZ S)) i V j).1 = [] ∨ vV (zT (sZ S)) (updK (zK (sZ S)) i V j))
    unfold updK
    by_cases q : j = i
    · rw [if_pos q, q]; exact ⟨hw, hv⟩
    · rw [if_neg q]
      exact ⟨rw_fr (g6 j hj).1 hf fun k a z q1 q2 => by have := rg_a q1; have := rg_a q2; omega, (g6 j hj).2⟩
  · have := h8.2
    show tn + 2 * (sN S : Int) ≤ F + 40
    omega
theorem m_keep (hP : x_closed E P) {x : Int} (hx : -2147483648 ≤ x ∧ x < 2147483648) (hc : clI I J R S F) (k : ∀ I' J' R', clI I' J' R' (spKeep x S).2 (F + 40) → frP (fun _ a _ => lo a) I I' → frP (fun _ a _ => lo a) J J' → Q (some (.int (iI (spKeep x S).1))) (x_hp I' J' R')) : P 131 (d + 3) 0 (x_la 0 [.ref 0, .int (iI x)]) [] (x_hp I J R) rc rs Q := by
  have hc' := hc
  obtain ⟨t, t2, σ, tn, hR, h2, h3, h4, h5, h6, h7, h8, h9⟩ := hc
  have ⟨a1, a2, a3, a4, a5⟩ := h7.1
  have isr : isRw R 4 := isRw_of hR (by decide)
  unfold spKeep at k
  refine x_iload_n hP rfl rfl ?_
  refine x_callS1 hP 0 0 rfl rfl rfl rfl rfl (Nat.zero_le _) (Nat.zero_le _) ?_
  refine c_isKept hP hx ?_
  first | refine zb_if_eq hP rfl (fun c4 => ?_) (fun c4 => ?_) | refine zl_if_eq hP rfl (fun c4 => ?_) (fun c4 => ?_) | refine z_if_eq hP rfl (by omega) (fun c4 => ?_) (fun c4 => ?_)
  · have c4 := of_decide_eq_false c4
    rw [if_neg (by omega)] at k
    refine x_iconst hP rfl ?_
    refine x_iret hP rfl rfl ?_
    exact k I J R (clI_mono hc' (by omega)) (frP_refl _ _) (frP_refl _ _)
  have c4 := of_decide_eq_true c4
  first | refine x_aload_n hP rfl rfl ?_ | refine x_aload_nN hP rfl rfl ?_
  refine x_getR hP rfl (by first | assumption | rfl) (by first | assumption | exact hR _ _ _ _ rfl | exact hR1 _ _ _ _ rfl | exact hR2 _ _ _ _ rfl | rfl) ?_
  refine x_getI hP rfl (by first | assumption | rfl) (by first | assumption | exact hR _ _ _ _ rfl | exact hR1 _ _ _ _ rfl | exact hR2 _ _ _ _ rfl | rfl) ?_
  first | refine zb_if_ne hP rfl (fun c14 => ?_) (fun c14 => ?_) | refine zl_if_ne hP rfl (fun c14 => ?_) (fun c14 => ?_) | refine z_if_ne hP rfl (by omega) (fun c14 => ?_) (fun c14 => ?_)
  rotate_left
  · rw [if_neg (fun z => z.2.2 (List.eq_nil_of_length_eq_zero (by omega)))] at k
    refine x_iconst hP rfl ?_
    refine x_iret hP rfl rfl ?_
    exact k I J R (clI_mono hc' (by omega)) (frP_refl _ _) (frP_refl _ _)
  have ne : ¬ (sV S).1 = [] := fun z => by rw [z] at c14; exact c14 rfl
  rw [if_pos ⟨c4.1, c4.2, ne⟩] at k
  obtain ⟨m, rfl⟩ : ∃ m : Nat, x = m := ⟨x.toNat, by omega⟩
  rw [Int.toNat_natCast] at k
  have hm : m < 6 := by omega
  have v3 := kept_at hR hm
  have isr2 := isRw_of hR (kept_rows hm)
  have kr2 := isr2.1
  first | refine x_aload_n hP rfl rfl ?_ | refine x_aload_nN hP rfl rfl ?_
  refine x_getR hP rfl (by first | assumption | rfl) (by first | assumption | exact hR _ _ _ _ rfl | exact hR1 _ _ _ _ rfl | exact hR2 _ _ _ _ rfl | rfl) ?_
  refine x_iload_n hP rfl rfl ?_
  refine z_aald hP rfl (by first | assumption | rfl) (by decide) (by omega) (by decide) (by decide) rfl (by first | assumption | exact hR _ _ _ _ rfl | exact hR1 _ _ _ _ rfl | exact hR2 _ _ _ _ rfl | rfl) ?_
  first | refine x_aload_n hP rfl rfl ?_ | refine x_aload_nN hP rfl rfl ?_
  refine x_getR hP rfl (by first | assumption | rfl) (by first | assumption | exact hR _ _ _ _ rfl | exact hR1 _ _ _ _ rfl | exact hR2 _ _ _ _ rfl | rfl) ?_
  refine x_callV1 (ci := 3) hP 0 0 rfl rfl rfl (by first | assumption | rfl) rfl rfl rfl (Nat.zero_le _) (Nat.zero_le _) ?_
  refine c_copyFrom hP isr2 isr (by unfold rfar; omega) h7.1 (fun I1 g1 g2 => ?_)
  have b1 : I1 1193 4 0 = iI (sV S).2.length := (g2 _ _ _ fun q => by have := rg_a q; omega).trans a1
  first | refine x_aload_n hP rfl rfl ?_ | refine x_aload_nN hP rfl rfl ?_
  refine x_getR hP rfl (by first | assumption | rfl) (by first | assumption | exact hR _ _ _ _ rfl | exact hR1 _ _ _ _ rfl | exact hR2 _ _ _ _ rfl | rfl) ?_
  refine x_getI hP rfl (by first | assumption | rfl) (by first | assumption | exact hR _ _ _ _ rfl | exact hR1 _ _ _ _ rfl | exact hR2 _ _ _ _ rfl | rfl) ?_
  refine x_iret hP rfl rfl ?_
  exact k I1 J R (clI_kept hm hc' g1 (Or.inr (h7.2.resolve_left fun z => ne (by rw [z]))) g2) (frP_mono g2 fun k a i q => by have := rg_a q; unfold lo; omega) (frP_refl _ _)
theorem m_drop (hP : x_closed E P) {x : Int} (hx : -2147483648 ≤ x ∧ x < 2147483648) (hc : clI I J R S F) (k : ∀ I' J' R', clI I' J' R' (spDrop x S).2 (F + 40) → frP (fun _ a _ => lo a) I I' → frP (fun _ a _ => lo a) J J' → Q (some (.int (iI (spDrop x S).1))) (x_hp I' J' R')) : P 133 (d + 3) 0 (x_la 0 [.ref 0, .int (iI x)]) [] (x_hp I J R) rc rs Q := by
  have hc' := hc
  obtain ⟨t, t2, σ, tn, hR, h2, h3, h4, h5, h6, h7, h8, h9⟩ := hc
  unfold spDrop at k
  refine x_iload_n hP rfl rfl ?_
  refine x_callS1 hP 0 0 rfl rfl rfl rfl rfl (Nat.zero_le _) (Nat.zero_le _) ?_
  refine c_isKept hP hx ?_
  first | refine zb_if_eq hP rfl (fun c4 => ?_) (fun c4 => ?_) | refine zl_if_eq hP rfl (fun c4 => ?_) (fun c4 => ?_) | refine z_if_eq hP rfl (by omega) (fun c4 => ?_) (fun c4 => ?_)
  · have c4 := of_decide_eq_false c4
    rw [if_neg (by omega)] at k
    refine x_iconst hP rfl ?_
    refine x_iret hP rfl rfl ?_
    exact k I J R (clI_mono hc' (by omega)) (frP_refl _ _) (frP_refl _ _)
  have c4 := of_decide_eq_true c4
  obtain ⟨m, rfl⟩ : ∃ m : Nat, x = m := ⟨x.toNat, by omega⟩
  rw [Int.toNat_natCast] at k
  have hm : m < 6 := by omega
  have v3 := kept_at hR hm
  have isr2 := isRw_of hR (kept_rows hm)
  have kr2 := isr2.1
  have ⟨a1, a2, a3, a4, a5⟩ := (h6.2.2.2.2.2 m hm).1
  first | refine x_aload_n hP rfl rfl ?_ | refine x_aload_nN hP rfl rfl ?_
  refine x_getR hP rfl (by first | assumption | rfl) (by first | assumption | exact hR _ _ _ _ rfl | exact hR1 _ _ _ _ rfl | exact hR2 _ _ _ _ rfl | rfl) ?_
  refine x_iload_n hP rfl rfl ?_
  refine z_aald hP rfl (by first | assumption | rfl) (by decide) (by omega) (by decide) (by decide) rfl (by first | assumption | exact hR _ _ _ _ rfl | exact hR1 _ _ _ _ rfl | exact hR2 _ _ _ _ rfl | rfl) ?_
  refine x_getI hP rfl (by first | assumption | rfl) (by first | assumption | exact hR _ _ _ _ rfl | exact hR1 _ _ _ _ rfl | exact hR2 _ _ _ _ rfl | rfl) ?_
  first | refine zb_if_ne hP rfl (fun c16 => ?_) (fun c16 => ?_) | refine zl_if_ne hP rfl (fun c16 => ?_) (fun c16 => ?_) | refine z_if_ne hP rfl (by omega) (fun c16 => ?_) (fun c16 => ?_)
  rotate_left
  · rw [if_neg (fun z => z.2.2 (List.eq_nil_of_length_eq_zero (by omega)))] at k
    refine x_iconst hP rfl ?_
    refine x_iret hP rfl rfl ?_
    exact k I J R (clI_mono hc' (by omega)) (frP_refl _ _) (frP_refl _ _)
  have ne : ¬ (zK (sZ S) m).1 = [] := fun z => by rw [z] at c16; exact c16 rfl
  rw [if_pos ⟨c4.1, c4.2, ne⟩] at k
  first | refine x_aload_n hP rfl rfl ?_ | refine x_aload_nN hP rfl rfl ?_
  refine x_getR hP rfl (by first | assumption | rfl) (by first | assumption | exact hR _ _ _ _ rfl | exact hR1 _ _ _ _ rfl | exact hR2 _ _ _ _ rfl | rfl) ?_
  refine x_iload_n hP rfl rfl ?_
  refine z_aald hP rfl (by first | assumption | rfl) (by decide) (by omega) (by decide) (by decide) rfl (by first | assumption | exact hR _ _ _ _ rfl | exact hR1 _ _ _ _ rfl | exact hR2 _ _ _ _ rfl | rfl) ?_
  refine x_getI hP rfl (by first | assumption | rfl) (by first | assumption | exact hR _ _ _ _ rfl | exact hR1 _ _ _ _ rfl | exact hR2 _ _ _ _ rfl | rfl) ?_
  refine x_istore_n hP rfl ?_
  first | refine x_aload_n hP rfl rfl ?_ | refine x_aload_nN hP rfl rfl ?_
  refine x_getR hP rfl (by first | assumption | rfl) (by first | assumption | exact hR _ _ _ _ rfl | exact hR1 _ _ _ _ rfl | exact hR2 _ _ _ _ rfl | rfl) ?_
  refine x_iload_n hP rfl rfl ?_
  refine z_aald hP rfl (by first | assumption | rfl) (by decide) (by omega) (by decide) (by decide) rfl (by first | assumption | exact hR _ _ _ _ rfl | exact hR1 _ _ _ _ rfl | exact hR2 _ _ _ _ rfl | rfl) ?_
  refine x_callV0 (ci := 3) hP 0 0 rfl rfl rfl (by first | assumption | rfl) rfl rfl rfl (Nat.zero_le _) (Nat.zero_le _) ?_
  refine c_rowClear hP isr2 (fun I1 g1 g2 => ?_)
  refine x_iload_n hP rfl rfl ?_
  refine x_iret hP rfl rfl ?_
  exact k I1 J R (clI_kept (V := ([], [])) hm hc' g1 (Or.inl rfl) g2) (frP_mono g2 fun k a i q => by have := rg_a q; unfold lo; omega) (frP_refl _ _)
theorem m_tuple (hP : x_closed E P) {x e : Int} (hx : -2147483648 ≤ x ∧ x < 2147483648) (he : -2147483648 ≤ e ∧ e < 2147483648) (hc : clI I J R S F) (k : Q (some (.int (iI (spTuple x e S)))) (x_hp I J R)) : P 134 (d + 2) 0 (x_la 0 [.ref 0, .int (iI x), .int (iI e)]) [] (x_hp I J R) rc rs Q := by
  obtain ⟨t, t2, σ, tn, hR, h2, h3, h4, h5, h6, h7, h8, h9⟩ := hc
  have ⟨a1, a2, a3, a4, a5, a6, a7, a8⟩ := h7.1
  have isr : isRw R 4 := isRw_of hR (by decide)
  unfold spTuple at k
  first | refine x_aload_n hP rfl rfl ?_ | refine x_aload_nN hP rfl rfl ?_
  refine x_getR hP rfl (by first | assumption | rfl) (by first | assumption | exact hR _ _ _ _ rfl | exact hR1 _ _ _ _ rfl | exact hR2 _ _ _ _ rfl | rfl) ?_
  refine x_iload_n hP rfl rfl ?_
  refine x_callV1 (ci := 3) hP 0 0 rfl rfl rfl (by first | assumption | rfl) rfl rfl rfl (Nat.zero_le _) (Nat.zero_le _) ?_
  refine c_hasTuple hP isr h7.1 hx ?_
  first | refine zb_if_eq hP rfl (fun c8 => ?_) (fun c8 => ?_) | refine zl_if_eq hP rfl (fun c8 => ?_) (fun c8 => ?_) | refine z_if_eq hP rfl (by omega) (fun c8 => ?_) (fun c8 => ?_)
  · rw [if_neg (fun z => of_decide_eq_false c8 z.1)] at k
    refine x_iconst hP rfl ?_
    refine x_iret hP rfl rfl ?_
    exact k
  have c8 := of_decide_eq_true c8
  first | refine x_aload_n hP rfl rfl ?_ | refine x_aload_nN hP rfl rfl ?_
  refine x_getR hP rfl (by first | assumption | rfl) (by first | assumption | exact hR _ _ _ _ rfl | exact hR1 _ _ _ _ rfl | exact hR2 _ _ _ _ rfl | rfl) ?_
  refine x_iload_n hP rfl rfl ?_
  refine x_callV1 (ci := 3) hP 0 0 rfl rfl rfl (by first | assumption | rfl) rfl rfl rfl (Nat.zero_le _) (Nat.zero_le _) ?_
  refine c_hasDim hP isr h7.1 he ?_
  first | refine zb_if_ne hP rfl (fun c19 => ?_) (fun c19 => ?_) | refine zl_if_ne hP rfl (fun c19 => ?_) (fun c19 => ?_) | refine z_if_ne hP rfl (by omega) (fun c19 => ?_) (fun c19 => ?_)
  rotate_left
  · rw [if_neg (fun z => by rw [c19] at z; cases z.2)] at k
    refine x_iconst hP rfl ?_
    refine x_iret hP rfl rfl ?_
    exact k
  rw [if_pos ⟨c8, c19⟩] at k
  obtain ⟨m, rfl⟩ : ∃ m : Nat, x = m := ⟨x.toNat, by omega⟩
  have hm : m < (sV S).2.length := by omega
  have v := a6 m hm
  have e4 : ∃ z : Nat, e = z ∧ z < 4 := by
    unfold hasI at c19
    obtain ⟨y, y1, y2⟩ := List.any_eq_true.mp c19
    exact ⟨y, (of_decide_eq_true y2).symm, a8 y y1⟩
  obtain ⟨z, rfl, hz⟩ := e4
  rw [Int.toNat_natCast, Int.toNat_natCast] at k
  first | refine x_aload_n hP rfl rfl ?_ | refine x_aload_nN hP rfl rfl ?_
  refine x_getR hP rfl (by first | assumption | rfl) (by first | assumption | exact hR _ _ _ _ rfl | exact hR1 _ _ _ _ rfl | exact hR2 _ _ _ _ rfl | rfl) ?_
  refine x_getR hP rfl (by first | assumption | rfl) (by first | assumption | exact hR _ _ _ _ rfl | exact hR1 _ _ _ _ rfl | exact hR2 _ _ _ _ rfl | rfl) ?_
  refine x_iload_n hP rfl rfl ?_
  refine z_iald hP rfl (by first | assumption | rfl) (by first | decide | omega) (by omega) (by first | assumption | exact hR _ _ _ _ rfl | exact hR1 _ _ _ _ rfl | exact hR2 _ _ _ _ rfl | rfl) ?_
  refine x_iload_n hP rfl rfl ?_
  refine x_callS2 hP 0 0 rfl rfl rfl rfl rfl (Nat.zero_le _) (Nat.zero_le _) ?_
  refine c_partOf hP (a7 _ (getD_mem hm)) hz ?_
  refine x_iret hP rfl rfl ?_
  exact k
theorem m_shows (hP : x_closed E P) {x e : Int} (hx : -2147483648 ≤ x ∧ x < 2147483648) (he : -2147483648 ≤ e ∧ e < 2147483648) (hc : clI I J R S F) (k : Q (some (.int (iI (spShows x e S)))) (x_hp I J R)) : P 136 (d + 2) 0 (x_la 0 [.ref 0, .int (iI x), .int (iI e)]) [] (x_hp I J R) rc rs Q := by
  obtain ⟨t, t2, σ, tn, hR, h2, h3, h4, h5, h6, h7, h8, h9⟩ := hc
  have ⟨a1, a2, a3, a4, a5, a6, a7, a8⟩ := h7.1
  have isr : isRw R 4 := isRw_of hR (by decide)
  have tr := isTr_of hR h6.2.1
  have tk := tr.1
  have w3 := h6.2.2.1.2.2.2.2.2.2.1
  unfold spShows at k
  first | refine x_aload_n hP rfl rfl ?_ | refine x_aload_nN hP rfl rfl ?_
  refine x_getR hP rfl (by first | assumption | rfl) (by first | assumption | exact hR _ _ _ _ rfl | exact hR1 _ _ _ _ rfl | exact hR2 _ _ _ _ rfl | rfl) ?_
  refine x_iload_n hP rfl rfl ?_
  refine x_callV1 (ci := 3) hP 0 0 rfl rfl rfl (by first | assumption | rfl) rfl rfl rfl (Nat.zero_le _) (Nat.zero_le _) ?_
  refine c_hasTuple hP isr h7.1 hx ?_
  first | refine zb_if_eq hP rfl (fun c8 => ?_) (fun c8 => ?_) | refine zl_if_eq hP rfl (fun c8 => ?_) (fun c8 => ?_) | refine z_if_eq hP rfl (by omega) (fun c8 => ?_) (fun c8 => ?_)
  · rw [if_neg (fun z => of_decide_eq_false c8 z.1)] at k
    refine x_ldcI hP rfl ?_
    refine x_iret hP rfl rfl ?_
    exact k
  have c8 := of_decide_eq_true c8
  first | refine x_aload_n hP rfl rfl ?_ | refine x_aload_nN hP rfl rfl ?_
  refine x_getR hP rfl (by first | assumption | rfl) (by first | assumption | exact hR _ _ _ _ rfl | exact hR1 _ _ _ _ rfl | exact hR2 _ _ _ _ rfl | rfl) ?_
  refine x_iload_n hP rfl rfl ?_
  refine x_callV1 (ci := 8) hP 0 0 rfl rfl rfl (by first | assumption | rfl) rfl rfl rfl (Nat.zero_le _) (Nat.zero_le _) ?_
  refine c_hasMark hP tr h6.2.2.1 he ?_
  first | refine zb_if_ne hP rfl (fun c19 => ?_) (fun c19 => ?_) | refine zl_if_ne hP rfl (fun c19 => ?_) (fun c19 => ?_) | refine z_if_ne hP rfl (by omega) (fun c19 => ?_) (fun c19 => ?_)
  rotate_left
  · rw [if_neg (fun z => of_decide_eq_false c19 z.2)] at k
    refine x_ldcI hP rfl ?_
    refine x_iret hP rfl rfl ?_
    exact k
  have c19 := of_decide_eq_true c19
  rw [if_pos ⟨c8, c19⟩] at k
  obtain ⟨m, rfl⟩ : ∃ m : Nat, x = m := ⟨x.toNat, by omega⟩
  obtain ⟨z, rfl⟩ : ∃ m : Nat, e = m := ⟨e.toNat, by omega⟩
  rw [Int.toNat_natCast, Int.toNat_natCast] at k
  first | refine x_aload_n hP rfl rfl ?_ | refine x_aload_nN hP rfl rfl ?_
  refine x_getR hP rfl (by first | assumption | rfl) (by first | assumption | exact hR _ _ _ _ rfl | exact hR1 _ _ _ _ rfl | exact hR2 _ _ _ _ rfl | rfl) ?_
  first | refine x_aload_n hP rfl rfl ?_ | refine x_aload_nN hP rfl rfl ?_
  refine x_getR hP rfl (by first | assumption | rfl) (by first | assumption | exact hR _ _ _ _ rfl | exact hR1 _ _ _ _ rfl | exact hR2 _ _ _ _ rfl | rfl) ?_
  refine x_iload_n hP rfl rfl ?_
  refine x_iload_n hP rfl rfl ?_
  refine x_callV3 (ci := 8) hP 0 0 rfl rfl rfl (by first | assumption | rfl) rfl rfl rfl (Nat.zero_le _) (Nat.zero_le _) ?_
  refine c_sumOf hP tr h6.2.2.2.2.1 isr h7.1 (by omega) (by omega) ?_
  refine x_iret hP rfl rfl ?_
  exact k
theorem m_printed (hP : x_closed E P) {x : Int} (hx : -2147483648 ≤ x ∧ x < 2147483648) (hc : clI I J R S F) (k : Q (some (.int (iI (spPrinted x S)))) (x_hp I J R)) : P 148 (d + 2) 0 (x_la 0 [.ref 0, .int (iI x)]) [] (x_hp I J R) rc rs Q := by
  obtain ⟨t, t2, σ, tn, hR, h2, h3, h4, h5, h6, h7, h8, s1, s2, s3, s4⟩ := hc
  unfold spPrinted at k
  refine x_iload_n hP rfl rfl ?_
  refine z_if_lt hP rfl (by omega) (fun c1 => ?_) (fun c1 => ?_)
  · rw [if_neg (by omega)] at k
    refine x_iconst hP rfl ?_
    refine x_goto hP rfl ?_
    refine x_iret hP rfl rfl ?_
    exact k
  refine x_iload_n hP rfl rfl ?_
  first | refine x_aload_n hP rfl rfl ?_ | refine x_aload_nN hP rfl rfl ?_
  refine x_getI hP rfl (by first | assumption | rfl) (by first | assumption | exact hR _ _ _ _ rfl | exact hR1 _ _ _ _ rfl | exact hR2 _ _ _ _ rfl | rfl) ?_
  refine z_icmp_lt hP rfl (by omega) (by omega) (fun c9 => ?_) (fun c9 => ?_)
  rotate_left
  · rw [if_neg (by omega)] at k
    refine x_iconst hP rfl ?_
    refine x_goto hP rfl ?_
    refine x_iret hP rfl rfl ?_
    exact k
  rw [if_pos (by omega)] at k
  obtain ⟨m, rfl⟩ : ∃ m : Nat, x = m := ⟨x.toNat, by omega⟩
  rw [Int.toNat_natCast] at k
  have v := s3 m (by omega)
  first | refine x_aload_n hP rfl rfl ?_ | refine x_aload_nN hP rfl rfl ?_
  refine x_getR hP rfl (by first | assumption | rfl) (by first | assumption | exact hR _ _ _ _ rfl | exact hR1 _ _ _ _ rfl | exact hR2 _ _ _ _ rfl | rfl) ?_
  refine x_iload_n hP rfl rfl ?_
  refine z_bald hP rfl (by first | assumption | rfl) (by first | decide | omega) (by omega) (by first | assumption | exact hR _ _ _ _ rfl | exact hR1 _ _ _ _ rfl | exact hR2 _ _ _ _ rfl | rfl) ?_
  refine x_iret hP rfl rfl ?_
  exact k
theorem m_number (hP : x_closed E P) {x e m : Int} (hx : -2147483648 ≤ x ∧ x < 2147483648) (he : -2147483648 ≤ e ∧ e < 2147483648) (hm : -2147483648 ≤ m ∧ m < 2147483648) (hc : clI I J R S F) (k : Q (some (.int (iI (spNumber x e m S)))) (x_hp I J R)) : P 151 (d + 3) 0 (x_la 0 [.ref 0, .int (iI x), .int (iI e), .int (iI m)]) [] (x_hp I J R) rc rs Q := by
  obtain ⟨t, t2, σ, tn, hR, h2, h3, h4, h5, h6, h7, h8, h9⟩ := hc
  have tr := isTr_of hR h6.2.1
  have tk := tr.1
  have w3 := h6.2.2.1.2.2.2.2.2
  have w1 := w3.1
  have w2 := w3.2.1
  unfold spNumber isMb at k
  first | refine x_aload_n hP rfl rfl ?_ | refine x_aload_nN hP rfl rfl ?_
  refine x_getR hP rfl (by first | assumption | rfl) (by first | assumption | exact hR _ _ _ _ rfl | exact hR1 _ _ _ _ rfl | exact hR2 _ _ _ _ rfl | rfl) ?_
  refine x_iload_n hP rfl rfl ?_
  refine x_iload_n hP rfl rfl ?_
  refine x_callV2 (ci := 8) hP 0 0 rfl rfl rfl (by first | assumption | rfl) rfl rfl rfl (Nat.zero_le _) (Nat.zero_le _) ?_
  refine c_hasMember hP tr h6.2.2.1 hx he ?_
  first | refine zb_if_eq hP rfl (fun c9 => ?_) (fun c9 => ?_) | refine zl_if_eq hP rfl (fun c9 => ?_) (fun c9 => ?_) | refine z_if_eq hP rfl (by omega) (fun c9 => ?_) (fun c9 => ?_)
  · rw [if_neg (fun z => of_decide_eq_false c9 (of_decide_eq_true z.1))] at k
    refine x_ldcI hP rfl ?_
    refine x_iret hP rfl rfl ?_
    exact k
  have c9 := of_decide_eq_true c9
  first | refine x_aload_n hP rfl rfl ?_ | refine x_aload_nN hP rfl rfl ?_
  refine x_getR hP rfl (by first | assumption | rfl) (by first | assumption | exact hR _ _ _ _ rfl | exact hR1 _ _ _ _ rfl | exact hR2 _ _ _ _ rfl | rfl) ?_
  refine x_iload_n hP rfl rfl ?_
  refine x_callV1 (ci := 8) hP 0 0 rfl rfl rfl (by first | assumption | rfl) rfl rfl rfl (Nat.zero_le _) (Nat.zero_le _) ?_
  refine c_hasMark hP tr h6.2.2.1 hm ?_
  first | refine zb_if_ne hP rfl (fun c20 => ?_) (fun c20 => ?_) | refine zl_if_ne hP rfl (fun c20 => ?_) (fun c20 => ?_) | refine z_if_ne hP rfl (by omega) (fun c20 => ?_) (fun c20 => ?_)
  rotate_left
  · rw [if_neg (fun z => of_decide_eq_false c20 z.2)] at k
    refine x_ldcI hP rfl ?_
    refine x_iret hP rfl rfl ?_
    exact k
  have c20 := of_decide_eq_true c20
  rw [if_pos ⟨decide_eq_true c9, c20⟩] at k
  obtain ⟨a, rfl⟩ : ∃ m : Nat, x = m := ⟨x.toNat, by omega⟩
  obtain ⟨b, rfl⟩ : ∃ m : Nat, e = m := ⟨e.toNat, by omega⟩
  obtain ⟨z, rfl⟩ : ∃ z : Nat, m = z := ⟨m.toNat, by omega⟩
  rw [Int.toNat_natCast, Int.toNat_natCast, Int.toNat_natCast] at k
  rw [Int.toNat_natCast] at c9
  have w4 := (w3.2.2 a (by omega)).2.1
  first | refine x_aload_n hP rfl rfl ?_ | refine x_aload_nN hP rfl rfl ?_
  refine x_getR hP rfl (by first | assumption | rfl) (by first | assumption | exact hR _ _ _ _ rfl | exact hR1 _ _ _ _ rfl | exact hR2 _ _ _ _ rfl | rfl) ?_
  refine x_iload_n hP rfl rfl ?_
  refine x_iload_n hP rfl rfl ?_
  refine x_callS2 hP 0 0 rfl rfl rfl rfl rfl (Nat.zero_le _) (Nat.zero_le _) ?_
  refine c_idOf hP (by omega) (show b < 32 by omega) ?_
  refine x_iload_n hP rfl rfl ?_
  refine x_callV2 (ci := 8) hP 0 0 rfl rfl rfl (by first | assumption | rfl) rfl rfl rfl (Nat.zero_le _) (Nat.zero_le _) ?_
  refine c_numberAt hP tr h6.2.2.2.2.1 (by omega) (by omega) (by omega) ?_
  refine x_iret hP rfl rfl ?_
  exact k
theorem m_member (hP : x_closed E P) {x e m : Int} (hx : -2147483648 ≤ x ∧ x < 2147483648) (he : -2147483648 ≤ e ∧ e < 2147483648) (hm : -2147483648 ≤ m ∧ m < 2147483648) (hc : clI I J R S F) (k : Q (some (.int (iI (spMember x e m S)))) (x_hp I J R)) : P 149 (d + 3) 0 (x_la 0 [.ref 0, .int (iI x), .int (iI e), .int (iI m)]) [] (x_hp I J R) rc rs Q := by
  obtain ⟨t, t2, σ, tn, hR, h2, h3, h4, h5, h6, h7, h8, h9⟩ := hc
  have tr' := isTr_of hR h6.2.1
  have tr := tr'
  obtain ⟨t0, t1, t2, t3, t4, t5, t6, t7, t8, t9, t10, t11, u1, u2, u3, u4, u5, u6, u7, u8, u9, u10, u11⟩ := tr
  have w3 := h6.2.2.1.2.2.2.2.2
  have w1 := w3.1
  unfold spMember isMb at k
  first | refine x_aload_n hP rfl rfl ?_ | refine x_aload_nN hP rfl rfl ?_
  refine x_getR hP rfl (by first | assumption | rfl) (by first | assumption | exact hR _ _ _ _ rfl | exact hR1 _ _ _ _ rfl | exact hR2 _ _ _ _ rfl | rfl) ?_
  refine x_iload_n hP rfl rfl ?_
  refine x_iload_n hP rfl rfl ?_
  refine x_callV2 (ci := 8) hP 0 0 rfl rfl rfl (by first | assumption | rfl) rfl rfl rfl (Nat.zero_le _) (Nat.zero_le _) ?_
  refine c_hasMember hP tr' h6.2.2.1 hx he ?_
  first | refine zb_if_ne hP rfl (fun c9 => ?_) (fun c9 => ?_) | refine zl_if_ne hP rfl (fun c9 => ?_) (fun c9 => ?_) | refine z_if_ne hP rfl (by omega) (fun c9 => ?_) (fun c9 => ?_)
  rotate_left
  · rw [if_neg (fun z => of_decide_eq_false c9 (of_decide_eq_true z))] at k
    refine x_iconst hP rfl ?_
    refine x_iret hP rfl rfl ?_
    exact k
  have c9 := of_decide_eq_true c9
  rw [if_pos (decide_eq_true c9)] at k
  obtain ⟨a, rfl⟩ : ∃ m : Nat, x = m := ⟨x.toNat, by omega⟩
  obtain ⟨b, rfl⟩ : ∃ m : Nat, e = m := ⟨e.toNat, by omega⟩
  rw [Int.toNat_natCast, Int.toNat_natCast] at k
  rw [Int.toNat_natCast] at c9
  have ha : a < tD (zT (sZ S)) := by omega
  have hb : b < tS (zT (sZ S)) a := by omega
  have w4 := (w3.2.2 a ha).2.1
  have ⟨g1, g2⟩ := (h6.2.2.1.2.2.2.1 a ha b hb).2
  have ⟨⟨j1, j2, j3⟩, j4⟩ := h6.2.2.2.1 a ha
  have j1 : I 1 (t + 5) (32 * a + b) = iI (kdn (tP (zT (sZ S)) a) (tS (zT (sZ S)) a) b : Nat) := j1 b hb
  have j2 : I 1 (t + 6) (32 * a + b) = iI (lvs (tP (zT (sZ S)) a) (tS (zT (sZ S)) a) b : Nat) := j2 b hb
  refine x_iload_n hP rfl rfl ?_
  refine x_iload_n hP rfl rfl ?_
  refine x_callS2 hP 0 0 rfl rfl rfl rfl rfl (Nat.zero_le _) (Nat.zero_le _) ?_
  refine c_idOf hP (by omega) (show b < 32 by omega) ?_
  refine x_istore hP rfl ?_
  refine x_iload_n hP rfl rfl ?_
  by_cases q0 : m = 0
  · rw [if_pos q0] at k
    rw [q0]
    refine x_tsw (tg := 52) hP rfl (by decide +kernel) ?_
    first | refine x_aload_n hP rfl rfl ?_ | refine x_aload_nN hP rfl rfl ?_
    refine x_getR hP rfl (by first | assumption | rfl) (by first | assumption | exact hR _ _ _ _ rfl | exact hR1 _ _ _ _ rfl | exact hR2 _ _ _ _ rfl | rfl) ?_
    refine x_getR hP rfl (by first | assumption | rfl) (by first | assumption | exact hR _ _ _ _ rfl | exact hR1 _ _ _ _ rfl | exact hR2 _ _ _ _ rfl | rfl) ?_
    refine x_iload hP rfl rfl ?_
    refine z_iald hP rfl (by first | assumption | rfl) (by first | decide | omega) (by omega) (by first | assumption | exact hR _ _ _ _ rfl | exact hR1 _ _ _ _ rfl | exact hR2 _ _ _ _ rfl | rfl) ?_
    refine x_iret hP rfl rfl ?_
    exact k
  rw [if_neg q0] at k
  by_cases q1 : m = 1
  · rw [if_pos q1] at k
    rw [q1]
    refine x_tsw (tg := 63) hP rfl (by decide +kernel) ?_
    first | refine x_aload_n hP rfl rfl ?_ | refine x_aload_nN hP rfl rfl ?_
    refine x_getR hP rfl (by first | assumption | rfl) (by first | assumption | exact hR _ _ _ _ rfl | exact hR1 _ _ _ _ rfl | exact hR2 _ _ _ _ rfl | rfl) ?_
    refine x_getR hP rfl (by first | assumption | rfl) (by first | assumption | exact hR _ _ _ _ rfl | exact hR1 _ _ _ _ rfl | exact hR2 _ _ _ _ rfl | rfl) ?_
    refine x_iload hP rfl rfl ?_
    refine z_iald hP rfl (by first | assumption | rfl) (by first | decide | omega) (by omega) (by first | assumption | exact hR _ _ _ _ rfl | exact hR1 _ _ _ _ rfl | exact hR2 _ _ _ _ rfl | rfl) ?_
    refine x_iret hP rfl rfl ?_
    exact k
  rw [if_neg q1] at k
  by_cases q2 : m = 2
  · rw [if_pos q2] at k
    rw [q2]
    refine x_tsw (tg := 74) hP rfl (by decide +kernel) ?_
    first | refine x_aload_n hP rfl rfl ?_ | refine x_aload_nN hP rfl rfl ?_
    refine x_getR hP rfl (by first | assumption | rfl) (by first | assumption | exact hR _ _ _ _ rfl | exact hR1 _ _ _ _ rfl | exact hR2 _ _ _ _ rfl | rfl) ?_
    refine x_getR hP rfl (by first | assumption | rfl) (by first | assumption | exact hR _ _ _ _ rfl | exact hR1 _ _ _ _ rfl | exact hR2 _ _ _ _ rfl | rfl) ?_
    refine x_iload hP rfl rfl ?_
    refine z_iald hP rfl (by first | assumption | rfl) (by first | decide | omega) (by omega) (by first | assumption | exact hR _ _ _ _ rfl | exact hR1 _ _ _ _ rfl | exact hR2 _ _ _ _ rfl | rfl) ?_
    refine x_iret hP rfl rfl ?_
    exact k
  rw [if_neg q2] at k
  by_cases q3 : m = 3
  · rw [if_pos q3] at k
    rw [q3]
    refine x_tsw (tg := 85) hP rfl (by decide +kernel) ?_
    first | refine x_aload_n hP rfl rfl ?_ | refine x_aload_nN hP rfl rfl ?_
    refine x_getR hP rfl (by first | assumption | rfl) (by first | assumption | exact hR _ _ _ _ rfl | exact hR1 _ _ _ _ rfl | exact hR2 _ _ _ _ rfl | rfl) ?_
    refine x_getR hP rfl (by first | assumption | rfl) (by first | assumption | exact hR _ _ _ _ rfl | exact hR1 _ _ _ _ rfl | exact hR2 _ _ _ _ rfl | rfl) ?_
    refine x_iload hP rfl rfl ?_
    refine z_iald hP rfl (by first | assumption | rfl) (by first | decide | omega) (by omega) (by first | assumption | exact hR _ _ _ _ rfl | exact hR1 _ _ _ _ rfl | exact hR2 _ _ _ _ rfl | rfl) ?_
    refine x_iret hP rfl rfl ?_
    exact k
  rw [if_neg q3] at k
  refine x_tsw (tg := 96) hP rfl (by simp only [x_tgt]; rw [iI_toInt hm, if_pos (by omega)]; rfl) ?_
  refine x_iconst hP rfl ?_
  refine x_iret hP rfl rfl ?_
  exact k
theorem c_setsKept_loop (hP : x_closed E P) (hR : x_fin R) {K : Nat → x_V} (hw : ∀ k, k < 6 → rw I (8 + 3 * k) (K k).1 (K k).2) : ∀ (f i : Nat), i + f = 6 → Q (some (.int (iI (nKept K 6)))) (x_hp I J R) → P 153 d 4 (x_ls [some (.ref 0), some (.int (iI (nKept K i))), some (.int (iI i))]) [] (x_hp I J R) rc rs Q := by
  intro f
  induction f with
  | zero =>
    intro i hi k
    obtain rfl : i = 6 := by omega
    refine x_iload_n hP rfl rfl ?_
    refine x_bipush hP rfl ?_
    refine z_icmp_ge hP rfl (by omega) (by omega) (fun c7 => ?_) (fun c7 => ?_)
    · refine x_iload_n hP rfl rfl ?_
      refine x_iret hP rfl rfl ?_
      exact k
    · omega
  | succ f ih =>
    intro i hi k
    have hi6 : i < 6 := by omega
    have v3 := kept_at hR hi6
    have isr2 := isRw_of hR (kept_rows hi6)
    have kr2 := isr2.1
    have ⟨a1, a2, a3, a4, a5⟩ := hw i hi6
    have nk : nKept K i ≤ i := by
      have := sumS_mono (f := fun k => if (K k).1 = [] then 0 else 1) (g := fun _ => 1) i fun j _ => by split <;> omega
      have e2 := sumS_ltn i i (Nat.le_refl _)
      rw [sumS_congr i (f := fun _ => 1) (g := fun q => if q < i then 1 else 0) (fun j hj => (if_pos hj).symm), e2] at this
      exact this
    have st : nKept K (i + 1) = nKept K i + (if (K i).1 = [] then 0 else 1) := rfl
    refine x_iload_n hP rfl rfl ?_
    refine x_bipush hP rfl ?_
    refine z_icmp_ge hP rfl (by omega) (by omega) (fun c7 => ?_) (fun c7 => ?_)
    · omega
    first | refine x_aload_n hP rfl rfl ?_ | refine x_aload_nN hP rfl rfl ?_
    refine x_getR hP rfl (by first | assumption | rfl) (by first | assumption | exact hR _ _ _ _ rfl | exact hR1 _ _ _ _ rfl | exact hR2 _ _ _ _ rfl | rfl) ?_
    refine x_iload_n hP rfl rfl ?_
    refine z_aald hP rfl (by first | assumption | rfl) (by decide) (by omega) (by decide) (by decide) rfl (by first | assumption | exact hR _ _ _ _ rfl | exact hR1 _ _ _ _ rfl | exact hR2 _ _ _ _ rfl | rfl) ?_
    refine x_getI hP rfl (by first | assumption | rfl) (by first | assumption | exact hR _ _ _ _ rfl | exact hR1 _ _ _ _ rfl | exact hR2 _ _ _ _ rfl | rfl) ?_
    refine z_if_le hP rfl (by omega) (fun c19 => ?_) (fun c19 => ?_)
    · have em : (K i).1 = [] := List.eq_nil_of_length_eq_zero (by omega)
      rw [if_pos em] at st
      refine z_iinc hP rfl rfl rfl ?_
      refine x_goto hP rfl ?_
      exact x_re hP [some (.ref 0), some (.int (iI (nKept K (i + 1)))), some (.int (iI (i + 1 : Nat)))] ⟨rfl, by rw [st]; rfl, rfl, trivial⟩ (ih (i + 1) (by omega) k)
    · have ne : ¬ (K i).1 = [] := fun z => by rw [z] at c19; exact absurd c19 (by decide)
      rw [if_neg ne] at st
      refine z_iinc hP rfl rfl rfl ?_
      refine z_iinc hP rfl rfl rfl ?_
      refine x_goto hP rfl ?_
      exact x_re hP [some (.ref 0), some (.int (iI (nKept K (i + 1)))), some (.int (iI (i + 1 : Nat)))] ⟨rfl, by rw [st]; rfl, rfl, trivial⟩ (ih (i + 1) (by omega) k)
theorem m_count (hP : x_closed E P) {m : Int} (hm : -2147483648 ≤ m ∧ m < 2147483648) (hc : clI I J R S F) (k : Q (some (.int (iI (spCount m S)))) (x_hp I J R)) : P 152 (d + 3) 0 (x_la 0 [.ref 0, .int (iI m)]) [] (x_hp I J R) rc rs Q := by
  obtain ⟨t, t2, σ, tn, hR, h2, h3, h4, h5, h6, h7, h8, s1, s2, s3, s4⟩ := hc
  have tr := isTr_of hR h6.2.1
  have tk := tr.1
  have ⟨g1, g2, g3⟩ := h6.2.2.1
  have ⟨a1, a2, a3, a4, a5⟩ := h7.1
  unfold spCount at k
  refine x_iload_n hP rfl rfl ?_

  by_cases q0 : m = 0
  · rw [if_pos q0] at k
    rw [q0]
    refine x_tsw (tg := 44) hP rfl (by decide +kernel) ?_
    first | refine x_aload_n hP rfl rfl ?_ | refine x_aload_nN hP rfl rfl ?_
    refine x_getR hP rfl (by first | assumption | rfl) (by first | assumption | exact hR _ _ _ _ rfl | exact hR1 _ _ _ _ rfl | exact hR2 _ _ _ _ rfl | rfl) ?_
    refine x_getI hP rfl (by first | assumption | rfl) (by first | assumption | exact hR _ _ _ _ rfl | exact hR1 _ _ _ _ rfl | exact hR2 _ _ _ _ rfl | rfl) ?_
    refine x_iret hP rfl rfl ?_
    exact k
  rw [if_neg q0] at k
  by_cases q1 : m = 1
  · rw [if_pos q1] at k
    rw [q1]
    refine x_tsw (tg := 52) hP rfl (by decide +kernel) ?_
    first | refine x_aload_n hP rfl rfl ?_ | refine x_aload_nN hP rfl rfl ?_
    refine x_getR hP rfl (by first | assumption | rfl) (by first | assumption | exact hR _ _ _ _ rfl | exact hR1 _ _ _ _ rfl | exact hR2 _ _ _ _ rfl | rfl) ?_
    refine x_getI hP rfl (by first | assumption | rfl) (by first | assumption | exact hR _ _ _ _ rfl | exact hR1 _ _ _ _ rfl | exact hR2 _ _ _ _ rfl | rfl) ?_
    refine x_iret hP rfl rfl ?_
    exact k
  rw [if_neg q1] at k
  by_cases q2 : m = 2
  · rw [if_pos q2] at k
    rw [q2]
    refine x_tsw (tg := 60) hP rfl (by decide +kernel) ?_
    first | refine x_aload_n hP rfl rfl ?_ | refine x_aload_nN hP rfl rfl ?_
    refine x_getR hP rfl (by first | assumption | rfl) (by first | assumption | exact hR _ _ _ _ rfl | exact hR1 _ _ _ _ rfl | exact hR2 _ _ _ _ rfl | rfl) ?_
    refine x_callV0 (ci := 8) hP 0 0 rfl rfl rfl (by first | assumption | rfl) rfl rfl rfl (Nat.zero_le _) (Nat.zero_le _) ?_
    refine c_inAll hP tr h6.2.2.1 ?_
    refine x_iret hP rfl rfl ?_
    exact k
  rw [if_neg q2] at k
  by_cases q3 : m = 3
  · rw [if_pos q3] at k
    rw [q3]
    refine x_tsw (tg := 68) hP rfl (by decide +kernel) ?_
    first | refine x_aload_n hP rfl rfl ?_ | refine x_aload_nN hP rfl rfl ?_
    refine x_getR hP rfl (by first | assumption | rfl) (by first | assumption | exact hR _ _ _ _ rfl | exact hR1 _ _ _ _ rfl | exact hR2 _ _ _ _ rfl | rfl) ?_
    refine x_getI hP rfl (by first | assumption | rfl) (by first | assumption | exact hR _ _ _ _ rfl | exact hR1 _ _ _ _ rfl | exact hR2 _ _ _ _ rfl | rfl) ?_
    refine x_iret hP rfl rfl ?_
    exact k
  rw [if_neg q3] at k
  by_cases q4 : m = 4
  · rw [if_pos q4] at k
    rw [q4]
    refine x_tsw (tg := 76) hP rfl (by decide +kernel) ?_
    first | refine x_aload_n hP rfl rfl ?_ | refine x_aload_nN hP rfl rfl ?_
    refine x_getR hP rfl (by first | assumption | rfl) (by first | assumption | exact hR _ _ _ _ rfl | exact hR1 _ _ _ _ rfl | exact hR2 _ _ _ _ rfl | rfl) ?_
    refine x_getI hP rfl (by first | assumption | rfl) (by first | assumption | exact hR _ _ _ _ rfl | exact hR1 _ _ _ _ rfl | exact hR2 _ _ _ _ rfl | rfl) ?_
    refine x_iret hP rfl rfl ?_
    exact k
  rw [if_neg q4] at k
  by_cases q5 : m = 5
  · rw [if_pos q5] at k
    rw [q5]
    refine x_tsw (tg := 84) hP rfl (by decide +kernel) ?_
    first | refine x_aload_n hP rfl rfl ?_ | refine x_aload_nN hP rfl rfl ?_
    refine x_callV0 (ci := 0) hP 0 0 rfl rfl rfl (by first | assumption | rfl) rfl rfl rfl (Nat.zero_le _) (Nat.zero_le _) ?_
    refine x_iconst hP rfl ?_
    refine x_istore_n hP rfl ?_
    refine x_iconst hP rfl ?_
    refine x_istore_n hP rfl ?_
    refine x_re hP [some (.ref 0), some (.int (iI (nKept (zK (sZ S)) 0))), some (.int (iI (0 : Nat)))] ⟨rfl, rfl, rfl, trivial⟩ (c_setsKept_loop hP hR (K := zK (sZ S)) (fun k hk => (h6.2.2.2.2.2 k hk).1) 6 0 (by omega) ?_)
    refine x_iret hP rfl rfl ?_
    exact k
  rw [if_neg q5] at k
  by_cases q6 : m = 6
  · rw [if_pos q6] at k
    rw [q6]
    refine x_tsw (tg := 89) hP rfl (by decide +kernel) ?_
    first | refine x_aload_n hP rfl rfl ?_ | refine x_aload_nN hP rfl rfl ?_
    refine x_getI hP rfl (by first | assumption | rfl) (by first | assumption | exact hR _ _ _ _ rfl | exact hR1 _ _ _ _ rfl | exact hR2 _ _ _ _ rfl | rfl) ?_
    refine x_iret hP rfl rfl ?_
    exact k
  rw [if_neg q6] at k
  refine x_tsw (tg := 94) hP rfl (by simp only [x_tgt]; rw [iI_toInt hm, if_pos (by omega)]; rfl) ?_
  refine x_iconst hP rfl ?_
  refine x_iret hP rfl rfl ?_
  exact k
end
