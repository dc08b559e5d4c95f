/-! SetBook: the calls that read the tape -/
def spTree (S : x_St) : Int × x_St := match treR (sC S) (sN S) (sN S) tNil 0 with
  | .inl e => (-1000 - e, cutS S 0)
  | .inr T => ((sumS (tS T) (tD T) : Nat), (0, sC S, (T, nuNil, fun _ => ([], [])), ([], []), sP S))
def spSet (S : x_St) : Int × x_St := match setR (sZ S) (sC S) (sN S) with
  | .inl e => (-1000 - e, cutS S 0)
  | .inr ((V, tm), _) => if tm = true then (-4, cutS S 0) else ((V.2.length : Nat), (0, sC S, sZ S, V, sP S))
/-- what a text of a MARK's NUMBER tells: mark, dimension, place, number -/
def mkR (Z : x_Z) (c : Nat → Nat) (n : Nat) : Nat ⊕ (Nat × Nat × Nat × Int) := match memR (zT Z) c n 0 with
  | .inl e => .inl e
  | .inr ((e, k), q) => if ch c n q = 32 then (match mrkR (zT Z) c n (q + 1) with
    | .inl e => .inl e
    | .inr (m, r) => if ch c n r = 32 then (if ch c n (r + 1) = 45 ∧ r + 1 + 1 = n then .inr (m, e, k, -2000000000) else (match intR c n (r + 1) with
      | .inl e => .inl e
      | .inr (v, u) => if v < -1000000 ∨ 1000000 < v then .inl (r + 1) else if u = n then .inr (m, e, k, v) else .inl u)) else .inl r) else .inl q
def spMark (S : x_St) : Int × x_St := match mkR (sZ S) (sC S) (sN S) with
  | .inl e => (-1000 - e, cutS S 0)
  | .inr (m, e, k, v) => ((cn (zT (sZ S)) (nuU (zN (sZ S)) m e k v) m (tD (zT (sZ S))) : Nat), (0, sC S, (zT (sZ S), nuU (zN (sZ S)) m e k v, zK (sZ S)), sV S, sP S))
/-- what a text of a TUPLE tells -/
def plL (T : x_T) (c : Nat → Nat) (n : Nat) : Nat → List Nat → Nat → Nat → Nat ⊕ (Nat × Nat)
  | _, [], p, x => .inr (x, p)
  | i, e :: o, p, x => if 0 < i ∧ ¬ ch c n p = 46 then .inl p else (match memR T c n (if 0 < i then p + 1 else p) with
    | .inl e => .inl e
    | .inr ((e', k), q) => if e' = e then plL T c n (i + 1) o q (x ||| tp e' k) else .inl (if 0 < i then p + 1 else p))
def plR (T : x_T) (c : Nat → Nat) (n : Nat) (o : List Nat) : Nat ⊕ Nat := match plL T c n 0 o 0 0 with
  | .inl e => .inl e
  | .inr (x, q) => if q = n then .inr x else .inl q
def spPlace (S : x_St) : Int × x_St := (match plR (zT (sZ S)) (sC S) (sN S) (sV S).1 with
  | .inl e => -1000 - e
  | .inr x => fnd x (sV S).2 0, cutS S 0)
section
variable {E : x_E} {P : x_Pr} {d rc rs : Nat} {I : x_M Int32} {J : x_M Int64} {R : x_M (Option Nat)} {Q : x_Q} {S : x_St} {F : Int}
theorem c_take_loop (hP : x_closed E P) (hR : x_fin R) : ∀ (f i : Nat) (I : x_M Int32), i + f = 6 → (∀ k, k < i → rw I (8 + 3 * k) [] []) → (∀ I', (∀ k, k < 6 → rw I' (8 + 3 * k) [] []) → frP (fun _ a _ => 8 ≤ a ∧ a ≤ 25) I I' → Q none (x_hp I' J R)) → ∀ rc rs, P 47 (d + 1) 27 (x_ls [some (.ref 0), none, some (.int (iI i))]) [] (x_hp I J R) rc rs Q := by
  intro f
  induction f with
  | zero =>
    intro i I hi h k rc rs
    obtain rfl : i = 6 := by omega
    refine x_iload_n hP rfl rfl ?_
    refine x_bipush hP rfl ?_
    refine z_icmp_ge hP rfl (by omega) (by omega) (fun c30 => ?_) (fun c30 => ?_)
    · refine x_vret hP rfl rfl ?_
      exact k I h (frP_refl _ _)
    · omega
  | succ f ih =>
    intro i I hi h k rc rs
    have hi6 : i < 6 := by omega
    have v3 := kept_at hR hi6
    have isr2 := isRw_of hR (kept_rows hi6)
    have kr2 := isr2.1
    refine x_iload_n hP rfl rfl ?_
    refine x_bipush hP rfl ?_
    refine z_icmp_ge hP rfl (by omega) (by omega) (fun c30 => ?_) (fun c30 => ?_)
    · omega
    first | refine x_aload_n hP rfl rfl ?_ | refine x_aload_nN hP rfl rfl ?_
    refine x_getR hP rfl (by first | assumption | rfl) (by first | assumption | exact hR _ _ _ _ rfl | exact hR1 _ _ _ _ rfl | exact hR2 _ _ _ _ rfl | rfl) ?_
    refine x_iload_n hP rfl rfl ?_
    refine z_aald hP rfl (by first | assumption | rfl) (by decide) (by omega) (by decide) (by decide) rfl (by first | assumption | exact hR _ _ _ _ rfl | exact hR1 _ _ _ _ rfl | exact hR2 _ _ _ _ rfl | rfl) ?_
    refine x_callV0 (ci := 3) hP 0 0 rfl rfl rfl (by first | assumption | rfl) rfl rfl rfl (Nat.zero_le _) (Nat.zero_le _) ?_
    refine c_rowClear hP isr2 (fun I1 g1 g2 => ?_)
    refine z_iinc hP rfl rfl rfl ?_
    refine x_goto hP rfl ?_
    refine x_re hP [some (.ref 0), none, some (.int (iI (i + 1 : Nat)))] ⟨rfl, rfl, trivial⟩ (ih (i + 1) I1 (by omega) (fun j hj => ?_) (fun I' w1 w2 => k I' w1 (frP_trans (frP_mono g2 fun k a z q => by have := rg_a q; omega) w2)) _ _)
    by_cases q : j = i
    · rw [q]; exact g1
    · exact rw_fr (h j (by omega)) g2 fun k a z q1 q2 => by have := rg_a q1; have := rg_a q2; omega
theorem c_take (hP : x_closed E P) (hR : x_fin R) {t t2 : Nat} (h1 : R 1007 0 0 = some t) (h2 : R 1008 0 0 = some t2) (ht : isTa t) (ht2 : isTa t2) (k : ∀ I', rw I' 4 [] [] → (∀ k, k < 6 → rw I' (8 + 3 * k) [] []) → frP (fun _ a _ => 4 ≤ a ∧ a ≤ 25) I I' → Q none (x_hp I' J (x_at (x_at R 1007 0 0 (some t2)) 1008 0 0 (some t)))) : P 47 (d + 1) 0 (x_la 0 [.ref 0]) [] (x_hp I J R) rc rs Q := by
  have k1 := (isTr_of hR ht).1
  have k2 := (isTr_of hR ht2).1
  first | refine x_aload_n hP rfl rfl ?_ | refine x_aload_nN hP rfl rfl ?_
  refine x_getR hP rfl (by first | assumption | rfl) (by first | assumption | exact hR _ _ _ _ rfl | exact hR1 _ _ _ _ rfl | exact hR2 _ _ _ _ rfl | rfl) ?_
  first | refine x_astore_n hP rfl ?_ | refine x_astore_nN hP rfl ?_
  first | refine x_aload_n hP rfl rfl ?_ | refine x_aload_nN hP rfl rfl ?_
  first | refine x_aload_n hP rfl rfl ?_ | refine x_aload_nN hP rfl rfl ?_
  refine x_getR hP rfl (by first | assumption | rfl) (by first | assumption | exact hR _ _ _ _ rfl | exact hR1 _ _ _ _ rfl | exact hR2 _ _ _ _ rfl | rfl) ?_
  refine x_putR hP rfl (by first | assumption | rfl) ?_
  first | refine w_nI ?_ | refine w_nL ?_ | refine w_nR ?_ | refine w_mI ?_ | refine w_mL ?_ | refine w_mR ?_ | skip
  first | refine x_aload_n hP rfl rfl ?_ | refine x_aload_nN hP rfl rfl ?_
  first | refine x_aload_n hP rfl rfl ?_ | refine x_aload_nN hP rfl rfl ?_
  refine x_putR hP rfl (by first | assumption | rfl) ?_
  first | refine w_nI ?_ | refine w_nL ?_ | refine w_nR ?_ | refine w_mI ?_ | refine w_mL ?_ | refine w_mR ?_ | skip
  have hR2 : x_fin (x_at (x_at R 1007 0 0 (some t2)) 1008 0 0 (some t)) := x_fin_at (x_fin_at hR rfl) rfl
  generalize x_at (x_at R 1007 0 0 (some t2)) 1008 0 0 (some t) = R2 at hR2 k ⊢
  first | refine x_aload_n hP rfl rfl ?_ | refine x_aload_nN hP rfl rfl ?_
  refine x_getR hP rfl (by first | assumption | rfl) (by first | assumption | exact hR _ _ _ _ rfl | exact hR1 _ _ _ _ rfl | exact hR2 _ _ _ _ rfl | rfl) ?_
  refine x_callV0 (ci := 3) hP 0 0 rfl rfl rfl (by first | assumption | rfl) rfl rfl rfl (Nat.zero_le _) (Nat.zero_le _) ?_
  refine c_rowClear hP (isRw_of hR2 (by decide)) (fun I1 g1 g2 => ?_)
  refine x_iconst hP rfl ?_
  refine x_istore_n hP rfl ?_
  refine x_re hP [some (.ref 0), none, some (.int (iI (0 : Nat)))] ⟨rfl, rfl, trivial⟩ (c_take_loop hP hR2 6 0 I1 (by omega) (fun k hk => absurd hk (Nat.not_lt_zero _)) (fun I' w1 w2 => k I' (rw_fr g1 w2 fun k a z q1 q2 => by have := rg_a q1; omega) w1 (frP_tr g2 w2 (fun k a z q => by have := rg_a q; omega) fun k a z q => by omega)) _ _)
theorem cut_fr (I : x_M Int32) (q e : Int) : frP (fun _ a _ => a = 1) I (x_at (tI I q e) 1065 1 0 (iI 0)) := frP_at (tI_fr I q e) rfl
theorem tpB_cut0 {I : x_M Int32} {n : Nat} {c : Nat → Nat} {q e : Int} (h : tpB I n c) : tpB (x_at (tI I q e) 1065 1 0 (iI 0)) 0 c := tpB_cut (tpB_tI h q e) (Nat.zero_le _)
theorem m_tree (hP : x_closed E P) (hc : clI I J R S F) (k : ∀ I' J' R', clI I' J' R' (spTree S).2 (F + 40) → frP (fun _ a _ => lo a) I I' → frP (fun _ a _ => lo a) J J' → Q (some (.int (iI (spTree S).1))) (x_hp I' J' R')) : P 24 (d + 6) 0 (x_la 0 [.ref 0]) [] (x_hp I J R) rc rs Q := by
  have hc' := hc
  obtain ⟨t, t2, σ, tn, hR, h2, h3, h4, h5, h6, h7, h8, h9⟩ := hc
  obtain ⟨b1, b2, b3, b4, b5, b6⟩ := h6
  have tk1 := (isTr_of hR b2).1
  have tk2 := (isTr_of hR h4.1).1
  have tg1 := isTa_rg b2
  have tg2 := isTa_rg h4.1
  have apart : t + 11 < t2 ∨ t2 + 11 < t := by
    rcases b2 with z | z <;> rcases h4.1 with y | y <;> first | omega | (exact absurd (z.trans y.symm) h4.2)
  unfold spTree at k
  first | refine x_aload_n hP rfl rfl ?_ | refine x_aload_nN hP rfl rfl ?_
  refine x_getR hP rfl (by first | assumption | rfl) (by first | assumption | exact hR _ _ _ _ rfl | exact hR1 _ _ _ _ rfl | exact hR2 _ _ _ _ rfl | rfl) ?_
  refine x_callV0 (ci := 1) hP 0 0 rfl rfl rfl (by first | assumption | rfl) rfl rfl rfl (Nat.zero_le _) (Nat.zero_le _) ?_
  refine c_begin hP ?_
  first | refine x_aload_n hP rfl rfl ?_ | refine x_aload_nN hP rfl rfl ?_
  refine x_getR hP rfl (by first | assumption | rfl) (by first | assumption | exact hR _ _ _ _ rfl | exact hR1 _ _ _ _ rfl | exact hR2 _ _ _ _ rfl | rfl) ?_
  first | refine x_aload_n hP rfl rfl ?_ | refine x_aload_nN hP rfl rfl ?_
  refine x_getR hP rfl (by first | assumption | rfl) (by first | assumption | exact hR _ _ _ _ rfl | exact hR1 _ _ _ _ rfl | exact hR2 _ _ _ _ rfl | rfl) ?_
  first | refine x_aload_n hP rfl rfl ?_ | refine x_aload_nN hP rfl rfl ?_
  refine x_getR hP rfl (by first | assumption | rfl) (by first | assumption | exact hR _ _ _ _ rfl | exact hR1 _ _ _ _ rfl | exact hR2 _ _ _ _ rfl | rfl) ?_
  refine x_callV2 (ci := 2) hP 0 0 rfl rfl rfl (by first | assumption | rfl) rfl rfl rfl (Nat.zero_le _) (Nat.zero_le _) ?_
  refine c_read hP hR h4.1 b1 (fun I1 n1 t1 f1 => ?_)
  have hR1 : x_fin (x_at R 1128 3 0 (some 1)) := x_fin_at hR rfl
  have g2 : x_at R 1128 3 0 (some 1) 1007 0 0 = some t := h2
  have g3 : x_at R 1128 3 0 (some 1) 1008 0 0 = some t2 := h3
  have g5 : sl (x_at R 1128 3 0 (some 1)) σ ∧ pm σ ∧ ∃ a b, soR (x_at R 1128 3 0 (some 1)) a b := h5
  generalize x_at R 1128 3 0 (some 1) = R1 at hR1 g2 g3 g5 ⊢
  have f1' : frP (fun _ a _ => a = 1 ∨ t2 ≤ a ∧ a ≤ t2 + 11) I I1 := frP_tr (tI_fr I 0 0) f1 (fun _ _ _ => Or.inl) fun _ _ _ => Or.inr
  generalize treR (sC S) (sN S) (sN S) tNil 0 = oo at k ⊢
  match oo, k with
  | .inl e, k =>
    intro I2 J2 q t3 f2 f3
    refine x_istore_n hP rfl ?_
    refine x_iload_n hP rfl rfl ?_
    first | refine zb_if_eq hP rfl (fun c24 => ?_) (fun c24 => ?_) | refine zl_if_eq hP rfl (fun c24 => ?_) (fun c24 => ?_) | refine z_if_eq hP rfl (by omega) (fun c24 => ?_) (fun c24 => ?_)
    rotate_left
    · cases c24
    first | refine x_aload_n hP rfl rfl ?_ | refine x_aload_nN hP rfl rfl ?_
    refine x_getR hP rfl (by first | assumption | rfl) (by first | assumption | exact hR _ _ _ _ rfl | exact hR1 _ _ _ _ rfl | exact hR2 _ _ _ _ rfl | rfl) ?_
    refine x_callV0 (ci := 1) hP 0 0 rfl rfl rfl (by first | assumption | rfl) rfl rfl rfl (Nat.zero_le _) (Nat.zero_le _) ?_
    refine c_wrong hP ?_
    refine x_istore_n hP rfl ?_
    refine x_iload_n hP rfl rfl ?_
    first | refine zb_if_eq hP rfl (fun c46 => ?_) (fun c46 => ?_) | refine zl_if_eq hP rfl (fun c46 => ?_) (fun c46 => ?_) | refine z_if_eq hP rfl (by omega) (fun c46 => ?_) (fun c46 => ?_)
    rotate_left
    · cases c46
    first | refine x_aload_n hP rfl rfl ?_ | refine x_aload_nN hP rfl rfl ?_
    refine x_getR hP rfl (by first | assumption | rfl) (by first | assumption | exact hR _ _ _ _ rfl | exact hR1 _ _ _ _ rfl | exact hR2 _ _ _ _ rfl | rfl) ?_
    refine x_iconst hP rfl ?_
    refine x_callV1 (ci := 1) hP 0 0 rfl rfl rfl (by first | assumption | rfl) rfl rfl rfl (Nat.zero_le _) (Nat.zero_le _) ?_
    refine c_cut hP ?_
    refine x_iload_n hP rfl rfl ?_
    refine x_iret hP rfl rfl ?_
    have ff : frP (fun _ a _ => a = 1 ∨ t2 ≤ a ∧ a ≤ t2 + 11) I (x_at (tI I2 q e) 1065 1 0 (iI 0)) := frP_trans f1' (frP_tr f2 (cut_fr I2 q e) (fun k a i z => by unfold tA at z; omega) fun k a i z => Or.inl z)
    have fj : frP (fun _ a _ => a = 1 ∨ t2 ≤ a ∧ a ≤ t2 + 11) J J2 := frP_mono f3 fun k a i z => by unfold tA at z; omega
    refine k _ J2 R1 ⟨t, t2, σ, tn, hR1, g2, g3, h4, g5, ⟨tpB_cut0 t3, b2, ct_fr b3 ff fj fun k a i z => by omega, stP_fr b4 ff fun k a i z => by omega, nuP_fr b5 ff fun k a i z => by omega, fun j hj => ⟨rw_fr (b6 j hj).1 ff fun k' a i z => by have := rg_a z; omega, (b6 j hj).2⟩⟩, ⟨rw_fr h7.1 ff fun k' a i z => by have := rg_a z; omega, h7.2⟩, ⟨jnv_fr2 h8.1 ff fun k a i z => by unfold jA; omega, ?_⟩, shI_fr h9 ff fun k a i z => by omega⟩ (frP_mono ff fun k a i z => by unfold lo; omega) (frP_mono fj fun k a i z => by unfold lo; omega)
    have := h8.2
    show tn + 2 * ((0 : Nat) : Int) ≤ F + 40
    omega
  | .inr T, k =>
    intro I2 J2 q w t3 c3 s3 f2 f3
    dsimp only at k
    have tr2 := isTr_of hR1 h4.1
    refine x_istore_n hP rfl ?_
    refine x_iload_n hP rfl rfl ?_
    first | refine zb_if_eq hP rfl (fun c24 => ?_) (fun c24 => ?_) | refine zl_if_eq hP rfl (fun c24 => ?_) (fun c24 => ?_) | refine z_if_eq hP rfl (by omega) (fun c24 => ?_) (fun c24 => ?_)
    · cases c24
    first | refine x_aload_n hP rfl rfl ?_ | refine x_aload_nN hP rfl rfl ?_
    refine x_getR hP rfl (by first | assumption | rfl) (by first | assumption | exact hR _ _ _ _ rfl | exact hR1 _ _ _ _ rfl | exact hR2 _ _ _ _ rfl | rfl) ?_
    refine x_callV0 (ci := 8) hP 0 0 rfl rfl rfl (by first | assumption | rfl) rfl rfl rfl (Nat.zero_le _) (Nat.zero_le _) ?_
    refine c_inAll hP tr2 (ct_tI c3 (by omega) _ _) ?_
    refine x_goto hP rfl ?_
    refine x_istore_n hP rfl ?_
    refine x_iload_n hP rfl rfl ?_
    first | refine zb_if_eq hP rfl (fun c46 => ?_) (fun c46 => ?_) | refine zl_if_eq hP rfl (fun c46 => ?_) (fun c46 => ?_) | refine z_if_eq hP rfl (by omega) (fun c46 => ?_) (fun c46 => ?_)
    · cases c46
    first | refine x_aload_n hP rfl rfl ?_ | refine x_aload_nN hP rfl rfl ?_
    refine x_callV0 (ci := 0) hP 0 0 rfl rfl rfl (by first | assumption | rfl) rfl rfl rfl (Nat.zero_le _) (Nat.zero_le _) ?_
    refine c_take hP hR1 g2 g3 b2 h4.1 (fun I3 r1 r2 f4 => ?_)
    first | refine x_aload_n hP rfl rfl ?_ | refine x_aload_nN hP rfl rfl ?_
    refine x_getR hP rfl (by first | assumption | rfl) (by first | assumption | exact hR _ _ _ _ rfl | exact hR1 _ _ _ _ rfl | exact hR2 _ _ _ _ rfl | rfl) ?_
    refine x_iconst hP rfl ?_
    refine x_callV1 (ci := 1) hP 0 0 rfl rfl rfl (by first | assumption | rfl) rfl rfl rfl (Nat.zero_le _) (Nat.zero_le _) ?_
    refine c_cut hP ?_
    refine x_iload_n hP rfl rfl ?_
    refine x_iret hP rfl rfl ?_
    have fA2 : frP (fun _ a _ => a = 1 ∨ 4 ≤ a ∧ a ≤ 25) I2 I3 := frP_tr (tI_fr I2 q w) f4 (fun _ _ _ => Or.inl) fun _ _ _ => Or.inr
    have fc : frP (fun _ a _ => a = 1) I3 (x_at I3 1065 1 0 (iI 0)) := frP_at (frP_refl _ _) rfl
    have f5 : frP (fun _ a _ => a = 1 ∨ 4 ≤ a ∧ a ≤ 25) I2 (x_at I3 1065 1 0 (iI 0)) := frP_tr fA2 fc (fun _ _ _ z => z) fun _ _ _ => Or.inl
    have ff : frP (fun _ a _ => a = 1 ∨ 4 ≤ a ∧ a ≤ 25 ∨ t2 ≤ a ∧ a ≤ t2 + 11) I (x_at I3 1065 1 0 (iI 0)) := frP_tr (frP_tr f1' f2 (fun k a i z => z) fun k a i z => by unfold tA at z; omega) f5 (fun k a i z => by omega) fun k a i z => by omega
    have fj : frP (fun _ a _ => a = 1 ∨ t2 ≤ a ∧ a ≤ t2 + 11) J J2 := frP_mono f3 fun k a i z => by unfold tA at z; omega
    have tp3 : tpB I3 (sN S) (sC S) := by
      obtain ⟨z1, z2, z3, z4⟩ := tpB_tI t3 q w
      exact ⟨(f4 _ _ _ (by omega)).trans z1, z2, z3, fun i hi => (f4 _ _ _ (by omega)).trans (z4 i hi)⟩
    refine k _ J2 _ ⟨t2, t, σ, tn, x_fin_at (x_fin_at hR1 rfl) rfl, rfl, rfl, ⟨b2, fun z => h4.2 z.symm⟩, g5, ⟨tpB_cut tp3 (Nat.zero_le _), h4.1, ct_fr c3 f5 (frP_refl _ _) fun k a i z => by omega, stP_fr s3 f5 fun k a i z => by omega, nuP_fr (nuP_fr n1 f2 fun k a i z => by unfold tA at z; omega) f5 fun k a i z => by omega, fun j hj => ⟨rw_fr (r2 j hj) fc fun k' a i z => by have := rg_a z; omega, Or.inl rfl⟩⟩, ⟨rw_fr r1 fc fun k' a i z => by have := rg_a z; omega, Or.inl rfl⟩, ⟨jnv_fr2 h8.1 ff fun k a i z => by unfold jA; omega, ?_⟩, shI_fr h9 ff fun k a i z => by omega⟩ (frP_mono ff fun k a i z => by unfold lo; omega) (frP_mono fj fun k a i z => by unfold lo; omega)
    have := h8.2
    show tn + 2 * ((0 : Nat) : Int) ≤ F + 40
    omega
theorem m_set (hP : x_closed E P) (hE : x_is2 (some E.2.2) = false) (hF : F < 2147483000) (hc : clI I J R S F) (k : ∀ I' J' R', clI I' J' R' (spSet S).2 (F + 40) → frP (fun _ a _ => lo a) I I' → frP (fun _ a _ => lo a) J J' → Q (some (.int (iI (spSet S).1))) (x_hp I' J' R')) : P 62 (dq d 5 + 10) 0 (x_la 0 [.ref 0]) [] (x_hp I J R) rc rs Q := by
  have hc' := hc
  obtain ⟨t, t2, σ, tn, hR, h2, h3, h4, h5, h6, h7, h8, h9⟩ := hc
  have tk1 := (isTr_of hR h6.2.1).1
  unfold spSet at k
  first | refine x_aload_n hP rfl rfl ?_ | refine x_aload_nN hP rfl rfl ?_
  refine x_getR hP rfl (by first | assumption | rfl) (by first | assumption | exact hR _ _ _ _ rfl | exact hR1 _ _ _ _ rfl | exact hR2 _ _ _ _ rfl | rfl) ?_
  refine x_callV0 (ci := 1) hP 0 0 rfl rfl rfl (by first | assumption | rfl) rfl rfl rfl (Nat.zero_le _) (Nat.zero_le _) ?_
  refine c_begin hP ?_
  first | refine x_aload_n hP rfl rfl ?_ | refine x_aload_nN hP rfl rfl ?_
  refine x_getR hP rfl (by first | assumption | rfl) (by first | assumption | exact hR _ _ _ _ rfl | exact hR1 _ _ _ _ rfl | exact hR2 _ _ _ _ rfl | rfl) ?_
  first | refine x_aload_n hP rfl rfl ?_ | refine x_aload_nN hP rfl rfl ?_
  refine x_getR hP rfl (by first | assumption | rfl) (by first | assumption | exact hR _ _ _ _ rfl | exact hR1 _ _ _ _ rfl | exact hR2 _ _ _ _ rfl | rfl) ?_
  first | refine x_aload_n hP rfl rfl ?_ | refine x_aload_nN hP rfl rfl ?_
  refine x_getR hP rfl (by first | assumption | rfl) (by first | assumption | exact hR _ _ _ _ rfl | exact hR1 _ _ _ _ rfl | exact hR2 _ _ _ _ rfl | rfl) ?_
  first | refine x_aload_n hP rfl rfl ?_ | refine x_aload_nN hP rfl rfl ?_
  refine x_getR hP rfl (by first | assumption | rfl) (by first | assumption | exact hR _ _ _ _ rfl | exact hR1 _ _ _ _ rfl | exact hR2 _ _ _ _ rfl | rfl) ?_
  refine x_callV3 (ci := 4) hP 0 0 rfl rfl rfl (by first | assumption | rfl) rfl rfl rfl (Nat.zero_le _) (Nat.zero_le _) ?_
  refine c_readAll (B := F) hP hE h6 hR h5.1 h5.2.1 h5.2.2 h8.1 h8.2 hF ?_
  have fin : ∀ (I1 : x_M Int32) (J1 : x_M Int64) (R1 : x_M (Option Nat)) (σ1 : Nat → Nat → Nat) (tn1 : Int) (V : x_V), En I1 J1 t (sN S) (sC S) (sZ S) → frP (fun _ a _ => fA a ∨ a = 4 ∨ a = 5 ∨ a = 6) I I1 → frP (fun _ a _ => fA a) J J1 → frP (fun _ a _ => fA a) R R1 → srR R1 σ1 t → jnv I1 tn1 → tn1 ≤ F → rw I1 4 V.1 V.2 → (V = ([], []) ∨ vV (zT (sZ S)) V) → ∀ q e : Int, clI (x_at (tI I1 q e) 1065 1 0 (iI 0)) J1 R1 (0, sC S, sZ S, V, sP S) (F + 40) ∧ frP (fun _ a _ => lo a) I (x_at (tI I1 q e) 1065 1 0 (iI 0)) ∧ frP (fun _ a _ => lo a) J J1 := by
    intro I1 J1 R1 σ1 tn1 V he1 f1 f2 f3 hr1 hj1 hB1 hw1 hv1 q e
    have cf := cut_fr I1 q e
    have ff : frP (fun _ a _ => fA a ∨ a = 4 ∨ a = 5 ∨ a = 6) I (x_at (tI I1 q e) 1065 1 0 (iI 0)) := frP_tr f1 cf (fun _ _ _ z => z) fun k a i z => by unfold fA; omega
    refine ⟨⟨t, t2, σ1, tn1, hr1.1, (f3 _ _ _ (by unfold fA; omega)).trans h2, (f3 _ _ _ (by unfold fA; omega)).trans h3, h4, ⟨hr1.2.2.2.2.1, hr1.2.2.2.2.2.1, hr1.2.2.2.2.2.2⟩, en_tp he1 (frP_mono cf fun k a i z => Or.inl z) (tpB_cut0 he1.1), ⟨rw_fr hw1 cf fun k' a i z => by have := rg_a z; omega, hv1⟩, ⟨jnv_fr2 hj1 cf fun k a i z => by unfold jA; omega, ?_⟩, shI_fr h9 ff fun k a i z => by unfold fA at z; omega⟩, frP_mono ff fun k a i z => by unfold fA at z; unfold lo; omega, frP_mono f2 fun k a i z => by unfold fA at z; unfold lo; omega⟩
    show tn1 + 2 * ((0 : Nat) : Int) ≤ F + 40
    omega
  generalize setR (sZ S) (sC S) (sN S) = oo at k ⊢
  match oo, k with
  | .inl e, k =>
    intro I1 J1 R1 σ1 tn1 tm1 p1 he1 f1 f2 f3 hr1 hi1 hB1
    have hR1 := hr1.1
    refine x_astore_nN hP rfl ?_
    refine x_bipush hP rfl ?_
    refine x_istore_n hP rfl ?_
    refine x_aload_nN hP rfl rfl ?_
    refine x_ifnonnullN hP rfl ?_
    first | refine x_aload_n hP rfl rfl ?_ | refine x_aload_nN hP rfl rfl ?_
    refine x_getR hP rfl (by first | assumption | rfl) (by first | assumption | exact hR _ _ _ _ rfl | exact hR1 _ _ _ _ rfl | exact hR2 _ _ _ _ rfl | rfl) ?_
    refine x_callV0 (ci := 1) hP 0 0 rfl rfl rfl (by first | assumption | rfl) rfl rfl rfl (Nat.zero_le _) (Nat.zero_le _) ?_
    refine c_wrong hP ?_
    refine x_istore_n hP rfl ?_
    refine x_goto hP rfl ?_
    first | refine x_aload_n hP rfl rfl ?_ | refine x_aload_nN hP rfl rfl ?_
    refine x_getR hP rfl (by first | assumption | rfl) (by first | assumption | exact hR _ _ _ _ rfl | exact hR1 _ _ _ _ rfl | exact hR2 _ _ _ _ rfl | rfl) ?_
    refine x_iconst hP rfl ?_
    refine x_callV1 (ci := 1) hP 0 0 rfl rfl rfl (by first | assumption | rfl) rfl rfl rfl (Nat.zero_le _) (Nat.zero_le _) ?_
    refine c_cut hP ?_
    refine x_iload_n hP rfl rfl ?_
    refine x_iret hP rfl rfl ?_
    have ⟨z1, z2, z3⟩ := fin I1 J1 R1 σ1 tn1 (sV S) he1 (frP_mono f1 fun k a i z => Or.inl z) f2 f3 hr1 hi1.1 hB1 (rw_fr h7.1 f1 fun k' a i z => by have := rg_a z; unfold fA; omega) h7.2 p1 e
    exact k _ J1 R1 z1 z2 z3
  | .inr ((V, tm), qq), k =>
    intro I1 J1 R1 σ1 tn1 l1 w1 p1 he1 f1 f2 f3 hr1 hi1 hB1 hw1 hv1 hl1
    dsimp only at k
    have hR1 := hr1.1
    have hs := hr1.2.2.2.2.2.1.1 0 0 (by decide) (by decide)
    have isr2 := isRw_of hR1 (s18_rows hs)
    have isr1 : isRw R1 4 := isRw_of hR1 (by decide)
    have tmv : tI I1 p1 w1 1265 26 0 = bI tm := (tI_hi _ _ _ (by decide)).trans hi1.2
    refine x_astore_n hP rfl ?_
    refine x_bipush hP rfl ?_
    refine x_istore_n hP rfl ?_
    refine x_aload_n hP rfl rfl ?_
    refine x_ifnonnull hP rfl ?_
    first | refine x_aload_n hP rfl rfl ?_ | refine x_aload_nN hP rfl rfl ?_
    refine x_getR hP rfl (by first | assumption | rfl) (by first | assumption | exact hR _ _ _ _ rfl | exact hR1 _ _ _ _ rfl | exact hR2 _ _ _ _ rfl | rfl) ?_
    refine x_callV0 (ci := 4) hP 0 0 rfl rfl rfl (by first | assumption | rfl) rfl rfl rfl (Nat.zero_le _) (Nat.zero_le _) ?_
    first | refine x_aload_n hP rfl rfl ?_ | refine x_aload_nN hP rfl rfl ?_
    refine x_getZ hP rfl (by first | assumption | rfl) (by first | assumption | exact hR _ _ _ _ rfl | exact hR1 _ _ _ _ rfl | exact hR2 _ _ _ _ rfl | rfl) ?_
    refine x_zret hP rfl rfl (by first | exact Or.inl iI_0 | exact Or.inr iI_1 | exact bI_or _ | assumption) ?_
    first | refine zb_if_ne hP rfl (fun c52 => ?_) (fun c52 => ?_) | refine zl_if_ne hP rfl (fun c52 => ?_) (fun c52 => ?_) | refine z_if_ne hP rfl (by omega) (fun c52 => ?_) (fun c52 => ?_)
    · rw [if_pos c52] at k
      first | refine x_aload_n hP rfl rfl ?_ | refine x_aload_nN hP rfl rfl ?_
      refine x_getR hP rfl (by first | assumption | rfl) (by first | assumption | exact hR _ _ _ _ rfl | exact hR1 _ _ _ _ rfl | exact hR2 _ _ _ _ rfl | rfl) ?_
      refine x_iconst hP rfl ?_
      refine x_callV1 (ci := 1) hP 0 0 rfl rfl rfl (by first | assumption | rfl) rfl rfl rfl (Nat.zero_le _) (Nat.zero_le _) ?_
      refine c_cut hP ?_
      refine x_iload_n hP rfl rfl ?_
      refine x_iret hP rfl rfl ?_
      have ⟨z1, z2, z3⟩ := fin I1 J1 R1 σ1 tn1 (sV S) he1 (frP_mono f1 fun k a i z => Or.inl z) f2 f3 hr1 hi1.1 hB1 (rw_fr h7.1 f1 fun k' a i z => by have := rg_a z; unfold fA; omega) h7.2 p1 w1
      exact k _ J1 R1 z1 z2 z3
    · rw [if_neg (by rw [c52]; decide)] at k
      have hl := hl1 c52
      rw [hl] at hw1 hv1
      first | refine x_aload_n hP rfl rfl ?_ | refine x_aload_nN hP rfl rfl ?_
      refine x_getR hP rfl (by first | assumption | rfl) (by first | assumption | exact hR _ _ _ _ rfl | exact hR1 _ _ _ _ rfl | exact hR2 _ _ _ _ rfl | rfl) ?_
      first | refine x_aload_n hP rfl rfl ?_ | refine x_aload_nN hP rfl rfl ?_
      refine x_callV1 (ci := 3) hP 0 0 rfl rfl rfl (by first | assumption | rfl) rfl rfl rfl (Nat.zero_le _) (Nat.zero_le _) ?_
      refine c_copyFrom hP isr1 isr2 (by unfold rfar; unfold s18 at hs; omega) (rw_fr hw1 (tI_fr I1 p1 w1) fun k' a i z => by have := rg_a z; unfold s18 at hs; omega) (fun I2 g1 g2 => ?_)
      have v1 := g1.1
      first | refine x_aload_n hP rfl rfl ?_ | refine x_aload_nN hP rfl rfl ?_
      refine x_getR hP rfl (by first | assumption | rfl) (by first | assumption | exact hR _ _ _ _ rfl | exact hR1 _ _ _ _ rfl | exact hR2 _ _ _ _ rfl | rfl) ?_
      refine x_getI hP rfl (by first | assumption | rfl) (by first | assumption | exact hR _ _ _ _ rfl | exact hR1 _ _ _ _ rfl | exact hR2 _ _ _ _ rfl | rfl) ?_
      refine x_istore_n hP rfl ?_
      first | refine x_aload_n hP rfl rfl ?_ | refine x_aload_nN hP rfl rfl ?_
      refine x_getR hP rfl (by first | assumption | rfl) (by first | assumption | exact hR _ _ _ _ rfl | exact hR1 _ _ _ _ rfl | exact hR2 _ _ _ _ rfl | rfl) ?_
      refine x_iconst hP rfl ?_
      refine x_callV1 (ci := 1) hP 0 0 rfl rfl rfl (by first | assumption | rfl) rfl rfl rfl (Nat.zero_le _) (Nat.zero_le _) ?_
      refine c_cut hP ?_
      refine x_iload_n hP rfl rfl ?_
      refine x_iret hP rfl rfl ?_
      have gg : frP (fun _ a _ => a = 1 ∨ a = 4 ∨ a = 5 ∨ a = 6) I1 I2 := frP_tr (tI_fr I1 p1 w1) g2 (fun k a i z => Or.inl z) fun k a i z => by have := rg_a z; omega
      obtain ⟨y1, y2, y3, y4, y5, y6⟩ := he1
      have ty := isTa_rg y2
      have tpy : tpB I2 (sN S) (sC S) := by
        obtain ⟨x1, x2, x3, x4⟩ := tpB_tI y1 p1 w1
        exact ⟨(g2 _ _ _ fun z => by have := rg_a z; omega).trans x1, x2, x3, fun i hi => (g2 _ _ _ fun z => by have := rg_a z; omega).trans (x4 i hi)⟩
      have e2 : tI I2 p1 w1 = I2 := tI_self ((g2 _ _ _ fun z => by have := rg_a z; omega).trans rfl) ((g2 _ _ _ fun z => by have := rg_a z; omega).trans rfl)
      have ⟨z1, z2, z3⟩ := fin I2 J1 R1 σ1 tn1 V ⟨tpy, y2, ct_fr y3 gg (frP_refl _ _) fun k a i z => by omega, stP_fr y4 gg fun k a i z => by omega, nuP_fr y5 gg fun k a i z => by omega, fun j hj => ⟨rw_fr (y6 j hj).1 gg fun k' a i z => by have := rg_a z; omega, (y6 j hj).2⟩⟩ (frP_tr f1 gg (fun k a i z => Or.inl z) fun k a i z => by unfold fA; omega) f2 f3 hr1 (jnv_fr2 hi1.1 gg fun k a i z => by unfold jA; omega) hB1 g1 (Or.inr hv1) p1 w1
      rw [e2] at z1 z2
      exact k _ J1 R1 z1 z2 z3
theorem c_rmn (hP : x_closed E P) (hR : x_fin R) {n : Nat} {c : Nat → Nat} {p : Nat} {w : Int} (hb : tpB I n c) (hp : p ≤ n) (k : pPost Q I J R w (.int (iI (-2000000000))) (fun v => .int (iI v)) (match intR c n p with | .inl e => .inl e | .inr (v, u) => if v < -1000000 ∨ 1000000 < v then .inl p else .inr (v, u))) : P 55 (d + 3) 0 (x_la 0 [.ref 0]) [] (x_hp (tI I p w) J R) rc rs Q := by
  first | refine x_aload_n hP rfl rfl ?_ | refine x_aload_nN hP rfl rfl ?_
  refine x_getR hP rfl (by first | assumption | rfl) (by first | assumption | exact hR _ _ _ _ rfl | exact hR1 _ _ _ _ rfl | exact hR2 _ _ _ _ rfl | rfl) ?_
  refine x_callV0 (ci := 1) hP 0 0 rfl rfl rfl (by first | assumption | rfl) rfl rfl rfl (Nat.zero_le _) (Nat.zero_le _) ?_
  refine c_at hP ?_
  refine x_istore_n hP rfl ?_
  first | refine x_aload_n hP rfl rfl ?_ | refine x_aload_nN hP rfl rfl ?_
  refine x_getR hP rfl (by first | assumption | rfl) (by first | assumption | exact hR _ _ _ _ rfl | exact hR1 _ _ _ _ rfl | exact hR2 _ _ _ _ rfl | rfl) ?_
  refine x_callV0 (ci := 1) hP 0 0 rfl rfl rfl (by first | assumption | rfl) rfl rfl rfl (Nat.zero_le _) (Nat.zero_le _) ?_
  refine c_int hP hR hb hp ?_
  have rg := fun v q => intR_rg (c := c) (n := n) (p := p) hb.2.2.1 hp (v := v) (q := q)
  generalize intR c n p = oo at k rg ⊢
  match oo, k, rg with
  | .inl e, k, _ =>
    intro q
    refine x_istore_n hP rfl ?_
    refine x_iload_n hP rfl rfl ?_
    refine x_ldcI hP rfl ?_
    first | refine z_icmp_eq hP rfl (by omega) (by omega) (fun c19 => ?_) (fun c19 => ?_) | refine x_icmp_eq hP rfl (fun c19 => ?_) (fun c19 => ?_)
    · refine x_iload_n hP rfl rfl ?_
      refine x_iret hP rfl rfl ?_
      exact k q
    · exact absurd rfl c19
  | .inr (v, q), k, rg =>
    have ⟨b1, b2, b3, b4⟩ := rg v q rfl
    dsimp only at k
    show P _ _ _ _ (Value.int (iI v) :: _) _ _ _ _
    refine x_istore_n hP rfl ?_
    refine x_iload_n hP rfl rfl ?_
    refine x_ldcI hP rfl ?_
    first | refine z_icmp_eq hP rfl (by omega) (by omega) (fun c19 => ?_) (fun c19 => ?_) | refine x_icmp_eq hP rfl (fun c19 => ?_) (fun c19 => ?_)
    · omega
    refine x_iload_n hP rfl rfl ?_
    refine x_ldcI hP rfl ?_
    refine z_icmp_lt hP rfl (by omega) (by omega) (fun c25 => ?_) (fun c25 => ?_)
    · rw [if_pos (by omega)] at k
      first | refine x_aload_n hP rfl rfl ?_ | refine x_aload_nN hP rfl rfl ?_
      refine x_getR hP rfl (by first | assumption | rfl) (by first | assumption | exact hR _ _ _ _ rfl | exact hR1 _ _ _ _ rfl | exact hR2 _ _ _ _ rfl | rfl) ?_
      refine x_iload_n hP rfl rfl ?_
      refine x_callV1 (ci := 1) hP 0 0 rfl rfl rfl (by first | assumption | rfl) rfl rfl rfl (Nat.zero_le _) (Nat.zero_le _) ?_
      refine c_fail hP ?_
      refine x_pop hP rfl rfl ?_
      refine x_ldcI hP rfl ?_
      refine x_iret hP rfl rfl ?_
      exact k q
    refine x_iload_n hP rfl rfl ?_
    refine x_ldcI hP rfl ?_
    refine z_icmp_le hP rfl (by omega) (by omega) (fun c31 => ?_) (fun c31 => ?_)
    · rw [if_neg (by omega)] at k
      refine x_iload_n hP rfl rfl ?_
      refine x_iret hP rfl rfl ?_
      exact k
    · rw [if_pos (by omega)] at k
      first | refine x_aload_n hP rfl rfl ?_ | refine x_aload_nN hP rfl rfl ?_
      refine x_getR hP rfl (by first | assumption | rfl) (by first | assumption | exact hR _ _ _ _ rfl | exact hR1 _ _ _ _ rfl | exact hR2 _ _ _ _ rfl | rfl) ?_
      refine x_iload_n hP rfl rfl ?_
      refine x_callV1 (ci := 1) hP 0 0 rfl rfl rfl (by first | assumption | rfl) rfl rfl rfl (Nat.zero_le _) (Nat.zero_le _) ?_
      refine c_fail hP ?_
      refine x_pop hP rfl rfl ?_
      refine x_ldcI hP rfl ?_
      refine x_iret hP rfl rfl ?_
      exact k q
theorem c_rnm (hP : x_closed E P) (hR : x_fin R) {t n : Nat} {c : Nat → Nat} {Z : x_Z} {w : Int} (ht : R 1007 0 0 = some t) (he : En I J t n c Z) (k : match mkR Z c n with
    | .inl e => ∀ q : Nat, Q (some (.int (iI (-1000 - e)))) (x_hp (tI I q e) J R)
    | .inr (m, e, z, v) => ∀ I' (q : Nat) w', nuP I' t (nuU (zN Z) m e z v) → frP (fun _ a _ => a = t + 11) I I' → Q (some (.int (iI (cn (zT Z) (nuU (zN Z) m e z v) m (tD (zT Z)))))) (x_hp (tI I' q w') J R)) : P 50 (d + 4) 0 (x_la 0 [.ref 0]) [] (x_hp (tI I (0 : Nat) w) J R) rc rs Q := by
  have tr := isTr_of hR he.2.1
  have tk := tr.1
  have tg1 := isTa_rg he.2.1
  have hw := he.2.2.1.2.2.2.2.2
  have w1 := hw.1
  have w2 := hw.2.1
  unfold mkR at k
  first | refine x_aload_n hP rfl rfl ?_ | refine x_aload_nN hP rfl rfl ?_
  refine x_getR hP rfl (by first | assumption | rfl) (by first | assumption | exact hR _ _ _ _ rfl | exact hR1 _ _ _ _ rfl | exact hR2 _ _ _ _ rfl | rfl) ?_
  first | refine x_aload_n hP rfl rfl ?_ | refine x_aload_nN hP rfl rfl ?_
  refine x_getR hP rfl (by first | assumption | rfl) (by first | assumption | exact hR _ _ _ _ rfl | exact hR1 _ _ _ _ rfl | exact hR2 _ _ _ _ rfl | rfl) ?_
  refine x_callV1 (ci := 8) hP 0 0 rfl rfl rfl (by first | assumption | rfl) rfl rfl rfl (Nat.zero_le _) (Nat.zero_le _) ?_
  refine c_mem hP hR tr he.1 (Nat.zero_le _) (fun p w => ct_tI he.2.2.1 (by omega) p w) ?_
  have rg := fun a b q => memR_rg (T := zT Z) (c := c) (n := n) (p := 0) (a := a) (b := b) (q := q) he.1.2.2.1 (Nat.zero_le _)
  generalize memR (zT Z) c n 0 = o1 at k rg ⊢
  match o1, k, rg with
  | .inl e, k, _ =>
    intro q
    refine x_istore_n hP rfl ?_
    refine x_iload_n hP rfl rfl ?_
    refine z_if_lt hP rfl (by omega) (fun c13 => ?_) (fun c13 => ?_)
    · first | refine x_aload_n hP rfl rfl ?_ | refine x_aload_nN hP rfl rfl ?_
      refine x_getR hP rfl (by first | assumption | rfl) (by first | assumption | exact hR _ _ _ _ rfl | exact hR1 _ _ _ _ rfl | exact hR2 _ _ _ _ rfl | rfl) ?_
      refine x_callV0 (ci := 1) hP 0 0 rfl rfl rfl (by first | assumption | rfl) rfl rfl rfl (Nat.zero_le _) (Nat.zero_le _) ?_
      refine c_wrong hP ?_
      refine x_iret hP rfl rfl ?_
      exact k q
    · omega
  | .inr ((e, z), q), k, rg =>
    have ⟨m1, m2, m3, m4⟩ := rg e z q rfl
    have w4 := (hw.2.2 e m3).2.1
    dsimp only at k
    show P _ _ _ _ (Value.int (iI (32 * e + z : Nat)) :: _) _ _ _ _
    refine x_istore_n hP rfl ?_
    refine x_iload_n hP rfl rfl ?_
    refine z_if_lt hP rfl (by omega) (fun c13 => ?_) (fun c13 => ?_)
    · omega
    first | refine x_aload_n hP rfl rfl ?_ | refine x_aload_nN hP rfl rfl ?_
    refine x_getR hP rfl (by first | assumption | rfl) (by first | assumption | exact hR _ _ _ _ rfl | exact hR1 _ _ _ _ rfl | exact hR2 _ _ _ _ rfl | rfl) ?_
    refine x_bipush hP rfl ?_
    refine x_callV1 (ci := 1) hP 0 0 rfl rfl rfl (by first | assumption | rfl) rfl rfl rfl (Nat.zero_le _) (Nat.zero_le _) ?_
    refine c_skip hP hR he.1 m2 (by omega) (fun q1 q2 => ?_) (fun q1 => ?_)
    rotate_left
    · rw [if_neg q1] at k
      first | refine zb_if_ne hP rfl (fun c25 => ?_) (fun c25 => ?_) | refine zl_if_ne hP rfl (fun c25 => ?_) (fun c25 => ?_) | refine z_if_ne hP rfl (by omega) (fun c25 => ?_) (fun c25 => ?_)
      · cases c25
      first | refine x_aload_n hP rfl rfl ?_ | refine x_aload_nN hP rfl rfl ?_
      refine x_getR hP rfl (by first | assumption | rfl) (by first | assumption | exact hR _ _ _ _ rfl | exact hR1 _ _ _ _ rfl | exact hR2 _ _ _ _ rfl | rfl) ?_
      refine x_callV0 (ci := 1) hP 0 0 rfl rfl rfl (by first | assumption | rfl) rfl rfl rfl (Nat.zero_le _) (Nat.zero_le _) ?_
      refine c_wrong hP ?_
      refine x_iret hP rfl rfl ?_
      exact k q
    rw [if_pos q1] at k
    first | refine zb_if_ne hP rfl (fun c25 => ?_) (fun c25 => ?_) | refine zl_if_ne hP rfl (fun c25 => ?_) (fun c25 => ?_) | refine z_if_ne hP rfl (by omega) (fun c25 => ?_) (fun c25 => ?_)
    rotate_left
    · cases c25
    first | refine x_aload_n hP rfl rfl ?_ | refine x_aload_nN hP rfl rfl ?_
    refine x_getR hP rfl (by first | assumption | rfl) (by first | assumption | exact hR _ _ _ _ rfl | exact hR1 _ _ _ _ rfl | exact hR2 _ _ _ _ rfl | rfl) ?_
    first | refine x_aload_n hP rfl rfl ?_ | refine x_aload_nN hP rfl rfl ?_
    refine x_getR hP rfl (by first | assumption | rfl) (by first | assumption | exact hR _ _ _ _ rfl | exact hR1 _ _ _ _ rfl | exact hR2 _ _ _ _ rfl | rfl) ?_
    refine x_callV1 (ci := 8) hP 0 0 rfl rfl rfl (by first | assumption | rfl) rfl rfl rfl (Nat.zero_le _) (Nat.zero_le _) ?_
    refine c_mrk hP hR tr he.1 q2 (fun p w => ct_tI he.2.2.1 (by omega) p w) ?_
    have rg := fun a b => mrkR_rg (T := zT Z) (c := c) (n := n) (p := q + 1) (a := a) (q := b) he.1.2.2.1 q2
    generalize mrkR (zT Z) c n (q + 1) = o2 at k rg ⊢
    match o2, k, rg with
    | .inl x, k, _ =>
      intro q
      refine x_istore_n hP rfl ?_
      refine x_iload_n hP rfl rfl ?_
      refine z_if_lt hP rfl (by omega) (fun c49 => ?_) (fun c49 => ?_)
      · first | refine x_aload_n hP rfl rfl ?_ | refine x_aload_nN hP rfl rfl ?_
        refine x_getR hP rfl (by first | assumption | rfl) (by first | assumption | exact hR _ _ _ _ rfl | exact hR1 _ _ _ _ rfl | exact hR2 _ _ _ _ rfl | rfl) ?_
        refine x_callV0 (ci := 1) hP 0 0 rfl rfl rfl (by first | assumption | rfl) rfl rfl rfl (Nat.zero_le _) (Nat.zero_le _) ?_
        refine c_wrong hP ?_
        refine x_iret hP rfl rfl ?_
        exact k q
      · omega
    | .inr (m, r), k, rg =>
      have ⟨r1, r2, r3⟩ := rg m r rfl
      dsimp only at k
      show P _ _ _ _ (Value.int (iI (m : Nat)) :: _) _ _ _ _
      refine x_istore_n hP rfl ?_
      refine x_iload_n hP rfl rfl ?_
      refine z_if_lt hP rfl (by omega) (fun c49 => ?_) (fun c49 => ?_)
      · omega
      first | refine x_aload_n hP rfl rfl ?_ | refine x_aload_nN hP rfl rfl ?_
      refine x_getR hP rfl (by first | assumption | rfl) (by first | assumption | exact hR _ _ _ _ rfl | exact hR1 _ _ _ _ rfl | exact hR2 _ _ _ _ rfl | rfl) ?_
      refine x_bipush hP rfl ?_
      refine x_callV1 (ci := 1) hP 0 0 rfl rfl rfl (by first | assumption | rfl) rfl rfl rfl (Nat.zero_le _) (Nat.zero_le _) ?_
      refine c_skip hP hR he.1 r2 (by omega) (fun q3 q4 => ?_) (fun q3 => ?_)
      rotate_left
      · rw [if_neg q3] at k
        first | refine zb_if_ne hP rfl (fun c61 => ?_) (fun c61 => ?_) | refine zl_if_ne hP rfl (fun c61 => ?_) (fun c61 => ?_) | refine z_if_ne hP rfl (by omega) (fun c61 => ?_) (fun c61 => ?_)
        · cases c61
        first | refine x_aload_n hP rfl rfl ?_ | refine x_aload_nN hP rfl rfl ?_
        refine x_getR hP rfl (by first | assumption | rfl) (by first | assumption | exact hR _ _ _ _ rfl | exact hR1 _ _ _ _ rfl | exact hR2 _ _ _ _ rfl | rfl) ?_
        refine x_callV0 (ci := 1) hP 0 0 rfl rfl rfl (by first | assumption | rfl) rfl rfl rfl (Nat.zero_le _) (Nat.zero_le _) ?_
        refine c_wrong hP ?_
        refine x_iret hP rfl rfl ?_
        exact k r
      rw [if_pos q3] at k
      have put : ∀ (u : Nat) (v w' : Int), (v = -2000000000 ∨ -1000000 ≤ v ∧ v ≤ 1000000) → (∀ I' (q : Nat) w', nuP I' t (nuU (zN Z) m e z v) → frP (fun _ a _ => a = t + 11) I I' → Q (some (.int (iI (cn (zT Z) (nuU (zN Z) m e z v) m (tD (zT Z)))))) (x_hp (tI I' q w') J R)) → ∀ I1, nuP I1 t (nuU (zN Z) m e z v) → frP (fun k a _ => k = 1 ∧ a = t + 11) (tI I u w') I1 → ∀ L r1 r2, x_ag L 0 [some (.ref 0), none, some (.int (iI m))] → P 50 (d + 4) 137 L [] (x_hp I1 J R) r1 r2 Q := by
        intro u v w' hv k I1 g1 g2 L r1 r2 hL
        refine x_re hP _ hL ?_
        have e1 : tI I1 u w' = I1 := tI_self ((g2 _ _ _ (by omega)).trans rfl) ((g2 _ _ _ (by omega)).trans rfl)
        have c1 : ct I1 J t (zT Z) := by
          obtain ⟨z1, z2, z3, z4, z5, z6⟩ := ct_tI he.2.2.1 (show 3 ≤ t by omega) u w'
          exact ⟨(g2 _ _ _ (by omega)).trans z1, (g2 _ _ _ (by omega)).trans z2, fun d hd => (g2 _ _ _ (by omega)).trans (z3 d hd), fun d hd k hk => ⟨(z4 d hd k hk).1, (g2 _ _ _ (by omega)).trans (z4 d hd k hk).2.1, (g2 _ _ _ (by omega)).trans (z4 d hd k hk).2.2⟩, z5, z6⟩
        first | refine x_aload_n hP rfl rfl ?_ | refine x_aload_nN hP rfl rfl ?_
        refine x_getR hP rfl (by first | assumption | rfl) (by first | assumption | exact hR _ _ _ _ rfl | exact hR1 _ _ _ _ rfl | exact hR2 _ _ _ _ rfl | rfl) ?_
        refine x_iload_n hP rfl rfl ?_
        refine x_callV1 (ci := 8) hP 0 0 rfl rfl rfl (by first | assumption | rfl) rfl rfl rfl (Nat.zero_le _) (Nat.zero_le _) ?_
        refine c_withNum hP tr c1 g1 (by omega) ?_
        refine x_iret hP rfl rfl ?_
        rw [← e1]
        have gg : frP (fun _ a _ => a = t + 11 ∨ a = 1) I I1 := frP_tr (tI_fr I u w') g2 (fun k a i z => Or.inr z) fun k a i z => Or.inl z.2
        have := k (fun k a i => if a = 1 then I k a i else I1 k a i) u w' (fun m d k h1 h2 h3 => ⟨(if_neg (by omega)).trans (g1 m d k h1 h2 h3).1, (g1 m d k h1 h2 h3).2⟩) (fun k a i z => by
          show (if a = 1 then I k a i else I1 k a i) = I k a i
          by_cases q : a = 1
          · rw [if_pos q]
          · rw [if_neg q, gg k a i (by omega)])
        have e3 : tI (fun k a i => if a = 1 then I k a i else I1 k a i) u w' = tI I1 u w' := by
          funext k a i
          unfold tI
          simp only [x_at_eq]
          by_cases q : a = 1
          · rw [if_pos q]
            by_cases q1 : k = 1067 ∧ a = 1 ∧ i = 0
            · rw [if_pos q1, if_pos q1]
            · rw [if_neg q1, if_neg q1]
              by_cases q2 : k = 1066 ∧ a = 1 ∧ i = 0
              · rw [if_pos q2, if_pos q2]
              · rw [if_neg q2, if_neg q2, g2 k a i (by omega)]
                unfold tI
                rw [x_at_eq, if_neg q1, x_at_eq, if_neg q2]
          · rw [if_neg q]
        rw [e3] at this
        exact this
      first | refine zb_if_ne hP rfl (fun c61 => ?_) (fun c61 => ?_) | refine zl_if_ne hP rfl (fun c61 => ?_) (fun c61 => ?_) | refine z_if_ne hP rfl (by omega) (fun c61 => ?_) (fun c61 => ?_)
      rotate_left
      · cases c61
      first | refine x_aload_n hP rfl rfl ?_ | refine x_aload_nN hP rfl rfl ?_
      refine x_getR hP rfl (by first | assumption | rfl) (by first | assumption | exact hR _ _ _ _ rfl | exact hR1 _ _ _ _ rfl | exact hR2 _ _ _ _ rfl | rfl) ?_
      refine x_bipush hP rfl ?_
      refine x_callV1 (ci := 1) hP 0 0 rfl rfl rfl (by first | assumption | rfl) rfl rfl rfl (Nat.zero_le _) (Nat.zero_le _) ?_
      refine c_endsWith hP hR he.1 q4 (by omega) ?_
      first | refine zb_if_eq hP rfl (fun c81 => ?_) (fun c81 => ?_) | refine zl_if_eq hP rfl (fun c81 => ?_) (fun c81 => ?_) | refine z_if_eq hP rfl (by omega) (fun c81 => ?_) (fun c81 => ?_)
      · rw [if_neg (of_decide_eq_false c81)] at k
        first | refine x_aload_n hP rfl rfl ?_ | refine x_aload_nN hP rfl rfl ?_
        refine x_callV0 (ci := 0) hP 0 0 rfl rfl rfl (by first | assumption | rfl) rfl rfl rfl (Nat.zero_le _) (Nat.zero_le _) ?_
        refine c_rmn hP hR he.1 q4 ?_
        have rg := fun v q => intR_rg (c := c) (n := n) (p := r + 1) he.1.2.2.1 q4 (v := v) (q := q)
        generalize intR c n (r + 1) = o3 at k rg ⊢
        match o3, k, rg with
        | .inl x, k, _ =>
          intro q
          refine x_istore_n hP rfl ?_
          refine x_iload_n hP rfl rfl ?_
          refine x_ldcI hP rfl ?_
          first | refine z_icmp_eq hP rfl (by omega) (by omega) (fun c106 => ?_) (fun c106 => ?_) | refine x_icmp_eq hP rfl (fun c106 => ?_) (fun c106 => ?_)
          · first | refine x_aload_n hP rfl rfl ?_ | refine x_aload_nN hP rfl rfl ?_
            refine x_getR hP rfl (by first | assumption | rfl) (by first | assumption | exact hR _ _ _ _ rfl | exact hR1 _ _ _ _ rfl | exact hR2 _ _ _ _ rfl | rfl) ?_
            refine x_callV0 (ci := 1) hP 0 0 rfl rfl rfl (by first | assumption | rfl) rfl rfl rfl (Nat.zero_le _) (Nat.zero_le _) ?_
            refine c_wrong hP ?_
            refine x_iret hP rfl rfl ?_
            exact k q
          · exact absurd rfl c106
        | .inr (v, u), k, rg =>
          have ⟨u1, u2, u3, u4⟩ := rg v u rfl
          dsimp only at k ⊢
          by_cases vr : v < -1000000 ∨ 1000000 < v
          · rw [if_pos vr] at k ⊢
            intro q
            refine x_istore_n hP rfl ?_
            refine x_iload_n hP rfl rfl ?_
            refine x_ldcI hP rfl ?_
            first | refine z_icmp_eq hP rfl (by omega) (by omega) (fun c106 => ?_) (fun c106 => ?_) | refine x_icmp_eq hP rfl (fun c106 => ?_) (fun c106 => ?_)
            · first | refine x_aload_n hP rfl rfl ?_ | refine x_aload_nN hP rfl rfl ?_
              refine x_getR hP rfl (by first | assumption | rfl) (by first | assumption | exact hR _ _ _ _ rfl | exact hR1 _ _ _ _ rfl | exact hR2 _ _ _ _ rfl | rfl) ?_
              refine x_callV0 (ci := 1) hP 0 0 rfl rfl rfl (by first | assumption | rfl) rfl rfl rfl (Nat.zero_le _) (Nat.zero_le _) ?_
              refine c_wrong hP ?_
              refine x_iret hP rfl rfl ?_
              exact k q
            · exact absurd rfl c106
          · rw [if_neg vr] at k ⊢
            show P _ _ _ _ (Value.int (iI v) :: _) _ _ _ _
            refine x_istore_n hP rfl ?_
            refine x_iload_n hP rfl rfl ?_
            refine x_ldcI hP rfl ?_
            first | refine z_icmp_eq hP rfl (by omega) (by omega) (fun c106 => ?_) (fun c106 => ?_) | refine x_icmp_eq hP rfl (fun c106 => ?_) (fun c106 => ?_)
            · omega
            first | refine x_aload_n hP rfl rfl ?_ | refine x_aload_nN hP rfl rfl ?_
            refine x_getR hP rfl (by first | assumption | rfl) (by first | assumption | exact hR _ _ _ _ rfl | exact hR1 _ _ _ _ rfl | exact hR2 _ _ _ _ rfl | rfl) ?_
            refine x_callV0 (ci := 1) hP 0 0 rfl rfl rfl (by first | assumption | rfl) rfl rfl rfl (Nat.zero_le _) (Nat.zero_le _) ?_
            refine c_isAtEnd hP he.1 u4 (fun z1 => ?_) (fun z1 => ?_)
            · rw [if_pos z1] at k
              first | refine zb_if_ne hP rfl (fun c116 => ?_) (fun c116 => ?_) | refine zl_if_ne hP rfl (fun c116 => ?_) (fun c116 => ?_) | refine z_if_ne hP rfl (by omega) (fun c116 => ?_) (fun c116 => ?_)
              rotate_left
              · cases c116
              first | refine x_aload_n hP rfl rfl ?_ | refine x_aload_nN hP rfl rfl ?_
              refine x_getR hP rfl (by first | assumption | rfl) (by first | assumption | exact hR _ _ _ _ rfl | exact hR1 _ _ _ _ rfl | exact hR2 _ _ _ _ rfl | rfl) ?_
              refine x_iload_n hP rfl rfl ?_
              refine x_iload_n hP rfl rfl ?_
              refine x_iload_n hP rfl rfl ?_
              refine x_callV3 (ci := 8) hP 0 0 rfl rfl rfl (by first | assumption | rfl) rfl rfl rfl (Nat.zero_le _) (Nat.zero_le _) ?_
              refine c_putNumber hP tr (nuP_fr he.2.2.2.2.1 (tI_fr I u w) fun k a i z => by omega) (by omega) (by omega) (by omega) (by omega) (fun I1 g1 g2 => ?_)
              exact put u v w (by omega) k I1 g1 g2 _ _ _ ⟨rfl, rfl, trivial⟩
            · rw [if_neg (by omega)] at k
              first | refine zb_if_ne hP rfl (fun c116 => ?_) (fun c116 => ?_) | refine zl_if_ne hP rfl (fun c116 => ?_) (fun c116 => ?_) | refine z_if_ne hP rfl (by omega) (fun c116 => ?_) (fun c116 => ?_)
              · cases c116
              first | refine x_aload_n hP rfl rfl ?_ | refine x_aload_nN hP rfl rfl ?_
              refine x_getR hP rfl (by first | assumption | rfl) (by first | assumption | exact hR _ _ _ _ rfl | exact hR1 _ _ _ _ rfl | exact hR2 _ _ _ _ rfl | rfl) ?_
              refine x_callV0 (ci := 1) hP 0 0 rfl rfl rfl (by first | assumption | rfl) rfl rfl rfl (Nat.zero_le _) (Nat.zero_le _) ?_
              refine c_wrong hP ?_
              refine x_iret hP rfl rfl ?_
              exact k u
      · rw [if_pos (of_decide_eq_true c81)] at k
        first | refine x_aload_n hP rfl rfl ?_ | refine x_aload_nN hP rfl rfl ?_
        refine x_getR hP rfl (by first | assumption | rfl) (by first | assumption | exact hR _ _ _ _ rfl | exact hR1 _ _ _ _ rfl | exact hR2 _ _ _ _ rfl | rfl) ?_
        refine x_iload_n hP rfl rfl ?_
        refine x_iload_n hP rfl rfl ?_
        refine x_ldcI hP rfl ?_
        refine x_callV3 (ci := 8) hP 0 0 rfl rfl rfl (by first | assumption | rfl) rfl rfl rfl (Nat.zero_le _) (Nat.zero_le _) ?_
        refine c_putNumber (v := -2000000000) hP tr (nuP_fr he.2.2.2.2.1 (tI_fr I (r + 1 : Nat) w) fun k a i z => by omega) (by omega) (by omega) (by omega) (by omega) (fun I1 g1 g2 => ?_)
        refine x_goto hP rfl ?_
        exact put (r + 1) _ w (Or.inl rfl) k I1 g1 g2 _ _ _ ⟨rfl, rfl, trivial⟩
theorem m_mark (hP : x_closed E P) (hc : clI I J R S F) (k : ∀ I' J' R', clI I' J' R' (spMark S).2 (F + 40) → frP (fun _ a _ => lo a) I I' → frP (fun _ a _ => lo a) J J' → Q (some (.int (iI (spMark S).1))) (x_hp I' J' R')) : P 49 (d + 5) 0 (x_la 0 [.ref 0]) [] (x_hp I J R) rc rs Q := by
  have hc' := hc
  obtain ⟨t, t2, σ, tn, hR, h2, h3, h4, h5, h6, h7, h8, h9⟩ := hc
  have tg1 := isTa_rg h6.2.1
  unfold spMark at k
  first | refine x_aload_n hP rfl rfl ?_ | refine x_aload_nN hP rfl rfl ?_
  refine x_getR hP rfl (by first | assumption | rfl) (by first | assumption | exact hR _ _ _ _ rfl | exact hR1 _ _ _ _ rfl | exact hR2 _ _ _ _ rfl | rfl) ?_
  refine x_callV0 (ci := 1) hP 0 0 rfl rfl rfl (by first | assumption | rfl) rfl rfl rfl (Nat.zero_le _) (Nat.zero_le _) ?_
  refine c_begin hP ?_
  first | refine x_aload_n hP rfl rfl ?_ | refine x_aload_nN hP rfl rfl ?_
  refine x_callV0 (ci := 0) hP 0 0 rfl rfl rfl (by first | assumption | rfl) rfl rfl rfl (Nat.zero_le _) (Nat.zero_le _) ?_
  refine c_rnm (t := t) (Z := sZ S) (n := sN S) (c := sC S) hP hR h2 h6 ?_
  have nb : ∀ m e z v, mkR (sZ S) (sC S) (sN S) = .inr (m, e, z, v) → True := fun _ _ _ _ _ => trivial
  generalize mkR (sZ S) (sC S) (sN S) = oo at k ⊢
  match oo, k with
  | .inl e, k =>
    intro q
    refine x_istore_n hP rfl ?_
    first | refine x_aload_n hP rfl rfl ?_ | refine x_aload_nN hP rfl rfl ?_
    refine x_getR hP rfl (by first | assumption | rfl) (by first | assumption | exact hR _ _ _ _ rfl | exact hR1 _ _ _ _ rfl | exact hR2 _ _ _ _ rfl | rfl) ?_
    refine x_iconst hP rfl ?_
    refine x_callV1 (ci := 1) hP 0 0 rfl rfl rfl (by first | assumption | rfl) rfl rfl rfl (Nat.zero_le _) (Nat.zero_le _) ?_
    refine c_cut hP ?_
    refine x_iload_n hP rfl rfl ?_
    refine x_iret hP rfl rfl ?_
    have cf := cut_fr I q e
    exact k _ J R (clI_tp hc' (frP_mono cf fun k a i z => Or.inl z) (tpB_cut0 h6.1) (by omega)) (frP_mono cf fun k a i z => by unfold lo; omega) (frP_refl _ _)
  | .inr (m, e, z, v), k =>
    intro I1 q w' n1 f1
    dsimp only at k
    refine x_istore_n hP rfl ?_
    first | refine x_aload_n hP rfl rfl ?_ | refine x_aload_nN hP rfl rfl ?_
    refine x_getR hP rfl (by first | assumption | rfl) (by first | assumption | exact hR _ _ _ _ rfl | exact hR1 _ _ _ _ rfl | exact hR2 _ _ _ _ rfl | rfl) ?_
    refine x_iconst hP rfl ?_
    refine x_callV1 (ci := 1) hP 0 0 rfl rfl rfl (by first | assumption | rfl) rfl rfl rfl (Nat.zero_le _) (Nat.zero_le _) ?_
    refine c_cut hP ?_
    refine x_iload_n hP rfl rfl ?_
    refine x_iret hP rfl rfl ?_
    obtain ⟨b1, b2, b3, b4, b5, b6⟩ := h6
    have tpy : tpB I1 (sN S) (sC S) := by
      obtain ⟨x1, x2, x3, x4⟩ := b1
      exact ⟨(f1 _ _ _ (by omega)).trans x1, x2, x3, fun i hi => (f1 _ _ _ (by omega)).trans (x4 i hi)⟩
    have ct1 : ct I1 J t (zT (sZ S)) := by
      obtain ⟨z1, z2, z3, z4, z5, z6⟩ := b3
      exact ⟨(f1 _ _ _ (by omega)).trans z1, (f1 _ _ _ (by omega)).trans z2, fun d hd => (f1 _ _ _ (by omega)).trans (z3 d hd), fun d hd k hk => ⟨(z4 d hd k hk).1, (f1 _ _ _ (by omega)).trans (z4 d hd k hk).2.1, (f1 _ _ _ (by omega)).trans (z4 d hd k hk).2.2⟩, z5, z6⟩
    have st1 : stP I1 t (zT (sZ S)) (tD (zT (sZ S))) := fun e he => by
      obtain ⟨⟨y1, y2, y3⟩, y4, y5⟩ := b4 e he
      exact ⟨⟨fun k hk => (f1 _ _ _ (by omega)).trans (y1 k hk), fun k hk => (f1 _ _ _ (by omega)).trans (y2 k hk), fun k hk => (f1 _ _ _ (by omega)).trans (y3 k hk)⟩, fun k hk => (f1 _ _ _ (by omega)).trans (y4 k hk), fun k hk => (f1 _ _ _ (by omega)).trans (y5 k hk)⟩
    have base : clI I1 J R (sN S, sC S, (zT (sZ S), nuU (zN (sZ S)) m e z v, zK (sZ S)), sV S, sP S) F := ⟨t, t2, σ, tn, hR, h2, h3, h4, h5, ⟨tpy, b2, ct1, st1, n1, fun j hj => ⟨rw_fr (b6 j hj).1 f1 fun k' a i z => by have := rg_a z; omega, (b6 j hj).2⟩⟩, ⟨rw_fr h7.1 f1 fun k' a i z => by have := rg_a z; omega, h7.2⟩, ⟨jnv_fr2 h8.1 f1 fun k a i z => by unfold jA; omega, h8.2⟩, shI_fr h9 f1 fun k a i z => by omega⟩
    have cf := cut_fr I1 q w'
    exact k _ J R (clI_tp base (frP_mono cf fun k a i z => Or.inl z) (tpB_cut0 tpy) (by show F - 2 * (sN S : Int) + _ ≤ _; omega)) (frP_tr f1 cf (fun k a i z => by unfold lo; omega) fun k a i z => by unfold lo; omega) (frP_refl _ _)
theorem c_place_loop (hP : x_closed E P) (hR : x_fin R) {t n : Nat} {c : Nat → Nat} {Z : x_Z} {o l : List Nat} (ht : R 1007 0 0 = some t) (he : En I J t n c Z) (hw : rw I 4 o l) : ∀ (o2 : List Nat) (i p x : Nat) (w : Int), i ≤ o.length → o.drop i = o2 → p ≤ n → x < 1048576 → (match (match plL (zT Z) c n i o2 p x with | .inl e => .inl e | .inr (x, q) => if q = n then .inr x else .inl q : Nat ⊕ Nat) with
    | .inl e => ∀ q : Nat, Q (some (.int (iI (-1000 - e)))) (x_hp (tI I q e) J R)
    | .inr y => ∀ (q : Nat) w', Q (some (.int (iI (fnd y l 0)))) (x_hp (tI I q w') J R)) → ∀ rc rs, P 139 (d + 4) 4 (x_ls [some (.ref 0), some (.int (iI x)), some (.int (iI i)), none, none]) [] (x_hp (tI I p w) J R) rc rs Q := by
  have tr := isTr_of hR he.2.1
  have tk := tr.1
  have tg1 := isTa_rg he.2.1
  have hwf := he.2.2.1.2.2.2.2.2
  have w1 := hwf.1
  have isr : isRw R 4 := isRw_of hR (by decide)
  have hwt : ∀ p w : Int, rw (tI I p w) 4 o l := fun p w => rw_fr hw (tI_fr I p w) fun k a i z => by have := rg_a z; omega
  have ol := hw.2.2.2.1
  intro o2
  induction o2 with
  | nil =>
    intro i p x w hi hd hp hx k rc rs
    have hl : i = o.length := by have := List.drop_eq_nil_iff.mp hd; omega
    have a2 := (hwt p w).2.1
    unfold plL at k
    dsimp only at k
    refine x_iload_n hP rfl rfl ?_
    first | refine x_aload_n hP rfl rfl ?_ | refine x_aload_nN hP rfl rfl ?_
    refine x_getR hP rfl (by first | assumption | rfl) (by first | assumption | exact hR _ _ _ _ rfl | exact hR1 _ _ _ _ rfl | exact hR2 _ _ _ _ rfl | rfl) ?_
    refine x_getI hP rfl (by first | assumption | rfl) (by first | assumption | exact hR _ _ _ _ rfl | exact hR1 _ _ _ _ rfl | exact hR2 _ _ _ _ rfl | rfl) ?_
    refine z_icmp_ge hP rfl (by omega) (by omega) (fun c12 => ?_) (fun c12 => ?_)
    · first | refine x_aload_n hP rfl rfl ?_ | refine x_aload_nN hP rfl rfl ?_
      refine x_getR hP rfl (by first | assumption | rfl) (by first | assumption | exact hR _ _ _ _ rfl | exact hR1 _ _ _ _ rfl | exact hR2 _ _ _ _ rfl | rfl) ?_
      refine x_callV0 (ci := 1) hP 0 0 rfl rfl rfl (by first | assumption | rfl) rfl rfl rfl (Nat.zero_le _) (Nat.zero_le _) ?_
      refine c_isAtEnd hP he.1 hp (fun z1 => ?_) (fun z1 => ?_)
      · rw [if_pos z1] at k
        first | refine zb_if_eq hP rfl (fun c128 => ?_) (fun c128 => ?_) | refine zl_if_eq hP rfl (fun c128 => ?_) (fun c128 => ?_) | refine z_if_eq hP rfl (by omega) (fun c128 => ?_) (fun c128 => ?_)
        · cases c128
        first | refine x_aload_n hP rfl rfl ?_ | refine x_aload_nN hP rfl rfl ?_
        refine x_getR hP rfl (by first | assumption | rfl) (by first | assumption | exact hR _ _ _ _ rfl | exact hR1 _ _ _ _ rfl | exact hR2 _ _ _ _ rfl | rfl) ?_
        refine x_iload_n hP rfl rfl ?_
        refine x_callV1 (ci := 3) hP 0 0 rfl rfl rfl (by first | assumption | rfl) rfl rfl rfl (Nat.zero_le _) (Nat.zero_le _) ?_
        refine c_find hP isr (hwt _ _) hx ?_
        refine x_goto hP rfl ?_
        refine x_iret hP rfl rfl ?_
        exact k p w
      · rw [if_neg (by omega)] at k
        first | refine zb_if_eq hP rfl (fun c128 => ?_) (fun c128 => ?_) | refine zl_if_eq hP rfl (fun c128 => ?_) (fun c128 => ?_) | refine z_if_eq hP rfl (by omega) (fun c128 => ?_) (fun c128 => ?_)
        rotate_left
        · cases c128
        first | refine x_aload_n hP rfl rfl ?_ | refine x_aload_nN hP rfl rfl ?_
        refine x_getR hP rfl (by first | assumption | rfl) (by first | assumption | exact hR _ _ _ _ rfl | exact hR1 _ _ _ _ rfl | exact hR2 _ _ _ _ rfl | rfl) ?_
        refine x_callV0 (ci := 1) hP 0 0 rfl rfl rfl (by first | assumption | rfl) rfl rfl rfl (Nat.zero_le _) (Nat.zero_le _) ?_
        refine c_wrong hP ?_
        refine x_iret hP rfl rfl ?_
        exact k p
    · omega
  | cons e o2 ih =>
    intro i p x w hi hd hp hx k rc rs
    have hlt : i < o.length := by
      rcases Nat.lt_or_ge i o.length with q | q
      · exact q
      · rw [List.drop_eq_nil_of_le q] at hd; cases hd
    have hdd := dropc hlt
    rw [hd] at hdd
    have hx1 : o.getD i 0 = e := by injection hdd with a b; exact a.symm
    have hx2 : o.drop (i + 1) = o2 := by injection hdd with a b; exact b.symm
    have e4 : e < 4 := by rw [← hx1]; exact hw.2.2.2.2.2.2.2 _ (getD_mem hlt)
    unfold plL at k
    have nam : ∀ p w, p ≤ n → (match (match (match memR (zT Z) c n p with | .inl e => .inl e | .inr ((e', z), q) => if e' = e then plL (zT Z) c n (i + 1) o2 q (x ||| tp e' z) else .inl p : Nat ⊕ (Nat × Nat)) with | .inl e => .inl e | .inr (x, q) => if q = n then .inr x else .inl q : Nat ⊕ Nat) with
        | .inl e => ∀ q : Nat, Q (some (.int (iI (-1000 - e)))) (x_hp (tI I q e) J R)
        | .inr y => ∀ (q : Nat) w', Q (some (.int (iI (fnd y l 0)))) (x_hp (tI I q w') J R)) → ∀ L r1 r2, x_ag L 0 [some (.ref 0), some (.int (iI x)), some (.int (iI i))] → P 139 (d + 4) 39 L [] (x_hp (tI I p w) J R) r1 r2 Q := by
      intro p w hp k L r1 r2 hL
      refine x_re hP _ hL ?_
      first | refine x_aload_n hP rfl rfl ?_ | refine x_aload_nN hP rfl rfl ?_
      refine x_getR hP rfl (by first | assumption | rfl) (by first | assumption | exact hR _ _ _ _ rfl | exact hR1 _ _ _ _ rfl | exact hR2 _ _ _ _ rfl | rfl) ?_
      refine x_callV0 (ci := 1) hP 0 0 rfl rfl rfl (by first | assumption | rfl) rfl rfl rfl (Nat.zero_le _) (Nat.zero_le _) ?_
      refine c_at hP ?_
      refine x_istore_n hP rfl ?_
      first | refine x_aload_n hP rfl rfl ?_ | refine x_aload_nN hP rfl rfl ?_
      refine x_getR hP rfl (by first | assumption | rfl) (by first | assumption | exact hR _ _ _ _ rfl | exact hR1 _ _ _ _ rfl | exact hR2 _ _ _ _ rfl | rfl) ?_
      first | refine x_aload_n hP rfl rfl ?_ | refine x_aload_nN hP rfl rfl ?_
      refine x_getR hP rfl (by first | assumption | rfl) (by first | assumption | exact hR _ _ _ _ rfl | exact hR1 _ _ _ _ rfl | exact hR2 _ _ _ _ rfl | rfl) ?_
      refine x_callV1 (ci := 8) hP 0 0 rfl rfl rfl (by first | assumption | rfl) rfl rfl rfl (Nat.zero_le _) (Nat.zero_le _) ?_
      refine c_mem hP hR tr he.1 hp (fun p w => ct_tI he.2.2.1 (by omega) p w) ?_
      have rg := fun a b q => memR_rg (T := zT Z) (c := c) (n := n) (p := p) (a := a) (b := b) (q := q) he.1.2.2.1 hp
      generalize memR (zT Z) c n p = o1 at k rg ⊢
      match o1, k, rg with
      | .inl er, k, _ =>
        intro q
        refine x_istore hP rfl ?_
        refine x_iload hP rfl rfl ?_
        first | refine zl_if_ge hP rfl (fun c62 => ?_) (fun c62 => ?_) | refine z_if_ge hP rfl (by omega) (fun c62 => ?_) (fun c62 => ?_)
        · omega
        first | refine x_aload_n hP rfl rfl ?_ | refine x_aload_nN hP rfl rfl ?_
        refine x_getR hP rfl (by first | assumption | rfl) (by first | assumption | exact hR _ _ _ _ rfl | exact hR1 _ _ _ _ rfl | exact hR2 _ _ _ _ rfl | rfl) ?_
        refine x_callV0 (ci := 1) hP 0 0 rfl rfl rfl (by first | assumption | rfl) rfl rfl rfl (Nat.zero_le _) (Nat.zero_le _) ?_
        refine c_wrong hP ?_
        refine x_iret hP rfl rfl ?_
        exact k q
      | .inr ((e', z), q), k, rg =>
        have ⟨m1, m2, m3, m4⟩ := rg e' z q rfl
        have w4 := (hwf.2.2 e' m3).2.1
        have vo : tI I q w 1 (4 + 2) i = iI e := by rw [← hx1]; exact (hwt q w).2.2.2.2.1 i hlt
        dsimp only at k
        show P _ _ _ _ (Value.int (iI (32 * e' + z : Nat)) :: _) _ _ _ _
        refine x_istore hP rfl ?_
        refine x_iload hP rfl rfl ?_
        first | refine zl_if_ge hP rfl (fun c62 => ?_) (fun c62 => ?_) | refine z_if_ge hP rfl (by omega) (fun c62 => ?_) (fun c62 => ?_)
        rotate_left
        · omega
        refine x_iload hP rfl rfl ?_
        refine x_callS1 hP 0 0 rfl rfl rfl rfl rfl (Nat.zero_le _) (Nat.zero_le _) ?_
        refine c_dimensionOf hP (by omega) (by omega) ?_
        first | refine x_aload_n hP rfl rfl ?_ | refine x_aload_nN hP rfl rfl ?_
        refine x_getR hP rfl (by first | assumption | rfl) (by first | assumption | exact hR _ _ _ _ rfl | exact hR1 _ _ _ _ rfl | exact hR2 _ _ _ _ rfl | rfl) ?_
        refine x_getR hP rfl (by first | assumption | rfl) (by first | assumption | exact hR _ _ _ _ rfl | exact hR1 _ _ _ _ rfl | exact hR2 _ _ _ _ rfl | rfl) ?_
        refine x_iload_n hP rfl rfl ?_
        refine z_iald hP rfl (by first | assumption | rfl) (by first | decide | omega) (by omega) (by first | assumption | exact hR _ _ _ _ rfl | exact hR1 _ _ _ _ rfl | exact hR2 _ _ _ _ rfl | rfl) ?_
        first | refine z_icmp_eq hP rfl (by omega) (by omega) (fun c87 => ?_) (fun c87 => ?_) | refine x_icmp_eq hP rfl (fun c87 => ?_) (fun c87 => ?_)
        rotate_left
        · rw [if_neg (by omega)] at k
          first | refine x_aload_n hP rfl rfl ?_ | refine x_aload_nN hP rfl rfl ?_
          refine x_getR hP rfl (by first | assumption | rfl) (by first | assumption | exact hR _ _ _ _ rfl | exact hR1 _ _ _ _ rfl | exact hR2 _ _ _ _ rfl | rfl) ?_
          refine x_iload_n hP rfl rfl ?_
          refine x_callV1 (ci := 1) hP 0 0 rfl rfl rfl (by first | assumption | rfl) rfl rfl rfl (Nat.zero_le _) (Nat.zero_le _) ?_
          refine c_fail hP ?_
          refine x_pop hP rfl rfl ?_
          first | refine x_aload_n hP rfl rfl ?_ | refine x_aload_nN hP rfl rfl ?_
          refine x_getR hP rfl (by first | assumption | rfl) (by first | assumption | exact hR _ _ _ _ rfl | exact hR1 _ _ _ _ rfl | exact hR2 _ _ _ _ rfl | rfl) ?_
          refine x_callV0 (ci := 1) hP 0 0 rfl rfl rfl (by first | assumption | rfl) rfl rfl rfl (Nat.zero_le _) (Nat.zero_le _) ?_
          refine c_wrong hP ?_
          refine x_iret hP rfl rfl ?_
          exact k q
        · rw [if_pos (by omega)] at k
          refine x_iload_n hP rfl rfl ?_
          refine x_iload hP rfl rfl ?_
          refine x_callS1 hP 0 0 rfl rfl rfl rfl rfl (Nat.zero_le _) (Nat.zero_le _) ?_
          refine c_tupleOf hP (by omega) (by omega) ?_
          refine x_ior hP rfl ?_
          rw [iI_or]
          refine x_istore_n hP rfl ?_
          refine z_iinc hP rfl rfl rfl ?_
          refine x_goto hP rfl ?_
          exact x_re hP [some (.ref 0), some (.int (iI (x ||| tp e' z : Nat))), some (.int (iI (i + 1 : Nat))), none, none] ⟨rfl, rfl, rfl, trivial⟩ (ih (i + 1) q (x ||| tp e' z) w hlt hx2 m2 (Nat.or_lt_two_pow (n := 20) hx (tp_lt (by omega) (by omega))) k _ _)
    have a2 := (hwt p w).2.1
    refine x_iload_n hP rfl rfl ?_
    first | refine x_aload_n hP rfl rfl ?_ | refine x_aload_nN hP rfl rfl ?_
    refine x_getR hP rfl (by first | assumption | rfl) (by first | assumption | exact hR _ _ _ _ rfl | exact hR1 _ _ _ _ rfl | exact hR2 _ _ _ _ rfl | rfl) ?_
    refine x_getI hP rfl (by first | assumption | rfl) (by first | assumption | exact hR _ _ _ _ rfl | exact hR1 _ _ _ _ rfl | exact hR2 _ _ _ _ rfl | rfl) ?_
    refine z_icmp_ge hP rfl (by omega) (by omega) (fun c12 => ?_) (fun c12 => ?_)
    · omega
    refine x_iload_n hP rfl rfl ?_
    refine z_if_le hP rfl (by omega) (fun c16 => ?_) (fun c16 => ?_)
    · rw [if_neg (by omega), if_neg (by omega)] at k
      exact nam p w hp k _ _ _ ⟨rfl, rfl, rfl, trivial⟩
    first | refine x_aload_n hP rfl rfl ?_ | refine x_aload_nN hP rfl rfl ?_
    refine x_getR hP rfl (by first | assumption | rfl) (by first | assumption | exact hR _ _ _ _ rfl | exact hR1 _ _ _ _ rfl | exact hR2 _ _ _ _ rfl | rfl) ?_
    refine x_bipush hP rfl ?_
    refine x_callV1 (ci := 1) hP 0 0 rfl rfl rfl (by first | assumption | rfl) rfl rfl rfl (Nat.zero_le _) (Nat.zero_le _) ?_
    refine c_skip hP hR he.1 hp (by omega) (fun q1 q2 => ?_) (fun q1 => ?_)
    · rw [if_neg (fun z => z.2 q1), if_pos (by omega)] at k
      first | refine zb_if_ne hP rfl (fun c28 => ?_) (fun c28 => ?_) | refine zl_if_ne hP rfl (fun c28 => ?_) (fun c28 => ?_) | refine z_if_ne hP rfl (by omega) (fun c28 => ?_) (fun c28 => ?_)
      rotate_left
      · cases c28
      exact nam (p + 1) w q2 k _ _ _ ⟨rfl, rfl, rfl, trivial⟩
    · rw [if_pos ⟨by omega, q1⟩] at k
      first | refine zb_if_ne hP rfl (fun c28 => ?_) (fun c28 => ?_) | refine zl_if_ne hP rfl (fun c28 => ?_) (fun c28 => ?_) | refine z_if_ne hP rfl (by omega) (fun c28 => ?_) (fun c28 => ?_)
      · cases c28
      first | refine x_aload_n hP rfl rfl ?_ | refine x_aload_nN hP rfl rfl ?_
      refine x_getR hP rfl (by first | assumption | rfl) (by first | assumption | exact hR _ _ _ _ rfl | exact hR1 _ _ _ _ rfl | exact hR2 _ _ _ _ rfl | rfl) ?_
      refine x_callV0 (ci := 1) hP 0 0 rfl rfl rfl (by first | assumption | rfl) rfl rfl rfl (Nat.zero_le _) (Nat.zero_le _) ?_
      refine c_wrong hP ?_
      refine x_iret hP rfl rfl ?_
      exact k p
theorem m_place (hP : x_closed E P) (hc : clI I J R S F) (k : ∀ I' J' R', clI I' J' R' (spPlace S).2 (F + 40) → frP (fun _ a _ => lo a) I I' → frP (fun _ a _ => lo a) J J' → Q (some (.int (iI (spPlace S).1))) (x_hp I' J' R')) : P 138 (d + 5) 0 (x_la 0 [.ref 0]) [] (x_hp I J R) rc rs Q := by
  have hc' := hc
  obtain ⟨t, t2, σ, tn, hR, h2, h3, h4, h5, h6, h7, h8, h9⟩ := hc
  unfold spPlace at k
  dsimp only at k
  first | refine x_aload_n hP rfl rfl ?_ | refine x_aload_nN hP rfl rfl ?_
  refine x_getR hP rfl (by first | assumption | rfl) (by first | assumption | exact hR _ _ _ _ rfl | exact hR1 _ _ _ _ rfl | exact hR2 _ _ _ _ rfl | rfl) ?_
  refine x_callV0 (ci := 1) hP 0 0 rfl rfl rfl (by first | assumption | rfl) rfl rfl rfl (Nat.zero_le _) (Nat.zero_le _) ?_
  refine c_begin hP ?_
  first | refine x_aload_n hP rfl rfl ?_ | refine x_aload_nN hP rfl rfl ?_
  refine x_callV0 (ci := 0) hP 0 0 rfl rfl rfl (by first | assumption | rfl) rfl rfl rfl (Nat.zero_le _) (Nat.zero_le _) ?_
  refine x_iconst hP rfl ?_
  refine x_istore_n hP rfl ?_
  refine x_iconst hP rfl ?_
  refine x_istore_n hP rfl ?_
  refine x_re hP [some (.ref 0), some (.int (iI (0 : Nat))), some (.int (iI (0 : Nat))), none, none] ⟨rfl, rfl, rfl, trivial⟩ (c_place_loop (n := sN S) (c := sC S) (Z := sZ S) (o := (sV S).1) (l := (sV S).2) hP hR h2 h6 h7.1 (sV S).1 0 0 0 0 (Nat.zero_le _) rfl (Nat.zero_le _) (by decide) ?_ _ _)
  have fin : ∀ q e : Int, clI (x_at (tI I q e) 1065 1 0 (iI 0)) J R (cutS S 0) (F + 40) ∧ frP (fun _ a _ => lo a) I (x_at (tI I q e) 1065 1 0 (iI 0)) := fun q e => by
    have cf := cut_fr I q e
    exact ⟨clI_tp hc' (frP_mono cf fun k a i z => Or.inl z) (tpB_cut0 h6.1) (by omega), frP_mono cf fun k a i z => by unfold lo; omega⟩
  show (match plR (zT (sZ S)) (sC S) (sN S) (sV S).1 with | .inl e => _ | .inr y => _)
  generalize plR (zT (sZ S)) (sC S) (sN S) (sV S).1 = oo at k ⊢
  match oo, k with
  | .inl e, k =>
    intro q
    refine x_istore_n hP rfl ?_
    first | refine x_aload_n hP rfl rfl ?_ | refine x_aload_nN hP rfl rfl ?_
    refine x_getR hP rfl (by first | assumption | rfl) (by first | assumption | exact hR _ _ _ _ rfl | exact hR1 _ _ _ _ rfl | exact hR2 _ _ _ _ rfl | rfl) ?_
    refine x_iconst hP rfl ?_
    refine x_callV1 (ci := 1) hP 0 0 rfl rfl rfl (by first | assumption | rfl) rfl rfl rfl (Nat.zero_le _) (Nat.zero_le _) ?_
    refine c_cut hP ?_
    refine x_iload_n hP rfl rfl ?_
    refine x_iret hP rfl rfl ?_
    exact k _ J R (fin q e).1 (fin q e).2 (frP_refl _ _)
  | .inr y, k =>
    intro q w'
    refine x_istore_n hP rfl ?_
    first | refine x_aload_n hP rfl rfl ?_ | refine x_aload_nN hP rfl rfl ?_
    refine x_getR hP rfl (by first | assumption | rfl) (by first | assumption | exact hR _ _ _ _ rfl | exact hR1 _ _ _ _ rfl | exact hR2 _ _ _ _ rfl | rfl) ?_
    refine x_iconst hP rfl ?_
    refine x_callV1 (ci := 1) hP 0 0 rfl rfl rfl (by first | assumption | rfl) rfl rfl rfl (Nat.zero_le _) (Nat.zero_le _) ?_
    refine c_cut hP ?_
    refine x_iload_n hP rfl rfl ?_
    refine x_iret hP rfl rfl ?_
    exact k _ J R (fin q w').1 (fin q w').2 (frP_refl _ _)
end
