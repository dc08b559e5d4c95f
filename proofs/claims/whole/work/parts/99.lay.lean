/-! THE some (.ref 122)ERENCE: how the trees are laid -/
def oF (a0 e k a i : Nat) : Prop := k = 1 ∧ a = a0 ∧ 30 * e ≤ i ∧ i < 30 * e + 30
def lF (e k a i : Nat) : Prop := k = 1 ∧ (a = 135 ∨ a = 136 ∨ a = 137) ∧ 30 * e ≤ i ∧ i < 30 * e + 30
def lyK (I : x_M Int32) (e : Nat) (p : Nat → Int) (s : Nat) : Prop := ∀ k, k < s → I 1 136 (30 * e + k) = iI (rk p s k) ∧ I 1 135 (30 * e + k) = iI (orr p s k) ∧ I 1 137 (30 * e + k) = iI (spn p s k)
theorem oF_lF {a0 e k a i : Nat} (ha : a0 = 135 ∨ a0 = 136 ∨ a0 = 137) (h : oF a0 e k a i) : lF e k a i := by unfold oF at h; unfold lF; omega
section
variable {E : x_E} {P : x_Pr} {d : Nat} {J : x_M Int64} {R : x_M (Option Nat)} {Q : x_Q} {T : x_T} {e z : Nat}
theorem r_lay_shift (hP : x_closed E P) (hR : x_fin R) (he : e < 4) (hz : z < 30) {O : Nat → Nat} {at_ : Nat} (hat : at_ ≤ z) : ∀ (f : Nat) (I : x_M Int32), at_ + f ≤ z → (∀ j, j < at_ + f → I 1 135 (30 * e + j) = iI (O j)) → (∀ j, at_ + f < j → j ≤ z → I 1 135 (30 * e + j) = iI (O (j - 1))) → (∀ I' L r1 r2, (∀ j, j < at_ → I' 1 135 (30 * e + j) = iI (O j)) → (∀ j, at_ < j → j ≤ z → I' 1 135 (30 * e + j) = iI (O (j - 1))) → frP (oF 135 e) I I' → x_ag L 0 [some (.ref 122), some (.int (iI e)), some (.int (iI (30 * e : Nat))), some (.int (iI z)), some (.int (iI at_))] → P 155 d 113 L [] (x_hp I' J R) r1 r2 Q) → ∀ rc rs, P 155 d 80 (x_ls [some (.ref 122), some (.int (iI e)), some (.int (iI (30 * e : Nat))), some (.int (iI z)), some (.int (iI at_)), some (.int (iI (at_ + f : Nat)))]) [] (x_hp I J R) rc rs Q := by
  intro f
  induction f with
  | zero =>
    intro I hl h1 h2 k rc rs
    refine x_iload hP rfl rfl ?_
    refine x_iload hP rfl rfl ?_
    refine z_icmp_le hP rfl (by omega) (by omega) (fun c84 => ?_) (fun c84 => ?_)
    · exact k I _ _ _ h1 h2 (frP_refl _ _) ⟨rfl, rfl, rfl, rfl, rfl, trivial⟩
    · omega
  | succ f ih =>
    intro I hl h1 h2 k rc rs
    have v := h1 (at_ + f) (by omega)
    refine x_iload hP rfl rfl ?_
    refine x_iload hP rfl rfl ?_
    refine z_icmp_le hP rfl (by omega) (by omega) (fun c84 => ?_) (fun c84 => ?_)
    · omega
    first | refine x_aload_n hP rfl rfl ?_ | refine x_aload_nN hP rfl rfl ?_
    refine x_getR hP rfl (by first | assumption | rfl) (by first | assumption | exact hR _ _ _ _ rfl | exact hR1 _ _ _ _ rfl | exact hR2 _ _ _ _ rfl | rfl) ?_
    refine x_iload_n hP rfl rfl ?_
    refine x_iload hP rfl rfl ?_
    first | refine z_iadd hP rfl ?_ | refine x_iadd hP rfl ?_
    first | refine x_aload_n hP rfl rfl ?_ | refine x_aload_nN hP rfl rfl ?_
    refine x_getR hP rfl (by first | assumption | rfl) (by first | assumption | exact hR _ _ _ _ rfl | exact hR1 _ _ _ _ rfl | exact hR2 _ _ _ _ rfl | rfl) ?_
    refine x_iload_n hP rfl rfl ?_
    refine x_iload hP rfl rfl ?_
    first | refine z_iadd hP rfl ?_ | refine x_iadd hP rfl ?_
    refine x_iconst hP rfl ?_
    first | refine z_isub hP rfl ?_ | refine x_isub hP rfl ?_
    rw [show (((30 * e : Nat) : Int) + ((at_ + (f + 1) : Nat) : Int) - 1) = ((30 * e + (at_ + f) : Nat) : Int) by omega]
    refine z_iald hP rfl (by first | assumption | rfl) (by first | decide | omega) (by omega) (by first | assumption | exact hR _ _ _ _ rfl | exact hR1 _ _ _ _ rfl | exact hR2 _ _ _ _ rfl | rfl) ?_
    refine z_iast hP rfl (by first | assumption | rfl) (by first | decide | omega) (by omega) ?_
    first | refine w_nI ?_ | refine w_nL ?_ | refine w_nR ?_ | refine w_mI ?_ | refine w_mL ?_ | refine w_mR ?_ | skip
    rw [show (((30 * e : Nat) : Int) + ((at_ + (f + 1) : Nat) : Int)).toNat = 30 * e + (at_ + f + 1) by omega]
    have g : frP (oF 135 e) I (x_at I 1 135 (30 * e + (at_ + f + 1)) (iI (O (at_ + f)))) := frP_at (frP_refl _ _) ⟨rfl, rfl, by omega, by omega⟩
    refine z_iinc hP rfl rfl rfl ?_
    refine x_goto hP rfl ?_
    refine x_re hP [some (.ref 122), some (.int (iI e)), some (.int (iI (30 * e : Nat))), some (.int (iI z)), some (.int (iI at_)), some (.int (iI (at_ + f : Nat)))] ⟨rfl, rfl, rfl, rfl, rfl, congrArg (fun q => some (Value.int (iI q))) (show ((at_ + (f + 1) : Nat) : Int) + -1 = ((at_ + f : Nat) : Int) by omega), trivial⟩ (ih _ (by omega) (fun j hj => ?_) (fun j h3 h4 => ?_) (fun I' L r1 r2 w1 w2 w3 => k I' L r1 r2 w1 w2 (frP_trans g w3)) _ _)
    · rw [x_at_eq, if_neg (by omega)]; exact h1 j (by omega)
    · rw [x_at_eq]
      by_cases q : j = at_ + f + 1
      · rw [if_pos ⟨rfl, rfl, by omega⟩, q]; rfl
      · rw [if_neg (by omega)]; exact h2 j (by omega) h4
theorem r_lay_place (hP : x_closed E P) (hR : x_fin R) (he : e < 4) (hz : z < 30) {p : Nat → Int} (hp : wfp p (z + 1)) {va : Int} : ∀ (f i : Nat) (I : x_M Int32), i + f = z + 1 → (∀ j, j ≤ z → I 1 135 (30 * e + j) = iI (orr p (z + 1) j)) → (∀ j, j ≤ z → rk p (z + 1) j < i → I 1 136 (30 * e + j) = iI (rk p (z + 1) j)) → (∀ I' L r1 r2, (∀ j, j ≤ z → I' 1 136 (30 * e + j) = iI (rk p (z + 1) j)) → frP (oF 136 e) I I' → x_ag L 0 [some (.ref 122), some (.int (iI e)), some (.int (iI (30 * e : Nat))), some (.int (iI z)), some (.int (iI va))] → P 155 d 156 L [] (x_hp I' J R) r1 r2 Q) → ∀ rc rs, P 155 d 126 (x_ls [some (.ref 122), some (.int (iI e)), some (.int (iI (30 * e : Nat))), some (.int (iI z)), some (.int (iI va)), some (.int (iI i))]) [] (x_hp I J R) rc rs Q := by
  intro f
  induction f with
  | zero =>
    intro i I hi h1 h2 k rc rs
    refine x_iload hP rfl rfl ?_
    refine x_iload_n hP rfl rfl ?_
    refine z_icmp_gt hP rfl (by omega) (by omega) (fun c129 => ?_) (fun c129 => ?_)
    · exact k I _ _ _ (fun j hj => h2 j hj (by have := rk_lt hp (show j < z + 1 by omega); have := spn_pos hp (show j < z + 1 by omega); omega)) (frP_refl _ _) ⟨rfl, rfl, rfl, rfl, rfl, trivial⟩
    · omega
  | succ f ih =>
    intro i I hi h1 h2 k rc rs
    have ⟨o1, o2⟩ := orr_ok hp (show i < z + 1 by omega)
    have v := h1 i (by omega)
    refine x_iload hP rfl rfl ?_
    refine x_iload_n hP rfl rfl ?_
    refine z_icmp_gt hP rfl (by omega) (by omega) (fun c129 => ?_) (fun c129 => ?_)
    · omega
    first | refine x_aload_n hP rfl rfl ?_ | refine x_aload_nN hP rfl rfl ?_
    refine x_getR hP rfl (by first | assumption | rfl) (by first | assumption | exact hR _ _ _ _ rfl | exact hR1 _ _ _ _ rfl | exact hR2 _ _ _ _ rfl | rfl) ?_
    refine x_iload_n hP rfl rfl ?_
    first | refine x_aload_n hP rfl rfl ?_ | refine x_aload_nN hP rfl rfl ?_
    refine x_getR hP rfl (by first | assumption | rfl) (by first | assumption | exact hR _ _ _ _ rfl | exact hR1 _ _ _ _ rfl | exact hR2 _ _ _ _ rfl | rfl) ?_
    refine x_iload_n hP rfl rfl ?_
    refine x_iload hP rfl rfl ?_
    first | refine z_iadd hP rfl ?_ | refine x_iadd hP rfl ?_
    refine z_iald hP rfl (by first | assumption | rfl) (by first | decide | omega) (by omega) (by first | assumption | exact hR _ _ _ _ rfl | exact hR1 _ _ _ _ rfl | exact hR2 _ _ _ _ rfl | rfl) ?_
    first | refine z_iadd hP rfl ?_ | refine x_iadd hP rfl ?_
    refine x_iload hP rfl rfl ?_
    refine z_iast hP rfl (by first | assumption | rfl) (by first | decide | omega) (by omega) ?_
    first | refine w_nI ?_ | refine w_nL ?_ | refine w_nR ?_ | refine w_mI ?_ | refine w_mL ?_ | refine w_mR ?_ | skip
    rw [show (((30 * e : Nat) : Int) + ((orr p (z + 1) i : Nat) : Int)).toNat = 30 * e + orr p (z + 1) i by omega]
    have g : frP (oF 136 e) I (x_at I 1 136 (30 * e + orr p (z + 1) i) (iI i)) := frP_at (frP_refl _ _) ⟨rfl, rfl, by omega, by omega⟩
    refine z_iinc hP rfl rfl rfl ?_
    refine x_goto hP rfl ?_
    refine x_re hP [some (.ref 122), some (.int (iI e)), some (.int (iI (30 * e : Nat))), some (.int (iI z)), some (.int (iI va)), some (.int (iI (i + 1 : Nat)))] ⟨rfl, rfl, rfl, rfl, rfl, rfl, trivial⟩ (ih (i + 1) _ (by omega) (fun j hj => ?_) (fun j h3 h4 => ?_) (fun I' L r1 r2 w1 w2 => k I' L r1 r2 w1 (frP_trans g w2)) _ _)
    · rw [x_at_eq, if_neg (by omega)]; exact h1 j hj
    · rw [x_at_eq]
      by_cases q : j = orr p (z + 1) i
      · rw [if_pos ⟨rfl, rfl, by omega⟩, q, o2]
      · rw [if_neg (by omega)]
        refine h2 j h3 ?_
        rcases Nat.lt_or_ge (rk p (z + 1) j) i with l | l
        · exact l
        · exact absurd (rk_inj hp (by omega) o1 (by omega)) q
theorem r_lay_below (hP : x_closed E P) (hR : x_fin R) (he : e < 4) (hz : z < 30) {p : Nat → Int} (hp : wfp p z) {va : Int} : ∀ (f : Nat) (x : Int) (I : x_M Int32) (A : Nat → Nat), x < f → -1 ≤ x ∧ x < z → (∀ j, j < z → I 1 129 (30 * e + j) = iI (p j)) → (∀ j, j < z → I 1 137 (30 * e + j) = iI (A j)) → (∀ I' L r1 r2, (∀ j, j < z → I' 1 137 (30 * e + j) = iI (A j + (if 0 ≤ x ∧ und p j x.toNat = true then 1 else 0) : Nat)) → (∀ i, ¬ (30 * e ≤ i ∧ i < 30 * e + z) → I' 1 137 i = I 1 137 i) → frP (oF 137 e) I I' → x_ag L 0 [some (.ref 122), some (.int (iI e)), some (.int (iI (30 * e : Nat))), some (.int (iI z))] → P 155 d 207 L [] (x_hp I' J R) r1 r2 Q) → ∀ rc rs, P 155 d 174 (x_ls [some (.ref 122), some (.int (iI e)), some (.int (iI (30 * e : Nat))), some (.int (iI z)), some (.int (iI va)), some (.int (iI x))]) [] (x_hp I J R) rc rs Q := by
  intro f
  induction f with
  | zero =>
    intro x I A hx hr h1 h2 k rc rs
    obtain rfl : x = -1 := by omega
    refine x_iload hP rfl rfl ?_
    refine x_iconst hP rfl ?_
    first | refine z_icmp_eq hP rfl (by omega) (by omega) (fun c177 => ?_) (fun c177 => ?_) | refine x_icmp_eq hP rfl (fun c177 => ?_) (fun c177 => ?_)
    · exact k I _ _ _ (fun j hj => by rw [if_neg (by omega)]; exact h2 j hj) (fun _ _ => rfl) (frP_refl _ _) ⟨rfl, rfl, rfl, rfl, trivial⟩
    · omega
  | succ f ih =>
    intro x I A hx hr h1 h2 k rc rs
    refine x_iload hP rfl rfl ?_
    refine x_iconst hP rfl ?_
    first | refine z_icmp_eq hP rfl (by omega) (by omega) (fun c177 => ?_) (fun c177 => ?_) | refine x_icmp_eq hP rfl (fun c177 => ?_) (fun c177 => ?_)
    · obtain rfl : x = -1 := by omega
      exact k I _ _ _ (fun j hj => by rw [if_neg (by omega)]; exact h2 j hj) (fun _ _ => rfl) (frP_refl _ _) ⟨rfl, rfl, rfl, rfl, trivial⟩
    obtain ⟨y, rfl⟩ : ∃ y : Nat, x = y := ⟨x.toNat, by omega⟩
    have hy : y < z := by omega
    have py := wfp_rg hp hy
    have v1 := h1 y hy
    have v2 := h2 y hy
    first | refine x_aload_n hP rfl rfl ?_ | refine x_aload_nN hP rfl rfl ?_
    refine x_getR hP rfl (by first | assumption | rfl) (by first | assumption | exact hR _ _ _ _ rfl | exact hR1 _ _ _ _ rfl | exact hR2 _ _ _ _ rfl | rfl) ?_
    refine x_iload_n hP rfl rfl ?_
    refine x_iload hP rfl rfl ?_
    first | refine z_iadd hP rfl ?_ | refine x_iadd hP rfl ?_
    refine x_dup2 hP rfl rfl rfl ?_
    refine z_iald hP rfl (by first | assumption | rfl) (by first | decide | omega) (by omega) (by first | assumption | exact hR _ _ _ _ rfl | exact hR1 _ _ _ _ rfl | exact hR2 _ _ _ _ rfl | rfl) ?_
    refine x_iconst hP rfl ?_
    first | refine z_iadd hP rfl ?_ | refine x_iadd hP rfl ?_
    refine z_iast hP rfl (by first | assumption | rfl) (by first | decide | omega) (by omega) ?_
    first | refine w_nI ?_ | refine w_nL ?_ | refine w_nR ?_ | refine w_mI ?_ | refine w_mL ?_ | refine w_mR ?_ | skip
    rw [show (((30 * e : Nat) : Int) + (y : Int)).toNat = 30 * e + y by omega]
    have g : frP (oF 137 e) I (x_at I 1 137 (30 * e + y) (iI ((A y : Int) + 1))) := frP_at (frP_refl _ _) ⟨rfl, rfl, by omega, by omega⟩
    have v3 : x_at I 1 137 (30 * e + y) (iI ((A y : Int) + 1)) 1 129 (30 * e + y) = iI (p y) := v1
    first | refine x_aload_n hP rfl rfl ?_ | refine x_aload_nN hP rfl rfl ?_
    refine x_getR hP rfl (by first | assumption | rfl) (by first | assumption | exact hR _ _ _ _ rfl | exact hR1 _ _ _ _ rfl | exact hR2 _ _ _ _ rfl | rfl) ?_
    refine x_iload_n hP rfl rfl ?_
    refine x_iload hP rfl rfl ?_
    first | refine z_iadd hP rfl ?_ | refine x_iadd hP rfl ?_
    refine z_iald hP rfl (by first | assumption | rfl) (by first | decide | omega) (by omega) (by first | assumption | exact hR _ _ _ _ rfl | exact hR1 _ _ _ _ rfl | exact hR2 _ _ _ _ rfl | rfl) ?_
    refine x_istore hP rfl ?_
    refine x_goto hP rfl ?_
    refine x_re hP [some (.ref 122), some (.int (iI e)), some (.int (iI (30 * e : Nat))), some (.int (iI z)), some (.int (iI va)), some (.int (iI (p y)))] ⟨rfl, rfl, rfl, rfl, rfl, rfl, trivial⟩ (ih (p y) (x_at I 1 137 (30 * e + y) (iI ((A y : Int) + 1))) (fun j => A j + if j = y then 1 else 0) (by omega) (by omega) h1 (fun j hj => ?_) (fun I' L r1 r2 w1 w2 w3 => k I' L r1 r2 (fun j hj => ?_) (fun i hi => ?_) (frP_trans g w3)) _ _)
    · rw [x_at_eq]
      by_cases q : j = y
      · rw [if_pos ⟨rfl, rfl, by omega⟩, q]
        show _ = iI ((A y + (if y = y then 1 else 0) : Nat) : Int)
        rw [if_pos rfl]; rfl
      · rw [if_neg (by omega)]
        show _ = iI ((A j + (if j = y then 1 else 0) : Nat) : Int)
        rw [if_neg q]; exact h2 j hj
    · have w1 := w1 j hj
      rw [w1]
      refine congrArg (fun q : Nat => iI (q : Int)) ?_
      show A j + (if j = y then 1 else 0) + (if 0 ≤ p y ∧ und p j (p y).toNat = true then 1 else 0) = A j + (if 0 ≤ (y : Int) ∧ und p j (y : Int).toNat = true then 1 else 0)
      have ue := und_eq (k := j) hp hy
      rw [Int.toNat_natCast]
      by_cases q : j = y
      · rw [if_pos q, if_neg (fun w : 0 ≤ p y ∧ und p j (p y).toNat = true => by have := und_le hp _ (show (p y).toNat < z by omega) w.2; omega), if_pos ⟨by omega, ue.mpr (Or.inl q.symm)⟩]
      · rw [if_neg q]
        by_cases q2 : 0 ≤ p y ∧ und p j (p y).toNat = true
        · rw [if_pos q2, if_pos ⟨by omega, ue.mpr (Or.inr q2)⟩]
        · rw [if_neg q2, if_neg fun w => by rcases ue.mp w.2 with r | r; exact q r.symm; exact q2 r]
    · rw [w2 i hi, x_at_eq, if_neg (by omega)]
theorem r_lay_one (hP : x_closed E P) (hR : x_fin R) (he : e < 4) (hz : z < 30) {p : Nat → Int} (hp : wfp p (z + 1)) {I : x_M Int32} (hpa : ∀ j, j ≤ z → I 1 129 (30 * e + j) = iI (p j)) (hl : lyK I e p z) (k : ∀ I' L r1 r2, lyK I' e p (z + 1) → frP (lF e) I I' → x_ag L 0 [some (.ref 122), some (.int (iI e)), some (.int (iI (30 * e : Nat))), some (.int (iI z))] → P 155 d 207 L [] (x_hp I' J R) r1 r2 Q) : ∀ rc rs, P 155 d 27 (x_ls [some (.ref 122), some (.int (iI e)), some (.int (iI (30 * e : Nat))), some (.int (iI z)), none, none]) [] (x_hp I J R) rc rs Q := by
  intro rc rs
  have hz' := wfp_le hp (Nat.le_succ z)
  have al := insA_le hp
  have pz := hpa z (Nat.le_refl _)
  first | refine x_aload_n hP rfl rfl ?_ | refine x_aload_nN hP rfl rfl ?_
  refine x_getR hP rfl (by first | assumption | rfl) (by first | assumption | exact hR _ _ _ _ rfl | exact hR1 _ _ _ _ rfl | exact hR2 _ _ _ _ rfl | rfl) ?_
  refine x_iload_n hP rfl rfl ?_
  refine x_iload_n hP rfl rfl ?_
  first | refine z_iadd hP rfl ?_ | refine x_iadd hP rfl ?_
  refine x_iconst hP rfl ?_
  refine z_iast hP rfl (by first | assumption | rfl) (by first | decide | omega) (by omega) ?_
  first | refine w_nI ?_ | refine w_nL ?_ | refine w_nR ?_ | refine w_mI ?_ | refine w_mL ?_ | refine w_mR ?_ | skip
  rw [show (((30 * e : Nat) : Int) + (z : Int)).toNat = 30 * e + z by omega]
  have g0 : frP (lF e) I (x_at I 1 137 (30 * e + z) (iI 1)) := frP_at (frP_refl _ _) ⟨rfl, Or.inr (Or.inr rfl), by omega, by omega⟩
  have hpa0 : ∀ j, j ≤ z → x_at I 1 137 (30 * e + z) (iI 1) 1 129 (30 * e + j) = iI (p j) := hpa
  have bl : ∀ j, j < z → x_at I 1 137 (30 * e + z) (iI 1) 1 137 (30 * e + j) = iI (spn p z j) := fun j hj => by rw [x_at_eq, if_neg (by omega)]; exact (hl j hj).2.2
  have bz : x_at I 1 137 (30 * e + z) (iI 1) 1 137 (30 * e + z) = iI 1 := by rw [x_at_eq, if_pos ⟨rfl, rfl, rfl⟩]
  have od : ∀ j, j < z → x_at I 1 137 (30 * e + z) (iI 1) 1 135 (30 * e + j) = iI (orr p z j) := fun j hj => (hl j hj).2.1
  have pl : ∀ j, j < z → x_at I 1 137 (30 * e + z) (iI 1) 1 136 (30 * e + j) = iI (rk p z j) := fun j hj => (hl j hj).1
  generalize x_at I 1 137 (30 * e + z) (iI 1) = I0 at g0 hpa0 bl bz od pl ⊢
  have rest : ∀ L r1 r2, x_ag L 0 [some (.ref 122), some (.int (iI e)), some (.int (iI (30 * e : Nat))), some (.int (iI z)), some (.int (iI (insA p z)))] → P 155 d 77 L [] (x_hp I0 J R) r1 r2 Q := by
    intro L r1 r2 hL
    refine x_re hP _ hL ?_
    refine x_iload_n hP rfl rfl ?_
    refine x_istore hP rfl ?_
    refine x_re hP [some (.ref 122), some (.int (iI e)), some (.int (iI (30 * e : Nat))), some (.int (iI z)), some (.int (iI (insA p z))), some (.int (iI (insA p z + (z - insA p z) : Nat)))] ⟨rfl, rfl, rfl, rfl, rfl, congrArg (fun q : Nat => some (Value.int (iI (q : Int)))) (show z = insA p z + (z - insA p z) by omega), trivial⟩ (r_lay_shift (O := orr p z) hP hR he hz al (z - insA p z) I0 (by omega) (fun j hj => od j (by omega)) (fun j h1 h2 => by omega) (fun I1 L r1 r2 w1 w2 w3 hL => ?_) _ _)
    refine x_re hP _ hL ?_
    first | refine x_aload_n hP rfl rfl ?_ | refine x_aload_nN hP rfl rfl ?_
    refine x_getR hP rfl (by first | assumption | rfl) (by first | assumption | exact hR _ _ _ _ rfl | exact hR1 _ _ _ _ rfl | exact hR2 _ _ _ _ rfl | rfl) ?_
    refine x_iload_n hP rfl rfl ?_
    refine x_iload hP rfl rfl ?_
    first | refine z_iadd hP rfl ?_ | refine x_iadd hP rfl ?_
    refine x_iload_n hP rfl rfl ?_
    refine z_iast hP rfl (by first | assumption | rfl) (by first | decide | omega) (by omega) ?_
    first | refine w_nI ?_ | refine w_nL ?_ | refine w_nR ?_ | refine w_mI ?_ | refine w_mL ?_ | refine w_mR ?_ | skip
    rw [show (((30 * e : Nat) : Int) + (insA p z : Int)).toNat = 30 * e + insA p z by omega]
    have g2 : frP (oF 135 e) I0 (x_at I1 1 135 (30 * e + insA p z) (iI z)) := frP_at w3 ⟨rfl, rfl, by omega, by omega⟩
    have od2 : ∀ j, j ≤ z → x_at I1 1 135 (30 * e + insA p z) (iI z) 1 135 (30 * e + j) = iI (orr p (z + 1) j) := fun j hj => by
      rw [orr_up hp hj, x_at_eq]
      by_cases q1 : j < insA p z
      · rw [if_neg (by omega), if_pos q1]; exact w1 j q1
      · by_cases q2 : j = insA p z
        · rw [if_pos ⟨rfl, rfl, by omega⟩, if_neg q1, if_pos q2]
        · rw [if_neg (by omega), if_neg q1, if_neg q2]; exact w2 j (by omega) hj
    generalize x_at I1 1 135 (30 * e + insA p z) (iI z) = I2 at g2 od2 ⊢
    refine x_iconst hP rfl ?_
    refine x_istore hP rfl ?_
    refine x_re hP [some (.ref 122), some (.int (iI e)), some (.int (iI (30 * e : Nat))), some (.int (iI z)), some (.int (iI (insA p z))), some (.int (iI (0 : Nat)))] ⟨rfl, rfl, rfl, rfl, rfl, rfl, trivial⟩ (r_lay_place hP hR he hz hp (z + 1) 0 I2 (by omega) od2 (fun j h1 h2 => absurd h2 (Nat.not_lt_zero _)) (fun I3 L r1 r2 y1 y2 hL => ?_) _ _)
    refine x_re hP _ hL ?_
    have g3 : frP (lF e) I I3 := frP_trans g0 (frP_tr g2 y2 (fun _ _ _ => oF_lF (Or.inl rfl)) (fun _ _ _ => oF_lF (Or.inr (Or.inl rfl))))
    have g03 : ∀ i, I3 1 137 i = I0 1 137 i := fun i => (y2 _ _ _ fun q => by unfold oF at q; omega).trans (g2 _ _ _ fun q => by unfold oF at q; omega)
    have hpa3 : ∀ j, j ≤ z → I3 1 129 (30 * e + j) = iI (p j) := fun j hj => (g3 _ _ _ fun q => by unfold lF at q; omega).trans (hpa j hj)
    have od3 : ∀ j, j ≤ z → I3 1 135 (30 * e + j) = iI (orr p (z + 1) j) := fun j hj => (y2 _ _ _ fun q => by unfold oF at q; omega).trans (od2 j hj)
    have fin : ∀ (x : Int), (∀ j, j < z → (0 ≤ x ∧ und p j x.toNat = true ↔ und p j z = true)) → ∀ I' L r1 r2, (∀ j, j < z → I' 1 137 (30 * e + j) = iI (spn p z j + (if 0 ≤ x ∧ und p j x.toNat = true then 1 else 0) : Nat)) → (∀ i, ¬ (30 * e ≤ i ∧ i < 30 * e + z) → I' 1 137 i = I3 1 137 i) → frP (oF 137 e) I3 I' → x_ag L 0 [some (.ref 122), some (.int (iI e)), some (.int (iI (30 * e : Nat))), some (.int (iI z))] → P 155 d 207 L [] (x_hp I' J R) r1 r2 Q := by
      intro x hx I' L r1 r2 v1 v2 v3 hL
      refine k I' L r1 r2 (fun j hj => ⟨?_, ?_, ?_⟩) (frP_trans g3 (frP_mono v3 fun _ _ _ => oF_lF (Or.inr (Or.inr rfl)))) hL
      · exact (v3 _ _ _ fun q => by unfold oF at q; omega).trans (y1 j (by omega))
      · exact (v3 _ _ _ fun q => by unfold oF at q; omega).trans (od3 j (by omega))
      · by_cases q : j = z
        · rw [q, v2 _ (by omega), g03, bz, spn_new hp]; rfl
        · rw [v1 j (by omega), spn_up]
          refine congrArg (fun q : Nat => iI (q : Int)) ?_
          have := hx j (by omega)
          by_cases q2 : und p j z = true
          · rw [if_pos q2, if_pos (this.mpr q2)]
          · rw [if_neg q2, if_neg fun w => q2 (this.mp w)]
    have run : ∀ (x : Int), -1 ≤ x ∧ x < z → (∀ j, j < z → (0 ≤ x ∧ und p j x.toNat = true ↔ und p j z = true)) → ∀ L r1 r2, x_ag L 0 [some (.ref 122), some (.int (iI e)), some (.int (iI (30 * e : Nat))), some (.int (iI z)), some (.int (iI (insA p z))), some (.int (iI x))] → P 155 d 174 L [] (x_hp I3 J R) r1 r2 Q := by
      intro x hxr hx L r1 r2 hL
      refine x_re hP [some (.ref 122), some (.int (iI e)), some (.int (iI (30 * e : Nat))), some (.int (iI z)), some (.int (iI (insA p z))), some (.int (iI x))] hL (r_lay_below hP hR he hz hz' 31 x I3 (spn p z) (by omega) hxr (fun j hj => hpa3 j (by omega)) (fun j hj => by rw [g03]; exact bl j hj) (fin x hx) _ _)
    refine x_iload_n hP rfl rfl ?_
    refine z_if_le hP rfl (by omega) (fun c157 => ?_) (fun c157 => ?_)
    · refine x_iconst hP rfl ?_
      refine x_istore hP rfl ?_
      exact run (-1) (by omega) (fun j hj => by omega) _ _ _ ⟨rfl, rfl, rfl, rfl, rfl, rfl, trivial⟩
    · have pr := hp.2 z (by omega) (Nat.lt_succ_self z)
      have v := hpa3 z (Nat.le_refl _)
      first | refine x_aload_n hP rfl rfl ?_ | refine x_aload_nN hP rfl rfl ?_
      refine x_getR hP rfl (by first | assumption | rfl) (by first | assumption | exact hR _ _ _ _ rfl | exact hR1 _ _ _ _ rfl | exact hR2 _ _ _ _ rfl | rfl) ?_
      refine x_iload_n hP rfl rfl ?_
      refine x_iload_n hP rfl rfl ?_
      first | refine z_iadd hP rfl ?_ | refine x_iadd hP rfl ?_
      refine z_iald hP rfl (by first | assumption | rfl) (by first | decide | omega) (by omega) (by first | assumption | exact hR _ _ _ _ rfl | exact hR1 _ _ _ _ rfl | exact hR2 _ _ _ _ rfl | rfl) ?_
      refine x_goto hP rfl ?_
      refine x_istore hP rfl ?_
      refine run (p z) (by omega) (fun j hj => ?_) _ _ _ ⟨rfl, rfl, rfl, rfl, rfl, rfl, trivial⟩
      have := und_up (u := (p z).toNat) hp (by omega) hj
      exact ⟨fun w => this.mpr w.2, fun w => ⟨by omega, this.mp w⟩⟩
  refine x_iload_n hP rfl rfl ?_
  first | refine zb_if_ne hP rfl (fun c37 => ?_) (fun c37 => ?_) | refine zl_if_ne hP rfl (fun c37 => ?_) (fun c37 => ?_) | refine z_if_ne hP rfl (by omega) (fun c37 => ?_) (fun c37 => ?_)
  · have pr := hp.2 z (by omega) (Nat.lt_succ_self z)
    obtain ⟨u, hu⟩ : ∃ u : Nat, p z = u := ⟨(p z).toNat, by omega⟩
    have v0 := hpa0 z (Nat.le_refl _)
    rw [hu] at v0
    have v1 := pl u (by omega)
    have v2 := bl u (by omega)
    have r1 := rk_lt hz' (show u < z by omega)
    first | refine x_aload_n hP rfl rfl ?_ | refine x_aload_nN hP rfl rfl ?_
    refine x_getR hP rfl (by first | assumption | rfl) (by first | assumption | exact hR _ _ _ _ rfl | exact hR1 _ _ _ _ rfl | exact hR2 _ _ _ _ rfl | rfl) ?_
    refine x_iload_n hP rfl rfl ?_
    first | refine x_aload_n hP rfl rfl ?_ | refine x_aload_nN hP rfl rfl ?_
    refine x_getR hP rfl (by first | assumption | rfl) (by first | assumption | exact hR _ _ _ _ rfl | exact hR1 _ _ _ _ rfl | exact hR2 _ _ _ _ rfl | rfl) ?_
    refine x_iload_n hP rfl rfl ?_
    refine x_iload_n hP rfl rfl ?_
    first | refine z_iadd hP rfl ?_ | refine x_iadd hP rfl ?_
    refine z_iald hP rfl (by first | assumption | rfl) (by first | decide | omega) (by omega) (by first | assumption | exact hR _ _ _ _ rfl | exact hR1 _ _ _ _ rfl | exact hR2 _ _ _ _ rfl | rfl) ?_
    first | refine z_iadd hP rfl ?_ | refine x_iadd hP rfl ?_
    refine z_iald hP rfl (by first | assumption | rfl) (by first | decide | omega) (by omega) (by first | assumption | exact hR _ _ _ _ rfl | exact hR1 _ _ _ _ rfl | exact hR2 _ _ _ _ rfl | rfl) ?_
    first | refine x_aload_n hP rfl rfl ?_ | refine x_aload_nN hP rfl rfl ?_
    refine x_getR hP rfl (by first | assumption | rfl) (by first | assumption | exact hR _ _ _ _ rfl | exact hR1 _ _ _ _ rfl | exact hR2 _ _ _ _ rfl | rfl) ?_
    refine x_iload_n hP rfl rfl ?_
    first | refine x_aload_n hP rfl rfl ?_ | refine x_aload_nN hP rfl rfl ?_
    refine x_getR hP rfl (by first | assumption | rfl) (by first | assumption | exact hR _ _ _ _ rfl | exact hR1 _ _ _ _ rfl | exact hR2 _ _ _ _ rfl | rfl) ?_
    refine x_iload_n hP rfl rfl ?_
    refine x_iload_n hP rfl rfl ?_
    first | refine z_iadd hP rfl ?_ | refine x_iadd hP rfl ?_
    refine z_iald hP rfl (by first | assumption | rfl) (by first | decide | omega) (by omega) (by first | assumption | exact hR _ _ _ _ rfl | exact hR1 _ _ _ _ rfl | exact hR2 _ _ _ _ rfl | rfl) ?_
    first | refine z_iadd hP rfl ?_ | refine x_iadd hP rfl ?_
    refine z_iald hP rfl (by first | assumption | rfl) (by first | decide | omega) (by omega) (by first | assumption | exact hR _ _ _ _ rfl | exact hR1 _ _ _ _ rfl | exact hR2 _ _ _ _ rfl | rfl) ?_
    first | refine z_iadd hP rfl ?_ | refine x_iadd hP rfl ?_
    refine x_istore hP rfl ?_
    refine rest _ _ _ ⟨rfl, rfl, rfl, rfl, ?_, trivial⟩
    unfold insA
    rw [if_neg (by omega), hu, Int.toNat_natCast]
    rfl
  · refine x_iconst hP rfl ?_
    refine x_goto hP rfl ?_
    refine x_istore hP rfl ?_
    refine rest _ _ _ ⟨rfl, rfl, rfl, rfl, ?_, trivial⟩
    unfold insA
    rw [if_pos (by omega)]
    rfl
theorem r_lay_dim (hP : x_closed E P) (hR : x_fin R) (he : e < 4) {p : Nat → Int} {s : Nat} (hs : s ≤ 30) (hp : wfp p s) : ∀ (f z : Nat) (I : x_M Int32), z + f = s → I 1 133 e = iI s → (∀ j, j < s → I 1 129 (30 * e + j) = iI (p j)) → lyK I e p z → (∀ I' L r1 r2, lyK I' e p s → frP (lF e) I I' → x_ag L 0 [some (.ref 122), some (.int (iI e))] → P 155 d 213 L [] (x_hp I' J R) r1 r2 Q) → ∀ rc rs, P 155 d 17 (x_ls [some (.ref 122), some (.int (iI e)), some (.int (iI (30 * e : Nat))), some (.int (iI z)), none, none]) [] (x_hp I J R) rc rs Q := by
  intro f
  induction f with
  | zero =>
    intro z I hz hm hpa hl k rc rs
    obtain rfl : z = s := by omega
    refine x_iload_n hP rfl rfl ?_
    first | refine x_aload_n hP rfl rfl ?_ | refine x_aload_nN hP rfl rfl ?_
    refine x_getR hP rfl (by first | assumption | rfl) (by first | assumption | exact hR _ _ _ _ rfl | exact hR1 _ _ _ _ rfl | exact hR2 _ _ _ _ rfl | rfl) ?_
    refine x_iload_n hP rfl rfl ?_
    refine z_iald hP rfl (by first | assumption | rfl) (by first | decide | omega) (by omega) (by first | assumption | exact hR _ _ _ _ rfl | exact hR1 _ _ _ _ rfl | exact hR2 _ _ _ _ rfl | rfl) ?_
    refine z_icmp_ge hP rfl (by omega) (by omega) (fun c24 => ?_) (fun c24 => ?_)
    · exact k I _ _ _ hl (frP_refl _ _) ⟨rfl, rfl, trivial⟩
    · omega
  | succ f ih =>
    intro z I hz hm hpa hl k rc rs
    refine x_iload_n hP rfl rfl ?_
    first | refine x_aload_n hP rfl rfl ?_ | refine x_aload_nN hP rfl rfl ?_
    refine x_getR hP rfl (by first | assumption | rfl) (by first | assumption | exact hR _ _ _ _ rfl | exact hR1 _ _ _ _ rfl | exact hR2 _ _ _ _ rfl | rfl) ?_
    refine x_iload_n hP rfl rfl ?_
    refine z_iald hP rfl (by first | assumption | rfl) (by first | decide | omega) (by omega) (by first | assumption | exact hR _ _ _ _ rfl | exact hR1 _ _ _ _ rfl | exact hR2 _ _ _ _ rfl | rfl) ?_
    refine z_icmp_ge hP rfl (by omega) (by omega) (fun c24 => ?_) (fun c24 => ?_)
    · omega
    refine r_lay_one hP hR he (show z < 30 by omega) (wfp_le hp (show z + 1 ≤ s by omega)) (fun j hj => hpa j (by omega)) hl (fun I1 L r1 r2 w1 w2 hL => ?_) _ _
    refine x_re hP _ hL ?_
    refine z_iinc hP rfl rfl rfl ?_
    refine x_goto hP rfl ?_
    exact x_re hP [some (.ref 122), some (.int (iI e)), some (.int (iI (30 * e : Nat))), some (.int (iI (z + 1 : Nat))), none, none] ⟨rfl, rfl, rfl, rfl, trivial⟩ (ih (z + 1) I1 (by omega) ((w2 _ _ _ fun q => by unfold lF at q; omega).trans hm) (fun j hj => (w2 _ _ _ fun q => by unfold lF at q; omega).trans (hpa j hj)) w1 (fun I' L r1 r2 y1 y2 => k I' L r1 r2 y1 (frP_trans w2 y2)) _ _)
def lG (k a _i : Nat) : Prop := k = 1 ∧ (a = 135 ∨ a = 136 ∨ a = 137)
theorem r_lay_all (hP : x_closed E P) (hR : x_fin R) : ∀ (f e : Nat) (I : x_M Int32), e + f = tD T → rTr I J T → (∀ a, a < e → lyK I a (tP T a) (tS T a)) → (∀ I', rTr I' J T → rLy I' T → frP lG I I' → Q none (x_hp I' J R)) → ∀ rc rs, P 155 d 2 (x_ls [some (.ref 122), some (.int (iI e)), none, none, none, none]) [] (x_hp I J R) rc rs Q := by
  intro f
  induction f with
  | zero =>
    intro e I he hc hl k rc rs
    have h1 := hc.1
    have w1 := hc.2.2.2.2.2.1
    refine x_iload_n hP rfl rfl ?_
    first | refine x_aload_n hP rfl rfl ?_ | refine x_aload_nN hP rfl rfl ?_
    refine x_getI hP rfl (by first | assumption | rfl) (by first | assumption | exact hR _ _ _ _ rfl | exact hR1 _ _ _ _ rfl | exact hR2 _ _ _ _ rfl | rfl) ?_
    refine z_icmp_ge hP rfl (by omega) (by omega) (fun c7 => ?_) (fun c7 => ?_)
    · refine x_vret hP rfl rfl ?_
      exact k I hc (fun a ha => hl a (by omega)) (frP_refl _ _)
    · omega
  | succ f ih =>
    intro e I he hc hl k rc rs
    have ⟨h1, h2, h3, h4, h5, hw⟩ := hc
    have w1 := hw.1
    have w2 := (hw.2.2 e (by omega)).2.1
    refine x_iload_n hP rfl rfl ?_
    first | refine x_aload_n hP rfl rfl ?_ | refine x_aload_nN hP rfl rfl ?_
    refine x_getI hP rfl (by first | assumption | rfl) (by first | assumption | exact hR _ _ _ _ rfl | exact hR1 _ _ _ _ rfl | exact hR2 _ _ _ _ rfl | rfl) ?_
    refine z_icmp_ge hP rfl (by omega) (by omega) (fun c7 => ?_) (fun c7 => ?_)
    · omega
    refine x_bipush hP rfl ?_
    refine x_iload_n hP rfl rfl ?_
    first | refine z_imul hP rfl ?_ | refine x_imul hP rfl ?_
    rw [show 30 * (e : Int) = ((30 * e : Nat) : Int) by omega]
    refine x_istore_n hP rfl ?_
    refine x_iconst hP rfl ?_
    refine x_istore_n hP rfl ?_
    refine x_re hP [some (.ref 122), some (.int (iI e)), some (.int (iI (30 * e : Nat))), some (.int (iI (0 : Nat))), none, none] ⟨rfl, rfl, rfl, rfl, trivial⟩ (r_lay_dim hP hR (show e < 4 by omega) w2 (twf_wfp hw (show e < tD T by omega)) _ 0 I (Nat.zero_add _) (h3 e (by omega)) (fun j hj => (h4 e (by omega) j hj).2.1) (fun j hj => absurd hj (Nat.not_lt_zero _)) (fun I1 L r1 r2 w3 w4 hL => ?_) _ _)
    refine x_re hP _ hL ?_
    refine z_iinc hP rfl rfl rfl ?_
    refine x_goto hP rfl ?_
    have w5 : frP lG I I1 := frP_mono w4 fun k a i q => by unfold lF at q; unfold lG; omega
    refine x_re hP [some (.ref 122), some (.int (iI (e + 1 : Nat))), none, none, none, none] ⟨rfl, rfl, trivial⟩ (ih (e + 1) I1 (by omega) (rTr_fr hc w5 (frP_refl _ _) fun k a i q => by unfold lG at q; omega) (fun a ha => ?_) (fun I' y0 y1 y2 => k I' y0 y1 (frP_trans w5 y2)) _ _)
    by_cases q : a = e
    · rw [q]; exact w3
    · intro j hj
      have w6 := (hw.2.2 a (by omega)).2.1
      have := hl a (by omega) j hj
      exact ⟨(w4 _ _ _ fun q => by unfold lF at q; omega).trans this.1, (w4 _ _ _ fun q => by unfold lF at q; omega).trans this.2.1, (w4 _ _ _ fun q => by unfold lF at q; omega).trans this.2.2⟩
theorem r_lay (hP : x_closed E P) (hR : x_fin R) {I : x_M Int32} {rc rs : Nat} (hc : rTr I J T) (k : ∀ I', rTr I' J T → rLy I' T → frP lG I I' → Q none (x_hp I' J R)) : P 155 d 0 (x_la 0 [.ref 122]) [] (x_hp I J R) rc rs Q := by
  refine x_iconst hP rfl ?_
  refine x_istore_n hP rfl ?_
  exact x_re hP [some (.ref 122), some (.int (iI (0 : Nat))), none, none, none, none] ⟨rfl, rfl, trivial⟩ (r_lay_all hP hR (tD T) 0 I (Nat.zero_add _) hc (fun a ha => absurd ha (Nat.not_lt_zero _)) k _ _)
end
