/-! Trees: a book's DIMENSIONS, MEMBERS, MARKS; the asking -/
abbrev x_T := Nat × (Nat → Nat) × (Nat → Nat → Int64) × (Nat → Nat → Int) × (Nat → Nat → Nat) × Nat × (Nat → Int64)
def tD (T : x_T) : Nat := T.1
def tS (T : x_T) : Nat → Nat := T.2.1
def tN (T : x_T) : Nat → Nat → Int64 := T.2.2.1
def tP (T : x_T) : Nat → Nat → Int := T.2.2.2.1
def tH (T : x_T) : Nat → Nat → Nat := T.2.2.2.2.1
def tM (T : x_T) : Nat := T.2.2.2.2.2.1
def tK (T : x_T) : Nat → Int64 := T.2.2.2.2.2.2
/-- what every told tree keeps -/
def twf (T : x_T) : Prop := tD T ≤ 4 ∧ tM T ≤ 3 ∧ ∀ d, d < tD T → 1 ≤ tS T d ∧ tS T d ≤ 30 ∧ tP T d 0 = -1 ∧ tH T d 0 = 0 ∧ ∀ k, k < tS T d → tH T d k ≤ 6 ∧ (0 < k → 0 ≤ tP T d k ∧ tP T d k < k ∧ tH T d k = tH T d (tP T d k).toNat + 1)
def isTr (R : x_M (Option Nat)) (t : Nat) : Prop := x_kd0 t = (1008, 0) ∧ x_kd0 (t + 1) = (1, 4) ∧ x_kd0 (t + 2) = (6, 128) ∧ x_kd0 (t + 3) = (1, 128) ∧ x_kd0 (t + 4) = (1, 128) ∧ x_kd0 (t + 5) = (1, 128) ∧ x_kd0 (t + 6) = (1, 128) ∧ x_kd0 (t + 7) = (1, 128) ∧ x_kd0 (t + 8) = (1, 128) ∧ x_kd0 (t + 9) = (1, 128) ∧ x_kd0 (t + 10) = (6, 3) ∧ x_kd0 (t + 11) = (1, 384) ∧ R 1514 t 0 = some (t + 1) ∧ R 1515 t 0 = some (t + 2) ∧ R 1516 t 0 = some (t + 3) ∧ R 1517 t 0 = some (t + 4) ∧ R 1518 t 0 = some (t + 5) ∧ R 1519 t 0 = some (t + 6) ∧ R 1520 t 0 = some (t + 7) ∧ R 1521 t 0 = some (t + 8) ∧ R 1522 t 0 = some (t + 9) ∧ R 1523 t 0 = some (t + 10) ∧ R 1524 t 0 = some (t + 11)
def isTa (t : Nat) : Prop := t = 98 ∨ t = 110
theorem isTr_of {R : x_M (Option Nat)} (hR : x_fin R) {t : Nat} (h : isTa t) : isTr R t := by
  rcases h with rfl | rfl
  · exact ⟨rfl, rfl, rfl, rfl, rfl, rfl, rfl, rfl, rfl, rfl, rfl, rfl, hR _ _ _ _ rfl, hR _ _ _ _ rfl, hR _ _ _ _ rfl, hR _ _ _ _ rfl, hR _ _ _ _ rfl, hR _ _ _ _ rfl, hR _ _ _ _ rfl, hR _ _ _ _ rfl, hR _ _ _ _ rfl, hR _ _ _ _ rfl, hR _ _ _ _ rfl⟩
  · exact ⟨rfl, rfl, rfl, rfl, rfl, rfl, rfl, rfl, rfl, rfl, rfl, rfl, hR _ _ _ _ rfl, hR _ _ _ _ rfl, hR _ _ _ _ rfl, hR _ _ _ _ rfl, hR _ _ _ _ rfl, hR _ _ _ _ rfl, hR _ _ _ _ rfl, hR _ _ _ _ rfl, hR _ _ _ _ rfl, hR _ _ _ _ rfl, hR _ _ _ _ rfl⟩
/-- the class's trees at t are T -/
def ct (I : x_M Int32) (J : x_M Int64) (t : Nat) (T : x_T) : Prop := I 1512 t 0 = iI (tD T) ∧ I 1513 t 0 = iI (tM T) ∧ (∀ d, d < tD T → I 1 (t + 1) d = iI (tS T d)) ∧ (∀ d, d < tD T → ∀ k, k < tS T d → J 6 (t + 2) (32 * d + k) = tN T d k ∧ I 1 (t + 3) (32 * d + k) = iI (tP T d k) ∧ I 1 (t + 4) (32 * d + k) = iI (tH T d k)) ∧ (∀ m, m < tM T → J 6 (t + 10) m = tK T m) ∧ twf T
/-- the MARKS' numbers at t -/
def nuP (I : x_M Int32) (t : Nat) (nu : Nat → Nat → Nat → Int) : Prop := ∀ m d k, m < 3 → d < 4 → k < 32 → I 1 (t + 11) (m * 128 + (32 * d + k)) = iI (nu m d k) ∧ (nu m d k = -2000000000 ∨ -1000000 ≤ nu m d k ∧ nu m d k ≤ 1000000)
/-- the first place with a name -/
def fO (nm : Nat → Int64) (v : Int64) (i : Nat) : Nat → Option Nat
  | 0 => none
  | f + 1 => if nm i = v then some i else fO nm v (i + 1) f
def oI : Option Nat → Int
  | none => -1
  | some k => k
theorem fO_lt {nm : Nat → Int64} {v : Int64} : ∀ (f i k : Nat), fO nm v i f = some k → i ≤ k ∧ k < i + f ∧ nm k = v
  | 0, i, k, h => by cases h
  | f + 1, i, k, h => by
    unfold fO at h
    split at h
    · next e => cases h; exact ⟨Nat.le_refl _, by omega, e⟩
    · have := fO_lt f (i + 1) k h; exact ⟨by omega, by omega, this.2.2⟩
/-- where a NAME stands in a DIMENSION, and in all -/
def fIn (T : x_T) (d : Nat) (v : Int64) : Option Nat := fO (tN T d) v 0 (tS T d)
def fMe (T : x_T) (v : Int64) (d : Nat) : Nat → Option (Nat × Nat)
  | 0 => none
  | f + 1 => match fIn T d v with
    | some k => some (d, k)
    | none => fMe T v (d + 1) f
def fMem (T : x_T) (v : Int64) : Option (Nat × Nat) := fMe T v 0 (tD T)
def fMk (T : x_T) (v : Int64) : Option Nat := fO (tK T) v 0 (tM T)
def mI : Option (Nat × Nat) → Int
  | none => -1
  | some (d, k) => (32 * d + k : Nat)
theorem fMe_lt {T : x_T} {v : Int64} : ∀ (f i d k : Nat), fMe T v i f = some (d, k) → i ≤ d ∧ d < i + f ∧ k < tS T d
  | 0, i, d, k, h => by cases h
  | f + 1, i, d, k, h => by
    unfold fMe at h
    split at h
    · next e => cases h; have := fO_lt _ _ _ e; omega
    · have := fMe_lt f (i + 1) d k h; omega
theorem fMem_lt {T : x_T} {v : Int64} {d k : Nat} (h : fMem T v = some (d, k)) : d < tD T ∧ k < tS T d := by
  have := fMe_lt _ _ _ _ h
  omega
/-- how many MEMBERS the DIMENSIONS have that come before i -/
def sumS (s : Nat → Nat) : Nat → Nat
  | 0 => 0
  | f + 1 => sumS s f + s f
theorem sumS_le {s : Nat → Nat} : ∀ f, (∀ d, d < f → s d ≤ 30) → sumS s f ≤ 30 * f
  | 0, _ => Nat.le_refl _
  | f + 1, h => by
    have := sumS_le f fun d hd => h d (by omega)
    have := h f (by omega)
    simp only [sumS]
    omega
section
variable {E : x_E} {P : x_Pr} {d rc rs : Nat} {I : x_M Int32} {J : x_M Int64} {R : x_M (Option Nat)} {Q : x_Q} {t : Nat} {T : x_T}
theorem c_trHasDim (hP : x_closed E P) (ht : isTr R t) {D : Nat} (h1 : I 1512 t 0 = iI D) (h2 : D ≤ 4) {x : Int} (hx : -2147483648 ≤ x ∧ x < 2147483648) (k : Q (some (.int (bI (decide (0 ≤ x ∧ x < D))))) (x_hp I J R)) : P 42 d 0 (x_la 0 [.ref t, .int (iI x)]) [] (x_hp I J R) rc rs Q := by
  obtain ⟨t0, t1, t2, t3, t4, t5, t6, t7, t8, t9, t10, t11, u1, u2, u3, u4, u5, u6, u7, u8, u9, u10, u11⟩ := ht
  refine x_iload_n hP rfl rfl ?_
  refine z_if_lt hP rfl (by omega) (fun c1 => ?_) (fun c1 => ?_)
  · rw [decide_eq_false (by omega)] at k
    refine x_iconst hP rfl ?_
    refine x_zret hP rfl rfl (by first | exact Or.inl iI_0 | exact Or.inr iI_1 | exact bI_or _ | assumption) ?_
    exact k
  · refine x_iload_n hP rfl rfl ?_
    first | refine x_aload_n hP rfl rfl ?_ | refine x_aload_nN hP rfl rfl ?_
    refine x_getI hP rfl (by first | assumption | rfl) (by first | assumption | exact hR _ _ _ _ rfl | exact hR1 _ _ _ _ rfl | exact hR2 _ _ _ _ rfl | rfl) ?_
    refine z_icmp_ge hP rfl (by omega) (by omega) (fun c9 => ?_) (fun c9 => ?_)
    · rw [decide_eq_false (by omega)] at k
      refine x_iconst hP rfl ?_
      refine x_zret hP rfl rfl (by first | exact Or.inl iI_0 | exact Or.inr iI_1 | exact bI_or _ | assumption) ?_
      exact k
    · rw [decide_eq_true (by omega)] at k
      refine x_iconst hP rfl ?_
      refine x_goto hP rfl ?_
      refine x_zret hP rfl rfl (by first | exact Or.inl iI_0 | exact Or.inr iI_1 | exact bI_or _ | assumption) ?_
      exact k
theorem c_hasMark (hP : x_closed E P) (ht : isTr R t) (hc : ct I J t T) {x : Int} (hx : -2147483648 ≤ x ∧ x < 2147483648) (k : Q (some (.int (bI (decide (0 ≤ x ∧ x < tM T))))) (x_hp I J R)) : P 137 d 0 (x_la 0 [.ref t, .int (iI x)]) [] (x_hp I J R) rc rs Q := by
  obtain ⟨t0, t1, t2, t3, t4, t5, t6, t7, t8, t9, t10, t11, u1, u2, u3, u4, u5, u6, u7, u8, u9, u10, u11⟩ := ht
  obtain ⟨h1, h2, h3, h4, h5, w1, w2, w3⟩ := hc
  refine x_iload_n hP rfl rfl ?_
  refine z_if_lt hP rfl (by omega) (fun c1 => ?_) (fun c1 => ?_)
  · rw [decide_eq_false (by omega)] at k
    refine x_iconst hP rfl ?_
    refine x_zret hP rfl rfl (by first | exact Or.inl iI_0 | exact Or.inr iI_1 | exact bI_or _ | assumption) ?_
    exact k
  · refine x_iload_n hP rfl rfl ?_
    first | refine x_aload_n hP rfl rfl ?_ | refine x_aload_nN hP rfl rfl ?_
    refine x_getI hP rfl (by first | assumption | rfl) (by first | assumption | exact hR _ _ _ _ rfl | exact hR1 _ _ _ _ rfl | exact hR2 _ _ _ _ rfl | rfl) ?_
    refine z_icmp_ge hP rfl (by omega) (by omega) (fun c9 => ?_) (fun c9 => ?_)
    · rw [decide_eq_false (by omega)] at k
      refine x_iconst hP rfl ?_
      refine x_zret hP rfl rfl (by first | exact Or.inl iI_0 | exact Or.inr iI_1 | exact bI_or _ | assumption) ?_
      exact k
    · rw [decide_eq_true (by omega)] at k
      refine x_iconst hP rfl ?_
      refine x_goto hP rfl ?_
      refine x_zret hP rfl rfl (by first | exact Or.inl iI_0 | exact Or.inr iI_1 | exact bI_or _ | assumption) ?_
      exact k
theorem c_hasMember (hP : x_closed E P) (ht : isTr R t) (hc : ct I J t T) {x z : Int} (hx : -2147483648 ≤ x ∧ x < 2147483648) (hz : -2147483648 ≤ z ∧ z < 2147483648) (k : Q (some (.int (bI (decide (0 ≤ x ∧ x < tD T ∧ 0 ≤ z ∧ z < tS T x.toNat))))) (x_hp I J R)) : P 150 (d + 1) 0 (x_la 0 [.ref t, .int (iI x), .int (iI z)]) [] (x_hp I J R) rc rs Q := by
  have ht' := ht
  obtain ⟨t0, t1, t2, t3, t4, t5, t6, t7, t8, t9, t10, t11, u1, u2, u3, u4, u5, u6, u7, u8, u9, u10, u11⟩ := ht
  obtain ⟨h1, h2, h3, h4, h5, w1, w2, w3⟩ := hc
  first | refine x_aload_n hP rfl rfl ?_ | refine x_aload_nN hP rfl rfl ?_
  refine x_iload_n hP rfl rfl ?_
  refine x_callV1 (ci := 8) hP 0 0 rfl rfl rfl (by first | assumption | rfl) rfl rfl rfl (Nat.zero_le _) (Nat.zero_le _) ?_
  refine c_trHasDim hP ht' h1 w1 hx ?_
  first | refine zb_if_eq hP rfl (fun c5 => ?_) (fun c5 => ?_) | refine zl_if_eq hP rfl (fun c5 => ?_) (fun c5 => ?_) | refine z_if_eq hP rfl (by omega) (fun c5 => ?_) (fun c5 => ?_)
  · rw [decide_eq_false (by have := of_decide_eq_false c5; omega)] at k
    refine x_iconst hP rfl ?_
    refine x_zret hP rfl rfl (by first | exact Or.inl iI_0 | exact Or.inr iI_1 | exact bI_or _ | assumption) ?_
    exact k
  · have c5 := of_decide_eq_true c5
    refine x_iload_n hP rfl rfl ?_
    refine z_if_lt hP rfl (by omega) (fun c9 => ?_) (fun c9 => ?_)
    · rw [decide_eq_false (by omega)] at k
      refine x_iconst hP rfl ?_
      refine x_zret hP rfl rfl (by first | exact Or.inl iI_0 | exact Or.inr iI_1 | exact bI_or _ | assumption) ?_
      exact k
    · have v := h3 x.toNat (by omega)
      have v2 := w3 x.toNat (by omega)
      refine x_iload_n hP rfl rfl ?_
      first | refine x_aload_n hP rfl rfl ?_ | refine x_aload_nN hP rfl rfl ?_
      refine x_getR hP rfl (by first | assumption | rfl) (by first | assumption | exact hR _ _ _ _ rfl | exact hR1 _ _ _ _ rfl | exact hR2 _ _ _ _ rfl | rfl) ?_
      refine x_iload_n hP rfl rfl ?_
      refine z_iald hP rfl (by first | assumption | rfl) (by first | decide | omega) (by omega) (by first | assumption | exact hR _ _ _ _ rfl | exact hR1 _ _ _ _ rfl | exact hR2 _ _ _ _ rfl | rfl) ?_
      refine z_icmp_ge hP rfl (by omega) (by omega) (fun c19 => ?_) (fun c19 => ?_)
      · rw [decide_eq_false (by omega)] at k
        refine x_iconst hP rfl ?_
        refine x_zret hP rfl rfl (by first | exact Or.inl iI_0 | exact Or.inr iI_1 | exact bI_or _ | assumption) ?_
        exact k
      · rw [decide_eq_true (by omega)] at k
        refine x_iconst hP rfl ?_
        refine x_goto hP rfl ?_
        refine x_zret hP rfl rfl (by first | exact Or.inl iI_0 | exact Or.inr iI_1 | exact bI_or _ | assumption) ?_
        exact k
theorem c_inAll_loop (hP : x_closed E P) (ht : isTr R t) (hc : ct I J t T) : ∀ (f i : Nat), i + f = tD T → Q (some (.int (iI (sumS (tS T) (tD T))))) (x_hp I J R) → P 45 d 4 (x_ls [some (.ref t), some (.int (iI (sumS (tS T) i))), some (.int (iI i))]) [] (x_hp I J R) rc rs Q := by
  obtain ⟨t0, t1, t2, t3, t4, t5, t6, t7, t8, t9, t10, t11, u1, u2, u3, u4, u5, u6, u7, u8, u9, u10, u11⟩ := ht
  obtain ⟨h1, h2, h3, h4, h5, w1, w2, w3⟩ := hc
  intro f
  induction f with
  | zero =>
    intro i hi k
    obtain rfl : i = tD T := by omega
    refine x_iload_n hP rfl rfl ?_
    first | refine x_aload_n hP rfl rfl ?_ | refine x_aload_nN hP rfl rfl ?_
    refine x_getI hP rfl (by first | assumption | rfl) (by first | assumption | exact hR _ _ _ _ rfl | exact hR1 _ _ _ _ rfl | exact hR2 _ _ _ _ rfl | rfl) ?_
    refine z_icmp_ge hP rfl (by omega) (by omega) (fun c9 => ?_) (fun c9 => ?_)
    · refine x_iload_n hP rfl rfl ?_
      refine x_iret hP rfl rfl ?_
      exact k
    · omega
  | succ f ih =>
    intro i hi k
    have v := h3 i (by omega)
    refine x_iload_n hP rfl rfl ?_
    first | refine x_aload_n hP rfl rfl ?_ | refine x_aload_nN hP rfl rfl ?_
    refine x_getI hP rfl (by first | assumption | rfl) (by first | assumption | exact hR _ _ _ _ rfl | exact hR1 _ _ _ _ rfl | exact hR2 _ _ _ _ rfl | rfl) ?_
    refine z_icmp_ge hP rfl (by omega) (by omega) (fun c9 => ?_) (fun c9 => ?_)
    · omega
    refine x_iload_n hP rfl rfl ?_
    first | refine x_aload_n hP rfl rfl ?_ | refine x_aload_nN hP rfl rfl ?_
    refine x_getR hP rfl (by first | assumption | rfl) (by first | assumption | exact hR _ _ _ _ rfl | exact hR1 _ _ _ _ rfl | exact hR2 _ _ _ _ rfl | rfl) ?_
    refine x_iload_n hP rfl rfl ?_
    refine z_iald hP rfl (by first | assumption | rfl) (by first | decide | omega) (by omega) (by first | assumption | exact hR _ _ _ _ rfl | exact hR1 _ _ _ _ rfl | exact hR2 _ _ _ _ rfl | rfl) ?_
    first | refine z_iadd hP rfl ?_ | refine x_iadd hP rfl ?_
    refine x_istore_n hP rfl ?_
    refine z_iinc hP rfl rfl rfl ?_
    refine x_goto hP rfl ?_
    exact x_re hP [some (.ref t), some (.int (iI (sumS (tS T) (i + 1)))), some (.int (iI (i + 1 : Nat)))] ⟨rfl, rfl, rfl, trivial⟩ (ih (i + 1) (by omega) k)
theorem c_inAll (hP : x_closed E P) (ht : isTr R t) (hc : ct I J t T) (k : Q (some (.int (iI (sumS (tS T) (tD T))))) (x_hp I J R)) : P 45 d 0 (x_la 0 [.ref t]) [] (x_hp I J R) rc rs Q := by
  refine x_iconst hP rfl ?_
  refine x_istore_n hP rfl ?_
  refine x_iconst hP rfl ?_
  refine x_istore_n hP rfl ?_
  exact x_re hP [some (.ref t), some (.int (iI (sumS (tS T) 0))), some (.int (iI (0 : Nat)))] ⟨rfl, rfl, rfl, trivial⟩ (c_inAll_loop hP ht hc (tD T) 0 (by omega) k)
theorem c_findIn_loop (hP : x_closed E P) (ht : isTr R t) (hc : ct I J t T) {e : Nat} (he : e < tD T) {v : Int64} : ∀ (f i : Nat), i + f = tS T e → Q (some (.int (iI (oI (fO (tN T e) v i f))))) (x_hp I J R) → P 41 d 20 (x_ls [some (.ref t), some (.int (iI e)), some (.long v), none, some (.int (iI (32 * e : Nat))), some (.int (iI i))]) [] (x_hp I J R) rc rs Q := by
  obtain ⟨t0, t1, t2, t3, t4, t5, t6, t7, t8, t9, t10, t11, u1, u2, u3, u4, u5, u6, u7, u8, u9, u10, u11⟩ := ht
  obtain ⟨h1, h2, h3, h4, h5, w1, w2, w3⟩ := hc
  have v1 := h3 e he
  have v2 := w3 e he
  intro f
  induction f with
  | zero =>
    intro i hi k
    refine x_iload hP rfl rfl ?_
    first | refine x_aload_n hP rfl rfl ?_ | refine x_aload_nN hP rfl rfl ?_
    refine x_getR hP rfl (by first | assumption | rfl) (by first | assumption | exact hR _ _ _ _ rfl | exact hR1 _ _ _ _ rfl | exact hR2 _ _ _ _ rfl | rfl) ?_
    refine x_iload_n hP rfl rfl ?_
    refine z_iald hP rfl (by first | assumption | rfl) (by first | decide | omega) (by omega) (by first | assumption | exact hR _ _ _ _ rfl | exact hR1 _ _ _ _ rfl | exact hR2 _ _ _ _ rfl | rfl) ?_
    refine z_icmp_ge hP rfl (by omega) (by omega) (fun c28 => ?_) (fun c28 => ?_)
    · refine x_iconst hP rfl ?_
      refine x_iret hP rfl rfl ?_
      exact k
    · omega
  | succ f ih =>
    intro i hi k
    have v3 := (h4 e he i (by omega)).1
    unfold fO at k
    refine x_iload hP rfl rfl ?_
    first | refine x_aload_n hP rfl rfl ?_ | refine x_aload_nN hP rfl rfl ?_
    refine x_getR hP rfl (by first | assumption | rfl) (by first | assumption | exact hR _ _ _ _ rfl | exact hR1 _ _ _ _ rfl | exact hR2 _ _ _ _ rfl | rfl) ?_
    refine x_iload_n hP rfl rfl ?_
    refine z_iald hP rfl (by first | assumption | rfl) (by first | decide | omega) (by omega) (by first | assumption | exact hR _ _ _ _ rfl | exact hR1 _ _ _ _ rfl | exact hR2 _ _ _ _ rfl | rfl) ?_
    refine z_icmp_ge hP rfl (by omega) (by omega) (fun c28 => ?_) (fun c28 => ?_)
    · omega
    first | refine x_aload_n hP rfl rfl ?_ | refine x_aload_nN hP rfl rfl ?_
    refine x_getR hP rfl (by first | assumption | rfl) (by first | assumption | exact hR _ _ _ _ rfl | exact hR1 _ _ _ _ rfl | exact hR2 _ _ _ _ rfl | rfl) ?_
    refine x_iload hP rfl rfl ?_
    refine x_iload hP rfl rfl ?_
    first | refine z_iadd hP rfl ?_ | refine x_iadd hP rfl ?_
    refine z_lald hP rfl (by first | assumption | rfl) (by first | decide | omega) (by omega) (by first | assumption | exact hR _ _ _ _ rfl | exact hR1 _ _ _ _ rfl | exact hR2 _ _ _ _ rfl | rfl) ?_
    refine x_lload_n hP rfl rfl ?_
    refine x_lcmp hP rfl ?_
    first | refine zb_if_ne hP rfl (fun c43 => ?_) (fun c43 => ?_) | refine zl_if_ne hP rfl (fun c43 => ?_) (fun c43 => ?_) | refine z_if_ne hP rfl (by omega) (fun c43 => ?_) (fun c43 => ?_)
    · rw [if_neg c43] at k
      refine z_iinc hP rfl rfl rfl ?_
      refine x_goto hP rfl ?_
      exact x_re hP [some (.ref t), some (.int (iI e)), some (.long v), none, some (.int (iI (32 * e : Nat))), some (.int (iI (i + 1 : Nat)))] ⟨rfl, rfl, rfl, rfl, rfl, trivial⟩ (ih (i + 1) (by omega) k)
    · rw [if_pos c43] at k
      refine x_iload hP rfl rfl ?_
      refine x_iret hP rfl rfl ?_
      exact k
theorem c_findIn (hP : x_closed E P) (ht : isTr R t) (hc : ct I J t T) {e : Nat} (he : e < tD T) {v : Int64} (k : Q (some (.int (iI (oI (fIn T e v))))) (x_hp I J R)) : P 41 (d + 1) 0 (x_la 0 [.ref t, .int (iI e), .long v]) [] (x_hp I J R) rc rs Q := by
  have w1 := hc.2.2.2.2.2.1
  have t0 := ht.1
  first | refine x_aload_n hP rfl rfl ?_ | refine x_aload_nN hP rfl rfl ?_
  refine x_iload_n hP rfl rfl ?_
  refine x_callV1 (ci := 8) hP 0 0 rfl rfl rfl (by first | assumption | rfl) rfl rfl rfl (Nat.zero_le _) (Nat.zero_le _) ?_
  refine c_trHasDim hP ht hc.1 w1 (by omega) ?_
  first | refine zb_if_ne hP rfl (fun c5 => ?_) (fun c5 => ?_) | refine zl_if_ne hP rfl (fun c5 => ?_) (fun c5 => ?_) | refine z_if_ne hP rfl (by omega) (fun c5 => ?_) (fun c5 => ?_)
  rotate_left
  · have := of_decide_eq_false c5
    omega
  · refine x_iload_n hP rfl rfl ?_
    refine x_iconst hP rfl ?_
    refine x_callS2 hP 0 0 rfl rfl rfl rfl rfl (Nat.zero_le _) (Nat.zero_le _) ?_
    refine c_idOf hP (k := 0) (by omega) (by decide) ?_
    refine x_istore hP rfl ?_
    refine x_iconst hP rfl ?_
    refine x_istore hP rfl ?_
    exact x_re hP [some (.ref t), some (.int (iI e)), some (.long v), none, some (.int (iI (32 * e : Nat))), some (.int (iI (0 : Nat)))] ⟨rfl, rfl, rfl, rfl, rfl, trivial⟩ (c_findIn_loop hP ht hc he (tS T e) 0 (by omega) k)
theorem c_findMember_loop (hP : x_closed E P) (ht : isTr R t) (hc : ct I J t T) {v : Int64} : ∀ (f i : Nat), i + f = tD T → Q (some (.int (iI (mI (fMe T v i f))))) (x_hp I J R) → P 40 (d + 2) 2 (x_ls [some (.ref t), some (.long v), none, some (.int (iI i)), none]) [] (x_hp I J R) rc rs Q := by
  have ht' := ht
  have hc' := hc
  obtain ⟨t0, t1, t2, t3, t4, t5, t6, t7, t8, t9, t10, t11, u1, u2, u3, u4, u5, u6, u7, u8, u9, u10, u11⟩ := ht
  obtain ⟨h1, h2, h3, h4, h5, w1, w2, w3⟩ := hc
  intro f
  induction f with
  | zero =>
    intro i hi k
    refine x_iload_n hP rfl rfl ?_
    first | refine x_aload_n hP rfl rfl ?_ | refine x_aload_nN hP rfl rfl ?_
    refine x_getI hP rfl (by first | assumption | rfl) (by first | assumption | exact hR _ _ _ _ rfl | exact hR1 _ _ _ _ rfl | exact hR2 _ _ _ _ rfl | rfl) ?_
    refine z_icmp_ge hP rfl (by omega) (by omega) (fun c7 => ?_) (fun c7 => ?_)
    · refine x_iconst hP rfl ?_
      refine x_iret hP rfl rfl ?_
      exact k
    · omega
  | succ f ih =>
    intro i hi k
    unfold fMe at k
    have v2 := w3 i (by omega)
    refine x_iload_n hP rfl rfl ?_
    first | refine x_aload_n hP rfl rfl ?_ | refine x_aload_nN hP rfl rfl ?_
    refine x_getI hP rfl (by first | assumption | rfl) (by first | assumption | exact hR _ _ _ _ rfl | exact hR1 _ _ _ _ rfl | exact hR2 _ _ _ _ rfl | rfl) ?_
    refine z_icmp_ge hP rfl (by omega) (by omega) (fun c7 => ?_) (fun c7 => ?_)
    · omega
    first | refine x_aload_n hP rfl rfl ?_ | refine x_aload_nN hP rfl rfl ?_
    refine x_iload_n hP rfl rfl ?_
    refine x_lload_n hP rfl rfl ?_
    refine x_callV2 (ci := 8) hP 0 0 rfl rfl rfl (by first | assumption | rfl) rfl rfl rfl (Nat.zero_le _) (Nat.zero_le _) ?_
    refine c_findIn hP ht' hc' (e := i) (by omega) ?_
    cases e : fIn T i v with
    | none =>
      rw [e] at k
      rw [show oI none = -1 from rfl]
      refine x_istore hP rfl ?_
      refine x_iload hP rfl rfl ?_
      refine z_if_lt hP rfl (by omega) (fun c20 => ?_) (fun c20 => ?_)
      · refine z_iinc hP rfl rfl rfl ?_
        refine x_goto hP rfl ?_
        exact x_re hP [some (.ref t), some (.long v), none, some (.int (iI (i + 1 : Nat))), none] ⟨rfl, rfl, rfl, trivial⟩ (ih (i + 1) (by omega) k)
      · exact absurd c20 (by decide)
    | some z =>
      rw [e] at k
      have := fO_lt _ _ _ e
      rw [show oI (some z) = (z : Int) from rfl]
      refine x_istore hP rfl ?_
      refine x_iload hP rfl rfl ?_
      refine z_if_lt hP rfl (by omega) (fun c20 => ?_) (fun c20 => ?_)
      · omega
      refine x_iload_n hP rfl rfl ?_
      refine x_iload hP rfl rfl ?_
      refine x_callS2 hP 0 0 rfl rfl rfl rfl rfl (Nat.zero_le _) (Nat.zero_le _) ?_
      refine c_idOf hP (e := i) (k := z) (by omega) (by omega) ?_
      refine x_iret hP rfl rfl ?_
      exact k
theorem c_findMember (hP : x_closed E P) (ht : isTr R t) (hc : ct I J t T) {v : Int64} (k : Q (some (.int (iI (mI (fMem T v))))) (x_hp I J R)) : P 40 (d + 2) 0 (x_la 0 [.ref t, .long v]) [] (x_hp I J R) rc rs Q := by
  refine x_iconst hP rfl ?_
  refine x_istore_n hP rfl ?_
  exact x_re hP [some (.ref t), some (.long v), none, some (.int (iI (0 : Nat))), none] ⟨rfl, rfl, rfl, trivial⟩ (c_findMember_loop hP ht hc (tD T) 0 (by omega) k)
theorem c_findMark_loop (hP : x_closed E P) (ht : isTr R t) (hc : ct I J t T) {v : Int64} : ∀ (f i : Nat), i + f = tM T → Q (some (.int (iI (oI (fO (tK T) v i f))))) (x_hp I J R) → P 43 d 2 (x_ls [some (.ref t), some (.long v), none, some (.int (iI i))]) [] (x_hp I J R) rc rs Q := by
  obtain ⟨t0, t1, t2, t3, t4, t5, t6, t7, t8, t9, t10, t11, u1, u2, u3, u4, u5, u6, u7, u8, u9, u10, u11⟩ := ht
  obtain ⟨h1, h2, h3, h4, h5, w1, w2, w3⟩ := hc
  intro f
  induction f with
  | zero =>
    intro i hi k
    refine x_iload_n hP rfl rfl ?_
    first | refine x_aload_n hP rfl rfl ?_ | refine x_aload_nN hP rfl rfl ?_
    refine x_getI hP rfl (by first | assumption | rfl) (by first | assumption | exact hR _ _ _ _ rfl | exact hR1 _ _ _ _ rfl | exact hR2 _ _ _ _ rfl | rfl) ?_
    refine z_icmp_ge hP rfl (by omega) (by omega) (fun c7 => ?_) (fun c7 => ?_)
    · refine x_iconst hP rfl ?_
      refine x_iret hP rfl rfl ?_
      exact k
    · omega
  | succ f ih =>
    intro i hi k
    have v3 := h5 i (by omega)
    unfold fO at k
    refine x_iload_n hP rfl rfl ?_
    first | refine x_aload_n hP rfl rfl ?_ | refine x_aload_nN hP rfl rfl ?_
    refine x_getI hP rfl (by first | assumption | rfl) (by first | assumption | exact hR _ _ _ _ rfl | exact hR1 _ _ _ _ rfl | exact hR2 _ _ _ _ rfl | rfl) ?_
    refine z_icmp_ge hP rfl (by omega) (by omega) (fun c7 => ?_) (fun c7 => ?_)
    · omega
    first | refine x_aload_n hP rfl rfl ?_ | refine x_aload_nN hP rfl rfl ?_
    refine x_getR hP rfl (by first | assumption | rfl) (by first | assumption | exact hR _ _ _ _ rfl | exact hR1 _ _ _ _ rfl | exact hR2 _ _ _ _ rfl | rfl) ?_
    refine x_iload_n hP rfl rfl ?_
    refine z_lald hP rfl (by first | assumption | rfl) (by first | decide | omega) (by omega) (by first | assumption | exact hR _ _ _ _ rfl | exact hR1 _ _ _ _ rfl | exact hR2 _ _ _ _ rfl | rfl) ?_
    refine x_lload_n hP rfl rfl ?_
    refine x_lcmp hP rfl ?_
    first | refine zb_if_ne hP rfl (fun c18 => ?_) (fun c18 => ?_) | refine zl_if_ne hP rfl (fun c18 => ?_) (fun c18 => ?_) | refine z_if_ne hP rfl (by omega) (fun c18 => ?_) (fun c18 => ?_)
    · rw [if_neg c18] at k
      refine z_iinc hP rfl rfl rfl ?_
      refine x_goto hP rfl ?_
      exact x_re hP [some (.ref t), some (.long v), none, some (.int (iI (i + 1 : Nat)))] ⟨rfl, rfl, rfl, trivial⟩ (ih (i + 1) (by omega) k)
    · rw [if_pos c18] at k
      refine x_iload_n hP rfl rfl ?_
      refine x_iret hP rfl rfl ?_
      exact k
theorem c_findMark (hP : x_closed E P) (ht : isTr R t) (hc : ct I J t T) {v : Int64} (k : Q (some (.int (iI (oI (fMk T v))))) (x_hp I J R)) : P 43 d 0 (x_la 0 [.ref t, .long v]) [] (x_hp I J R) rc rs Q := by
  refine x_iconst hP rfl ?_
  refine x_istore_n hP rfl ?_
  exact x_re hP [some (.ref t), some (.long v), none, some (.int (iI (0 : Nat)))] ⟨rfl, rfl, rfl, trivial⟩ (c_findMark_loop hP ht hc (tM T) 0 (by omega) k)
theorem mI_rg (hw : twf T) {v : Int64} : -1 ≤ mI (fMem T v) ∧ mI (fMem T v) < 128 ∧ (mI (fMem T v) < 0 ↔ fMem T v = none) := by
  cases e : fMem T v with
  | none => exact ⟨by decide, by decide, fun _ => rfl, fun _ => by decide⟩
  | some z =>
    obtain ⟨a, b⟩ := z
    have h1 := fMem_lt e
    have h2 := hw.2.2 a h1.1
    have h3 := hw.1
    show -1 ≤ ((32 * a + b : Nat) : Int) ∧ ((32 * a + b : Nat) : Int) < 128 ∧ (((32 * a + b : Nat) : Int) < 0 ↔ _)
    exact ⟨by omega, by omega, fun _ => by omega, fun h => by cases h⟩
theorem oI_rg {o : Option Nat} (h : ∀ k, o = some k → k < 1000) : -1 ≤ oI o ∧ oI o < 1000 ∧ (oI o < 0 ↔ o = none) := by
  cases o with
  | none => exact ⟨by decide, by decide, fun _ => rfl, fun _ => by decide⟩
  | some z =>
    have := h z rfl
    show -1 ≤ (z : Int) ∧ (z : Int) < 1000 ∧ ((z : Int) < 0 ↔ _)
    exact ⟨by omega, by omega, fun _ => by omega, fun h => by cases h⟩
/-- reading a MEMBER's NAME, a MARK's NAME -/
def memR (T : x_T) (c : Nat → Nat) (n p : Nat) : Nat ⊕ ((Nat × Nat) × Nat) := match namR c n p with
  | .inl e => .inl e
  | .inr (v, q) => match fMem T v with
    | none => .inl p
    | some m => .inr (m, q)
def mrkR (T : x_T) (c : Nat → Nat) (n p : Nat) : Nat ⊕ (Nat × Nat) := match namR c n p with
  | .inl e => .inl e
  | .inr (v, q) => match fMk T v with
    | none => .inl p
    | some m => .inr (m, q)
theorem memR_rg {c : Nat → Nat} {n p q a b : Nat} (hc : ∀ i, c i < 256) (hp : p ≤ n) (h : memR T c n p = .inr ((a, b), q)) : p < q ∧ q ≤ n ∧ a < tD T ∧ b < tS T a := by
  unfold memR at h
  split at h
  · cases h
  · next v q' e =>
    split at h
    · cases h
    · next m e2 =>
      cases h
      have := namR_rg hc hp e
      exact ⟨this.1, this.2.1, fMem_lt e2⟩
theorem mrkR_rg {c : Nat → Nat} {n p q a : Nat} (hc : ∀ i, c i < 256) (hp : p ≤ n) (h : mrkR T c n p = .inr (a, q)) : p < q ∧ q ≤ n ∧ a < tM T := by
  unfold mrkR at h
  split at h
  · cases h
  · next v q' e =>
    split at h
    · cases h
    · next m e2 =>
      cases h
      have := namR_rg hc hp e
      have h3 := fO_lt _ _ _ e2
      exact ⟨this.1, this.2.1, by omega⟩
theorem c_mem (hP : x_closed E P) (hR : x_fin R) (ht : isTr R t) {n p : Nat} {w : Int} {c : Nat → Nat} (hb : tpB I n c) (hp : p ≤ n) (hc : ∀ p w : Int, ct (tI I p w) J t T) (k : pPost Q I J R w (.int (iI (-1))) (fun m => .int (iI (32 * m.1 + m.2 : Nat))) (memR T c n p)) : P 51 (d + 3) 0 (x_la 0 [.ref t, .ref 1]) [] (x_hp (tI I p w) J R) rc rs Q := by
  have t0 := ht.1
  have hw := (hc 0 0).2.2.2.2.2
  have h2 := hb.2.1
  unfold memR at k
  first | refine x_aload_n hP rfl rfl ?_ | refine x_aload_nN hP rfl rfl ?_
  refine x_callV0 (ci := 1) hP 0 0 rfl rfl rfl (by first | assumption | rfl) rfl rfl rfl (Nat.zero_le _) (Nat.zero_le _) ?_
  refine c_at hP ?_
  refine x_istore_n hP rfl ?_
  first | refine x_aload_n hP rfl rfl ?_ | refine x_aload_nN hP rfl rfl ?_
  refine x_callV0 (ci := 1) hP 0 0 rfl rfl rfl (by first | assumption | rfl) rfl rfl rfl (Nat.zero_le _) (Nat.zero_le _) ?_
  refine c_nam hP hR hb hp ?_
  cases e : namR c n p with
  | inl er =>
    rw [e] at k
    intro q
    refine x_lstore_n hP rfl ?_
    refine x_lload_n hP rfl rfl ?_
    refine x_lconst hP rfl ?_
    refine x_lcmp hP rfl ?_
    first | refine zb_if_ne hP rfl (fun c13 => ?_) (fun c13 => ?_) | refine zl_if_ne hP rfl (fun c13 => ?_) (fun c13 => ?_) | refine z_if_ne hP rfl (by omega) (fun c13 => ?_) (fun c13 => ?_)
    · exact absurd rfl c13
    refine x_iconst hP rfl ?_
    refine x_iret hP rfl rfl ?_
    exact k q
  | inr vq =>
    obtain ⟨v, q⟩ := vq
    have hv := namR_rg hb.2.2.1 hp e
    rw [e] at k
    dsimp only at k
    show P _ _ _ _ _ _ _ _ _
    refine x_lstore_n hP rfl ?_
    refine x_lload_n hP rfl rfl ?_
    refine x_lconst hP rfl ?_
    refine x_lcmp hP rfl ?_
    first | refine zb_if_ne hP rfl (fun c13 => ?_) (fun c13 => ?_) | refine zl_if_ne hP rfl (fun c13 => ?_) (fun c13 => ?_) | refine z_if_ne hP rfl (by omega) (fun c13 => ?_) (fun c13 => ?_)
    rotate_left
    · exact absurd c13 hv.2.2.1
    first | refine x_aload_n hP rfl rfl ?_ | refine x_aload_nN hP rfl rfl ?_
    refine x_lload_n hP rfl rfl ?_
    refine x_callV1 (ci := 8) hP 0 0 rfl rfl rfl (by first | assumption | rfl) rfl rfl rfl (Nat.zero_le _) (Nat.zero_le _) ?_
    refine c_findMember hP ht (hc _ _) ?_
    have hm := mI_rg (v := v) hw
    refine x_istore hP rfl ?_
    refine x_iload hP rfl rfl ?_
    first | refine zl_if_ge hP rfl (fun c27 => ?_) (fun c27 => ?_) | refine z_if_ge hP rfl (by omega) (fun c27 => ?_) (fun c27 => ?_)
    · cases e2 : fMem T v with
      | none => rw [e2] at c27; exact absurd c27 (by decide)
      | some m =>
        rw [e2] at k
        refine x_iload hP rfl rfl ?_
        refine x_iret hP rfl rfl ?_
        exact k
    · have e2 := hm.2.2.mp c27
      rw [e2] at k
      first | refine x_aload_n hP rfl rfl ?_ | refine x_aload_nN hP rfl rfl ?_
      refine x_iload_n hP rfl rfl ?_
      refine x_callV1 (ci := 1) hP 0 0 rfl rfl rfl (by first | assumption | rfl) rfl rfl rfl (Nat.zero_le _) (Nat.zero_le _) ?_
      refine c_fail hP ?_
      refine x_pop hP rfl rfl ?_
      refine x_iload hP rfl rfl ?_
      refine x_iret hP rfl rfl ?_
      rw [e2]
      exact k q
theorem c_mrk (hP : x_closed E P) (hR : x_fin R) (ht : isTr R t) {n p : Nat} {w : Int} {c : Nat → Nat} (hb : tpB I n c) (hp : p ≤ n) (hc : ∀ p w : Int, ct (tI I p w) J t T) (k : pPost Q I J R w (.int (iI (-1))) (fun m => .int (iI (m : Nat))) (mrkR T c n p)) : P 52 (d + 3) 0 (x_la 0 [.ref t, .ref 1]) [] (x_hp (tI I p w) J R) rc rs Q := by
  have t0 := ht.1
  have hw := (hc 0 0).2.2.2.2.2
  have h2 := hb.2.1
  unfold mrkR at k
  first | refine x_aload_n hP rfl rfl ?_ | refine x_aload_nN hP rfl rfl ?_
  refine x_callV0 (ci := 1) hP 0 0 rfl rfl rfl (by first | assumption | rfl) rfl rfl rfl (Nat.zero_le _) (Nat.zero_le _) ?_
  refine c_at hP ?_
  refine x_istore_n hP rfl ?_
  first | refine x_aload_n hP rfl rfl ?_ | refine x_aload_nN hP rfl rfl ?_
  refine x_callV0 (ci := 1) hP 0 0 rfl rfl rfl (by first | assumption | rfl) rfl rfl rfl (Nat.zero_le _) (Nat.zero_le _) ?_
  refine c_nam hP hR hb hp ?_
  cases e : namR c n p with
  | inl er =>
    rw [e] at k
    intro q
    refine x_lstore_n hP rfl ?_
    refine x_lload_n hP rfl rfl ?_
    refine x_lconst hP rfl ?_
    refine x_lcmp hP rfl ?_
    first | refine zb_if_ne hP rfl (fun c13 => ?_) (fun c13 => ?_) | refine zl_if_ne hP rfl (fun c13 => ?_) (fun c13 => ?_) | refine z_if_ne hP rfl (by omega) (fun c13 => ?_) (fun c13 => ?_)
    · exact absurd rfl c13
    refine x_iconst hP rfl ?_
    refine x_iret hP rfl rfl ?_
    exact k q
  | inr vq =>
    obtain ⟨v, q⟩ := vq
    have hv := namR_rg hb.2.2.1 hp e
    rw [e] at k
    dsimp only at k
    show P _ _ _ _ _ _ _ _ _
    refine x_lstore_n hP rfl ?_
    refine x_lload_n hP rfl rfl ?_
    refine x_lconst hP rfl ?_
    refine x_lcmp hP rfl ?_
    first | refine zb_if_ne hP rfl (fun c13 => ?_) (fun c13 => ?_) | refine zl_if_ne hP rfl (fun c13 => ?_) (fun c13 => ?_) | refine z_if_ne hP rfl (by omega) (fun c13 => ?_) (fun c13 => ?_)
    rotate_left
    · exact absurd c13 hv.2.2.1
    first | refine x_aload_n hP rfl rfl ?_ | refine x_aload_nN hP rfl rfl ?_
    refine x_lload_n hP rfl rfl ?_
    refine x_callV1 (ci := 8) hP 0 0 rfl rfl rfl (by first | assumption | rfl) rfl rfl rfl (Nat.zero_le _) (Nat.zero_le _) ?_
    refine c_findMark hP ht (hc _ _) ?_
    have hm := oI_rg (o := fMk T v) (fun z h => by have := fO_lt _ _ _ h; have := hw.2.1; omega)
    refine x_istore hP rfl ?_
    refine x_iload hP rfl rfl ?_
    first | refine zl_if_ge hP rfl (fun c27 => ?_) (fun c27 => ?_) | refine z_if_ge hP rfl (by omega) (fun c27 => ?_) (fun c27 => ?_)
    · cases e2 : fMk T v with
      | none => rw [e2] at c27; exact absurd c27 (by decide)
      | some m =>
        rw [e2] at k
        refine x_iload hP rfl rfl ?_
        refine x_iret hP rfl rfl ?_
        exact k
    · have e2 := hm.2.2.mp c27
      rw [e2] at k
      first | refine x_aload_n hP rfl rfl ?_ | refine x_aload_nN hP rfl rfl ?_
      refine x_iload_n hP rfl rfl ?_
      refine x_callV1 (ci := 1) hP 0 0 rfl rfl rfl (by first | assumption | rfl) rfl rfl rfl (Nat.zero_le _) (Nat.zero_le _) ?_
      refine c_fail hP ?_
      refine x_pop hP rfl rfl ?_
      refine x_iload hP rfl rfl ?_
      refine x_iret hP rfl rfl ?_
      rw [e2]
      exact k q
end
