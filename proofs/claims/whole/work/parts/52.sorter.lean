/-! Sorter: keys in order -/
/-- how many of A's elements from x on, before y, are less than z -/
def ltc (A : Nat → Int) (x y : Nat) (z : Int) : Nat := sumS (fun i => if x ≤ i ∧ A i < z then 1 else 0) y
theorem ltc_s (A : Nat → Int) {x y : Nat} (z : Int) (h : x ≤ y) : ltc A x (y + 1) z = ltc A x y z + (if A y < z then 1 else 0) := by
  unfold ltc
  simp only [sumS]
  by_cases q : A y < z
  · rw [if_pos ⟨h, q⟩, if_pos q]
  · rw [if_neg (fun w => q w.2), if_neg q]
theorem ltc_0 (A : Nat → Int) {x y : Nat} (z : Int) (h : y ≤ x) : ltc A x y z = 0 := sumS_z fun j hj => if_neg (by omega)
theorem ltc_congr {A B : Nat → Int} {x y : Nat} {z : Int} (h : ∀ i, x ≤ i → i < y → A i = B i) : ltc A x y z = ltc B x y z := sumS_congr _ fun i hi => by
  by_cases q : x ≤ i
  · rw [h i q hi]
  · rw [if_neg (fun w => q w.1), if_neg (fun w => q w.1)]
theorem ltc_cat (A : Nat → Int) {x y : Nat} (z : Int) (h : x ≤ y) : ∀ w, y ≤ w → ltc A x w z = ltc A x y z + ltc A y w z := by
  intro w
  induction w with
  | zero => intro hw; rw [ltc_0 A z (show 0 ≤ y by omega), show y = 0 by omega]; rfl
  | succ w ih =>
    intro hw
    by_cases q : y = w + 1
    · rw [q, ltc_0 A z (Nat.le_refl _)]; rfl
    · rw [ltc_s A z (by omega), ltc_s A z (show y ≤ w by omega), ih (by omega)]; omega
/-- sorted from x on, before y -/
def srtd (A : Nat → Int) (x y : Nat) : Prop := ∀ i, x ≤ i → i + 1 < y → A i ≤ A (i + 1)
def bnd (A : Nat → Int) (x y : Nat) : Prop := ∀ i, x ≤ i → i < y → -1099511627776 ≤ A i ∧ A i ≤ 1099511627776
/-- an array of longs, from x on, before y -/
def lf (J : x_M Int64) (a x y : Nat) (A : Nat → Int) : Prop := ∀ i, x ≤ i → i < y → J 6 a i = lI (A i)
theorem lf_up {J : x_M Int64} {a x i : Nat} {A : Nat → Int} {v : Int} (h : lf J a x i A) : lf (x_at J 6 a i (lI v)) a x (i + 1) (fun q => if q = i then v else A q) := fun q h1 h2 => by
  show _ = lI (if q = i then v else A q)
  rw [x_at_eq]
  by_cases e : q = i
  · rw [if_pos ⟨rfl, rfl, e⟩, if_pos e]
  · rw [if_neg (fun w => e w.2.2), if_neg e]
    exact h q h1 (by omega)
theorem lf_fr {S : Nat → Nat → Nat → Prop} {J J' : x_M Int64} {a x y : Nat} {A : Nat → Int} (h : lf J a x y A) (hf : frP S J J') (hs : ∀ i, x ≤ i → i < y → ¬ S 6 a i) : lf J' a x y A := fun i h1 h2 => (hf _ _ _ (hs i h1 h2)).trans (h i h1 h2)
/-- the two rows of keys, either way round -/
def soA (a b : Nat) : Prop := a = 91 ∧ b = 92 ∨ a = 92 ∧ b = 91
theorem soA_k {a b : Nat} (h : soA a b) : x_kd0 a = (6, 200) ∧ x_kd0 b = (6, 200) ∧ ¬ a = b := by rcases h with ⟨rfl, rfl⟩ | ⟨rfl, rfl⟩ <;> exact ⟨rfl, rfl, by decide⟩
section
variable {E : x_E} {P : x_Pr} {d rc rs : Nat} {I : x_M Int32} {J : x_M Int64} {R : x_M (Option Nat)} {Q : x_Q}
theorem c_merge_loop (hP : x_closed E P) {a b n x m y : Nat} (hab : soA a b) (hRa : R 1384 90 0 = some a) (hRb : R 1385 90 0 = some b) {A : Nat → Int} (hn : n ≤ 200) (hxm : x ≤ m) (hmy : m ≤ y) (hyn : y ≤ n) (hs1 : srtd A x m) (hs2 : srtd A m y) (hbd : bnd A 0 n) : ∀ (f l r i : Nat) (J : x_M Int64) (B : Nat → Int), i + f = y → x ≤ l → l ≤ m → m ≤ r → r ≤ y → i + m = l + r → lf J a 0 n A → lf J b x i B → srtd B x i → bnd B x i → (∀ q, x ≤ q → q < i → (l < m → B q ≤ A l) ∧ (r < y → B q ≤ A r)) → (∀ z, ltc B x i z = ltc A x l z + ltc A m r z) → (∀ J' B', lf J' b x y B' → srtd B' x y → bnd B' x y → (∀ z, ltc B' x y z = ltc A x y z) → frP (fun k c i => k = 6 ∧ c = b ∧ x ≤ i ∧ i < y) J J' → Q none (x_hp I J' R)) →
    P 99 d 9 (x_ls [some (.ref 90), some (.int (iI x)), some (.int (iI m)), some (.int (iI y)), some (.int (iI l)), some (.int (iI r)), some (.int (iI i))]) [] (x_hp I J R) rc rs Q := by
  obtain ⟨ka, kb, hne⟩ := soA_k hab
  intro f
  induction f with
  | zero =>
    intro l r i J B hi h1 h2 h3 h4 h5 fa fb sb bb hm hc k
    obtain rfl : i = y := by omega
    obtain rfl : l = m := by omega
    obtain rfl : r = i := by omega
    refine x_iload hP rfl rfl ?_
    refine x_iload_n hP rfl rfl ?_
    refine z_icmp_ge hP rfl (by omega) (by omega) (fun c12 => ?_) (fun c12 => ?_)
    · refine x_vret hP rfl rfl ?_
      exact k J B fb sb bb (fun z => by rw [hc z, ltc_cat A z hxm _ hmy]) (frP_refl _ _)
    · omega
  | succ f ih =>
    intro l r i J B hi h1 h2 h3 h4 h5 fa fb sb bb hm hc k
    have left : l < m → (r < y → A l < A r) → ∀ L, x_ag L 0 [some (.ref 90), some (.int (iI x)), some (.int (iI m)), some (.int (iI y)), some (.int (iI l)), some (.int (iI r)), some (.int (iI i))] → P 99 d 45 L [] (x_hp I J R) rc rs Q := by
      intro hlm hlr L hL
      have v := fa l (Nat.zero_le _) (by omega)
      refine x_re hP _ hL ?_
      first | refine x_aload_n hP rfl rfl ?_ | refine x_aload_nN hP rfl rfl ?_
      refine x_getR hP rfl (by first | assumption | rfl) (by first | assumption | exact hR _ _ _ _ rfl | exact hR1 _ _ _ _ rfl | exact hR2 _ _ _ _ rfl | rfl) ?_
      refine x_iload hP rfl rfl ?_
      first | refine x_aload_n hP rfl rfl ?_ | refine x_aload_nN hP rfl rfl ?_
      refine x_getR hP rfl (by first | assumption | rfl) (by first | assumption | exact hR _ _ _ _ rfl | exact hR1 _ _ _ _ rfl | exact hR2 _ _ _ _ rfl | rfl) ?_
      refine x_iload hP rfl rfl ?_
      refine z_lald hP rfl (by first | assumption | rfl) (by first | decide | omega) (by omega) (by first | assumption | exact hR _ _ _ _ rfl | exact hR1 _ _ _ _ rfl | exact hR2 _ _ _ _ rfl | rfl) ?_
      refine z_last hP rfl (by first | assumption | rfl) (by first | decide | omega) (by omega) ?_
      first | refine w_nI ?_ | refine w_nL ?_ | refine w_nR ?_ | refine w_mI ?_ | refine w_mL ?_ | refine w_mR ?_ | skip
      refine z_iinc hP rfl rfl rfl ?_
      refine x_goto hP rfl ?_
      refine z_iinc hP rfl rfl rfl ?_
      refine x_goto hP rfl ?_
      have hf : frP (fun k c i => k = 6 ∧ c = b ∧ x ≤ i ∧ i < y) J (x_at J 6 b i (lI (A l))) := frP_at (frP_refl _ _) ⟨rfl, rfl, by omega, by omega⟩
      refine x_re hP [some (.ref 90), some (.int (iI x)), some (.int (iI m)), some (.int (iI y)), some (.int (iI (l + 1 : Nat))), some (.int (iI r)), some (.int (iI (i + 1 : Nat)))] ⟨rfl, rfl, rfl, rfl, rfl, rfl, rfl, trivial⟩ (ih (l + 1) r (i + 1) _ (fun q => if q = i then A l else B q) (by omega) (by omega) (by omega) h3 h4 (by omega) (lf_fr fa hf (fun _ _ _ q => hne q.2.1)) (lf_up fb) ?_ ?_ ?_ ?_ (fun J' B' q1 q2 q3 q4 q5 => k J' B' q1 q2 q3 q4 (frP_trans hf q5)))
      · intro q q1 q2
        show (if q = i then A l else B q) ≤ (if q + 1 = i then A l else B (q + 1))
        by_cases e : q + 1 = i
        · rw [if_neg (by omega), if_pos e]; exact (hm q q1 (by omega)).1 hlm
        · rw [if_neg (by omega), if_neg e]; exact sb q q1 (by omega)
      · intro q q1 q2
        show _ ≤ (if q = i then A l else B q) ∧ (if q = i then A l else B q) ≤ _
        by_cases e : q = i
        · rw [if_pos e]; exact hbd l (Nat.zero_le _) (by omega)
        · rw [if_neg e]; exact bb q q1 (by omega)
      · intro q q1 q2
        show (_ → (if q = i then A l else B q) ≤ _) ∧ (_ → (if q = i then A l else B q) ≤ _)
        by_cases e : q = i
        · rw [if_pos e]
          exact ⟨fun w => hs1 l h1 w, fun w => by have := hlr w; omega⟩
        · rw [if_neg e]
          have := hm q q1 (by omega)
          exact ⟨fun w => Int.le_trans (this.1 hlm) (hs1 l h1 w), this.2⟩
      · intro z
        rw [ltc_s _ z (by omega), if_pos rfl, ltc_congr (B := B) (fun q q1 q2 => if_neg (by omega)), hc z, ltc_s A z h1]
        omega
    have right : r < y → (l < m → A r ≤ A l) → ∀ L, x_ag L 0 [some (.ref 90), some (.int (iI x)), some (.int (iI m)), some (.int (iI y)), some (.int (iI l)), some (.int (iI r)), some (.int (iI i))] → P 99 d 65 L [] (x_hp I J R) rc rs Q := by
      intro hry hlr L hL
      have v := fa r (Nat.zero_le _) (by omega)
      refine x_re hP _ hL ?_
      first | refine x_aload_n hP rfl rfl ?_ | refine x_aload_nN hP rfl rfl ?_
      refine x_getR hP rfl (by first | assumption | rfl) (by first | assumption | exact hR _ _ _ _ rfl | exact hR1 _ _ _ _ rfl | exact hR2 _ _ _ _ rfl | rfl) ?_
      refine x_iload hP rfl rfl ?_
      first | refine x_aload_n hP rfl rfl ?_ | refine x_aload_nN hP rfl rfl ?_
      refine x_getR hP rfl (by first | assumption | rfl) (by first | assumption | exact hR _ _ _ _ rfl | exact hR1 _ _ _ _ rfl | exact hR2 _ _ _ _ rfl | rfl) ?_
      refine x_iload hP rfl rfl ?_
      refine z_lald hP rfl (by first | assumption | rfl) (by first | decide | omega) (by omega) (by first | assumption | exact hR _ _ _ _ rfl | exact hR1 _ _ _ _ rfl | exact hR2 _ _ _ _ rfl | rfl) ?_
      refine z_last hP rfl (by first | assumption | rfl) (by first | decide | omega) (by omega) ?_
      first | refine w_nI ?_ | refine w_nL ?_ | refine w_nR ?_ | refine w_mI ?_ | refine w_mL ?_ | refine w_mR ?_ | skip
      refine z_iinc hP rfl rfl rfl ?_
      refine z_iinc hP rfl rfl rfl ?_
      refine x_goto hP rfl ?_
      have hf : frP (fun k c i => k = 6 ∧ c = b ∧ x ≤ i ∧ i < y) J (x_at J 6 b i (lI (A r))) := frP_at (frP_refl _ _) ⟨rfl, rfl, by omega, by omega⟩
      refine x_re hP [some (.ref 90), some (.int (iI x)), some (.int (iI m)), some (.int (iI y)), some (.int (iI l)), some (.int (iI (r + 1 : Nat))), some (.int (iI (i + 1 : Nat)))] ⟨rfl, rfl, rfl, rfl, rfl, rfl, rfl, trivial⟩ (ih l (r + 1) (i + 1) _ (fun q => if q = i then A r else B q) (by omega) h1 h2 (by omega) (by omega) (by omega) (lf_fr fa hf (fun _ _ _ q => hne q.2.1)) (lf_up fb) ?_ ?_ ?_ ?_ (fun J' B' q1 q2 q3 q4 q5 => k J' B' q1 q2 q3 q4 (frP_trans hf q5)))
      · intro q q1 q2
        show (if q = i then A r else B q) ≤ (if q + 1 = i then A r else B (q + 1))
        by_cases e : q + 1 = i
        · rw [if_neg (by omega), if_pos e]; exact (hm q q1 (by omega)).2 hry
        · rw [if_neg (by omega), if_neg e]; exact sb q q1 (by omega)
      · intro q q1 q2
        show _ ≤ (if q = i then A r else B q) ∧ (if q = i then A r else B q) ≤ _
        by_cases e : q = i
        · rw [if_pos e]; exact hbd r (Nat.zero_le _) (by omega)
        · rw [if_neg e]; exact bb q q1 (by omega)
      · intro q q1 q2
        show (_ → (if q = i then A r else B q) ≤ _) ∧ (_ → (if q = i then A r else B q) ≤ _)
        by_cases e : q = i
        · rw [if_pos e]
          exact ⟨fun w => hlr w, fun w => hs2 r h3 w⟩
        · rw [if_neg e]
          have := hm q q1 (by omega)
          exact ⟨this.1, fun w => Int.le_trans (this.2 hry) (hs2 r h3 w)⟩
      · intro z
        rw [ltc_s _ z (by omega), if_pos rfl, ltc_congr (B := B) (fun q q1 q2 => if_neg (by omega)), hc z, ltc_s A z h3]
        omega
    refine x_iload hP rfl rfl ?_
    refine x_iload_n hP rfl rfl ?_
    refine z_icmp_ge hP rfl (by omega) (by omega) (fun c12 => ?_) (fun c12 => ?_)
    · omega
    refine x_iload hP rfl rfl ?_
    refine x_iload_n hP rfl rfl ?_
    refine z_icmp_ge hP rfl (by omega) (by omega) (fun c18 => ?_) (fun c18 => ?_)
    · exact right (by omega) (fun w => by omega) _ ⟨rfl, rfl, rfl, rfl, rfl, rfl, rfl, trivial⟩
    refine x_iload hP rfl rfl ?_
    refine x_iload_n hP rfl rfl ?_
    refine z_icmp_ge hP rfl (by omega) (by omega) (fun c24 => ?_) (fun c24 => ?_)
    · exact left (by omega) (fun w => by omega) _ ⟨rfl, rfl, rfl, rfl, rfl, rfl, rfl, trivial⟩
    have v1 := fa l (Nat.zero_le _) (by omega)
    have v2 := fa r (Nat.zero_le _) (by omega)
    have b1 := hbd l (Nat.zero_le _) (by omega)
    have b2 := hbd r (Nat.zero_le _) (by omega)
    have hlt := lI_lt (a := A l) (b := A r) (by omega) (by omega)
    first | refine x_aload_n hP rfl rfl ?_ | refine x_aload_nN hP rfl rfl ?_
    refine x_getR hP rfl (by first | assumption | rfl) (by first | assumption | exact hR _ _ _ _ rfl | exact hR1 _ _ _ _ rfl | exact hR2 _ _ _ _ rfl | rfl) ?_
    refine x_iload hP rfl rfl ?_
    refine z_lald hP rfl (by first | assumption | rfl) (by first | decide | omega) (by omega) (by first | assumption | exact hR _ _ _ _ rfl | exact hR1 _ _ _ _ rfl | exact hR2 _ _ _ _ rfl | rfl) ?_
    first | refine x_aload_n hP rfl rfl ?_ | refine x_aload_nN hP rfl rfl ?_
    refine x_getR hP rfl (by first | assumption | rfl) (by first | assumption | exact hR _ _ _ _ rfl | exact hR1 _ _ _ _ rfl | exact hR2 _ _ _ _ rfl | rfl) ?_
    refine x_iload hP rfl rfl ?_
    refine z_lald hP rfl (by first | assumption | rfl) (by first | decide | omega) (by omega) (by first | assumption | exact hR _ _ _ _ rfl | exact hR1 _ _ _ _ rfl | exact hR2 _ _ _ _ rfl | rfl) ?_
    refine x_lcmp hP rfl ?_
    first | refine zl_if_ge hP rfl (fun c42 => ?_) (fun c42 => ?_) | refine z_if_ge hP rfl (by omega) (fun c42 => ?_) (fun c42 => ?_)
    · rw [hlt] at c42
      exact right (by omega) (fun w => by omega) _ ⟨rfl, rfl, rfl, rfl, rfl, rfl, rfl, trivial⟩
    · rw [hlt] at c42
      exact left (by omega) (fun w => c42) _ ⟨rfl, rfl, rfl, rfl, rfl, rfl, rfl, trivial⟩
theorem c_merge (hP : x_closed E P) {a b n x m y : Nat} (hab : soA a b) (hRa : R 1384 90 0 = some a) (hRb : R 1385 90 0 = some b) {A : Nat → Int} (hn : n ≤ 200) (hxm : x ≤ m) (hmy : m ≤ y) (hyn : y ≤ n) (hs1 : srtd A x m) (hs2 : srtd A m y) (hbd : bnd A 0 n) (fa : lf J a 0 n A) (k : ∀ J' B', lf J' b x y B' → srtd B' x y → bnd B' x y → (∀ z, ltc B' x y z = ltc A x y z) → frP (fun k c i => k = 6 ∧ c = b ∧ x ≤ i ∧ i < y) J J' → Q none (x_hp I J' R)) : P 99 d 0 (x_la 0 [.ref 90, .int (iI x), .int (iI m), .int (iI y)]) [] (x_hp I J R) rc rs Q := by
  refine x_iload_n hP rfl rfl ?_
  refine x_istore hP rfl ?_
  refine x_iload_n hP rfl rfl ?_
  refine x_istore hP rfl ?_
  refine x_iload_n hP rfl rfl ?_
  refine x_istore hP rfl ?_
  refine x_re hP [some (.ref 90), some (.int (iI x)), some (.int (iI m)), some (.int (iI y)), some (.int (iI x)), some (.int (iI m)), some (.int (iI x))] ⟨rfl, rfl, rfl, rfl, rfl, rfl, rfl, trivial⟩ (c_merge_loop hP hab hRa hRb hn hxm hmy hyn hs1 hs2 hbd (y - x) x m x J (fun _ => 0) (by omega) (Nat.le_refl _) hxm (Nat.le_refl _) hmy (by omega) fa (fun i h1 h2 => by omega) (fun i h1 h2 => by omega) (fun i h1 h2 => by omega) (fun i h1 h2 => by omega) (fun z => by rw [ltc_0 _ z (Nat.le_refl _), ltc_0 _ z (Nat.le_refl _), ltc_0 _ z (Nat.le_refl _)]) k)
/-- sorted but at the multiples of run -/
def rsrt (A : Nat → Int) (run n : Nat) : Prop := ∀ i, i + 1 < n → ¬ (i + 1) % run = 0 → A i ≤ A (i + 1)
theorem modne {x c run t : Nat} (hx : x = c * run) (h0 : 0 < t) (ht : t < run) : ¬ (x + t) % run = 0 := by
  rw [hx, Nat.add_comm, Nat.add_mul_mod_self_right, Nat.mod_eq_of_lt ht]
  omega
theorem c_pass (hP : x_closed E P) {a b n run : Nat} (hab : soA a b) (hRa : R 1384 90 0 = some a) (hRb : R 1385 90 0 = some b) {A : Nat → Int} (hn : n ≤ 200) (h0 : 0 < run) (hrn : run < n) (hs : rsrt A run n) (hbd : bnd A 0 n) : ∀ (f x j : Nat) (J : x_M Int64) (B : Nat → Int), n ≤ x + f → x ≤ n + 2 * run → x = j * (2 * run) → lf J a 0 n A → (∀ x', x' = min x n → lf J b 0 x' B ∧ rsrt B (2 * run) x' ∧ bnd B 0 x' ∧ ∀ z, ltc B 0 x' z = ltc A 0 x' z) → (∀ J' B' L, x_ag L 0 [some (.ref 90), some (.int (iI n)), some (.int (iI run))] → lf J' b 0 n B' → rsrt B' (2 * run) n → bnd B' 0 n → (∀ z, ltc B' 0 n z = ltc A 0 n z) → frP (fun _ c _ => c = b) J J' → P 98 (d + 1) 47 L [] (x_hp I J' R) rc rs Q) →
    P 98 (d + 1) 9 (x_ls [some (.ref 90), some (.int (iI n)), some (.int (iI run)), some (.int (iI x)), none]) [] (x_hp I J R) rc rs Q := by
  obtain ⟨ka, kb, hne⟩ := soA_k hab
  intro f
  induction f with
  | zero =>
    intro x j J B hf hxb hx fa hB k
    refine x_iload_n hP rfl rfl ?_
    refine x_iload_n hP rfl rfl ?_
    refine z_icmp_ge hP rfl (by omega) (by omega) (fun c11 => ?_) (fun c11 => ?_)
    · obtain ⟨q1, q2, q3, q4⟩ := hB n (by omega)
      exact k J B _ ⟨rfl, rfl, rfl, trivial⟩ q1 q2 q3 q4 (frP_refl _ _)
    · omega
  | succ f ih =>
    intro x j J B hf hxb hx fa hB k
    refine x_iload_n hP rfl rfl ?_
    refine x_iload_n hP rfl rfl ?_
    refine z_icmp_ge hP rfl (by omega) (by omega) (fun c11 => ?_) (fun c11 => ?_)
    · obtain ⟨q1, q2, q3, q4⟩ := hB n (by omega)
      exact k J B _ ⟨rfl, rfl, rfl, trivial⟩ q1 q2 q3 q4 (frP_refl _ _)
    have hxn : x < n := by omega
    obtain ⟨q1, q2, q3, q4⟩ := hB x (by omega)
    refine x_iload_n hP rfl rfl ?_
    refine x_iload_n hP rfl rfl ?_
    first | refine z_iadd hP rfl ?_ | refine x_iadd hP rfl ?_
    refine x_iload_n hP rfl rfl ?_
    refine z_mmin hP rfl rfl (by omega) (by omega) ?_
    rw [show (if (n : Int) < (x : Int) + (run : Int) then (n : Int) else (x : Int) + (run : Int)) = ((min (x + run) n : Nat) : Int) by split <;> omega]
    generalize em : min (x + run) n = m
    refine x_istore hP rfl ?_
    first | refine x_aload_n hP rfl rfl ?_ | refine x_aload_nN hP rfl rfl ?_
    refine x_iload_n hP rfl rfl ?_
    refine x_iload hP rfl rfl ?_
    refine x_iload hP rfl rfl ?_
    refine x_iload_n hP rfl rfl ?_
    first | refine z_iadd hP rfl ?_ | refine x_iadd hP rfl ?_
    refine x_iload_n hP rfl rfl ?_
    refine z_mmin hP rfl rfl (by omega) (by omega) ?_
    rw [show (if (n : Int) < (m : Int) + (run : Int) then (n : Int) else (m : Int) + (run : Int)) = ((min (m + run) n : Nat) : Int) by split <;> omega]
    generalize ey : min (m + run) n = y
    have hx2 : x = (2 * j) * run := by rw [hx, ← Nat.mul_assoc, Nat.mul_comm j 2]
    have hx3 : x + run = (2 * j + 1) * run := by rw [Nat.succ_mul, ← hx2]
    refine x_callV3 (ci := 6) hP 0 0 rfl rfl rfl (by first | assumption | rfl) rfl rfl rfl (Nat.zero_le _) (Nat.zero_le _) ?_
    refine c_merge hP hab hRa hRb hn (by omega) (by omega) (by omega) (fun i i1 i2 => hs i (by omega) ?_) (fun i i1 i2 => hs i (by omega) ?_) hbd fa (fun J1 B1 p1 p2 p3 p4 p5 => ?_)
    · have := modne (t := i + 1 - x) hx2 (by omega) (by omega)
      rw [show x + (i + 1 - x) = i + 1 by omega] at this
      exact this
    · have := modne (t := i + 1 - (x + run)) hx3 (by omega) (by omega)
      rw [show x + run + (i + 1 - (x + run)) = i + 1 by omega] at this
      exact this
    · refine x_iload_n hP rfl rfl ?_
      refine x_iconst hP rfl ?_
      refine x_iload_n hP rfl rfl ?_
      first | refine z_imul hP rfl ?_ | refine x_imul hP rfl ?_
      first | refine z_iadd hP rfl ?_ | refine x_iadd hP rfl ?_
      refine x_istore_n hP rfl ?_
      refine x_goto hP rfl ?_
      have hf' : frP (fun _ c _ => c = b) J J1 := frP_mono p5 (fun k c i h => h.2.1)
      refine x_re hP [some (.ref 90), some (.int (iI n)), some (.int (iI run)), some (.int (iI (x + 2 * run : Nat))), none] ⟨rfl, rfl, rfl, rfl, trivial⟩ (ih (x + 2 * run) (j + 1) J1 (fun q => if q < x then B q else B1 q) (by omega) (by omega) (by rw [hx]; exact (Nat.succ_mul j (2 * run)).symm) (lf_fr fa hf' (fun _ _ _ q => hne q)) (fun x' hx' => ?_) (fun J' B' L hL w1 w2 w3 w4 w5 => k J' B' L hL w1 w2 w3 w4 (frP_trans hf' w5)))
      obtain rfl : x' = y := by omega
      refine ⟨fun i i1 i2 => ?_, fun i i1 i2 => ?_, fun i i1 i2 => ?_, fun z => ?_⟩
      · show _ = lI (if i < x then B i else B1 i)
        by_cases e : i < x
        · rw [if_pos e, p5 _ _ _ (by omega)]; exact q1 i i1 e
        · rw [if_neg e]; exact p1 i (by omega) i2
      · show (if i < x then B i else B1 i) ≤ (if i + 1 < x then B (i + 1) else B1 (i + 1))
        by_cases e : i + 1 < x
        · rw [if_pos (by omega), if_pos e]; exact q2 i e i2
        · by_cases e2 : i + 1 = x
          · exact absurd (by rw [e2, hx, Nat.mul_mod_left]) i2
          · rw [if_neg (by omega), if_neg e]; exact p2 i (by omega) i1
      · show _ ≤ (if i < x then B i else B1 i) ∧ (if i < x then B i else B1 i) ≤ _
        by_cases e : i < x
        · rw [if_pos e]; exact q3 i i1 e
        · rw [if_neg e]; exact p3 i (by omega) i2
      · rw [ltc_cat _ z (Nat.zero_le x) x' (by omega), ltc_cat A z (Nat.zero_le x) x' (by omega), ltc_congr (B := B) (fun i i1 i2 => if_pos i2), ltc_congr (x := x) (B := B1) (fun i i1 i2 => if_neg (by omega)), q4 z, p4 z]
/-- the rows of keys, as the Sorter holds them -/
def soR (R : x_M (Option Nat)) (a b : Nat) : Prop := soA a b ∧ R 1384 90 0 = some a ∧ R 1385 90 0 = some b
theorem c_sortKeys_loop (hP : x_closed E P) {n : Nat} {A : Nat → Int} (hn : n ≤ 200) : ∀ (f run a b : Nat) (J : x_M Int64) (R : x_M (Option Nat)) (S : Nat → Int), n ≤ run + f → 0 < run → run ≤ 400 → x_fin R → soR R a b → lf J a 0 n S → rsrt S run n → bnd S 0 n → (∀ z, ltc S 0 n z = ltc A 0 n z) → (∀ J' R' a' b' S, soR R' a' b' → x_fin R' → frP (fun _ c _ => c = 90) R R' → lf J' a' 0 n S → srtd S 0 n → bnd S 0 n → (∀ z, ltc S 0 n z = ltc A 0 n z) → frP (fun _ c _ => c = 91 ∨ c = 92) J J' → Q none (x_hp I J' R')) →
    P 98 (d + 1) 2 (x_ls [some (.ref 90), some (.int (iI n)), some (.int (iI run)), none, none]) [] (x_hp I J R) rc rs Q := by
  intro f
  induction f with
  | zero =>
    intro run a b J R S hf h0 hr hR hs hl hrs hb hc k
    refine x_iload_n hP rfl rfl ?_
    refine x_iload_n hP rfl rfl ?_
    refine z_icmp_ge hP rfl (by omega) (by omega) (fun c4 => ?_) (fun c4 => ?_)
    · refine x_vret hP rfl rfl ?_
      exact k J R a b S hs hR (frP_refl _ _) hl (fun i i1 i2 => hrs i i2 (by rw [Nat.mod_eq_of_lt (by omega)]; omega)) hb hc (frP_refl _ _)
    · omega
  | succ f ih =>
    intro run a b J R S hf h0 hr hR hs hl hrs hb hc k
    refine x_iload_n hP rfl rfl ?_
    refine x_iload_n hP rfl rfl ?_
    refine z_icmp_ge hP rfl (by omega) (by omega) (fun c4 => ?_) (fun c4 => ?_)
    · refine x_vret hP rfl rfl ?_
      exact k J R a b S hs hR (frP_refl _ _) hl (fun i i1 i2 => hrs i i2 (by rw [Nat.mod_eq_of_lt (by omega)]; omega)) hb hc (frP_refl _ _)
    obtain ⟨s1, s2, s3⟩ := hs
    refine x_iconst hP rfl ?_
    refine x_istore_n hP rfl ?_
    refine x_re hP [some (.ref 90), some (.int (iI n)), some (.int (iI run)), some (.int (iI (0 : Nat))), none] ⟨rfl, rfl, rfl, rfl, trivial⟩ (c_pass hP s1 s2 s3 hn h0 (by omega) hrs hb n 0 0 J (fun _ => 0) (by omega) (by omega) (by omega) hl (fun x' hx' => ⟨fun i i1 i2 => by omega, fun i i1 i2 => by omega, fun i i1 i2 => by omega, fun z => by rw [ltc_0 _ z (by omega), ltc_0 _ z (by omega)]⟩) (fun J1 B L hL p1 p2 p3 p4 p5 => ?_))
    refine x_re hP _ hL ?_
    first | refine x_aload_n hP rfl rfl ?_ | refine x_aload_nN hP rfl rfl ?_
    refine x_getR hP rfl (by first | assumption | rfl) (by first | assumption | exact hR _ _ _ _ rfl | exact hR1 _ _ _ _ rfl | exact hR2 _ _ _ _ rfl | rfl) ?_
    first | refine x_astore_n hP rfl ?_ | refine x_astore_nN hP rfl ?_
    first | refine x_aload_n hP rfl rfl ?_ | refine x_aload_nN hP rfl rfl ?_
    first | refine x_aload_n hP rfl rfl ?_ | refine x_aload_nN hP rfl rfl ?_
    refine x_getR hP rfl (by first | assumption | rfl) (by first | assumption | exact hR _ _ _ _ rfl | exact hR1 _ _ _ _ rfl | exact hR2 _ _ _ _ rfl | rfl) ?_
    refine x_putR hP rfl (by first | assumption | rfl) ?_
    first | refine w_nI ?_ | refine w_nL ?_ | refine w_nR ?_ | refine w_mI ?_ | refine w_mL ?_ | refine w_mR ?_ | skip
    have s3' : (x_at R 1385 90 0 (some a)) 1384 90 0 = some a := s2
    first | refine x_aload_n hP rfl rfl ?_ | refine x_aload_nN hP rfl rfl ?_
    first | refine x_aload_n hP rfl rfl ?_ | refine x_aload_nN hP rfl rfl ?_
    refine x_putR hP rfl (by first | assumption | rfl) ?_
    first | refine w_nI ?_ | refine w_nL ?_ | refine w_nR ?_ | refine w_mI ?_ | refine w_mL ?_ | refine w_mR ?_ | skip
    refine x_iload_n hP rfl rfl ?_
    refine x_iconst hP rfl ?_
    first | refine z_imul hP rfl ?_ | refine x_imul hP rfl ?_
    refine x_istore_n hP rfl ?_
    refine x_goto hP rfl ?_
    refine x_re hP [some (.ref 90), some (.int (iI n)), some (.int (iI (run * 2 : Nat))), none, none] ⟨rfl, rfl, rfl, trivial⟩ (ih (run * 2) b a J1 _ B (by omega) (by omega) (by omega) (x_fin_at (x_fin_at hR rfl) rfl) ⟨Or.symm ?_, rfl, rfl⟩ p1 (by rw [Nat.mul_comm]; exact p2) p3 (fun z => (p4 z).trans (hc z)) (fun J' R' a' b' S' w1 w2 w3 w4 w5 w6 w7 w8 => k J' R' a' b' S' w1 w2 (frP_trans (frP_at (frP_at (frP_refl _ _) rfl) rfl) w3) w4 w5 w6 w7 (frP_trans (frP_mono p5 (fun k c i h => ?_)) w8)))
    · rcases s1 with ⟨e1, e2⟩ | ⟨e1, e2⟩
      · exact Or.inl ⟨e2, e1⟩
      · exact Or.inr ⟨e2, e1⟩
    · rcases s1 with ⟨e1, e2⟩ | ⟨e1, e2⟩ <;> omega
theorem c_sortKeys (hP : x_closed E P) {n a b : Nat} {A : Nat → Int} (hn : n ≤ 200) (hR : x_fin R) (hs : soR R a b) (hl : lf J a 0 n A) (hb : bnd A 0 n) (k : ∀ J' R' a' b' S, soR R' a' b' → x_fin R' → frP (fun _ c _ => c = 90) R R' → lf J' a' 0 n S → srtd S 0 n → bnd S 0 n → (∀ z, ltc S 0 n z = ltc A 0 n z) → frP (fun _ c _ => c = 91 ∨ c = 92) J J' → Q none (x_hp I J' R')) : P 98 (d + 1) 0 (x_la 0 [.ref 90, .int (iI n)]) [] (x_hp I J R) rc rs Q := by
  refine x_iconst hP rfl ?_
  refine x_istore_n hP rfl ?_
  exact x_re hP [some (.ref 90), some (.int (iI n)), some (.int (iI (1 : Nat))), none, none] ⟨rfl, rfl, rfl, trivial⟩ (c_sortKeys_loop hP hn n 1 a b J R A (by omega) (by decide) (by decide) hR hs hl (fun i i1 i2 => absurd (Nat.mod_one _) i2) hb (fun _ => rfl) k)
end
