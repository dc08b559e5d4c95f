/-! Sorter: a row in order -/
def eqc (A : Nat → Int) (n : Nat) (z : Int) : Nat := sumS (fun i => if A i = z then 1 else 0) n
theorem ltc_eqc (A : Nat → Int) (z : Int) : ∀ n, ltc A 0 n (z + 1) = ltc A 0 n z + eqc A n z
  | 0 => rfl
  | n + 1 => by
    rw [ltc_s A _ (Nat.zero_le _), ltc_s A _ (Nat.zero_le _), ltc_eqc A z n]
    unfold eqc
    simp only [sumS]
    by_cases h1 : A n < z
    · rw [if_pos (by omega), if_pos h1, if_neg (by omega)]; omega
    · by_cases h2 : A n = z
      · rw [if_pos (by omega), if_neg h1, if_pos h2]; omega
      · rw [if_neg (by omega), if_neg h1, if_neg h2]; omega
theorem eqc_ge1 {A : Nat → Int} {z : Int} : ∀ n, 1 ≤ eqc A n z → ∃ j, j < n ∧ A j = z
  | 0, h => absurd h (Nat.not_succ_le_zero 0)
  | n + 1, h => by
    unfold eqc at h
    simp only [sumS] at h
    by_cases q : A n = z
    · exact ⟨n, by omega, q⟩
    · rw [if_neg q] at h
      obtain ⟨j, h1, h2⟩ := eqc_ge1 (A := A) n h
      exact ⟨j, by omega, h2⟩
theorem eqc_pos {A : Nat → Int} {i n : Nat} (h : i < n) : 1 ≤ eqc A n (A i) := by
  unfold eqc
  have : sumS (fun j => if j = i then 1 else 0) n ≤ sumS (fun j => if A j = A i then 1 else 0) n := sumS_mono n fun j _ => by
    by_cases q : j = i
    · rw [if_pos q, q, if_pos rfl]; exact Nat.le_refl _
    · rw [if_neg q]; exact Nat.zero_le _
  rw [sumS_one, if_pos h] at this
  exact this
theorem eqc_ge2 {A : Nat → Int} {i j n : Nat} (hi : i < n) (hj : j < n) (hn : ¬ i = j) (e : A i = A j) : 2 ≤ eqc A n (A i) := by
  unfold eqc
  have : sumS (fun q => (if q = i then 1 else 0) + (if q = j then 1 else 0)) n ≤ sumS (fun q => if A q = A i then 1 else 0) n := sumS_mono n fun q _ => by
    by_cases q1 : q = i
    · rw [if_pos q1, if_neg (by omega), q1, if_pos rfl]; exact Nat.le_refl _
    · by_cases q2 : q = j
      · rw [if_neg q1, if_pos q2, q2, if_pos e.symm]; exact Nat.le_refl _
      · rw [if_neg q1, if_neg q2]; exact Nat.zero_le _
  rw [sumS_add, sumS_one, sumS_one, if_pos hi, if_pos hj] at this
  exact this
theorem eqc_le1 {A : Nat → Int} {z : Int} : ∀ n, (∀ i j, i < n → j < n → A i = A j → i = j) → eqc A n z ≤ 1
  | 0, _ => Nat.zero_le _
  | n + 1, h => by
    have ih := eqc_le1 (A := A) (z := z) n fun i j hi hj e => h i j (by omega) (by omega) e
    unfold eqc at *
    simp only [sumS]
    by_cases q : A n = z
    · have : sumS (fun i => if A i = z then 1 else 0) n = 0 := sumS_z fun j hj => if_neg fun e => by have := h j n (by omega) (by omega) (e.trans q.symm); omega
      rw [this, if_pos q]; decide
    · rw [if_neg q]; exact ih
theorem srtd_le {A : Nat → Int} {n : Nat} (h : srtd A 0 n) : ∀ j i, i ≤ j → j < n → A i ≤ A j := by
  intro j
  induction j with
  | zero => intro i h1 h2; rw [show i = 0 by omega]; exact Int.le_refl _
  | succ j ih =>
    intro i h1 h2
    by_cases q : i = j + 1
    · rw [q]; exact Int.le_refl _
    · exact Int.le_trans (ih i (by omega) (by omega)) (h j (Nat.zero_le _) h2)
theorem sumS_ltn (i : Nat) : ∀ n, i ≤ n → sumS (fun q => if q < i then 1 else 0) n = i
  | 0, h => by rw [show i = 0 by omega]; rfl
  | n + 1, h => by
    simp only [sumS]
    by_cases q : i = n + 1
    · subst q
      rw [if_pos (by omega), sumS_congr n (g := fun q => if q < n then 1 else 0) (fun j hj => by rw [if_pos (by omega), if_pos hj]), sumS_ltn n n (Nat.le_refl _)]
    · rw [sumS_ltn i n (by omega), if_neg (by omega)]; rfl
/-- the i-th of the sorted keys is the key before which i stand -/
theorem sort_ix {K S : Nat → Int} {n : Nat} (hi : ∀ i j, i < n → j < n → K i = K j → i = j) (hs : srtd S 0 n) (hc : ∀ z, ltc S 0 n z = ltc K 0 n z) {i : Nat} (h : i < n) : ∃ j, j < n ∧ S i = K j ∧ ltc K 0 n (K j) = i := by
  have he : ∀ z, eqc S n z = eqc K n z := fun z => by
    have h1 := ltc_eqc S z n
    have h2 := ltc_eqc K z n
    have h3 := hc z
    have h4 := hc (z + 1)
    omega
  obtain ⟨j, h1, h2⟩ := eqc_ge1 (A := K) n (by rw [← he]; exact eqc_pos h)
  refine ⟨j, h1, h2.symm, ?_⟩
  rw [h2, ← hc]
  refine Eq.trans (sumS_congr n fun q hq => ?_) (sumS_ltn i n (by omega))
  by_cases c : q < i
  · have h3 := srtd_le hs i q (by omega) h
    have h4 : ¬ S q = S i := fun e => by
      have := eqc_ge2 hq h (by omega) e
      rw [he] at this
      have := eqc_le1 (z := S q) n hi
      omega
    rw [if_pos c, if_pos ⟨Nat.zero_le _, by omega⟩]
  · have h3 := srtd_le hs q i (by omega) hq
    rw [if_neg c, if_neg (by omega)]
/-- the place of rank i among n keys -/
def ixF (g : Nat → Nat) (i : Nat) : Nat → Nat → Nat
  | 0, j => j
  | f + 1, j => if g j = i then j else ixF g i f (j + 1)
theorem ixF_eq {g : Nat → Nat} {i j0 : Nat} (h0 : g j0 = i) : ∀ f j, j ≤ j0 → j0 < j + f → (∀ q, j ≤ q → q < j + f → g q = i → q = j0) → ixF g i f j = j0
  | 0, j, h1, h2, _ => by omega
  | f + 1, j, h1, h2, hu => by
    unfold ixF
    split
    · next e => exact hu j (Nat.le_refl _) (by omega) e
    · next e =>
      have : ¬ j = j0 := fun q => e (by rw [q]; exact h0)
      exact ixF_eq h0 f (j + 1) (by omega) (by omega) (fun q q1 q2 q3 => hu q (by omega) (by omega) q3)
def ixK (K : Nat → Int) (n i : Nat) : Nat := ixF (fun j => ltc K 0 n (K j)) i n 0
theorem rank_inj {K : Nat → Int} {n : Nat} (hi : ∀ i j, i < n → j < n → K i = K j → i = j) {i j : Nat} (h1 : i < n) (h2 : j < n) (e : ltc K 0 n (K i) = ltc K 0 n (K j)) : i = j := by
  have mono : ∀ z w : Int, z ≤ w → ltc K 0 n z ≤ ltc K 0 n w := fun z w hzw => sumS_mono n fun q _ => by
    by_cases c : 0 ≤ q ∧ K q < z
    · rw [if_pos c, if_pos ⟨c.1, by omega⟩]; exact Nat.le_refl _
    · rw [if_neg c]; exact Nat.zero_le _
  rcases Int.lt_trichotomy (K i) (K j) with q | q | q
  · have m := mono (K i + 1) (K j) (by omega)
    have := ltc_eqc K (K i) n
    have := eqc_pos (A := K) h1
    omega
  · exact hi i j h1 h2 q
  · have m := mono (K j + 1) (K i) (by omega)
    have := ltc_eqc K (K j) n
    have := eqc_pos (A := K) h2
    omega
theorem ixK_eq {K : Nat → Int} {n i j : Nat} (hi : ∀ i j, i < n → j < n → K i = K j → i = j) (hj : j < n) (e : ltc K 0 n (K j) = i) : ixK K n i = j := ixF_eq (g := fun j => ltc K 0 n (K j)) (j0 := j) e n 0 (Nat.zero_le _) (by omega) (fun q _ q2 q3 => rank_inj hi (by omega) hj (q3.trans e.symm))
/-- a list in the order of its keys -/
def srtL (K : Nat → Int) (L : List Nat) : List Nat := mk L.length fun i => L.getD (ixK K L.length i) 0
/-- the keys: what a TUPLE shows, its place behind it -/
def kyF (v : Nat → Int) (fl : Bool) (L : List Nat) (q : Nat) : Int := (if fl = true then -(v (L.getD q 0)) else v (L.getD q 0)) * 256 + q
theorem kyF_inj {v : Nat → Int} {fl : Bool} {L : List Nat} {n : Nat} (hn : n ≤ 200) : ∀ i j, i < n → j < n → kyF v fl L i = kyF v fl L j → i = j := by
  intro i j h1 h2 e
  unfold kyF at e
  omega
/-- those that show something, those that do not; all in order -/
def shn (v : Nat → Int) (l : List Nat) : List Nat := l.filter fun x => decide (¬ v x = -2000000000)
def sil (v : Nat → Int) (l : List Nat) : List Nat := l.filter fun x => decide (v x = -2000000000)
def sortL (v : Nat → Int) (fl : Bool) (l : List Nat) : List Nat := srtL (kyF v fl (shn v l)) (shn v l) ++ sil v l
theorem land255 (z : Int) (j : Nat) (hj : j < 256) (hz : (z - j) % 256 = 0) : (lI z &&& lI 255).toInt32 = iI j := by
  have e1 : (lI z &&& lI 255).toBitVec.toNat = j := by
    rw [Int64.toBitVec_and]
    show (BitVec.ofInt 64 z &&& BitVec.ofInt 64 255).toNat = j
    rw [BitVec.toNat_and, BitVec.toNat_ofInt, BitVec.toNat_ofInt, show (255 % ((2 ^ 64 : Nat) : Int)).toNat = 2 ^ 8 - 1 by decide, Nat.and_two_pow_sub_one_eq_mod]
    omega
  rw [← Int32.toBitVec_inj]
  apply BitVec.eq_of_toNat_eq
  show ((lI z &&& lI 255).toBitVec.signExtend 32).toNat = _
  rw [BitVec.signExtend_eq_setWidth_of_le _ (by decide), BitVec.toNat_setWidth, e1, ← nI_iI]
  show _ = (BitVec.ofNat 32 j).toNat
  rw [BitVec.toNat_ofNat]
