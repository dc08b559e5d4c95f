/-! a tree by the parents of its MEMBERS: who lies under whom, how many, in which order -/
def un (p : Nat → Int) (k : Nat) : Nat → Nat → Bool
  | 0, j => decide (j = k)
  | f + 1, j => decide (j = k) || (decide (0 ≤ p j) && un p k f (p j).toNat)
/-- j is k, or lies under it -/
def und (p : Nat → Int) (k j : Nat) : Bool := un p k j j
def wfp (p : Nat → Int) (s : Nat) : Prop := p 0 = -1 ∧ ∀ k, 0 < k → k < s → 0 ≤ p k ∧ p k < k
theorem wfp_lt {p : Nat → Int} {s j : Nat} (h : wfp p s) (hj : j < s) (h0 : 0 ≤ p j) : (p j).toNat < j := by
  rcases Nat.eq_zero_or_pos j with z | z
  · subst z; have := h.1; omega
  · have := h.2 j z hj; omega
theorem un_fuel {p : Nat → Int} {s k : Nat} (h : wfp p s) : ∀ (f g j : Nat), j < s → j ≤ f → j ≤ g → un p k f j = un p k g j
  | 0, 0, j, _, _, _ => rfl
  | 0, g + 1, j, hj, h1, _ => by
    obtain rfl : j = 0 := by omega
    have e : decide (0 ≤ p 0) = false := decide_eq_false (by have := h.1; omega)
    rw [un, un, e, Bool.false_and, Bool.or_false]
  | f + 1, 0, j, hj, _, h2 => by
    obtain rfl : j = 0 := by omega
    have e : decide (0 ≤ p 0) = false := decide_eq_false (by have := h.1; omega)
    rw [un, un, e, Bool.false_and, Bool.or_false]
  | f + 1, g + 1, j, hj, h1, h2 => by
    rw [un, un]
    by_cases h0 : 0 ≤ p j
    · have := wfp_lt h hj h0
      rw [un_fuel h f g (p j).toNat (by omega) (by omega) (by omega)]
    · rw [decide_eq_false h0, Bool.false_and, Bool.false_and]
theorem und_eq {p : Nat → Int} {s k j : Nat} (h : wfp p s) (hj : j < s) : und p k j = true ↔ j = k ∨ (0 ≤ p j ∧ und p k (p j).toNat = true) := by
  unfold und
  rw [un_fuel h j (j + 1) j hj (Nat.le_refl _) (by omega), un, Bool.or_eq_true, Bool.and_eq_true, decide_eq_true_iff, decide_eq_true_iff]
  by_cases h0 : 0 ≤ p j
  · have := wfp_lt h hj h0
    rw [un_fuel h j (p j).toNat (p j).toNat (by omega) (by omega) (Nat.le_refl _)]
  · exact ⟨fun q => q.elim Or.inl (fun z => absurd z.1 h0), fun q => q.elim Or.inl (fun z => absurd z.1 h0)⟩
theorem und_self (p : Nat → Int) (k : Nat) : und p k k = true := by
  unfold und
  cases k <;> simp [un]
theorem und_le {p : Nat → Int} {s k : Nat} (h : wfp p s) : ∀ j, j < s → und p k j = true → k ≤ j := by
  intro j
  induction j using Nat.strongRecOn with
  | _ j ih =>
    intro hj hu
    rcases (und_eq h hj).mp hu with e | ⟨h0, e⟩
    · omega
    · have := wfp_lt h hj h0
      have := ih _ this (by omega) e
      omega
theorem und_trans {p : Nat → Int} {s a b : Nat} (h : wfp p s) (hab : und p a b = true) : ∀ j, j < s → und p b j = true → und p a j = true := by
  intro j
  induction j using Nat.strongRecOn with
  | _ j ih =>
    intro hj hu
    rcases (und_eq h hj).mp hu with e | ⟨h0, e⟩
    · rw [e]; exact hab
    · have := wfp_lt h hj h0
      exact (und_eq h hj).mpr (Or.inr ⟨h0, ih _ this (by omega) e⟩)
theorem und_chain {p : Nat → Int} {s a b : Nat} (h : wfp p s) (hab : a ≤ b) : ∀ j, j < s → und p a j = true → und p b j = true → und p a b = true := by
  intro j
  induction j using Nat.strongRecOn with
  | _ j ih =>
    intro hj ha hb
    rcases (und_eq h hj).mp hb with e | ⟨h0, e⟩
    · rw [← e]; exact ha
    · have h1 := wfp_lt h hj h0
      have h2 := und_le h _ (by omega) e
      rcases (und_eq h hj).mp ha with e2 | ⟨_, e2⟩
      · omega
      · exact ih _ h1 (by omega) e2 e
theorem und_root {p : Nat → Int} {s : Nat} (h : wfp p s) : ∀ j, j < s → und p 0 j = true := by
  intro j
  induction j using Nat.strongRecOn with
  | _ j ih =>
    intro hj
    rcases Nat.eq_zero_or_pos j with z | z
    · rw [z]; exact und_self _ _
    · have h0 := h.2 j z hj
      exact (und_eq h hj).mpr (Or.inr ⟨h0.1, ih _ (by omega) (by omega)⟩)
theorem und_child {p : Nat → Int} {s u : Nat} (h : wfp p s) : ∀ j, j < s → und p u j = true → ¬ j = u → ∃ c, c ≤ j ∧ p c = u ∧ und p c j = true := by
  intro j
  induction j using Nat.strongRecOn with
  | _ j ih =>
    intro hj hu hn
    rcases (und_eq h hj).mp hu with e | ⟨h0, e⟩
    · exact absurd e hn
    · have h1 := wfp_lt h hj h0
      by_cases hp : (p j).toNat = u
      · exact ⟨j, Nat.le_refl _, by omega, und_self _ _⟩
      · obtain ⟨c, c1, c2, c3⟩ := ih _ h1 (by omega) e hp
        exact ⟨c, by omega, c2, (und_eq h hj).mpr (Or.inr ⟨h0, c3⟩)⟩
/-! sums -/
theorem sumS_congr {f g : Nat → Nat} : ∀ n, (∀ j, j < n → f j = g j) → sumS f n = sumS g n
  | 0, _ => rfl
  | n + 1, h => by rw [sumS, sumS, sumS_congr n fun j hj => h j (by omega), h n (by omega)]
theorem sumS_add (f g : Nat → Nat) : ∀ n, sumS (fun j => f j + g j) n = sumS f n + sumS g n
  | 0 => rfl
  | n + 1 => by simp only [sumS]; rw [sumS_add f g n]; omega
theorem sumS_zero : ∀ n, sumS (fun _ => 0) n = 0
  | 0 => rfl
  | n + 1 => by simp only [sumS]; rw [sumS_zero n]
theorem sumS_z {f : Nat → Nat} {n : Nat} (h : ∀ j, j < n → f j = 0) : sumS f n = 0 := (sumS_congr n h).trans (sumS_zero n)
theorem sumS_swap (f : Nat → Nat → Nat) (n : Nat) : ∀ m, sumS (fun j => sumS (fun c => f c j) n) m = sumS (fun c => sumS (fun j => f c j) m) n
  | 0 => by simp only [sumS]; rw [sumS_zero n]
  | m + 1 => by simp only [sumS]; rw [sumS_swap f n m, sumS_add]
theorem sumS_mono {f g : Nat → Nat} : ∀ n, (∀ j, j < n → f j ≤ g j) → sumS f n ≤ sumS g n
  | 0, _ => Nat.le_refl _
  | n + 1, h => by
    have := sumS_mono n fun j hj => h j (by omega)
    have := h n (by omega)
    simp only [sumS]; omega
theorem sumS_one {k v : Nat} : ∀ n, sumS (fun j => if j = k then v else 0) n = if k < n then v else 0
  | 0 => rfl
  | n + 1 => by
    simp only [sumS]
    rw [sumS_one n]
    by_cases h1 : n = k
    · rw [if_pos h1, if_neg (by omega), if_pos (by omega), Nat.zero_add]
    · by_cases h2 : k < n
      · rw [if_pos h2, if_neg h1, if_pos (by omega)]; rfl
      · rw [if_neg h2, if_neg h1, if_neg (by omega)]
theorem sumS_pre {f : Nat → Nat} {m : Nat} : ∀ n, m ≤ n → sumS (fun j => if j < m then f j else 0) n = sumS f m
  | 0, h => by obtain rfl : m = 0 := by omega
               rfl
  | n + 1, h => by
    by_cases e : m = n + 1
    · subst e
      exact sumS_congr _ fun j hj => if_pos hj
    · simp only [sumS]
      rw [sumS_pre n (by omega), if_neg (by omega)]; rfl
/-- i on, of s -/
def sfrom (f : Nat → Nat) (i s : Nat) : Nat := sumS (fun j => if i ≤ j then f j else 0) s
theorem sfrom_peel {f : Nat → Nat} {i s : Nat} (h : i < s) : sfrom f i s = sfrom f (i + 1) s + f i := by
  unfold sfrom
  have e : sumS (fun j => if j = i then f i else 0) s = f i := by rw [sumS_one, if_pos h]
  rw [← e, ← sumS_add]
  refine sumS_congr _ fun j _ => ?_
  by_cases h1 : j = i
  · subst h1
    rw [if_pos (Nat.le_refl _), if_neg (by omega), if_pos rfl, Nat.zero_add]
  · by_cases h2 : i + 1 ≤ j
    · rw [if_pos (by omega), if_pos h2, if_neg h1]; rfl
    · rw [if_neg (by omega), if_neg h2, if_neg h1]
theorem sfrom_0 (f : Nat → Nat) (s : Nat) : sfrom f 0 s = sumS f s := sumS_congr _ fun _ _ => if_pos (Nat.zero_le _)
theorem sfrom_s (f : Nat → Nat) (s : Nat) : sfrom f s s = 0 := by
  exact sumS_z fun j hj => if_neg (by omega)
/-- a sum over what lies under k -/
def uw (p : Nat → Int) (w : Nat → Nat) (s k : Nat) : Nat := sumS (fun j => if und p k j = true then w j else 0) s
/-- a sum over the MEMBERS right under k -/
def kw (p : Nat → Int) (w : Nat → Nat) (s k : Nat) : Nat := sumS (fun c => if p c = k then w c else 0) s
theorem one_child {p : Nat → Int} {s k : Nat} (h : wfp p s) (w : Nat) : ∀ j, j < s → sumS (fun c => if p c = k then (if und p c j = true then w else 0) else 0) s = if und p k j = true ∧ ¬ j = k then w else 0 := by
  intro j
  induction j using Nat.strongRecOn with
  | _ j ih =>
    intro hj
    rcases Nat.eq_zero_or_pos j with z | z
    · subst z
      rw [if_neg (fun q => q.2 (by have := und_le h 0 hj q.1; omega))]
      refine sumS_z fun c hc => ?_
      by_cases h1 : p c = k
      · rw [if_pos h1]
        refine if_neg (fun q => ?_)
        have := und_le h 0 hj q
        obtain rfl : c = 0 := by omega
        have := h.1
        omega
      · rw [if_neg h1]
    · have hp := h.2 j z hj
      have h1 : (p j).toNat < j := by omega
      have e1 : sumS (fun c => if p c = k then (if und p c j = true then w else 0) else 0) s = sumS (fun c => (if c = j then (if p j = k then w else 0) else 0) + (if p c = k then (if und p c (p j).toNat = true then w else 0) else 0)) s := by
        refine sumS_congr _ fun c hc => ?_
        by_cases hcj : c = j
        · subst hcj
          have hn : ¬ und p c (p c).toNat = true := fun q => by have := und_le h _ (by omega) q; omega
          rw [if_pos rfl, if_pos (und_self _ _), if_neg hn]
          by_cases hk : p c = k
          · rw [if_pos hk, if_pos hk]; rfl
          · rw [if_neg hk, if_neg hk]
        · rw [if_neg hcj, Nat.zero_add]
          have e : (und p c j = true) ↔ (und p c (p j).toNat = true) := by
            rw [und_eq h hj]
            exact ⟨fun q => q.elim (fun q => absurd q.symm hcj) (fun q => q.2), fun q => Or.inr ⟨hp.1, q⟩⟩
          by_cases hk : p c = k
          · rw [if_pos hk, if_pos hk]
            by_cases hu : und p c j = true
            · rw [if_pos hu, if_pos (e.mp hu)]
            · rw [if_neg hu, if_neg (fun q => hu (e.mpr q))]
          · rw [if_neg hk, if_neg hk]
      rw [e1, sumS_add, ih _ h1 (by omega), sumS_one, if_pos hj]
      have e2 : (und p k j = true ∧ ¬ j = k) ↔ und p k (p j).toNat = true := by
        rw [und_eq h hj]
        constructor
        · intro q
          rcases q.1 with e | e
          · exact absurd e q.2
          · exact e.2
        · intro q
          have := und_le h _ (by omega) q
          exact ⟨Or.inr ⟨hp.1, q⟩, by omega⟩
      by_cases hk : p j = k
      · rw [if_pos hk, if_neg (fun q => q.2 (by omega)), if_pos (e2.mpr (by rw [show (p j).toNat = k by omega]; exact und_self _ _))]; rfl
      · rw [if_neg hk, Nat.zero_add]
        by_cases hu : und p k (p j).toNat = true
        · rw [if_pos (e2.mpr hu), if_pos ⟨hu, by omega⟩]
        · rw [if_neg (fun q => hu (e2.mp q)), if_neg (fun q => hu q.1)]
theorem uw_eq {p : Nat → Int} {s k : Nat} (h : wfp p s) (hk : k < s) (w : Nat → Nat) : uw p w s k = w k + kw p (uw p w s) s k := by
  have e1 : uw p w s k = sumS (fun j => (if j = k then w k else 0) + sumS (fun c => if p c = k then (if und p c j = true then w j else 0) else 0) s) s := by
    refine sumS_congr _ fun j hj => ?_
    rw [one_child h (w j) j hj]
    by_cases hjk : j = k
    · subst hjk
      rw [if_pos (und_self _ _), if_pos rfl, if_neg (fun q => q.2 rfl)]; rfl
    · rw [if_neg hjk, Nat.zero_add]
      by_cases hu : und p k j = true
      · rw [if_pos hu, if_pos ⟨hu, hjk⟩]
      · rw [if_neg hu, if_neg (fun q => hu q.1)]
  rw [e1, sumS_add, sumS_one, if_pos hk, sumS_swap]
  congr 1
  refine sumS_congr _ fun c hc => ?_
  by_cases hp : p c = k
  · rw [if_pos hp]
    exact sumS_congr _ fun j _ => if_pos hp
  · rw [if_neg hp]
    exact sumS_z fun j _ => if_neg hp
/-- how many lie under a MEMBER, it among them; its place in all of the ROOT -/
def spn (p : Nat → Int) (s k : Nat) : Nat := uw p (fun _ => 1) s k
def rkF (p : Nat → Int) (s : Nat) : Nat → Nat → Nat
  | 0, _ => 0
  | f + 1, k => if 0 ≤ p k then rkF p s f (p k).toNat + 1 + sumS (fun j => if p j = p k then spn p s j else 0) k else 0
def rk (p : Nat → Int) (s k : Nat) : Nat := rkF p s k k
theorem rkF_fuel {p : Nat → Int} {s m : Nat} (h : wfp p s) : ∀ (f g j : Nat), j < s → j ≤ f → j ≤ g → rkF p m f j = rkF p m g j
  | 0, 0, j, _, _, _ => rfl
  | 0, g + 1, j, hj, h1, _ => by
    obtain rfl : j = 0 := by omega
    rw [rkF, rkF, if_neg (by have := h.1; omega)]
  | f + 1, 0, j, hj, _, h2 => by
    obtain rfl : j = 0 := by omega
    rw [rkF, rkF, if_neg (by have := h.1; omega)]
  | f + 1, g + 1, j, hj, h1, h2 => by
    rw [rkF, rkF]
    by_cases h0 : 0 ≤ p j
    · have := wfp_lt h hj h0
      rw [if_pos h0, if_pos h0, rkF_fuel h f g (p j).toNat (by omega) (by omega) (by omega)]
    · rw [if_neg h0, if_neg h0]
theorem rk_0 {p : Nat → Int} {s : Nat} : rk p s 0 = 0 := rfl
theorem rk_eq {p : Nat → Int} {s m k : Nat} (h : wfp p s) (h0 : 0 < k) (hk : k < s) : rk p m k = rk p m (p k).toNat + 1 + sumS (fun j => if p j = p k then spn p m j else 0) k := by
  unfold rk
  have hp := h.2 k h0 hk
  rw [rkF_fuel h k (k + 1) k hk (Nat.le_refl _) (by omega), rkF, if_pos hp.1, rkF_fuel h k (p k).toNat (p k).toNat (by omega) (by omega) (Nat.le_refl _)]
theorem spn_eq {p : Nat → Int} {s k : Nat} (h : wfp p s) (hk : k < s) : spn p s k = 1 + sumS (fun j => if p j = k then spn p s j else 0) s := uw_eq h hk _
theorem spn_0 {p : Nat → Int} {s : Nat} (h : wfp p s) : spn p s 0 = s := by
  have : ∀ n, n ≤ s → sumS (fun j => if und p 0 j = true then 1 else 0) n = n := by
    intro n
    induction n with
    | zero => intro _; rfl
    | succ n ih =>
      intro hn
      simp only [sumS]
      rw [ih (by omega), if_pos (und_root h n (by omega))]
  exact this s (Nat.le_refl _)
/-- siblings: the earlier one's lie before the later one's -/
theorem rk_sib {p : Nat → Int} {s a b : Nat} (h : wfp p s) (h0 : 0 < a) (hab : a < b) (hb : b < s) (hp : p a = p b) : rk p s a + spn p s a ≤ rk p s b := by
  rw [rk_eq h h0 (by omega), rk_eq h (by omega) hb, hp]
  have : sumS (fun j => if p j = p b then spn p s j else 0) a + spn p s a ≤ sumS (fun j => if p j = p b then spn p s j else 0) b := by
    rw [← sumS_pre (m := a) b (by omega), ← show sumS (fun j => if j = a then spn p s a else 0) b = spn p s a by rw [sumS_one, if_pos hab], ← sumS_add]
    refine sumS_mono _ fun j hj => ?_
    by_cases h1 : j = a
    · subst h1
      rw [if_neg (by omega), if_pos rfl, if_pos hp, Nat.zero_add]
      exact Nat.le_refl _
    · rw [if_neg h1]
      split
      · exact Nat.le_refl _
      · exact Nat.zero_le _
  omega
theorem rk_par {p : Nat → Int} {s k : Nat} (h : wfp p s) (h0 : 0 < k) (hk : k < s) : rk p s (p k).toNat < rk p s k ∧ rk p s k + spn p s k ≤ rk p s (p k).toNat + spn p s (p k).toNat := by
  have hp := h.2 k h0 hk
  have e2 : ((p k).toNat : Int) = p k := by omega
  rw [rk_eq h h0 hk, spn_eq (k := (p k).toNat) h (by omega), e2]
  have : sumS (fun j => if p j = p k then spn p s j else 0) k + spn p s k ≤ sumS (fun j => if p j = p k then spn p s j else 0) s := by
    rw [← sumS_pre (m := k) s (by omega), ← show sumS (fun j => if j = k then spn p s k else 0) s = spn p s k by rw [sumS_one, if_pos hk], ← sumS_add]
    refine sumS_mono _ fun j hj => ?_
    by_cases h1 : j = k
    · subst h1
      rw [if_neg (by omega), if_pos rfl, if_pos rfl, Nat.zero_add]
      exact Nat.le_refl _
    · rw [if_neg h1]
      split
      · exact Nat.le_refl _
      · exact Nat.zero_le _
  omega
theorem rk_in {p : Nat → Int} {s j : Nat} (h : wfp p s) : ∀ k, k < s → und p j k = true → rk p s j ≤ rk p s k ∧ rk p s k + spn p s k ≤ rk p s j + spn p s j ∧ (¬ j = k → rk p s j < rk p s k) := by
  intro k
  induction k using Nat.strongRecOn with
  | _ k ih =>
    intro hk hu
    rcases (und_eq h hk).mp hu with e | ⟨h0, e⟩
    · rw [e]; exact ⟨Nat.le_refl _, Nat.le_refl _, fun q => absurd rfl q⟩
    · have h1 := wfp_lt h hk h0
      have h2 := ih _ h1 (by omega) e
      have h3 := rk_par h (by omega) hk
      exact ⟨by omega, by omega, fun _ => by omega⟩
theorem rk_disj {p : Nat → Int} {s : Nat} (h : wfp p s) : ∀ m j k, j < m → k < m → m ≤ s → und p j k = false → und p k j = false → rk p s j + spn p s j ≤ rk p s k ∨ rk p s k + spn p s k ≤ rk p s j := by
  intro m
  induction m with
  | zero => intro j k hj; omega
  | succ m ih =>
    have main : ∀ j k, j < k → k < m + 1 → m + 1 ≤ s → und p j k = false → und p k j = false → rk p s j + spn p s j ≤ rk p s k ∨ rk p s k + spn p s k ≤ rk p s j := by
      intro j k hjk hk hm h1 h2
      have hp := h.2 k (by omega) (by omega)
      have hpar := rk_par (k := k) h (by omega) (by omega)
      have hju : und p j (p k).toNat = false := by
        cases e : und p j (p k).toNat with
        | false => rfl
        | true => rw [(und_eq h (by omega)).mpr (Or.inr ⟨hp.1, e⟩)] at h1; cases h1
      cases hu : und p (p k).toNat j with
      | false =>
        have := ih j (p k).toNat (by omega) (by omega) (by omega) hju hu
        omega
      | true =>
        have hne : ¬ j = (p k).toNat := fun q => by rw [← q, und_self] at hju; cases hju
        obtain ⟨c, c1, c2, c3⟩ := und_child h j (by omega) hu hne
        have hc0 : 0 < c := by
          rcases Nat.eq_zero_or_pos c with z | z
          · rw [z] at c2; have := h.1; omega
          · exact z
        have hck : ¬ c = k := by omega
        have hin := rk_in h j (by omega) c3
        have := rk_sib h hc0 (show c < k by omega) (by omega) (by omega)
        omega
    intro j k hj hk hm h1 h2
    rcases Nat.lt_trichotomy j k with q | q | q
    · exact main j k q hk hm h1 h2
    · rw [q, und_self] at h1; cases h1
    · exact (main k j q hj hm h2 h1).symm
theorem spn_pos {p : Nat → Int} {s k : Nat} (h : wfp p s) (hk : k < s) : 1 ≤ spn p s k := by rw [spn_eq h hk]; omega
theorem und_iff {p : Nat → Int} {s j k : Nat} (h : wfp p s) (hj : j < s) (hk : k < s) : und p j k = true ↔ rk p s j ≤ rk p s k ∧ rk p s k < rk p s j + spn p s j := by
  have hp := spn_pos h hk
  constructor
  · intro hu
    have := rk_in h k hk hu
    omega
  · intro hr
    cases h1 : und p j k with
    | true => rfl
    | false =>
      cases h2 : und p k j with
      | true =>
        have := (rk_in h j hj h2).2.2 (fun q => by rw [q, und_self] at h1; cases h1)
        omega
      | false =>
        have := rk_disj h s j k hj hk (Nat.le_refl _) h1 h2
        have := spn_pos h hj
        omega
theorem rk_lt {p : Nat → Int} {s k : Nat} (h : wfp p s) (hk : k < s) : rk p s k + spn p s k ≤ s := by
  have := rk_in h k hk (und_root h k hk)
  rw [spn_0 h, rk_0] at this
  omega
theorem rk_inj {p : Nat → Int} {s j k : Nat} (h : wfp p s) (hj : j < s) (hk : k < s) (e : rk p s j = rk p s k) : j = k := by
  have h1 := (und_iff h hj hk).mpr ⟨by omega, by have := spn_pos h hj; omega⟩
  have h2 := (und_iff h hk hj).mpr ⟨by omega, by have := spn_pos h hk; omega⟩
  have := und_le h _ hk h1
  have := und_le h _ hj h2
  omega
