/-! one MEMBER more: places, order, what lies below -/
theorem wfp_le {p : Nat → Int} {s k : Nat} (h : wfp p s) (hk : k ≤ s) : wfp p k := ⟨h.1, fun i h0 hi => h.2 i h0 (by omega)⟩
theorem spn_up (p : Nat → Int) (s j : Nat) : spn p (s + 1) j = spn p s j + (if und p j s = true then 1 else 0) := rfl
theorem spn_new {p : Nat → Int} {k : Nat} (h : wfp p (k + 1)) : spn p (k + 1) k = 1 := by
  rw [spn_up, und_self, if_pos rfl]
  have : spn p k k = 0 := sumS_z fun j hj => if_neg fun z => by have := und_le h j (by omega) z; omega
  omega
theorem und_up {p : Nat → Int} {k i u : Nat} (h : wfp p (k + 1)) (hu : p k = u) (hi : i < k) : und p i k = true ↔ und p i u = true := by
  rw [und_eq h (Nat.lt_succ_self k)]
  constructor
  · intro z
    rcases z with e | ⟨_, e⟩
    · omega
    · rw [hu, Int.toNat_natCast] at e; exact e
  · intro e
    exact Or.inr ⟨by omega, by rw [hu, Int.toNat_natCast]; exact e⟩
theorem rk_up {p : Nat → Int} {k u : Nat} (h : wfp p (k + 1)) (hu : p k = u) (huk : u < k) : ∀ j, j < k → rk p (k + 1) j = rk p k j + (if rk p k u + spn p k u ≤ rk p k j then 1 else 0) := by
  have hk := wfp_le h (Nat.le_succ k)
  have su := spn_pos hk huk
  intro j
  induction j using Nat.strongRecOn with
  | _ j ih =>
    intro hj
    rcases Nat.eq_zero_or_pos j with z | z
    · subst z
      rw [rk_0, rk_0, if_neg (by omega)]
    obtain ⟨w, hw⟩ : ∃ w : Nat, p j = w := ⟨(p j).toNat, by have := hk.2 j z hj; omega⟩
    have pj := hk.2 j z hj
    have hwk : w < k := by omega
    have ihw := ih w (by omega) hwk
    have e1 := rk_eq (m := k + 1) hk z hj
    have e2 := rk_eq (m := k) hk z hj
    have rpar := rk_par hk z hj
    have sj := spn_pos hk hj
    rw [hw, Int.toNat_natCast] at e1 e2 rpar
    have split : sumS (fun i => if p i = (w : Int) then spn p (k + 1) i else 0) j = sumS (fun i => if p i = (w : Int) then spn p k i else 0) j + sumS (fun i => if p i = (w : Int) then (if und p i k = true then 1 else 0) else 0) j := by
      rw [← sumS_add]
      refine sumS_congr j fun i _ => ?_
      by_cases q : p i = (w : Int)
      · simp only [if_pos q]; rfl
      · simp only [if_neg q]
    rw [split] at e1
    by_cases ex : ∃ i, i < j ∧ p i = (w : Int) ∧ und p i k = true
    · obtain ⟨i, i1, i2, i3⟩ := ex
      have i0 : 0 < i := by
        rcases Nat.eq_zero_or_pos i with y | y
        · rw [y, hk.1] at i2; omega
        · exact y
      have cnt : sumS (fun i => if p i = (w : Int) then (if und p i k = true then 1 else 0) else 0) j = 1 := by
        rw [sumS_congr j (g := fun q => if q = i then 1 else 0) fun q hq => ?_, sumS_one, if_pos i1]
        by_cases e : q = i
        · rw [e, if_pos i2, if_pos i3, if_pos rfl]
        · rw [if_neg e]
          by_cases ew : p q = (w : Int)
          · rw [if_pos ew, if_neg ?_]
            intro e3
            have wq := par_lt hk (show q < k by omega) ew
            have wi := par_lt hk (show i < k by omega) i2
            rcases Nat.lt_or_gt_of_ne e with l | l
            · have c := und_chain h (a := q) (b := i) (by omega) k (Nat.lt_succ_self k) e3 i3
              rcases (und_eq hk (show i < k by omega)).mp c with e4 | ⟨_, e4⟩
              · omega
              · rw [i2, Int.toNat_natCast] at e4
                have := und_le hk _ hwk e4
                omega
            · have c := und_chain h (a := i) (b := q) (by omega) k (Nat.lt_succ_self k) i3 e3
              rcases (und_eq hk (show q < k by omega)).mp c with e4 | ⟨_, e4⟩
              · omega
              · rw [ew, Int.toNat_natCast] at e4
                have := und_le hk _ hwk e4
                omega
          · rw [if_neg ew]
      have iu := (und_up h hu (show i < k by omega)).mp i3
      have r1 := rk_in hk u huk iu
      have r2 := rk_sib hk i0 i1 hj (i2.trans hw.symm)
      have r3 := (rk_par hk i0 (show i < k by omega)).1
      rw [i2, Int.toNat_natCast] at r3
      rw [cnt] at e1
      rw [if_neg (by omega)] at ihw
      rw [if_pos (by omega)]
      omega
    · have cnt : sumS (fun i => if p i = (w : Int) then (if und p i k = true then 1 else 0) else 0) j = 0 := sumS_z fun q hq => by
        by_cases ew : p q = (w : Int)
        · rw [if_pos ew, if_neg fun z => ex ⟨q, hq, ew, z⟩]
        · rw [if_neg ew]
      rw [cnt] at e1
      by_cases a1 : rk p k u + spn p k u ≤ rk p k w
      · rw [if_pos a1] at ihw
        rw [if_pos (by omega)]
        omega
      · rw [if_neg a1] at ihw
        rw [if_neg ?_]
        · omega
        intro a2
        by_cases q1 : und p w u = true
        · by_cases q2 : u = w
          · rw [q2] at a2; omega
          · obtain ⟨c, c1, c2, c3⟩ := und_child hk u huk q1 q2
            have r1 := rk_in hk u huk c3
            rcases Nat.lt_trichotomy c j with l | l | l
            · exact ex ⟨c, l, c2, (und_up h hu (by omega)).mpr c3⟩
            · rw [l] at r1; omega
            · have := rk_sib hk z l (by omega) (hw.trans c2.symm)
              omega
        · by_cases q3 : und p u w = true
          · have := rk_in hk w hwk q3
            omega
          · have := rk_disj hk k w u hwk huk (Nat.le_refl _) (by revert q1; cases und p w u <;> simp) (by revert q3; cases und p u w <;> simp)
            omega
theorem rk_new {p : Nat → Int} {k u : Nat} (h : wfp p (k + 1)) (h0 : 0 < k) (hu : p k = u) (huk : u < k) : rk p (k + 1) k = rk p k u + spn p k u := by
  have hk := wfp_le h (Nat.le_succ k)
  have su := spn_pos hk huk
  have e1 := rk_eq (m := k + 1) h h0 (Nat.lt_succ_self k)
  have e2 := rk_up h hu huk u huk
  have e3 := spn_eq hk huk
  rw [hu, Int.toNat_natCast] at e1
  rw [if_neg (by omega)] at e2
  have e4 : sumS (fun j => if p j = (u : Int) then spn p (k + 1) j else 0) k = sumS (fun j => if p j = (u : Int) then spn p k j else 0) k := sumS_congr k fun i hi => by
    by_cases q : p i = (u : Int)
    · have ui := par_lt hk hi q
      rw [if_pos q, if_pos q, spn_up, if_neg fun z => by have := und_le hk u huk ((und_up h hu hi).mp z); omega]
      rfl
    · rw [if_neg q, if_neg q]
  omega
def insA (p : Nat → Int) (k : Nat) : Nat := if k = 0 then 0 else rk p k (p k).toNat + spn p k (p k).toNat
theorem insA_le {p : Nat → Int} {k : Nat} (h : wfp p (k + 1)) : insA p k ≤ k := by
  unfold insA
  split
  · omega
  · next q =>
    have := h.2 k (by omega) (Nat.lt_succ_self k)
    exact rk_lt (wfp_le h (Nat.le_succ k)) (by omega)
theorem orr_up {p : Nat → Int} {k i : Nat} (h : wfp p (k + 1)) (hi : i ≤ k) : orr p (k + 1) i = if i < insA p k then orr p k i else if i = insA p k then k else orr p k (i - 1) := by
  have hk := wfp_le h (Nat.le_succ k)
  have al := insA_le h
  have main : ∀ v, v < k + 1 → rk p (k + 1) v = i → orr p (k + 1) i = v := fun v hv e => by rw [← e, orr_rk h hv]
  rcases Nat.eq_zero_or_pos k with z | z
  · subst z
    have a0 : insA p 0 = 0 := if_pos rfl
    rw [a0, if_neg (by omega), if_pos (by omega)]
    exact main 0 (by omega) (by rw [rk_0]; omega)
  have pk := h.2 k z (Nat.lt_succ_self k)
  obtain ⟨u, hu⟩ : ∃ u : Nat, p k = u := ⟨(p k).toNat, by omega⟩
  have huk : u < k := by omega
  have ea : insA p k = rk p k u + spn p k u := by unfold insA; rw [if_neg (by omega), hu, Int.toNat_natCast]
  have ru := fun j hj => rk_up h hu huk j hj
  rw [← ea] at ru
  by_cases q1 : i < insA p k
  · rw [if_pos q1]
    have ⟨o1, o2⟩ := orr_ok hk (show i < k by omega)
    refine main _ (by omega) ?_
    rw [ru _ o1, o2, if_neg (by omega)]; rfl
  rw [if_neg q1]
  by_cases q2 : i = insA p k
  · rw [if_pos q2]
    exact main k (by omega) (by rw [rk_new h z hu huk, q2, ea])
  rw [if_neg q2]
  have ⟨o1, o2⟩ := orr_ok hk (show i - 1 < k by omega)
  refine main _ (by omega) ?_
  rw [ru _ o1, o2, if_pos (by omega)]
  omega

