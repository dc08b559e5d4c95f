/-! the heap behind a write, in its plain form -/
section
variable {P : x_Pr} {y d pc : Nat} {L : x_L} {st : List Value} {I : x_M Int32} {J : x_M Int64} {R : x_M (Option Nat)} {rc rs k a i : Nat} {Q : x_Q}
theorem w_nI {v : Int32} (h : P y d pc L st (x_hp (x_at I k a i v) J R) rc rs Q) : P y d pc L st (x_uI (x_hp I J R) k a i v) rc rs Q := h
theorem w_nL {v : Int64} (h : P y d pc L st (x_hp I (x_at J k a i v) R) rc rs Q) : P y d pc L st (x_uL (x_hp I J R) k a i v) rc rs Q := h
theorem w_mI {nc : Nat} {kd : Nat → Nat × Nat} {v : Int32} (h : P y d pc L st (nc, kd, x_at I k a i v, J, R) rc rs Q) : P y d pc L st (x_uI (nc, kd, I, J, R) k a i v) rc rs Q := h
theorem w_mL {nc : Nat} {kd : Nat → Nat × Nat} {v : Int64} (h : P y d pc L st (nc, kd, I, x_at J k a i v, R) rc rs Q) : P y d pc L st (x_uL (nc, kd, I, J, R) k a i v) rc rs Q := h
theorem w_mR {nc : Nat} {kd : Nat → Nat × Nat} {v : Option Nat} (h : P y d pc L st (nc, kd, I, J, x_at R k a i v) rc rs Q) : P y d pc L st (x_uR (nc, kd, I, J, R) k a i v) rc rs Q := h
theorem w_nR {v : Option Nat} (h : P y d pc L st (x_hp I J (x_at R k a i v)) rc rs Q) : P y d pc L st (x_uR (x_hp I J R) k a i v) rc rs Q := h
end
section
variable {E : x_E} {P : x_Pr} {y d pc : Nat} {L : x_L} {st : List Value} {I : x_M Int32} {J : x_M Int64} {R : x_M (Option Nat)} {rc rs : Nat} {Q : x_Q} {nx a b g : Nat} {v : Int32} {l : Int64} {i o1 o2 n1 n2 : Nat} {p q n : Int}
theorem z_copy (hP : x_closed E P) (h0 : x_ins y pc = some (.invokestatic i, nx, 5, a, b, g, v, l)) (h1 : Nat.ble (st.map fun v => v.category).sum 8 = true) (h2 : x_kd0 o1 = (1, n1)) (h3 : x_kd0 o2 = (1, n2)) (h5 : 0 ≤ p ∧ 0 ≤ q ∧ 0 ≤ n ∧ p + n ≤ n1 ∧ q + n ≤ n2 ∧ n1 < 100000 ∧ n2 < 100000) (k : P y (d + 1) nx L st (x_hp (x_cp I 1 o1 p.toNat o2 q.toNat n.toNat) J R) rc rs Q) : P y (d + 1) pc L (.int (iI n) :: .int (iI q) :: .ref o2 :: .int (iI p) :: .ref o1 :: st) (x_hp I J R) rc rs Q := by
  have e1 := iI_clamp (a := p) (by omega)
  have e2 := iI_clamp (a := q) (by omega)
  have e3 := iI_clamp (a := n) (by omega)
  refine x_copyI hP h0 (Nat.le_of_ble_eq_true h1) h2 h3 rfl (fun t => ?_) (fun t => ?_) (fun t => ?_) ?_ ?_ ?_
  · have := (z0_lt (p := p) (by omega)).mp t; omega
  · have := (z0_lt (p := q) (by omega)).mp t; omega
  · have := (z0_lt (p := n) (by omega)).mp t; omega
  · rw [e1, e3]; omega
  · rw [e2, e3]; omega
  · rw [e1, e2, e3]; exact k
theorem z_mmin (hP : x_closed E P) {h : x_H} (h0 : x_ins y pc = some (.invokestatic i, nx, 0, 92, b, g, v, l)) (h1 : Nat.ble (st.map fun v => v.category).sum 8 = true) (hp : -2147483648 ≤ p ∧ p < 2147483648) (hq : -2147483648 ≤ q ∧ q < 2147483648) (k : P y (d + 1) nx L (.int (iI (if q < p then q else p)) :: st) h rc rs Q) : P y (d + 1) pc L (.int (iI q) :: .int (iI p) :: st) h rc rs Q := by
  refine x_mmin hP h0 (Nat.le_of_ble_eq_true h1) ?_
  by_cases c : q < p
  · rw [if_pos c] at k
    rw [if_pos ((iI_lt hq hp).mpr c)]
    exact k
  · rw [if_neg c] at k
    rw [if_neg (fun z => c ((iI_lt hq hp).mp z))]
    exact k
end
section
variable {E : x_E} {P : x_Pr} {y d pc : Nat} {L : x_L} {st : List Value} {h : x_H} {rc rs : Nat} {Q : x_Q} {nx t a b g : Nat} {v : Int32} {l : Int64} {o : Int} {p q : Int64}
theorem zl_if_eq (hP : x_closed E P) (h0 : x_ins y pc = some (.ifCond .eq o, nx, t, a, b, g, v, l)) (k1 : p = q → P y d a L st h rc rs Q) (k2 : ¬ p = q → P y d nx L st h rc rs Q) : P y d pc L (.int (lg_cmp p q) :: st) h rc rs Q := x_if_eq hP h0 (fun z => k1 (lcmp0 z)) (fun z => k2 (fun e => z (lcmp2.mpr e)))
theorem zl_if_ne (hP : x_closed E P) (h0 : x_ins y pc = some (.ifCond .ne o, nx, t, a, b, g, v, l)) (k1 : ¬ p = q → P y d a L st h rc rs Q) (k2 : p = q → P y d nx L st h rc rs Q) : P y d pc L (.int (lg_cmp p q) :: st) h rc rs Q := x_if_ne hP h0 (fun z => k1 (fun e => z (lcmp2.mpr e))) (fun z => k2 (by by_cases e : lg_cmp p q = 0; exact lcmp0 e; exact absurd z e))
theorem lge0 {p q : Int64} : (0 ≤ lg_cmp p q) ↔ ¬ p < q := by
  unfold lg_cmp
  show (0 ≤ if q < p then 1 else if p = q then 0 else -1) ↔ _
  have l1 := Int64.lt_iff_toInt_lt (x := q) (y := p)
  have l2 := Int64.lt_iff_toInt_lt (x := p) (y := q)
  have l3 := Int64.toInt_inj (x := p) (y := q)
  rw [l2]
  by_cases h1 : q < p
  · rw [if_pos h1]
    rw [l1] at h1
    exact ⟨fun _ => by omega, fun _ => by decide⟩
  · rw [if_neg h1]
    rw [l1] at h1
    by_cases h2 : p = q
    · rw [if_pos h2]
      rw [← l3] at h2
      exact ⟨fun _ => by omega, fun _ => by decide⟩
    · rw [if_neg h2]
      rw [← l3] at h2
      exact ⟨fun z => absurd z (by decide), fun z => by omega⟩
theorem zl_if_ge (hP : x_closed E P) (h0 : x_ins y pc = some (.ifCond .ge o, nx, t, a, b, g, v, l)) (k1 : ¬ p < q → P y d a L st h rc rs Q) (k2 : p < q → P y d nx L st h rc rs Q) : P y d pc L (.int (lg_cmp p q) :: st) h rc rs Q := x_if_ge hP h0 (fun z => k1 (lge0.mp z)) (fun z => k2 (by
  by_cases e : p < q
  · exact e
  · exact absurd (lge0.mpr e) z))
end
section
variable {E : x_E} {P : x_Pr} {y d pc : Nat} {L : x_L} {st : List Value} {h : x_H} {rc rs : Nat} {Q : x_Q} {nx t a b g : Nat} {v : Int32} {l : Int64} {p : Int}
theorem z_i2l (hP : x_closed E P) (h0 : x_ins y pc = some (.i2l, nx, t, a, b, g, v, l)) (hp : -2147483648 ≤ p ∧ p < 2147483648) (k : P y d nx L (.long (lI p) :: st) h rc rs Q) : P y d pc L (.int (iI p) :: st) h rc rs Q := x_i2l hP h0 (by rw [i2l_iI hp]; exact k)
theorem z_lneg (hP : x_closed E P) (h0 : x_ins y pc = some (.lneg, nx, t, a, b, g, v, l)) (k : P y d nx L (.long (lI (-p)) :: st) h rc rs Q) : P y d pc L (.long (lI p) :: st) h rc rs Q := x_lneg hP h0 (by rw [lI_neg]; exact k)
end
