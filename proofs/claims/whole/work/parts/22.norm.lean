/-! the heap behind a write, in its plain form -/
section
variable {P : x_Pr} {y d pc : Nat} {L : x_L} {st : List Value} {I : x_M Int32} {J : x_M Int64} {R : x_M (Option Nat)} {rc rs k a i : Nat} {Q : x_Q}
theorem w_nI {v : Int32} (h : P y d pc L st (x_hp (x_at I k a i v) J R) rc rs Q) : P y d pc L st (x_uI (x_hp I J R) k a i v) rc rs Q := h
theorem w_nL {v : Int64} (h : P y d pc L st (x_hp I (x_at J k a i v) R) rc rs Q) : P y d pc L st (x_uL (x_hp I J R) k a i v) rc rs Q := h
theorem w_nR {v : Option Nat} (h : P y d pc L st (x_hp I J (x_at R k a i v)) rc rs Q) : P y d pc L st (x_uR (x_hp I J R) k a i v) rc rs Q := h
end
section
variable {E : x_E} {P : x_Pr} {y d pc : Nat} {L : x_L} {st : List Value} {I : x_M Int32} {J : x_M Int64} {R : x_M (Option Nat)} {rc rs : Nat} {Q : x_Q} {nx a b g : Nat} {v : Int32} {l : Int64} {i o1 o2 n1 n2 : Nat} {p q n : Int}
theorem z_copy (hP : x_closed E P) (h0 : x_ins y pc = some (.invokestatic i, nx, 5, a, b, g, v, l)) (h1 : Nat.ble (st.map fun v => v.category).sum 8 = true) (h2 : x_kd0 o1 = (1, n1)) (h3 : x_kd0 o2 = (1, n2)) (h5 : 0 ≤ p ∧ 0 ≤ q ∧ 0 ≤ n ∧ p + n ≤ n1 ∧ q + n ≤ n2 ∧ n1 < 100000 ∧ n2 < 100000) (k : P y (d + 1) nx L st (x_hp (x_cp I 1 o1 p.toNat o2 q.toNat n.toNat) J R) rc rs Q) : P y (d + 1) pc L (.int (iI n) :: .int (iI q) :: .ref o2 :: .int (iI p) :: .ref o1 :: st) (x_hp I J R) rc rs Q := by
  have e1 := iI_clamp (a := p) (by omega)
  have e2 := iI_clamp (a := q) (by omega)
  have e3 := iI_clamp (a := n) (by omega)
  refine x_copyI hP h0 (Nat.le_of_ble_eq_true h1) h2 h3 rfl (fun t => ?_) (fun t => ?_) (fun t => ?_) ?_ ?_ ?_
  · have := (z0_lt (p := p) (by omega)).mp t; omega
  · have := (z0_lt (p := q) (by omega)).mp t; omega
  · have := (z0_lt (p := n) (by omega)).mp t; omega
  · rw [e1, e3]; omega
  · rw [e2, e3]; omega
  · rw [e1, e2, e3]; exact k
theorem z_mmin (hP : x_closed E P) {h : x_H} (h0 : x_ins y pc = some (.invokestatic i, nx, 0, 92, b, g, v, l)) (h1 : Nat.ble (st.map fun v => v.category).sum 8 = true) (hp : -2147483648 ≤ p ∧ p < 2147483648) (hq : -2147483648 ≤ q ∧ q < 2147483648) (k : P y (d + 1) nx L (.int (iI (if q < p then q else p)) :: st) h rc rs Q) : P y (d + 1) pc L (.int (iI q) :: .int (iI p) :: st) h rc rs Q := by
  refine x_mmin hP h0 (Nat.le_of_ble_eq_true h1) ?_
  by_cases c : q < p
  · rw [if_pos c] at k
    rw [if_pos ((iI_lt hq hp).mpr c)]
    exact k
  · rw [if_neg c] at k
    rw [if_neg (fun z => c ((iI_lt hq hp).mp z))]
    exact k
end
