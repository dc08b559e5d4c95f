/-! THE BRIDGE: what the Statement gives of the start, as the law's premises -/
def bd_A : List Cond := flatC (Jvm.Cond.and given_1 narrow_1)
def bd_tm (i : Nat) : Term := bif Nat.blt i 19 then (bif Nat.blt i 9 then (bif Nat.blt i 4 then (bif Nat.blt i 2 then (bif Nat.blt i 1 then (bif Nat.beq i 0 then .arg 0 else .arg 0) else (bif Nat.beq i 1 then .static "SetBook$Function" "HEAD" "LSetBook$Function;" else .arg 0)) else (bif Nat.blt i 3 then (bif Nat.beq i 2 then .static "SetBook$Function" "TAIL" "LSetBook$Function;" else .arg 0) else (bif Nat.beq i 3 then .static "SetBook$Function" "FILLED" "LSetBook$Function;" else .arg 0))) else (bif Nat.blt i 6 then (bif Nat.blt i 5 then (bif Nat.beq i 4 then .static "SetBook$Function" "OVER" "LSetBook$Function;" else .arg 0) else (bif Nat.beq i 5 then .static "SetBook$Function" "UNDER" "LSetBook$Function;" else .arg 0)) else (bif Nat.blt i 7 then (bif Nat.beq i 6 then .static "SetBook$Function" "RISE" "LSetBook$Function;" else .arg 0) else (bif Nat.blt i 8 then (bif Nat.beq i 7 then .static "SetBook$Function" "FALL" "LSetBook$Function;" else .arg 0) else (bif Nat.beq i 8 then .static "SetBook$Function" "TOP" "LSetBook$Function;" else .arg 0))))) else (bif Nat.blt i 14 then (bif Nat.blt i 11 then (bif Nat.blt i 10 then (bif Nat.beq i 9 then .static "SetBook$Function" "LOW" "LSetBook$Function;" else .arg 0) else (bif Nat.beq i 10 then .static "SetBook$Function" "WALK" "LSetBook$Function;" else .arg 0)) else (bif Nat.blt i 12 then (bif Nat.beq i 11 then .static "SetBook$Function" "TURN" "LSetBook$Function;" else .arg 0) else (bif Nat.blt i 13 then (bif Nat.beq i 12 then .static "SetBook$Function" "EACH" "LSetBook$Function;" else .arg 0) else (bif Nat.beq i 13 then .static "SetBook$Act" "KIDS" "LSetBook$Act;" else .arg 0)))) else (bif Nat.blt i 16 then (bif Nat.blt i 15 then (bif Nat.beq i 14 then .static "SetBook$Act" "ALL" "LSetBook$Act;" else .arg 0) else (bif Nat.beq i 15 then .static "SetBook$Act" "ENDS" "LSetBook$Act;" else .arg 0)) else (bif Nat.blt i 17 then (bif Nat.beq i 16 then .static "SetBook$Act" "UP" "LSetBook$Act;" else .arg 0) else (bif Nat.blt i 18 then (bif Nat.beq i 17 then .static "SetBook$Act" "PATH" "LSetBook$Act;" else .arg 0) else (bif Nat.beq i 18 then .static "SetBook$Act" "SIBS" "LSetBook$Act;" else .arg 0)))))) else (bif Nat.blt i 29 then (bif Nat.blt i 24 then (bif Nat.blt i 21 then (bif Nat.blt i 20 then (bif Nat.beq i 19 then .static "SetBook$Act" "NEXT" "LSetBook$Act;" else .arg 0) else (bif Nat.beq i 20 then .static "SetBook$Act" "BACK" "LSetBook$Act;" else .arg 0)) else (bif Nat.blt i 22 then (bif Nat.beq i 21 then .static "SetBook$Act" "DEEP" "LSetBook$Act;" else .arg 0) else (bif Nat.blt i 23 then (bif Nat.beq i 22 then .static "SetBook$Function" "EVERY" "[LSetBook$Function;" else .arg 0) else (bif Nat.beq i 23 then .static "SetBook$Act" "EVERY" "[LSetBook$Act;" else .arg 0)))) else (bif Nat.blt i 26 then (bif Nat.blt i 25 then (bif Nat.beq i 24 then .static "SetBook$1" "$SwitchMap$SetBook$Function" "[I" else .arg 0) else (bif Nat.beq i 25 then .static "SetBook$1" "$SwitchMap$SetBook$Act" "[I" else .arg 0)) else (bif Nat.blt i 27 then (bif Nat.beq i 26 then .string "SetBook$Function" 99 else .arg 0) else (bif Nat.blt i 28 then (bif Nat.beq i 27 then .string "SetBook$Function" 83 else .arg 0) else (bif Nat.beq i 28 then .string "SetBook$Function" 94 else .arg 0))))) else (bif Nat.blt i 34 then (bif Nat.blt i 31 then (bif Nat.blt i 30 then (bif Nat.beq i 29 then .string "SetBook$Function" 113 else .arg 0) else (bif Nat.beq i 30 then .string "SetBook$Function" 121 else .arg 0)) else (bif Nat.blt i 32 then (bif Nat.beq i 31 then .string "SetBook$Function" 129 else .arg 0) else (bif Nat.blt i 33 then (bif Nat.beq i 32 then .field (.string "SetBook$Function" 99) "java/lang/String" "value" "[B" else .arg 0) else (bif Nat.beq i 33 then .field (.string "SetBook$Function" 83) "java/lang/String" "value" "[B" else .arg 0)))) else (bif Nat.blt i 36 then (bif Nat.blt i 35 then (bif Nat.beq i 34 then .field (.string "SetBook$Function" 94) "java/lang/String" "value" "[B" else .arg 0) else (bif Nat.beq i 35 then .field (.string "SetBook$Function" 113) "java/lang/String" "value" "[B" else .arg 0)) else (bif Nat.blt i 37 then (bif Nat.beq i 36 then .field (.string "SetBook$Function" 121) "java/lang/String" "value" "[B" else .arg 0) else (bif Nat.blt i 38 then (bif Nat.beq i 37 then .field (.string "SetBook$Function" 129) "java/lang/String" "value" "[B" else .arg 0) else (bif Nat.beq i 38 then .static "jdk/internal/util/Preconditions" "SIOOBE_FORMATTER" "Ljava/util/function/BiFunction;" else .arg 0))))))
def bd_i1 : List Nat := [78, 85, 93, 55, 60, 102, 112, 123, 135, 148, 162, 177, 193, 208, 224, 241, 259, 278, 298, 319, 341, 364, 370, 376, 383, 392, 400]
theorem bd_c1 : ∀ k, k < 27 → ∀ q, x_os[k]? = some q → bd_A[bd_i1.getD k 0]? = some (Cond.exactly (bd_tm q.1) q.2) := by
  have h : ∀ k, k < 27 → (x_os[k]?).all (fun q => decide (bd_A[bd_i1.getD k 0]? = some (Cond.exactly (bd_tm q.1) q.2))) = true := by decide +kernel
  intro k hk q hq
  have := h k hk
  rw [hq] at this
  exact of_decide_eq_true this
def bd_i2 : List Nat := [79, 80, 81, 82, 86, 87, 88, 89, 94, 95, 96, 97, 56, 57, 58, 59, 61, 62, 63, 64, 103, 104, 105, 106, 113, 114, 115, 116, 124, 125, 126, 127, 136, 137, 138, 139, 149, 150, 151, 152, 163, 164, 165, 166, 178, 179, 180, 181, 194, 195, 209, 210, 225, 226, 242, 243, 260, 261, 279, 280, 299, 300, 320, 321, 342, 343, 0, 365, 0, 371, 0, 377, 0, 384, 0, 393, 0, 401]
def bd_t : Value → Term
  | .int i => .int i
  | .long j => .long j
  | .ref a => bd_tm (a - 1000000)
  | _ => .int 0
def bd_okv : Value → Bool
  | .int _ => true
  | .long _ => true
  | .ref a => Nat.ble 1000000 a && Nat.blt a 1000038
  | _ => false
def bd_fo (k : Nat) (q : Nat × String × String × String) : Bool := Nat.blt q.1 38 && (bd_okv (x_ofv k) && (decide (bd_A[bd_i2.getD k 0]? = some (Cond.eq (.field (bd_tm q.1) q.2.1 q.2.2.1 q.2.2.2) (bd_t (x_ofv k)))) || decide (Term.field (bd_tm q.1) q.2.1 q.2.2.1 q.2.2.2 = bd_t (x_ofv k))))
theorem bd_c2 : ∀ k, k < 78 → ∀ q, x_of[k]? = some q → bd_fo k q = true := by
  have h : ∀ k, k < 78 → (x_of[k]?).all (bd_fo k) = true := by decide +kernel
  intro k hk q hq
  have := h k hk
  rw [hq] at this
  exact this
def bd_i3 : List Nat := [6, 28, 41, 67, 366, 372, 378, 385, 394, 402]
def bd_i4 : List Nat := [7, 29, 42, 68, 367, 373, 379, 386, 395, 403]
def bd_i5 : List (List Nat) := [[9, 10, 11, 12, 13, 14, 15, 16, 17, 18, 19, 20], [31, 32, 33, 34, 35, 36, 37, 38, 39], [43, 44, 45, 46, 47, 48, 49, 50, 51, 52, 53, 54], [69, 70, 71, 72, 73, 74, 75, 76, 77], [368, 369], [374], [380], [387, 388], [], [404]]
def bd_E : x_E := (0, fun _ => 0, .null)
def bd_fa (k : Nat) (q : Nat × FieldType) : Bool := decide (bd_A[bd_i3.getD k 0]? = some (Cond.arrayOf (bd_tm q.1) q.2)) && (decide (bd_A[bd_i4.getD k 0]? = some (Cond.eq (.length (bd_tm q.1)) (.int (Int32.ofNat (x_arn bd_E (k + 1)))))) && (Nat.blt (x_arn bd_E (k + 1)) 100 && (List.range (x_arn bd_E (k + 1))).all (fun j => bd_okv (x_arv bd_E (k + 1) j) && decide (bd_A[(bd_i5.getD k []).getD j 0]? = some (Cond.eq (.elem (bd_tm q.1) (.int (Int32.ofNat j))) (bd_t (x_arv bd_E (k + 1) j)))))))
theorem bd_c3 : ∀ k, k < 10 → ∀ q, x_ar[k + 1]? = some q → bd_fa k q = true := by
  have h : ∀ k, k < 10 → (x_ar[k + 1]?).all (bd_fa k) = true := by decide +kernel
  intro k hk q hq
  have := h k hk
  rw [hq] at this
  exact this
def bd_cv (i : Nat) : Nat × Nat := ([(0, 0), (1, 0), (1, 1), (1, 2), (1, 3), (1, 4), (1, 5), (1, 6), (1, 7), (1, 8), (1, 9), (1, 10), (1, 11), (1, 12), (1, 13), (1, 14), (1, 15), (1, 16), (1, 17), (1, 18), (1, 19), (1, 20), (2, 0), (2, 1), (2, 2), (2, 3), (1, 21), (1, 22), (1, 23), (1, 24), (1, 25), (1, 26), (2, 4), (2, 5), (2, 6), (2, 7), (2, 8), (2, 9)] : List (Nat × Nat)).getD i (0, 0)
def bd_cq (i : Nat) : Bool := Nat.beq i 0 || (((x_os[(bd_cv i).2]?).any (fun q => Nat.beq q.1 i) && Nat.blt (bd_cv i).2 27) || ((x_ar[(bd_cv i).2 + 1]?).any (fun q => Nat.beq q.1 i) && Nat.blt (bd_cv i).2 10))
theorem bd_c4 : ∀ i, i < 38 → bd_cq i = true := by decide +kernel
def bd_i6 : List Nat := [0, 0, 0, 0, 0, 0, 0, 0, 0, 0, 0, 0, 0, 0, 0, 92, 100, 83, 84, 109, 119, 130, 142, 155, 169, 184, 0, 92, 0, 101, 90, 91, 110, 120, 131, 143, 156, 170, 185, 0, 100, 101, 0, 98, 99, 111, 121, 132, 144, 157, 171, 186, 0, 83, 90, 98, 0, 65, 107, 117, 128, 140, 153, 167, 182, 0, 84, 91, 99, 65, 0, 108, 118, 129, 141, 154, 168, 183, 0, 109, 110, 111, 107, 108, 0, 122, 133, 145, 158, 172, 187, 0, 119, 120, 121, 117, 118, 122, 0, 134, 146, 159, 173, 188, 0, 130, 131, 132, 128, 129, 133, 134, 0, 147, 160, 174, 189, 0, 142, 143, 144, 140, 141, 145, 146, 147, 0, 161, 175, 190, 0, 155, 156, 157, 153, 154, 158, 159, 160, 161, 0, 176, 191, 0, 169, 170, 171, 167, 168, 172, 173, 174, 175, 176, 0, 192, 0, 184, 185, 186, 182, 183, 187, 188, 189, 190, 191, 192, 0]
def bd_fs (i j : Nat) : Bool := Nat.beq i j || (decide (bd_A[bd_i6.getD (13 * i + j) 0]? = some (Cond.not (.eq (bd_tm i) (bd_tm j)))) || decide (bd_A[bd_i6.getD (13 * i + j) 0]? = some (Cond.not (.eq (bd_tm j) (bd_tm i)))))
theorem bd_c5 : ∀ i, i < 12 → ∀ j, j < 12 → bd_fs (i + 1) (j + 1) = true := by decide +kernel
theorem bd_c6 : ∀ k, k < 8 → ∀ q, x_zs[k]? = some q → lw_tbl[([679, 749, 755, 856, 785, 787, 697, 713] : List Nat).getD k 0]? = some (Cond.laysStatic q.1 q.2.1 q.2.2) ∧ lw_tbl[([100, 105, 106, 106, 100, 100, 101, 103] : List Nat).getD k 0]? = some (Cond.initialized q.1) := by
  have h : ∀ k, k < 8 → (x_zs[k]?).all (fun q => decide (lw_tbl[([679, 749, 755, 856, 785, 787, 697, 713] : List Nat).getD k 0]? = some (Cond.laysStatic q.1 q.2.1 q.2.2)) && decide (lw_tbl[([100, 105, 106, 106, 100, 100, 101, 103] : List Nat).getD k 0]? = some (Cond.initialized q.1))) = true := by decide +kernel
  intro k hk q hq
  have := h k hk
  rw [hq] at this
  obtain ⟨h1, h2⟩ := x_and this
  exact ⟨of_decide_eq_true h1, of_decide_eq_true h2⟩
theorem bd_c7 : bd_A[21]? = some (Cond.eq (.static "java/lang/String" "COMPACT_STRINGS" "Z") (.int 1)) := by decide +kernel
theorem bd_c8 : bd_A[22]? = some (Cond.isRef (bd_tm 38)) := by decide +kernel
theorem bd_c9 : (lw_tbl[182]? = some (Cond.arrayClass .int) ∧ lw_tbl[135]? = some (Cond.arrayClass .byte)) ∧ (lw_tbl[1169]? = some (Cond.arrayClass .boolean) ∧ lw_tbl[232]? = some (Cond.arrayClass .long)) ∧ lw_tbl[183]? = some (Cond.arrayOver (.object "SetBook$Row")) := by decide +kernel
theorem bd_arn (E : x_E) (k : Nat) : x_arn E (k + 1) = x_arn bd_E (k + 1) := rfl
theorem bd_arv (E : x_E) (k j : Nat) : x_arv E (k + 1) j = x_arv bd_E (k + 1) j := rfl
theorem bd_zv (E : x_E) : ∀ k, k < 7 → x_zv E k = x_zv bd_E k := by
  intro k hk
  rcases (show k = 0 ∨ k = 1 ∨ k = 2 ∨ k = 3 ∨ k = 4 ∨ k = 5 ∨ k = 6 by omega) with rfl | rfl | rfl | rfl | rfl | rfl | rfl <;> rfl
theorem bd_z7 (E : x_E) : x_zv E 7 = E.2.2 := rfl
def bd_fz (k : Nat) (q : String × String × String) : Bool := (Nat.blt k 6 && (bd_okv (x_zv bd_E k) && decide (Term.static q.1 q.2.1 q.2.2 = bd_t (x_zv bd_E k)))) || ((Nat.beq k 6 && decide (bd_A[21]? = some (Cond.eq (.static q.1 q.2.1 q.2.2) (.int 1)))) || (Nat.beq k 7 && decide (Term.static q.1 q.2.1 q.2.2 = bd_tm 38)))
theorem bd_c10 : ∀ k, k < 8 → ∀ q, x_zs[k]? = some q → bd_fz k q = true := by
  have h : ∀ k, k < 8 → (x_zs[k]?).all (bd_fz k) = true := by decide +kernel
  intro k hk q hq
  have := h k hk
  rw [hq] at this
  exact this
def bd_ra : Option Value → Nat
  | some (.ref a) => a
  | _ => 0
def bd_ad (args : Array Value) (s : State) (i : Nat) : Nat := bd_ra ((bd_tm i).eval args s none [] s)
theorem bd_ref {args : Array Value} {s : State} {i a : Nat} (h : (bd_tm i).eval args s none [] s = some (.ref a)) : bd_ad args s i = a := by
  unfold bd_ad
  rw [h]
  rfl
theorem bd_ref' {args : Array Value} {s : State} {i a : Nat} (h : (bd_tm i).eval args s none [] s = some (.ref a)) : (bd_tm i).eval args s none [] s = some (.ref (bd_ad args s i)) := by rw [bd_ref h]; exact h
section
variable {s : State} {b : Nat}
theorem bd_ev (hs : ∀ w ∈ bd_A, w.before #[Value.ref b] s = true) {i : Nat} (hi : i < 38) : (bd_tm i).eval #[Value.ref b] s none [] s = some (.ref (bd_ad #[Value.ref b] s i)) := by
  rcases x_or (bd_c4 i hi) with h | h
  · have h : i = 0 := Nat.eq_of_beq_eq_true h
    subst h
    exact bd_ref' (a := b) rfl
  · rcases x_or h with h | h
    · obtain ⟨h1, h2⟩ := x_and h
      cases hq : x_os[(bd_cv i).2]? with
      | none => rw [hq] at h1; cases h1
      | some q =>
        rw [hq] at h1
        have h1 : q.1 = i := Nat.eq_of_beq_eq_true h1
        obtain ⟨a, -, -, -, q1, -⟩ := Cond.exactly_spec (hs _ (List.mem_of_getElem? (bd_c1 _ (x_blt h2) q hq)))
        rw [h1] at q1
        exact bd_ref' q1
    · obtain ⟨h1, h2⟩ := x_and h
      cases hq : x_ar[(bd_cv i).2 + 1]? with
      | none => rw [hq] at h1; cases h1
      | some q =>
        rw [hq] at h1
        have h1 : q.1 = i := Nat.eq_of_beq_eq_true h1
        obtain ⟨-, k2⟩ := x_and (bd_c3 _ (x_blt h2) q hq)
        obtain ⟨k2, -⟩ := x_and k2
        obtain ⟨t, cell, ht, -, -⟩ := Term.length_spec (va_eqt (hs _ (List.mem_of_getElem? (of_decide_eq_true k2))))
        rw [h1] at ht
        exact bd_ref' ht
variable {G : x_G} {base : Nat}
theorem bd_ta (hG : G.2.2 = bd_ad #[Value.ref b] s) (i : Nat) : x_ta G base (1000000 + i) = bd_ad #[Value.ref b] s i := by
  unfold x_ta
  rw [if_neg (by omega), Nat.add_sub_cancel_left, hG]
theorem bd_tv (hs : ∀ w ∈ bd_A, w.before #[Value.ref b] s = true) (hG : G.2.2 = bd_ad #[Value.ref b] s) {v : Value} (hv : bd_okv v = true) : (bd_t v).eval #[Value.ref b] s none [] s = some (x_tv G base v) := by
  cases v with
  | int i => rfl
  | long j => rfl
  | ref a =>
    obtain ⟨h1, h2⟩ := x_and hv
    have h1 := Nat.le_of_ble_eq_true h1
    have h2 := x_blt h2
    obtain ⟨i, rfl⟩ : ∃ i, a = 1000000 + i := ⟨a - 1000000, (Nat.add_sub_cancel' h1).symm⟩
    show (bd_tm (1000000 + i - 1000000)).eval #[Value.ref b] s none [] s = some (.ref (x_ta G base (1000000 + i)))
    rw [bd_ta hG, Nat.add_sub_cancel_left]
    exact bd_ev hs (by omega)
  | _ => cases hv
theorem bd_isRef {args : Array Value} {t : Term} (h : (Cond.isRef t).before args s = true) : t.eval args s none [] s = some .null ∨ ∃ a, t.eval args s none [] s = some (.ref a) := by
  cases hv : t.eval args s none [] s with
  | none => simp [Cond.before, Cond.holds, Cond.value, hv] at h
  | some w => cases w <;> simp_all [Cond.before, Cond.holds, Cond.value]
/-- the statics, the constants, their fields, the arrays -/
theorem bd_stat {A : Nat → Prop} {L : Nat} {xs : Nat → Int32} {v : Value} (hs : ∀ w ∈ bd_A, w.before #[Value.ref b] s = true) (hts : ∀ w ∈ lw_tbl, w.before #[Value.ref b] s = true) (hG : G.2.2 = bd_ad #[Value.ref b] s) (hA : ∀ a : Nat, a < s.heap.size → ¬ x_A base a) (hX : va_X b L xs s s.heap) (hbl : b < s.heap.size) (hv : (bd_tm 38).eval #[Value.ref b] s none [] s = some (x_tv G base v)) : x_Stat (L, xs, v) G base s := by
  have hg : ∀ {i : Nat} {w : Cond}, bd_A[i]? = some w → w.before #[Value.ref b] s = true := fun h => hs _ (List.mem_of_getElem? h)
  refine ⟨fun k q hq => ?_, fun k q hq => ?_, fun k q hq => ?_, fun k q hq => ?_, fun k q hq => ?_⟩
  · have hk : k < 8 := (List.getElem?_eq_some_iff.mp hq).1
    obtain ⟨z1, z2⟩ := bd_c6 k hk q hq
    refine va_Zof (hts _ (List.mem_of_getElem? z1)) (hts _ (List.mem_of_getElem? z2)) ?_ hA
    rcases x_or (bd_c10 k hk q hq) with h | h
    · obtain ⟨h1, h2⟩ := x_and h
      obtain ⟨h2, h3⟩ := x_and h2
      rw [bd_zv _ k (Nat.lt_succ_of_lt (x_blt h1)), of_decide_eq_true h3]
      exact bd_tv hs hG h2
    · rcases x_or h with h | h
      · obtain ⟨h1, h2⟩ := x_and h
        have h1 : k = 6 := Nat.eq_of_beq_eq_true h1
        rw [bd_zv _ k (by omega), h1]
        exact va_eqt (hg (of_decide_eq_true h2))
      · obtain ⟨h1, h2⟩ := x_and h
        have h1 : k = 7 := Nat.eq_of_beq_eq_true h1
        rw [h1, bd_z7, of_decide_eq_true h2]
        exact hv
  · have hk : k < 27 := (List.getElem?_eq_some_iff.mp hq).1
    obtain ⟨a, c, cell, k', q1, q2, q3, q4, q5, q6, -⟩ := Cond.exactly_spec (hg (bd_c1 k hk q hq))
    rw [hG, bd_ref q1]
    exact ⟨cell, q3, q5, by rw [q6]; exact q2, hA a (Array.getElem?_eq_some_iff.mp q3).1⟩
  · have hk : k < 78 := (List.getElem?_eq_some_iff.mp hq).1
    obtain ⟨h1, h2⟩ := x_and (bd_c2 k hk q hq)
    obtain ⟨h2, h3⟩ := x_and h2
    rw [hG]
    refine vk_OFof (bd_ev hs (x_blt h1)) ?_ hA
    rcases x_or h3 with h | h
    · exact va_eqv (hg (of_decide_eq_true h)) (bd_tv hs hG h2)
    · rw [of_decide_eq_true h]
      exact bd_tv hs hG h2
  · cases k with
    | zero =>
      cases hq
      obtain ⟨scr, e1, e2, e3, e4, e5⟩ := hX
      rw [hG, bd_ref (a := b) rfl]
      exact ⟨scr, e1, e2, e3, Nat.le_of_eq e4.symm, by rw [e4]; rfl, fun j hj => e5 j hj, hA b hbl⟩
    | succ k =>
      have hk : k + 1 < 11 := (List.getElem?_eq_some_iff.mp hq).1
      obtain ⟨k1, k2⟩ := x_and (bd_c3 k (by omega) q hq)
      obtain ⟨k2, k3⟩ := x_and k2
      obtain ⟨k3, k4⟩ := x_and k3
      have k3 := x_blt k3
      obtain ⟨t, ht, hT⟩ := va_Tof (N := x_arn bd_E (k + 1)) (f := fun j => x_tv G base (x_arv bd_E (k + 1) j)) (A := x_A base) (by omega) (hg (of_decide_eq_true k1)) (va_eqt (hg (of_decide_eq_true k2))) (fun j hj => by
        obtain ⟨m1, m2⟩ := x_and (List.all_eq_true.mp k4 j (List.mem_range.mpr hj))
        exact va_eqv (hg (of_decide_eq_true m2)) (bd_tv hs hG m1)) hA
      rw [hG, bd_ref ht, bd_arn]
      exact hT
  · simp [x_ks] at hq
theorem bd_sep (hs : ∀ w ∈ bd_A, w.before #[Value.ref b] s = true) : ∀ i j, x_sep i j = true → bd_ad #[Value.ref b] s i = bd_ad #[Value.ref b] s j → i = j := by
  intro i j h e
  obtain ⟨h1, h2⟩ := x_and h
  obtain ⟨h2, h3⟩ := x_and h2
  obtain ⟨h3, h4⟩ := x_and h3
  have h1 := Nat.le_of_ble_eq_true h1
  have h2 := Nat.le_of_ble_eq_true h2
  have h3 := Nat.le_of_ble_eq_true h3
  have h4 := Nat.le_of_ble_eq_true h4
  obtain ⟨i, rfl⟩ : ∃ i', i = i' + 1 := ⟨i - 1, by omega⟩
  obtain ⟨j, rfl⟩ : ∃ j', j = j' + 1 := ⟨j - 1, by omega⟩
  have e1 := bd_ev (b := b) hs (i := i + 1) (by omega)
  have e2 := bd_ev (b := b) hs (i := j + 1) (by omega)
  rcases x_or (bd_c5 i (by omega) j (by omega)) with h | h
  · exact Nat.eq_of_beq_eq_true h
  · rcases x_or h with h | h
    · exact absurd e (va_neR (hs _ (List.mem_of_getElem? (of_decide_eq_true h))) e1 e2)
    · exact absurd e.symm (va_neR (hs _ (List.mem_of_getElem? (of_decide_eq_true h))) e2 e1)
/-- the classes and the arrays' classes -/
theorem bd_cl {args : Array Value} (hU : ∀ w ∈ x_U, w.before args s = true) : ∃ D : va_G, ∀ (c : Nat) (q : vw_C), x_cls[c]? = some q → u_Kn s q.1 q.2.1 q.2.2 (D.1 c) (D.2 c) := by
  have h : ∀ c : Nat, ∃ z : ClassId × (Nat → Nat), ∀ q : vw_C, x_cls[c]? = some q → u_Kn s q.1 q.2.1 q.2.2 z.1 z.2 := by
    intro c
    cases hq : x_cls[c]? with
    | none => exact ⟨(0, fun _ => 0), fun q h => by cases h⟩
    | some q =>
      obtain ⟨cC, iS, hk⟩ := u_known hU (x_lays c q hq) (hU _ (x_insts c q hq).1)
      exact ⟨(cC, iS), fun q' h => by cases h; exact hk⟩
  obtain ⟨f, hf⟩ := Classical.axiomOfChoice h
  exact ⟨(fun c => (f c).1, fun c => (f c).2), fun c q hq => hf c q hq⟩
theorem bd_ap {args : Array Value} {t : FieldType} (h : (Cond.arrayClass t).before args s = true) : ∃ cA : ClassId, ArrOfT s cA t ∧ s.vm.findClass ("[" ++ t.toString) = some cA := by
  obtain ⟨c, kA, comp, h1, h2, h3⟩ := Cond.arrayClass_spec h
  exact ⟨c, fun n z => ⟨fun k h => (by cases h), kA, h2, comp, h3⟩, h1⟩
theorem bd_ar {args : Array Value} (hts : ∀ w ∈ lw_tbl, w.before args s = true) : ∃ g : Nat → ClassId, ∀ k ∈ x_aks, ArrOfT s (g k) (x_aty k) ∧ va_RA s (g k) (x_aty k) := by
  obtain ⟨⟨w1, w2⟩, ⟨w3, w4⟩, w5⟩ := bd_c9
  obtain ⟨c1, a1, b1⟩ := bd_ap (hts _ (List.mem_of_getElem? w1))
  obtain ⟨c2, a2, b2⟩ := bd_ap (hts _ (List.mem_of_getElem? w2))
  obtain ⟨c3, a3, b3⟩ := bd_ap (hts _ (List.mem_of_getElem? w3))
  obtain ⟨c6, a6, b6⟩ := bd_ap (hts _ (List.mem_of_getElem? w4))
  obtain ⟨comp, c7, kA, f4, -, f2, f3, f1⟩ := Cond.arrayOver_spec (hts _ (List.mem_of_getElem? w5))
  refine ⟨fun k => if k = 1 then c1 else if k = 2 then c2 else if k = 3 then c3 else if k = 6 then c6 else c7, fun k hk => ?_⟩
  simp only [x_aks, List.mem_cons, List.not_mem_nil, or_false] at hk
  rcases hk with rfl | rfl | rfl | rfl | rfl
  · exact ⟨a1, b1⟩
  · exact ⟨a2, b2⟩
  · exact ⟨a3, b3⟩
  · exact ⟨a6, b6⟩
  · exact ⟨fun N z => ⟨(fun k h => by cases h), kA, f2, comp, f3⟩, kA, comp, f2, f3, f4, f1⟩
end
theorem bd_rep (G : x_G) (H : Heap) : x_Rep G H.size x_h0 H :=
  ⟨rfl, fun k q hk => absurd (x_W_of hk).1 (Nat.not_lt_zero k), Nat.zero_le _, fun a _ => kpn_ge (Nat.zero_le a), fun _ _ _ _ => ⟨rfl, rfl, rfl⟩⟩
/-- from the entry to the end, with true -/
theorem bd_start {p : Program} {e : Env} {s : State} {m : MethodId} {below : List Frame} {meth : Method} {c : Code} (l : Launch) {b L : Nat} {xs : Nat → Int32} (hL : L ≤ 3072) (hx : p.tables.exec = Jvm.exec) (hb : c.code = code) (hr : meth.sig.returnType = ret) (hml : c.maxLocals = 4) (hown : s.vm.findClass "SetBookLaw" = some m.cls) (hts : ∀ w ∈ lw_tbl, w.before #[Value.ref b] s = true) (hX : va_X b L xs s s.heap) (hbl : b < s.heap.size) (hlocks : meth.locks = false) (hgv : (Jvm.Cond.and given_1 narrow_1).before #[Value.ref b] s = true) (hn : meth.name = "law") :
    W p l e room_1 s m #[Value.ref b] below meth c s.heap [] 0 0 (fun t => ∃ o, t.status = .running ∧ Ended t below o ∧ o = .returned (some (.int 1)) ∧ Framed s o t [] 600000 7302250) (entryFrame m ([Value.ref b] : List Value).toArray 4) := by
  have hs : ∀ w ∈ bd_A, w.before #[Value.ref b] s = true := flat_of_before _ hgv
  have hU : ∀ w ∈ x_U, w.before #[Value.ref b] s = true := fun w hw => hts w (List.mem_filter.mp hw).1
  obtain ⟨D, hD⟩ := bd_cl hU
  obtain ⟨g, hg⟩ := bd_ar hts
  obtain ⟨G, hG1, hG2, hG3⟩ : ∃ G : x_G, G.1 = D ∧ G.2.1 = g ∧ G.2.2 = bd_ad #[Value.ref b] s := ⟨(D, g, bd_ad #[Value.ref b] s), rfl, rfl, rfl⟩
  have hA : ∀ a : Nat, a < s.heap.size → ¬ x_A s.heap.size a := fun a h => Nat.not_le.mpr h
  obtain ⟨v, hv2, hv⟩ : ∃ v : Value, x_is2 (some v) = false ∧ (bd_tm 38).eval #[Value.ref b] s none [] s = some (x_tv G s.heap.size v) := by
    rcases bd_isRef (hs _ (List.mem_of_getElem? bd_c8)) with h | ⟨a, h⟩
    · exact ⟨.null, rfl, h⟩
    · refine ⟨.ref 1000038, rfl, ?_⟩
      show (bd_tm 38).eval #[Value.ref b] s none [] s = some (Value.ref (x_ta G s.heap.size (1000000 + 38)))
      rw [bd_ta hG3]
      exact bd_ref' h
  have hSd : x_Sd (L, xs, v) G s.heap.size s := by
    refine ⟨⟨fun c q hq => by rw [hG1]; exact hD c q hq, fun k q hq => ?_⟩, bd_stat (A := x_A s.heap.size) hs hts hG3 hA hX hbl hv, fun w hw hn => va_Nw.of (x_isN_tab hn) (hts w hw), fun C hC => ?_, Nat.le_refl _, fun i j h1 h2 => ?_⟩
    · have hq := List.mem_of_getElem? hq
      unfold x_tys at hq
      obtain ⟨k', hk', rfl⟩ := List.mem_map.mp hq
      rw [hG2]
      exact hg k' hk'
    · have hC : C = "SetBook$Row" := by simpa [x_aos] using hC
      rw [hC]
      exact va_AO.of (hts _ (List.mem_of_getElem? bd_c9.2.2))
    · rw [hG3] at h2
      exact bd_sep hs i j h1 h2
  have K := law_all (x_sound l (L, xs, v) G s.heap.size) hv2 hL (Q := fun r _ => r = some (.int (iI 1))) (fun _ => rfl)
  have hl : lv_has ((lg_sl [Value.ref b] ++ List.replicate (4 - (lg_sl [Value.ref b]).length) Slot.unset).toArray) 4 (x_lv 4 (x_tL G s.heap.size (x_la 0 [.ref 1000000]))) := by
    rw [x_tL_la]
    have e : ([Value.ref 1000000] : List Value).map (x_tv G s.heap.size) = [Value.ref b] := by
      show [Value.ref (x_ta G s.heap.size (1000000 + 0))] = _
      rw [bd_ta hG3, bd_ref (a := b) rfl]
    rw [e]
    exact x_lv_entry _ (Nat.le_of_ble_eq_true rfl)
  rw [lg_entry_eq]
  have M := K p e room_1 s m #[Value.ref b] below meth c s.heap [] 0 0 600000 7302250 _ ⟨⟨hx, hb, hml, hr, hlocks, hn, hown, hU, by decide, by decide, hSd⟩, bd_rep G s.heap, va_S.rf, hl, by decide, by decide, by decide, by decide⟩
  intro T hT X
  obtain ⟨t, a1, o, b1, b2, ⟨⟨r, h', c1, c2, -⟩, -⟩, Ls, ⟨d1, d2, d3⟩, d4⟩ := M T hT X
  refine ⟨t, a1, o, b1, b2, ?_, d1, d2, d3.weaken (fun y hy hlt => absurd hlt (Nat.not_lt.mpr (d4 y hy))) (Nat.le_refl _) (Nat.le_refl _)⟩
  rw [c1, c2]
  rfl
