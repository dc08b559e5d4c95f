def x_ins (y pc : Nat) : Option x_I := bif Nat.blt y (x_nM + 1) then x_ct y pc else none
theorem x_ins_ok {y pc : Nat} {e : x_I} (h : x_ins y pc = some e) : x_one y pc (some e) = true := by
  unfold x_ins at h
  cases hb : Nat.blt y (x_nM + 1) with
  | false => rw [hb] at h; cases h
  | true =>
    rw [hb] at h
    have h : x_ct y pc = some e := h
    have := x_codes y (x_blt hb) pc
    rw [h] at this
    exact this
theorem x_decs {y pc nx t a b g : Nat} {ins : Instr} {v : Int32} {l : Int64} (h : x_ins y pc = some (ins, nx, t, a, b, g, v, l)) : decode (x_by y) pc = .ok (ins, nx - pc) ∧ pc < nx ∧ (x_ln ins = 0 ∨ nx = pc + x_ln ins) ∧ x_chk y pc ins nx t a b g v l = true := by
  have h1 := x_ins_ok h
  unfold x_one at h1
  obtain ⟨k1, k2⟩ := x_and h1
  obtain ⟨k2, k3⟩ := x_and k2
  obtain ⟨k3, k4⟩ := x_and k3
  refine ⟨of_decide_eq_true k1, x_blt k2, ?_, k4⟩
  rcases x_or k3 with q | q
  · exact Or.inl (Nat.eq_of_beq_eq_true q)
  · exact Or.inr (Nat.eq_of_beq_eq_true q)
theorem x_decn {y pc nx t a b g : Nat} {ins : Instr} {v : Int32} {l : Int64} (n : Nat) (h : x_ins y pc = some (ins, nx, t, a, b, g, v, l)) (hn : x_ln ins = n) (h0 : n ≠ 0) : decode (x_by y) pc = .ok (ins, n) ∧ nx = pc + n := by
  obtain ⟨h1, h2, h3, -⟩ := x_decs h
  rcases h3 with q | q
  · exact absurd (hn.symm.trans q) h0
  · rw [hn] at q
    refine ⟨?_, q⟩
    rw [h1, q, Nat.add_sub_cancel_left]
theorem x_ck {y pc nx t a b g : Nat} {ins : Instr} {v : Int32} {l : Int64} (h : x_ins y pc = some (ins, nx, t, a, b, g, v, l)) : x_chk y pc ins nx t a b g v l = true := (x_decs h).2.2.2
theorem x_ckF_spec {y i t a b g : Nat} (h : x_ckF y i t a b g = true) : ∃ (c j : Nat) (C : String) (T : u_T) (N : Nat), x_cls[c]? = some (C, T, N) ∧ j < N ∧ a = 1000 + 64 * c + j ∧ g = 1000 + c ∧ x_ckt t (x_tcode (x_fty c j)) = true ∧ (lw_tbl[b]? = some (.fieldLink (x_nm y).cls i (T j).1 (T j).2.1 (T j).2.2.1) ∨ lw_tbl[b]? = some (.fieldLinkNest (x_nm y).cls i (T j).1 (T j).2.1 (T j).2.2.1 (x_host y))) := by
  unfold x_ckF at h
  cases hc : x_cls[g - 1000]? with
  | none => rw [hc] at h; cases h
  | some q =>
    rw [hc] at h
    obtain ⟨C, T, N⟩ := q
    obtain ⟨k1, k2⟩ := x_and h
    obtain ⟨k2, k3⟩ := x_and k2
    obtain ⟨k3, k4⟩ := x_and k3
    obtain ⟨k4, k5⟩ := x_and k4
    refine ⟨g - 1000, a - 1000 - 64 * (g - 1000), C, T, N, hc, x_blt k1, Nat.eq_of_beq_eq_true k3, ?_, k4, ?_⟩
    · have := Nat.le_of_ble_eq_true k2
      omega
    · rcases x_or k5 with z | z
      · exact Or.inl (of_decide_eq_true z)
      · exact Or.inr (of_decide_eq_true z)
theorem x_ckP_spec {y b c j : Nat} {C : String} {T : u_T} {N : Nat} (hq : x_cls[c]? = some (C, T, N)) (h : x_ckP y b (1000 + 64 * c + j) (1000 + c) = true) : (T j).2.2.2 = false ∨ ((T j).2.2.2 = true ∧ (x_nm y).name = "<init>" ∧ (T j).1 = (x_nm y).cls ∧ ∀ w, lw_tbl[b]? = some w → x_isN w = false) := by
  unfold x_ckP at h
  rw [Nat.add_sub_cancel_left, hq] at h
  have e : 1000 + 64 * c + j - 1000 - 64 * c = j := by omega
  simp only [e] at h
  cases hf : (T j).2.2.2 with
  | false => exact Or.inl rfl
  | true =>
    right
    rw [hf] at h
    have h : (decide ((x_nm y).name = "<init>") && (decide ((T j).1 = (x_nm y).cls) && !(x_isN ((lw_tbl[b]?).getD .tt)))) = true := h
    obtain ⟨k1, k2⟩ := x_and h
    obtain ⟨k2, k3⟩ := x_and k2
    refine ⟨rfl, of_decide_eq_true k1, of_decide_eq_true k2, fun w hw => ?_⟩
    rw [hw] at k3
    simpa using k3
theorem x_ckM_spec {y i a b : Nat} (h : x_ckM y i a b = true) : a < x_nM ∧ (lw_tbl[b]? = some (.methodLink (x_nm y).cls i (x_nm a)) ∨ lw_tbl[b]? = some (.methodLinkNest (x_nm y).cls i (x_nm a) (x_host y))) := by
  obtain ⟨k1, k2⟩ := x_and h
  refine ⟨x_blt k1, ?_⟩
  rcases x_or k2 with z | z
  · exact Or.inl (of_decide_eq_true z)
  · exact Or.inr (of_decide_eq_true z)
theorem x_fn_eq {c : Nat} {C : String} {T : u_T} {N : Nat} (hq : x_cls[c]? = some (C, T, N)) : x_fn c = N := by
  unfold x_fn
  rw [hq]
theorem x_lay1 {C : String} {T : u_T} {N : Nat} (h : ∀ k, k < N → u_lay C T k ∈ x_U) : ∀ w ∈ u_ws C T N, w ∈ x_U := fun w hw => by
  obtain ⟨k, hk, rfl⟩ := List.mem_map.mp hw
  exact h k (List.mem_range.mp hk)
theorem x_q0_1 : ∀ k, k < 9 → u_lay "SetBook" x_T0 k ∈ x_U := by
  intro k hk
  have h : ∀ k, k < 9 → lw_tbl[([407, 409, 411, 413, 415, 417, 419, 421, 423] : List Nat).getD k 0]? = some (u_lay "SetBook" x_T0 k) ∧ goodWord (u_lay "SetBook" x_T0 k) = true := by decide +kernel
  exact x_inU (h k hk).1 (h k hk).2
theorem x_q0_2 : ∀ k, k < 9 → parseFieldDescriptor (x_T0 k).2.2.1 = some (x_fty 0 k) := by decide +kernel
theorem x_q0_3 : ∀ a, a < 9 → ∀ b, b < 9 → a ≠ b → (x_T0 a).2.1 ≠ (x_T0 b).2.1 := by decide +kernel
theorem x_q0_4 : ∀ k, k < 9 → x_tcode (x_fty 0 k) ≠ 9 := by decide +kernel
theorem x_q0_5 : Cond.instantiable "SetBook" 9 ∈ x_U ∧ Cond.initialized "SetBook" ∈ x_U := ⟨x_inU (i := 109) (by decide +kernel) rfl, x_inU (i := 87) (by decide +kernel) rfl⟩
theorem x_q1_1 : ∀ k, k < 4 → u_lay "SetBook$Tape" x_T1 k ∈ x_U := by
  intro k hk
  have h : ∀ k, k < 4 → lw_tbl[([126, 128, 130, 132] : List Nat).getD k 0]? = some (u_lay "SetBook$Tape" x_T1 k) ∧ goodWord (u_lay "SetBook$Tape" x_T1 k) = true := by decide +kernel
  exact x_inU (h k hk).1 (h k hk).2
theorem x_q1_2 : ∀ k, k < 4 → parseFieldDescriptor (x_T1 k).2.2.1 = some (x_fty 1 k) := by decide +kernel
theorem x_q1_3 : ∀ a, a < 4 → ∀ b, b < 4 → a ≠ b → (x_T1 a).2.1 ≠ (x_T1 b).2.1 := by decide +kernel
theorem x_q1_4 : ∀ k, k < 4 → x_tcode (x_fty 1 k) ≠ 9 := by decide +kernel
theorem x_q1_5 : Cond.instantiable "SetBook$Tape" 4 ∈ x_U ∧ Cond.initialized "SetBook$Tape" ∈ x_U := ⟨x_inU (i := 117) (by decide +kernel) rfl, x_inU (i := 88) (by decide +kernel) rfl⟩
theorem x_q2_1 : ∀ k, k < 1 → u_lay "SetBook$TreeReader" x_T2 k ∈ x_U := by
  intro k hk
  have h : ∀ k, k < 1 → lw_tbl[([143] : List Nat).getD k 0]? = some (u_lay "SetBook$TreeReader" x_T2 k) ∧ goodWord (u_lay "SetBook$TreeReader" x_T2 k) = true := by decide +kernel
  exact x_inU (h k hk).1 (h k hk).2
theorem x_q2_2 : ∀ k, k < 1 → parseFieldDescriptor (x_T2 k).2.2.1 = some (x_fty 2 k) := by decide +kernel
theorem x_q2_3 : ∀ a, a < 1 → ∀ b, b < 1 → a ≠ b → (x_T2 a).2.1 ≠ (x_T2 b).2.1 := by decide +kernel
theorem x_q2_4 : ∀ k, k < 1 → x_tcode (x_fty 2 k) ≠ 9 := by decide +kernel
theorem x_q2_5 : Cond.instantiable "SetBook$TreeReader" 1 ∈ x_U ∧ Cond.initialized "SetBook$TreeReader" ∈ x_U := ⟨x_inU (i := 137) (by decide +kernel) rfl, x_inU (i := 89) (by decide +kernel) rfl⟩
theorem x_q3_1 : ∀ k, k < 4 → u_lay "SetBook$Row" x_T3 k ∈ x_U := by
  intro k hk
  have h : ∀ k, k < 4 → lw_tbl[([173, 175, 177, 179] : List Nat).getD k 0]? = some (u_lay "SetBook$Row" x_T3 k) ∧ goodWord (u_lay "SetBook$Row" x_T3 k) = true := by decide +kernel
  exact x_inU (h k hk).1 (h k hk).2
theorem x_q3_2 : ∀ k, k < 4 → parseFieldDescriptor (x_T3 k).2.2.1 = some (x_fty 3 k) := by decide +kernel
theorem x_q3_3 : ∀ a, a < 4 → ∀ b, b < 4 → a ≠ b → (x_T3 a).2.1 ≠ (x_T3 b).2.1 := by decide +kernel
theorem x_q3_4 : ∀ k, k < 4 → x_tcode (x_fty 3 k) ≠ 9 := by decide +kernel
theorem x_q3_5 : Cond.instantiable "SetBook$Row" 4 ∈ x_U ∧ Cond.initialized "SetBook$Row" ∈ x_U := ⟨x_inU (i := 147) (by decide +kernel) rfl, x_inU (i := 90) (by decide +kernel) rfl⟩
theorem x_q4_1 : ∀ k, k < 14 → u_lay "SetBook$SetReader" x_T4 k ∈ x_U := by
  intro k hk
  have h : ∀ k, k < 14 → lw_tbl[([269, 271, 273, 275, 277, 279, 281, 283, 285, 287, 289, 291, 293, 295] : List Nat).getD k 0]? = some (u_lay "SetBook$SetReader" x_T4 k) ∧ goodWord (u_lay "SetBook$SetReader" x_T4 k) = true := by decide +kernel
  exact x_inU (h k hk).1 (h k hk).2
theorem x_q4_2 : ∀ k, k < 14 → parseFieldDescriptor (x_T4 k).2.2.1 = some (x_fty 4 k) := by decide +kernel
theorem x_q4_3 : ∀ a, a < 14 → ∀ b, b < 14 → a ≠ b → (x_T4 a).2.1 ≠ (x_T4 b).2.1 := by decide +kernel
theorem x_q4_4 : ∀ k, k < 14 → x_tcode (x_fty 4 k) ≠ 9 := by decide +kernel
theorem x_q4_5 : Cond.instantiable "SetBook$SetReader" 14 ∈ x_U ∧ Cond.initialized "SetBook$SetReader" ∈ x_U := ⟨x_inU (i := 185) (by decide +kernel) rfl, x_inU (i := 91) (by decide +kernel) rfl⟩
theorem x_q5_1 : ∀ k, k < 4 → u_lay "SetBook$Joiner" x_T5 k ∈ x_U := by
  intro k hk
  have h : ∀ k, k < 4 → lw_tbl[([204, 206, 208, 210] : List Nat).getD k 0]? = some (u_lay "SetBook$Joiner" x_T5 k) ∧ goodWord (u_lay "SetBook$Joiner" x_T5 k) = true := by decide +kernel
  exact x_inU (h k hk).1 (h k hk).2
theorem x_q5_2 : ∀ k, k < 4 → parseFieldDescriptor (x_T5 k).2.2.1 = some (x_fty 5 k) := by decide +kernel
theorem x_q5_3 : ∀ a, a < 4 → ∀ b, b < 4 → a ≠ b → (x_T5 a).2.1 ≠ (x_T5 b).2.1 := by decide +kernel
theorem x_q5_4 : ∀ k, k < 4 → x_tcode (x_fty 5 k) ≠ 9 := by decide +kernel
theorem x_q5_5 : Cond.instantiable "SetBook$Joiner" 4 ∈ x_U ∧ Cond.initialized "SetBook$Joiner" ∈ x_U := ⟨x_inU (i := 193) (by decide +kernel) rfl, x_inU (i := 92) (by decide +kernel) rfl⟩
theorem x_q6_1 : ∀ k, k < 4 → u_lay "SetBook$Sorter" x_T6 k ∈ x_U := by
  intro k hk
  have h : ∀ k, k < 4 → lw_tbl[([223, 225, 227, 229] : List Nat).getD k 0]? = some (u_lay "SetBook$Sorter" x_T6 k) ∧ goodWord (u_lay "SetBook$Sorter" x_T6 k) = true := by decide +kernel
  exact x_inU (h k hk).1 (h k hk).2
theorem x_q6_2 : ∀ k, k < 4 → parseFieldDescriptor (x_T6 k).2.2.1 = some (x_fty 6 k) := by decide +kernel
theorem x_q6_3 : ∀ a, a < 4 → ∀ b, b < 4 → a ≠ b → (x_T6 a).2.1 ≠ (x_T6 b).2.1 := by decide +kernel
theorem x_q6_4 : ∀ k, k < 4 → x_tcode (x_fty 6 k) ≠ 9 := by decide +kernel
theorem x_q6_5 : Cond.instantiable "SetBook$Sorter" 4 ∈ x_U ∧ Cond.initialized "SetBook$Sorter" ∈ x_U := ⟨x_inU (i := 214) (by decide +kernel) rfl, x_inU (i := 93) (by decide +kernel) rfl⟩
theorem x_q7_1 : ∀ k, k < 5 → u_lay "SetBook$Kin" x_T7 k ∈ x_U := by
  intro k hk
  have h : ∀ k, k < 5 → lw_tbl[([244, 246, 248, 250, 252] : List Nat).getD k 0]? = some (u_lay "SetBook$Kin" x_T7 k) ∧ goodWord (u_lay "SetBook$Kin" x_T7 k) = true := by decide +kernel
  exact x_inU (h k hk).1 (h k hk).2
theorem x_q7_2 : ∀ k, k < 5 → parseFieldDescriptor (x_T7 k).2.2.1 = some (x_fty 7 k) := by decide +kernel
theorem x_q7_3 : ∀ a, a < 5 → ∀ b, b < 5 → a ≠ b → (x_T7 a).2.1 ≠ (x_T7 b).2.1 := by decide +kernel
theorem x_q7_4 : ∀ k, k < 5 → x_tcode (x_fty 7 k) ≠ 9 := by decide +kernel
theorem x_q7_5 : Cond.instantiable "SetBook$Kin" 5 ∈ x_U ∧ Cond.initialized "SetBook$Kin" ∈ x_U := ⟨x_inU (i := 234) (by decide +kernel) rfl, x_inU (i := 94) (by decide +kernel) rfl⟩
theorem x_q8_1 : ∀ k, k < 13 → u_lay "SetBook$Trees" x_T8 k ∈ x_U := by
  intro k hk
  have h : ∀ k, k < 13 → lw_tbl[([338, 340, 342, 344, 346, 348, 350, 352, 354, 356, 358, 360, 362] : List Nat).getD k 0]? = some (u_lay "SetBook$Trees" x_T8 k) ∧ goodWord (u_lay "SetBook$Trees" x_T8 k) = true := by decide +kernel
  exact x_inU (h k hk).1 (h k hk).2
theorem x_q8_2 : ∀ k, k < 13 → parseFieldDescriptor (x_T8 k).2.2.1 = some (x_fty 8 k) := by decide +kernel
theorem x_q8_3 : ∀ a, a < 13 → ∀ b, b < 13 → a ≠ b → (x_T8 a).2.1 ≠ (x_T8 b).2.1 := by decide +kernel
theorem x_q8_4 : ∀ k, k < 13 → x_tcode (x_fty 8 k) ≠ 9 := by decide +kernel
theorem x_q8_5 : Cond.instantiable "SetBook$Trees" 13 ∈ x_U ∧ Cond.initialized "SetBook$Trees" ∈ x_U := ⟨x_inU (i := 299) (by decide +kernel) rfl, x_inU (i := 95) (by decide +kernel) rfl⟩
theorem x_q9_1 : ∀ k, k < 38 → u_lay "SetBookModel" x_T9 k ∈ x_U := by
  intro k hk
  have h : ∀ k, k < 38 → lw_tbl[([1092, 1094, 1096, 1098, 1100, 1102, 1104, 1106, 1108, 1110, 1112, 1114, 1116, 1118, 1120, 1122, 1124, 1126, 1128, 1130, 1132, 1134, 1136, 1138, 1140, 1142, 1144, 1146, 1148, 1150, 1152, 1154, 1156, 1158, 1160, 1162, 1164, 1166] : List Nat).getD k 0]? = some (u_lay "SetBookModel" x_T9 k) ∧ goodWord (u_lay "SetBookModel" x_T9 k) = true := by decide +kernel
  exact x_inU (h k hk).1 (h k hk).2
theorem x_q9_2 : ∀ k, k < 38 → parseFieldDescriptor (x_T9 k).2.2.1 = some (x_fty 9 k) := by decide +kernel
theorem x_q9_3 : ∀ a, a < 38 → ∀ b, b < 38 → a ≠ b → (x_T9 a).2.1 ≠ (x_T9 b).2.1 := by decide +kernel
theorem x_q9_4 : ∀ k, k < 38 → x_tcode (x_fty 9 k) ≠ 9 := by decide +kernel
theorem x_q9_5 : Cond.instantiable "SetBookModel" 38 ∈ x_U ∧ Cond.initialized "SetBookModel" ∈ x_U := ⟨x_inU (i := 1042) (by decide +kernel) rfl, x_inU (i := 97) (by decide +kernel) rfl⟩
theorem x_lays : ∀ (c : Nat) (q : vw_C), x_cls[c]? = some q → ∀ w ∈ u_ws q.1 q.2.1 q.2.2, w ∈ x_U := by
  intro c q hq
  match c, hq with
  | 0, hq => cases hq; exact x_lay1 x_q0_1
  | 1, hq => cases hq; exact x_lay1 x_q1_1
  | 2, hq => cases hq; exact x_lay1 x_q2_1
  | 3, hq => cases hq; exact x_lay1 x_q3_1
  | 4, hq => cases hq; exact x_lay1 x_q4_1
  | 5, hq => cases hq; exact x_lay1 x_q5_1
  | 6, hq => cases hq; exact x_lay1 x_q6_1
  | 7, hq => cases hq; exact x_lay1 x_q7_1
  | 8, hq => cases hq; exact x_lay1 x_q8_1
  | 9, hq => cases hq; exact x_lay1 x_q9_1
  | c + 10, hq => simp [x_cls] at hq
theorem x_ftys : ∀ (c : Nat) (q : vw_C), x_cls[c]? = some q → ∀ k, k < q.2.2 → parseFieldDescriptor (q.2.1 k).2.2.1 = some (x_fty c k) := by
  intro c q hq
  match c, hq with
  | 0, hq => cases hq; exact x_q0_2
  | 1, hq => cases hq; exact x_q1_2
  | 2, hq => cases hq; exact x_q2_2
  | 3, hq => cases hq; exact x_q3_2
  | 4, hq => cases hq; exact x_q4_2
  | 5, hq => cases hq; exact x_q5_2
  | 6, hq => cases hq; exact x_q6_2
  | 7, hq => cases hq; exact x_q7_2
  | 8, hq => cases hq; exact x_q8_2
  | 9, hq => cases hq; exact x_q9_2
  | c + 10, hq => simp [x_cls] at hq
theorem x_fnms : ∀ (c : Nat) (q : vw_C), x_cls[c]? = some q → ∀ a, a < q.2.2 → ∀ b, b < q.2.2 → a ≠ b → (q.2.1 a).2.1 ≠ (q.2.1 b).2.1 := by
  intro c q hq
  match c, hq with
  | 0, hq => cases hq; exact x_q0_3
  | 1, hq => cases hq; exact x_q1_3
  | 2, hq => cases hq; exact x_q2_3
  | 3, hq => cases hq; exact x_q3_3
  | 4, hq => cases hq; exact x_q4_3
  | 5, hq => cases hq; exact x_q5_3
  | 6, hq => cases hq; exact x_q6_3
  | 7, hq => cases hq; exact x_q7_3
  | 8, hq => cases hq; exact x_q8_3
  | 9, hq => cases hq; exact x_q9_3
  | c + 10, hq => simp [x_cls] at hq
theorem x_ft9 : ∀ (c : Nat) (q : vw_C), x_cls[c]? = some q → ∀ k, k < q.2.2 → x_tcode (x_fty c k) ≠ 9 := by
  intro c q hq
  match c, hq with
  | 0, hq => cases hq; exact x_q0_4
  | 1, hq => cases hq; exact x_q1_4
  | 2, hq => cases hq; exact x_q2_4
  | 3, hq => cases hq; exact x_q3_4
  | 4, hq => cases hq; exact x_q4_4
  | 5, hq => cases hq; exact x_q5_4
  | 6, hq => cases hq; exact x_q6_4
  | 7, hq => cases hq; exact x_q7_4
  | 8, hq => cases hq; exact x_q8_4
  | 9, hq => cases hq; exact x_q9_4
  | c + 10, hq => simp [x_cls] at hq
theorem x_insts : ∀ (c : Nat) (q : vw_C), x_cls[c]? = some q → Cond.instantiable q.1 q.2.2 ∈ x_U ∧ Cond.initialized q.1 ∈ x_U := by
  intro c q hq
  match c, hq with
  | 0, hq => cases hq; exact x_q0_5
  | 1, hq => cases hq; exact x_q1_5
  | 2, hq => cases hq; exact x_q2_5
  | 3, hq => cases hq; exact x_q3_5
  | 4, hq => cases hq; exact x_q4_5
  | 5, hq => cases hq; exact x_q5_5
  | 6, hq => cases hq; exact x_q6_5
  | 7, hq => cases hq; exact x_q7_5
  | 8, hq => cases hq; exact x_q8_5
  | 9, hq => cases hq; exact x_q9_5
  | c + 10, hq => simp [x_cls] at hq
theorem x_aklts : ∀ k ∈ x_aks, k < 1000 := by decide
theorem x_ak9 {k : Nat} (h : k ∈ x_aks) : x_tcode (x_aty k) ≠ 9 := (show ∀ k ∈ x_aks, x_tcode (x_aty k) ≠ 9 by decide) k h
theorem x_oi1 : Cond.instanceMethod Lib.objectInit ∈ x_U := x_inU (i := 114) (by decide +kernel) rfl
theorem x_oi2 : Cond.code Lib.objectInit ⟨#[0xb1]⟩ 1 none ∈ x_U := x_inU (i := 115) (by decide +kernel) rfl
theorem x_ac1 : Cond.native arraycopyName ∈ x_U := x_inU (i := 659) (by decide +kernel) rfl
theorem x_ac2 : Cond.static arraycopyName ∈ x_U := x_inU (i := 658) (by decide +kernel) rfl
theorem x_ac3 : Cond.initialized "java/lang/System" ∈ x_U := x_inU (i := 98) (by decide +kernel) rfl
theorem x_mi1 : Cond.static Lib.Math.min.name ∈ x_U := x_inU (i := 767) (by decide +kernel) rfl
theorem x_mi2 : Cond.initialized "java/lang/Math" ∈ x_U := x_inU (i := 107) (by decide +kernel) rfl
theorem x_mi3 : Cond.code Lib.Math.min.name Lib.Math.min.code 2 (some .int) ∈ x_U := x_inU (i := 768) (by decide +kernel) rfl
theorem x_mi4 {own host : String} {i : Nat} : Cond.methodLinkNest own i Lib.Math.min.name host ∉ lw_tbl := by
  have h : lw_tbl.all (fun w => match w with | .methodLinkNest _ _ m _ => decide (m ≠ Lib.Math.min.name) | _ => true) = true := by decide +kernel
  intro hm
  exact absurd rfl (of_decide_eq_true (List.all_eq_true.mp h _ hm))
theorem x_ckt0' {n : Nat} (h : x_ckt 0 n = true) : n = 0 := Nat.eq_of_beq_eq_true h
theorem x_ckt1' {n : Nat} (h : x_ckt 1 n = true) : n = 1 := Nat.eq_of_beq_eq_true h
theorem x_ckt1 {n : Nat} (h : x_ckt 1 n = true) : n = 1 := Nat.eq_of_beq_eq_true h
theorem x_ckt2 {n : Nat} (h : x_ckt 2 n = true) : n = 2 := Nat.eq_of_beq_eq_true h
theorem x_ckt4' {n : Nat} (h : x_ckt 4 n = true) : n = 4 := Nat.eq_of_beq_eq_true h
theorem x_ckt0 {n : Nat} (h : x_ckt 0 n = true) : n ≠ 1 ∧ n ≠ 2 := by rw [x_ckt0' h]; decide
theorem x_ckt4 {n : Nat} (h : x_ckt 4 n = true) : n ≠ 1 ∧ n ≠ 2 := by rw [x_ckt4' h]; decide
theorem x_tc0 {ty : FieldType} (h : x_tcode ty = 0) : ty = .int := by cases ty <;> first | rfl | exact absurd h (by simp [x_tcode])
theorem x_tc1 {ty : FieldType} (h : x_tcode ty = 1) : ty = .long := by cases ty <;> first | rfl | exact absurd h (by simp [x_tcode])
theorem x_tc4 {ty : FieldType} (h : x_tcode ty = 4) : ty = .boolean := by cases ty <;> first | rfl | exact absurd h (by simp [x_tcode])
theorem x_fvI {G : x_G} {base : Nat} {h : x_H} {c a j : Nat} (ht : x_tcode (x_fty c j) ≠ 1 ∧ x_tcode (x_fty c j) ≠ 2) : x_fv G base h c a j = .int (h.2.2.1 (1000 + 64 * c + j) a 0) := x_vI_int ht
theorem x_fvZ {G : x_G} {base : Nat} {h : x_H} {c a j : Nat} (ht : x_tcode (x_fty c j) ≠ 1 ∧ x_tcode (x_fty c j) ≠ 2) : x_fv G base h c a j = .int (h.2.2.1 (1000 + 64 * c + j) a 0) := x_vI_int ht
theorem x_fvL {G : x_G} {base : Nat} {h : x_H} {c a j : Nat} (ht : x_tcode (x_fty c j) = 1) : x_fv G base h c a j = .long (h.2.2.2.1 (1000 + 64 * c + j) a 0) := by unfold x_fv; rw [ht]; rfl
theorem x_fvR {G : x_G} {base : Nat} {h : x_H} {c a j : Nat} (ht : x_tcode (x_fty c j) = 2) : x_fv G base h c a j = va_rf ((h.2.2.2.2 (1000 + 64 * c + j) a 0).map (x_ta G base)) := by unfold x_fv; rw [ht]; rfl
theorem x_nz {x : Int32} (h : x = 0 ∨ x = 1) : narrow .boolean (.int x) = .int x := by rcases h with rfl | rfl <;> rfl
theorem x_fz {x : Int32} (h : x = 0 ∨ x = 1) : fits .boolean (.int x) = true := by rcases h with rfl | rfl <;> rfl
theorem x_nR {ty : FieldType} {x : Nat} (h : x_tcode ty = 2) : narrow ty (.ref x) = .ref x := by cases ty <;> first | rfl | exact absurd h (by simp [x_tcode])
theorem x_fR {ty : FieldType} {x : Nat} (h : x_tcode ty = 2) : fits ty (.ref x) = true := by cases ty <;> first | rfl | exact absurd h (by simp [x_tcode])
theorem x_nN {ty : FieldType} (h : x_tcode ty = 2) : narrow ty .null = .null := by cases ty <;> first | rfl | exact absurd h (by simp [x_tcode])
theorem x_fN {ty : FieldType} (h : x_tcode ty = 2) : fits ty .null = true := by cases ty <;> first | rfl | exact absurd h (by simp [x_tcode])
theorem x_ckG_spec {y pc i nx t a b g : Nat} {v : Int32} {l : Int64} (h : x_chk y pc (.getfield i) nx t a b g v l = true) (h3 : Nat.beq t 3 = false) : x_ckF y i t a b g = true := by
  unfold x_chk at h
  dsimp only at h
  rw [h3] at h
  rcases x_or h with h | h
  · cases h
  · exact (x_and h).2
theorem x_ckW_spec {y pc i nx t a b g : Nat} {v : Int32} {l : Int64} (h : x_chk y pc (.putfield i) nx t a b g v l = true) : x_ckF y i t a b g = true ∧ x_ckP y b a g = true := by
  unfold x_chk at h
  exact x_and h
theorem x_ckZ_spec {y pc i nx t a b g : Nat} {v : Int32} {l : Int64} (h : x_chk y pc (.getstatic i) nx t a b g v l = true) : x_ckS y i a b = true := by
  unfold x_chk at h
  exact h
theorem x_ckS_spec {y i a b : Nat} (h : x_ckS y i a b = true) : ∃ q, x_zs[a]? = some q ∧ (lw_tbl[b]? = some (.fieldLink (x_nm y).cls i q.1 q.2.1 q.2.2) ∨ lw_tbl[b]? = some (.fieldLinkNest (x_nm y).cls i q.1 q.2.1 q.2.2 (x_host y))) := by
  unfold x_ckS at h
  cases hc : x_zs[a]? with
  | none => rw [hc] at h; cases h
  | some q =>
    rw [hc] at h
    refine ⟨q, rfl, ?_⟩
    rcases x_or h with z | z
    · exact Or.inl (of_decide_eq_true z)
    · exact Or.inr (of_decide_eq_true z)
theorem x_ckO_spec {y i a b pc nx g : Nat} {v : Int32} {l : Int64} {q : String × String × String} (hq : x_sfl[a]? = some q) (h : x_chk y pc (.getfield i) nx 3 a b g v l = true) : lw_tbl[b]? = some (.fieldLink (x_nm y).cls i q.1 q.2.1 q.2.2) ∨ lw_tbl[b]? = some (.fieldLinkNest (x_nm y).cls i q.1 q.2.1 q.2.2 (x_host y)) := by
  have h : (x_ckO y i a b || false) = true := h
  rcases x_or h with h | h
  · unfold x_ckO at h
    rw [hq] at h
    rcases x_or h with z | z
    · exact Or.inl (of_decide_eq_true z)
    · exact Or.inr (of_decide_eq_true z)
  · cases h
theorem x_ckK_spec {y i a b pc nx g id : Nat} {v : Int32} {l : Int64} {ow tx : String} (hq : x_ks[a]? = some (ow, i, tx, id)) (h : x_chk y pc (.ldc i) nx 1 a b g v l = true) : ow = (x_nm y).cls := by
  have h : (false || match x_ks[a]? with | some q => decide (q.1 = (x_nm y).cls) && Nat.beq q.2.1 i | none => false) = true := h
  rw [hq] at h
  rcases x_or h with h | h
  · cases h
  · exact of_decide_eq_true (x_and h).1
theorem x_ckI_spec {y i a b pc nx g : Nat} {v : Int32} {l : Int64} (h : x_chk y pc (.ldc i) nx 0 a b g v l = true) : lw_tbl[b]? = some (.constant (x_nm y).cls i v) := by
  have h : (decide (lw_tbl[b]? = some (.constant (x_nm y).cls i v)) || false) = true := h
  rcases x_or h with h | h
  · exact of_decide_eq_true h
  · cases h
theorem x_ckQ_spec {y pc i nx t a b g : Nat} {v : Int32} {l : Int64} (h : x_chk y pc (.anewarray i) nx t a b g v l = true) : ∃ CC, x_aty a = .object CC ∧ a ∈ x_aks ∧ lw_tbl[b]? = some (.classLink (x_nm y).cls i CC) ∧ CC ∈ x_aos := by
  have h : (match x_aty a with | .object C => decide (a ∈ x_aks) && (decide (lw_tbl[b]? = some (.classLink (x_nm y).cls i C)) && decide (C ∈ x_aos)) | _ => false) = true := h
  cases hty : x_aty a with
  | object C =>
    rw [hty] at h
    obtain ⟨k1, k2⟩ := x_and h
    obtain ⟨k2, k3⟩ := x_and k2
    exact ⟨C, rfl, of_decide_eq_true k1, of_decide_eq_true k2, of_decide_eq_true k3⟩
  | _ => rw [hty] at h; cases h
theorem x_ckN_spec {y pc i nx t a b g : Nat} {v : Int32} {l : Int64} (h : x_chk y pc (.new i) nx t a b g v l = true) : ∃ (c : Nat) (C : String) (T : u_T) (N : Nat), x_cls[c]? = some (C, T, N) ∧ g = 1000 + c ∧ lw_tbl[b]? = some (.classLink (x_nm y).cls i C) := by
  unfold x_chk at h
  dsimp only at h
  cases hc : x_cls[g - 1000]? with
  | none => rw [hc] at h; cases h
  | some q =>
    rw [hc] at h
    obtain ⟨C, T, N⟩ := q
    obtain ⟨k1, k2⟩ := x_and h
    have := Nat.le_of_ble_eq_true k1
    exact ⟨g - 1000, C, T, N, hc, by omega, of_decide_eq_true k2⟩
theorem x_aklt {k : Nat} (h : k ∈ x_aks) : k < 1000 := x_aklts k h
theorem x_akp {k : Nat} (h : k ∈ x_aks) (h2 : x_tcode (x_aty k) ≠ 2) : k < 1000 ∧ x_tcode (x_aty k) ≠ 2 := ⟨x_aklt h, h2⟩
theorem x_tyq (at_ : ArrayType) : x_tcode (newarray.typeOf at_) ≠ 2 := by cases at_ <;> decide
def x_z (k : Nat) : (Nat → Int32) ⊕ (Nat → Int64) ⊕ (Nat → UInt32) ⊕ (Nat → UInt64) ⊕ (Nat → Option Nat) := x_cv (x_tcode (x_aty k)) (fun _ => 0) (fun _ => 0) (fun _ => none)
theorem x_cell0 (cA : ClassId) (ty : FieldType) (N : Nat) (h9 : x_tcode ty ≠ 9) (h2 : x_tcode ty ≠ 2) : vp_cell cA (N, x_cv (x_tcode ty) (fun _ => 0) (fun _ => 0) (fun _ => none)) = arrV cA N (fun _ => defaultValue ty) := by
  cases ty <;> first | rfl | exact absurd rfl h9 | exact absurd rfl h2
theorem x_bytes (ty : FieldType) : componentBytes ty ≤ 8 := by cases ty <;> first | decide | exact (show 4 ≤ 8 by decide)
theorem x_sameA {s : State} {cA cB : ClassId} {ty : FieldType} (h1 : va_RA s cA ty) (h2 : va_RA s cB ty) (hn : x_tcode ty ≠ 2) : cA = cB := by
  cases ty <;> first | exact absurd rfl hn | exact Option.some.inj (h1.symm.trans h2)
theorem x_sameQ {s : State} {cA cB : ClassId} {C : String} (h1 : va_RA s cA (.object C)) (h2 : va_RA s cB (.object C)) : cA = cB := by
  obtain ⟨_, _, _, _, _, h4⟩ := h1
  obtain ⟨_, _, _, _, _, h5⟩ := h2
  exact Option.some.inj (h4.symm.trans h5)
theorem x_RAp {s : State} {cA : ClassId} {ty : FieldType} (h : s.vm.findClass ("[" ++ ty.toString) = some cA) (hn : x_tcode ty ≠ 2) : va_RA s cA ty := by
  cases ty <;> first | exact absurd rfl hn | exact h
theorem x_con0 {G : x_G} {base : Nat} {h : x_H} {k N a : Nat} (hz : ∀ i, h.2.2.1 k a i = 0 ∧ h.2.2.2.1 k a i = 0 ∧ h.2.2.2.2 k a i = none) : x_con G base (x_new h k N) k a = x_z k := by
  unfold x_con x_z
  congr 1
  · funext j; exact (hz j).1
  · funext j; exact (hz j).2.1
  · funext j
    show (h.2.2.2.2 k a j).map _ = none
    rw [(hz j).2.2]
    rfl
def x_oz (c : Nat) : List Value := (List.range (x_fn c)).map (fun j => x_vI (x_tcode (x_fty c j)) 0 0 none)
theorem x_fs0 {c j : Nat} {C : String} {T : u_T} {N : Nat} (hq : x_cls[c]? = some (C, T, N)) (hj : j < N) : defaultValue (x_fty c j) = vp_V (x_oz c) j := by
  have h9 := x_ft9 _ _ hq j hj
  have hlt : j < x_fn c := by rw [x_fn_eq hq]; exact hj
  have e : vp_V (x_oz c) j = x_vI (x_tcode (x_fty c j)) 0 0 none := by
    unfold vp_V x_oz
    rw [List.getD_eq_getElem?_getD, List.getElem?_map, List.getElem?_range hlt]
    rfl
  rw [e]
  revert h9
  generalize x_fty c j = ty
  intro h9
  cases ty <;> first | rfl | exact absurd rfl h9
theorem x_objs0 {G : x_G} {base : Nat} {h : x_H} {a kind len c : Nat} (hz : ∀ k, h.2.2.1 k a 0 = 0 ∧ h.2.2.2.1 k a 0 = 0 ∧ h.2.2.2.2 k a 0 = none) : x_obj G base (x_new h kind len) c a = x_oz c := by
  unfold x_obj x_oz
  apply List.map_congr_left
  intro j _
  show x_vI _ (h.2.2.1 (1000 + 64 * c + j) a 0) (h.2.2.2.1 (1000 + 64 * c + j) a 0) ((h.2.2.2.2 (1000 + 64 * c + j) a 0).map (x_ta G base)) = _
  rw [(hz _).1, (hz _).2.1, (hz _).2.2]
  rfl
theorem x_offs {pc dd x : Int} : ∀ (l : List (Int × Int)), 0 ≤ pc + dd → l.all (fun o => decide (0 ≤ pc + o.2)) = true → 0 ≤ pc + Op.lookupswitch.offset l dd x
  | [], h, _ => h
  | (a, o) :: r, h, hk => by
    rw [List.all_cons] at hk
    obtain ⟨k1, k2⟩ := x_and hk
    rw [Op.lookupswitch.offset_cons]
    split
    · exact of_decide_eq_true k1
    · exact x_offs r h k2
def x_isR : Option FieldType → Bool
  | some (.object _) => true
  | some (.array _) => true
  | _ => false
theorem x_isR_spec {o : Option FieldType} (h : x_isR o = true) : ∃ ty, o = some ty ∧ ((∃ n, ty = .object n) ∨ ∃ t, ty = .array t) := by
  cases o with
  | none => cases h
  | some ty => cases ty <;> first | exact ⟨_, rfl, Or.inl ⟨_, rfl⟩⟩ | exact ⟨_, rfl, Or.inr ⟨_, rfl⟩⟩ | exact absurd h (by simp [x_isR])
theorem x_tas {G : x_G} {base id : Nat} : x_ta G base (1000000 + id) = G.2.2 id := by
  unfold x_ta
  rw [if_neg (by omega), Nat.add_sub_cancel_left]
theorem x_s1 {G : x_G} {base id : Nat} {st : List Value} : (Value.ref (1000000 + id) :: st).map (x_tv G base) = .ref (G.2.2 id) :: st.map (x_tv G base) := by rw [← x_tas (base := base)]; rfl
theorem x_s2 {G : x_G} {base id : Nat} {u : Value} {st : List Value} : (u :: Value.ref (1000000 + id) :: st).map (x_tv G base) = x_tv G base u :: .ref (G.2.2 id) :: st.map (x_tv G base) := by rw [← x_tas (base := base)]; rfl
theorem x_tLw {G : x_G} {base : Nat} {L L1 : x_L} (h : ∀ i u, L1 i = some u → L i = some u) : ∀ i u, x_tL G base L1 i = some u → x_tL G base L i = some u := by
  intro i u hu
  unfold x_tL at hu ⊢
  cases hL : L1 i with
  | none => rw [hL] at hu; cases hu
  | some w => rw [hL] at hu; rw [h i w hL]; exact hu
/-- how a field may be written from here -/
def x_lk (args : Array Value) (s : State) (nm : MethodName) (i b : Nat) (host : String) (T : u_T) (j : Nat) (meth : Method) : Prop :=
  ((T j).2.2.2 = false ∧ (Cond.fieldLink nm.cls i (T j).1 (T j).2.1 (T j).2.2.1).before args s = true) ∨
  ((T j).2.2.2 = true ∧ (Cond.fieldLink nm.cls i (T j).1 (T j).2.1 (T j).2.2.1).before args s = true ∧ meth.name = "<init>" ∧ (T j).1 = nm.cls) ∨
  ((T j).2.2.2 = false ∧ (Cond.fieldLinkNest nm.cls i (T j).1 (T j).2.1 (T j).2.2.1 host).before args s = true)
set_option maxHeartbeats 1000000 in
/-- a field written: the cell, the heap's size, the other cells -/
theorem x_putc {p : Program} {l0 : Launch} {e : Env} {R : Room} {s : State} {m : MethodId} {args : Array Value} {below : List Frame} {meth : Method} {c : Code} {H : Heap} {locs : List Loc} {cells slots : Nat} {Q : State → Prop} {G : x_G} {y i b pc a cc j : Nat} {ls : Array Slot} {rest : List Value} {CC : String} {TT : u_T} {NN : Nat} {fs : List Value} {v : Value} {ty : FieldType}
    (hx : p.tables.exec = Jvm.exec) (hb : c.code = x_by y) (hts : ∀ w ∈ x_U, w.before args s = true) (hown : s.vm.findClass (x_nm y).cls = some m.cls) (hK : va_K G.1 x_cls (x_tys G) s) (hq : x_cls[cc]? = some (CC, TT, NN)) (hj : j < NN) (hd : parseFieldDescriptor (TT j).2.2.1 = some ty) (hn : narrow ty v = v) (hfit : fits ty v = true)
    (hat : va_at G.1 x_cls (a, .inr (cc, fs)) H) (hlen : j < fs.length) (hlk : x_lk args s (x_nm y) i b (x_host y) TT j meth) (hdg : decode (x_by y) pc = .ok (.putfield i, 3))
    (kk : ∀ (H1 : Heap) (sl : Nat), va_at G.1 x_cls (a, .inr (cc, fs.set j v)) H1 → H1.size = H.size → (∀ q : Nat, q ≠ a → H1[q]? = H[q]?) → W p l0 e R s m args below meth c H1 (locs ++ [⟨a, sl⟩]) cells slots Q (F0 m (pc + 3) ls rest)) : W p l0 e R s m args below meth c H locs cells slots Q (F0 m pc ls (v :: .ref a :: rest)) := by
  have hin : ∀ w ∈ u_ws CC TT NN, w ∈ x_U := fun w hw => x_inW (x_lays _ _ hq w hw)
  have hap := va_apart (own := (x_nm y).cls) hts hin (x_fty cc) (x_ftys _ _ hq) (x_fnms _ _ hq) hK hq
  obtain ⟨r, h1, cell, q1, q2, q3, q4⟩ := hat
  cases hq.symm.trans h1
  obtain ⟨hS, hfc, kC, hkC, hkind⟩ := hK.1 cc _ hq
  obtain ⟨cf, kf, fi, f, hi, hsl⟩ := hS j hj
  have hst := (u_facts hfc hkC (u_lays hts hin hj) hi).1
  have key : ∀ H1 : Heap, H1[a]? = some (cell.setSlot f.slot v) → va_at G.1 x_cls (a, .inr (cc, fs.set j v)) H1 := fun H1 e1 => by
    rw [hsl] at e1
    exact ⟨_, hq, t_OB.to (V := updV (vp_V fs) j v) ⟨_, e1, q2, q3, t_set q4 hap hj v⟩ (fun z _ => vp_updV_set hlen v z)⟩
  have hslot : f.slot < cell.slots.size := by rw [hsl]; exact k2_hasslot (q4 j hj)
  have hlay := hts _ (hin _ (u_in_lay hj))
  unfold u_lay at hlay
  rcases hlk with ⟨hf, hl⟩ | ⟨hf, hl, hf1, hf2⟩ | ⟨hf, hl⟩
  · rw [if_neg (by rw [hf]; decide)] at hlay
    have h6 := u_store hfc hkC hkind hlay hi hd hn hfit
    exact W.putK hx hb (f := f) ⟨hown, hl, ⟨_, _, _, hi⟩, hst⟩ (by rw [q2]; exact h6) q1 q3 hslot rfl rfl hdg fun H1 e1 e2 e3 => kk H1 f.slot (key H1 e1) e2 e3
  · rw [if_pos hf] at hlay
    have hcf : m.cls = cf := by
      obtain ⟨_, _, c', _, _, _, -, -, hf', -, -, -, hown2, -⟩ := Cond.laysFinal_spec hlay
      have e1 : c' = cf := by have := hi.symm.trans hf'; simp at this; exact this.1.symm
      rw [hf2] at hown2
      rw [← e1]
      exact Option.some.inj (hown.symm.trans hown2)
    have h6 := u_fits hfc hkC hkind (Or.inr hlay) hi hd hn hfit
    exact W.putFinK hx hb hown hl hi hst hcf hf1 (by rw [q2]; exact h6) q1 q3 hslot rfl rfl hdg fun H1 e1 e2 e3 => kk H1 f.slot (key H1 e1) e2 e3
  · rw [if_neg (by rw [hf]; decide)] at hlay
    have h6 := u_store hfc hkC hkind hlay hi hd hn hfit
    exact va_WputK hx hb (f := f) hown hl hi hst (by rw [q2]; exact h6) q1 q3 hslot rfl rfl hdg fun H1 e1 e2 e3 => kk H1 f.slot (key H1 e1) e2 e3
