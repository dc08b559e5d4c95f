/-! the letters that tell what stands behind a SET -/
def strT (s : Nat) : List Nat := match s with
  | 0 => [77, 73]
  | 1 => [78]
  | 2 => [77]
  | 3 => [78, 77]
  | 4 => []
  | _ => [65]
def strF (f : Nat) : Nat := match f with
  | 0 => 1
  | 1 => 1
  | 2 => 2
  | 3 => 0
  | 4 => 0
  | 5 => 2
  | 6 => 2
  | 7 => 3
  | 8 => 3
  | 9 => 4
  | 10 => 4
  | _ => 5
section
variable {E : x_E} {P : x_Pr} {d rc rs : Nat} {Q : x_Q} {h : x_H}
theorem c_coder (hP : x_closed E P) {s : Nat} (hs : s < 6) (k : Q (some (.int (iI 0))) h) : P 77 d 0 (x_la 0 [.ref (1000026 + s)]) [] h rc rs Q := by
  match s, hs, k with
  | 0, _, k =>
    refine x_gets hP rfl ?_
    show P _ _ _ _ [Value.int (iI 1)] _ _ _ _
    refine z_if_eq hP rfl (by omega) (fun q => absurd q (by decide)) (fun _ => ?_)
    refine x_aload_n hP rfl rfl ?_
    refine x_getO (k := 67) (iz := 26) hP rfl rfl rfl ?_
    show P _ _ _ _ [Value.int (iI 0)] _ _ _ _
    refine x_goto hP rfl ?_
    exact x_nret hP rfl rfl (by decide) k
  | 1, _, k =>
    refine x_gets hP rfl ?_
    show P _ _ _ _ [Value.int (iI 1)] _ _ _ _
    refine z_if_eq hP rfl (by omega) (fun q => absurd q (by decide)) (fun _ => ?_)
    refine x_aload_n hP rfl rfl ?_
    refine x_getO (k := 69) (iz := 27) hP rfl rfl rfl ?_
    show P _ _ _ _ [Value.int (iI 0)] _ _ _ _
    refine x_goto hP rfl ?_
    exact x_nret hP rfl rfl (by decide) k
  | 2, _, k =>
    refine x_gets hP rfl ?_
    show P _ _ _ _ [Value.int (iI 1)] _ _ _ _
    refine z_if_eq hP rfl (by omega) (fun q => absurd q (by decide)) (fun _ => ?_)
    refine x_aload_n hP rfl rfl ?_
    refine x_getO (k := 71) (iz := 28) hP rfl rfl rfl ?_
    show P _ _ _ _ [Value.int (iI 0)] _ _ _ _
    refine x_goto hP rfl ?_
    exact x_nret hP rfl rfl (by decide) k
  | 3, _, k =>
    refine x_gets hP rfl ?_
    show P _ _ _ _ [Value.int (iI 1)] _ _ _ _
    refine z_if_eq hP rfl (by omega) (fun q => absurd q (by decide)) (fun _ => ?_)
    refine x_aload_n hP rfl rfl ?_
    refine x_getO (k := 73) (iz := 29) hP rfl rfl rfl ?_
    show P _ _ _ _ [Value.int (iI 0)] _ _ _ _
    refine x_goto hP rfl ?_
    exact x_nret hP rfl rfl (by decide) k
  | 4, _, k =>
    refine x_gets hP rfl ?_
    show P _ _ _ _ [Value.int (iI 1)] _ _ _ _
    refine z_if_eq hP rfl (by omega) (fun q => absurd q (by decide)) (fun _ => ?_)
    refine x_aload_n hP rfl rfl ?_
    refine x_getO (k := 75) (iz := 30) hP rfl rfl rfl ?_
    show P _ _ _ _ [Value.int (iI 0)] _ _ _ _
    refine x_goto hP rfl ?_
    exact x_nret hP rfl rfl (by decide) k
  | 5, _, k =>
    refine x_gets hP rfl ?_
    show P _ _ _ _ [Value.int (iI 1)] _ _ _ _
    refine z_if_eq hP rfl (by omega) (fun q => absurd q (by decide)) (fun _ => ?_)
    refine x_aload_n hP rfl rfl ?_
    refine x_getO (k := 77) (iz := 31) hP rfl rfl rfl ?_
    show P _ _ _ _ [Value.int (iI 0)] _ _ _ _
    refine x_goto hP rfl ?_
    exact x_nret hP rfl rfl (by decide) k
  | a + 6, ha, _ => exact absurd ha (by omega)
theorem c_isLatin1 (hP : x_closed E P) {s : Nat} (hs : s < 6) (k : Q (some (.int (bI true))) h) : P 79 d 0 (x_la 0 [.ref (1000026 + s)]) [] h rc rs Q := by
  match s, hs, k with
  | 0, _, k =>
    refine x_gets hP rfl ?_
    show P _ _ _ _ [Value.int (iI 1)] _ _ _ _
    refine z_if_eq hP rfl (by omega) (fun q => absurd q (by decide)) (fun _ => ?_)
    refine x_aload_n hP rfl rfl ?_
    refine x_getO (k := 67) (iz := 26) hP rfl rfl rfl ?_
    show P _ _ _ _ [Value.int (iI 0)] _ _ _ _
    refine z_if_ne hP rfl (by omega) (fun q => absurd rfl q) (fun _ => ?_)
    refine x_iconst hP rfl ?_
    refine x_goto hP rfl ?_
    refine x_zret hP rfl rfl (by first | exact Or.inl iI_0 | exact Or.inr iI_1 | exact bI_or _ | assumption) ?_
    exact k
  | 1, _, k =>
    refine x_gets hP rfl ?_
    show P _ _ _ _ [Value.int (iI 1)] _ _ _ _
    refine z_if_eq hP rfl (by omega) (fun q => absurd q (by decide)) (fun _ => ?_)
    refine x_aload_n hP rfl rfl ?_
    refine x_getO (k := 69) (iz := 27) hP rfl rfl rfl ?_
    show P _ _ _ _ [Value.int (iI 0)] _ _ _ _
    refine z_if_ne hP rfl (by omega) (fun q => absurd rfl q) (fun _ => ?_)
    refine x_iconst hP rfl ?_
    refine x_goto hP rfl ?_
    refine x_zret hP rfl rfl (by first | exact Or.inl iI_0 | exact Or.inr iI_1 | exact bI_or _ | assumption) ?_
    exact k
  | 2, _, k =>
    refine x_gets hP rfl ?_
    show P _ _ _ _ [Value.int (iI 1)] _ _ _ _
    refine z_if_eq hP rfl (by omega) (fun q => absurd q (by decide)) (fun _ => ?_)
    refine x_aload_n hP rfl rfl ?_
    refine x_getO (k := 71) (iz := 28) hP rfl rfl rfl ?_
    show P _ _ _ _ [Value.int (iI 0)] _ _ _ _
    refine z_if_ne hP rfl (by omega) (fun q => absurd rfl q) (fun _ => ?_)
    refine x_iconst hP rfl ?_
    refine x_goto hP rfl ?_
    refine x_zret hP rfl rfl (by first | exact Or.inl iI_0 | exact Or.inr iI_1 | exact bI_or _ | assumption) ?_
    exact k
  | 3, _, k =>
    refine x_gets hP rfl ?_
    show P _ _ _ _ [Value.int (iI 1)] _ _ _ _
    refine z_if_eq hP rfl (by omega) (fun q => absurd q (by decide)) (fun _ => ?_)
    refine x_aload_n hP rfl rfl ?_
    refine x_getO (k := 73) (iz := 29) hP rfl rfl rfl ?_
    show P _ _ _ _ [Value.int (iI 0)] _ _ _ _
    refine z_if_ne hP rfl (by omega) (fun q => absurd rfl q) (fun _ => ?_)
    refine x_iconst hP rfl ?_
    refine x_goto hP rfl ?_
    refine x_zret hP rfl rfl (by first | exact Or.inl iI_0 | exact Or.inr iI_1 | exact bI_or _ | assumption) ?_
    exact k
  | 4, _, k =>
    refine x_gets hP rfl ?_
    show P _ _ _ _ [Value.int (iI 1)] _ _ _ _
    refine z_if_eq hP rfl (by omega) (fun q => absurd q (by decide)) (fun _ => ?_)
    refine x_aload_n hP rfl rfl ?_
    refine x_getO (k := 75) (iz := 30) hP rfl rfl rfl ?_
    show P _ _ _ _ [Value.int (iI 0)] _ _ _ _
    refine z_if_ne hP rfl (by omega) (fun q => absurd rfl q) (fun _ => ?_)
    refine x_iconst hP rfl ?_
    refine x_goto hP rfl ?_
    refine x_zret hP rfl rfl (by first | exact Or.inl iI_0 | exact Or.inr iI_1 | exact bI_or _ | assumption) ?_
    exact k
  | 5, _, k =>
    refine x_gets hP rfl ?_
    show P _ _ _ _ [Value.int (iI 1)] _ _ _ _
    refine z_if_eq hP rfl (by omega) (fun q => absurd q (by decide)) (fun _ => ?_)
    refine x_aload_n hP rfl rfl ?_
    refine x_getO (k := 77) (iz := 31) hP rfl rfl rfl ?_
    show P _ _ _ _ [Value.int (iI 0)] _ _ _ _
    refine z_if_ne hP rfl (by omega) (fun q => absurd rfl q) (fun _ => ?_)
    refine x_iconst hP rfl ?_
    refine x_goto hP rfl ?_
    refine x_zret hP rfl rfl (by first | exact Or.inl iI_0 | exact Or.inr iI_1 | exact bI_or _ | assumption) ?_
    exact k
  | a + 6, ha, _ => exact absurd ha (by omega)
theorem c_strLen (hP : x_closed E P) {s : Nat} (hs : s < 6) (k : Q (some (.int (iI (strT s).length))) h) : P 76 (d + 1) 0 (x_la 0 [.ref (1000026 + s)]) [] h rc rs Q := by
  match s, hs, k with
  | 0, _, k =>
    refine x_aload_n hP rfl rfl ?_
    refine x_getO (k := 66) (iz := 26) hP rfl rfl rfl ?_
    show P _ _ _ _ [Value.ref (1000000 + 32)] _ _ _ _
    refine x_alenS (k := 5) (iz := 32) hP rfl rfl ?_
    show P _ _ _ _ [Value.int (iI 2)] _ _ _ _
    refine x_aload_n hP rfl rfl ?_
    refine x_callVs0 (k0 := 21) (iz := 26) hP 0 0 rfl rfl rfl rfl rfl rfl (Nat.zero_le _) (Nat.zero_le _) ?_
    refine c_coder (s := 0) hP (by decide) ?_
    refine x_ishr hP rfl ?_
    show P _ _ _ _ [Value.int (iI 2)] _ _ _ _
    exact x_iret hP rfl rfl k
  | 1, _, k =>
    refine x_aload_n hP rfl rfl ?_
    refine x_getO (k := 68) (iz := 27) hP rfl rfl rfl ?_
    show P _ _ _ _ [Value.ref (1000000 + 33)] _ _ _ _
    refine x_alenS (k := 6) (iz := 33) hP rfl rfl ?_
    show P _ _ _ _ [Value.int (iI 1)] _ _ _ _
    refine x_aload_n hP rfl rfl ?_
    refine x_callVs0 (k0 := 22) (iz := 27) hP 0 0 rfl rfl rfl rfl rfl rfl (Nat.zero_le _) (Nat.zero_le _) ?_
    refine c_coder (s := 1) hP (by decide) ?_
    refine x_ishr hP rfl ?_
    show P _ _ _ _ [Value.int (iI 1)] _ _ _ _
    exact x_iret hP rfl rfl k
  | 2, _, k =>
    refine x_aload_n hP rfl rfl ?_
    refine x_getO (k := 70) (iz := 28) hP rfl rfl rfl ?_
    show P _ _ _ _ [Value.ref (1000000 + 34)] _ _ _ _
    refine x_alenS (k := 7) (iz := 34) hP rfl rfl ?_
    show P _ _ _ _ [Value.int (iI 1)] _ _ _ _
    refine x_aload_n hP rfl rfl ?_
    refine x_callVs0 (k0 := 23) (iz := 28) hP 0 0 rfl rfl rfl rfl rfl rfl (Nat.zero_le _) (Nat.zero_le _) ?_
    refine c_coder (s := 2) hP (by decide) ?_
    refine x_ishr hP rfl ?_
    show P _ _ _ _ [Value.int (iI 1)] _ _ _ _
    exact x_iret hP rfl rfl k
  | 3, _, k =>
    refine x_aload_n hP rfl rfl ?_
    refine x_getO (k := 72) (iz := 29) hP rfl rfl rfl ?_
    show P _ _ _ _ [Value.ref (1000000 + 35)] _ _ _ _
    refine x_alenS (k := 8) (iz := 35) hP rfl rfl ?_
    show P _ _ _ _ [Value.int (iI 2)] _ _ _ _
    refine x_aload_n hP rfl rfl ?_
    refine x_callVs0 (k0 := 24) (iz := 29) hP 0 0 rfl rfl rfl rfl rfl rfl (Nat.zero_le _) (Nat.zero_le _) ?_
    refine c_coder (s := 3) hP (by decide) ?_
    refine x_ishr hP rfl ?_
    show P _ _ _ _ [Value.int (iI 2)] _ _ _ _
    exact x_iret hP rfl rfl k
  | 4, _, k =>
    refine x_aload_n hP rfl rfl ?_
    refine x_getO (k := 74) (iz := 30) hP rfl rfl rfl ?_
    show P _ _ _ _ [Value.ref (1000000 + 36)] _ _ _ _
    refine x_alenS (k := 9) (iz := 36) hP rfl rfl ?_
    show P _ _ _ _ [Value.int (iI 0)] _ _ _ _
    refine x_aload_n hP rfl rfl ?_
    refine x_callVs0 (k0 := 25) (iz := 30) hP 0 0 rfl rfl rfl rfl rfl rfl (Nat.zero_le _) (Nat.zero_le _) ?_
    refine c_coder (s := 4) hP (by decide) ?_
    refine x_ishr hP rfl ?_
    show P _ _ _ _ [Value.int (iI 0)] _ _ _ _
    exact x_iret hP rfl rfl k
  | 5, _, k =>
    refine x_aload_n hP rfl rfl ?_
    refine x_getO (k := 76) (iz := 31) hP rfl rfl rfl ?_
    show P _ _ _ _ [Value.ref (1000000 + 37)] _ _ _ _
    refine x_alenS (k := 10) (iz := 37) hP rfl rfl ?_
    show P _ _ _ _ [Value.int (iI 1)] _ _ _ _
    refine x_aload_n hP rfl rfl ?_
    refine x_callVs0 (k0 := 26) (iz := 31) hP 0 0 rfl rfl rfl rfl rfl rfl (Nat.zero_le _) (Nat.zero_le _) ?_
    refine c_coder (s := 5) hP (by decide) ?_
    refine x_ishr hP rfl ?_
    show P _ _ _ _ [Value.int (iI 1)] _ _ _ _
    exact x_iret hP rfl rfl k
  | a + 6, ha, _ => exact absurd ha (by omega)
theorem c_preIdx (hP : x_closed E P) {i m : Nat} (hi : i < m) (hm : m < 1000) {u : Value} (k : Q (some (.int (iI i))) h) : P 82 d 0 (x_la 0 [.int (iI i), .int (iI m), u]) [] h rc rs Q := by
  refine x_iload_n hP rfl rfl ?_
  refine z_if_lt hP rfl (by omega) (fun c1 => ?_) (fun c1 => ?_)
  · omega
  refine x_iload_n hP rfl rfl ?_
  refine x_iload_n hP rfl rfl ?_
  refine z_icmp_lt hP rfl (by omega) (by omega) (fun c6 => ?_) (fun c6 => ?_)
  · refine x_iload_n hP rfl rfl ?_
    refine x_iret hP rfl rfl ?_
    exact k
  · omega
theorem c_chkIdx (hP : x_closed E P) (hE : x_is2 (some E.2.2) = false) {i m : Nat} (hi : i < m) (hm : m < 1000) (k : Q none h) : P 81 (d + 1) 0 (x_la 0 [.int (iI i), .int (iI m)]) [] h rc rs Q := by
  refine x_iload_n hP rfl rfl ?_
  refine x_iload_n hP rfl rfl ?_
  refine x_gets hP rfl ?_
  show P _ _ _ _ (E.2.2 :: _) _ _ _ _
  refine x_callS3 hP 0 0 rfl rfl rfl rfl (by show Nat.ble (1 + (1 + ((bif x_is2 (some E.2.2) then 2 else 1) + 0))) _ = true; rw [hE]; rfl) (Nat.zero_le _) (Nat.zero_le _) ?_
  refine c_preIdx hP hi hm ?_
  refine x_pop hP rfl rfl ?_
  refine x_vret hP rfl rfl ?_
  exact k
theorem c_chr0_0 (hP : x_closed E P) (hE : x_is2 (some E.2.2) = false) (k : Q (some (.int (iI 77))) h) : P 78 (d + 3) 0 (x_la 0 [.ref (1000026 + 0), .int (iI (0 : Nat))]) [] h rc rs Q := by
  refine x_aload_n hP rfl rfl ?_
  refine x_callVs0 (k0 := 21) (iz := 26) hP 0 0 rfl rfl rfl rfl rfl rfl (Nat.zero_le _) (Nat.zero_le _) ?_
  refine c_isLatin1 (s := 0) hP (by decide) ?_
  refine zb_if_eq hP rfl (fun q => by cases q) (fun _ => ?_)
  refine x_aload_n hP rfl rfl ?_
  refine x_getO (k := 66) (iz := 26) hP rfl rfl rfl ?_
  show P _ _ _ _ [Value.ref (1000000 + 32)] _ _ _ _
  refine x_iload_n hP rfl rfl ?_
  refine x_callS2 hP 0 0 rfl rfl rfl rfl rfl (Nat.zero_le _) (Nat.zero_le _) ?_
  refine x_iload_n hP rfl rfl ?_
  refine x_aload_n hP rfl rfl ?_
  refine x_alenS (k := 5) (iz := 32) hP rfl rfl ?_
  show P _ _ _ _ [Value.int (iI (2 : Nat)), _] _ _ _ _
  refine x_callS2 hP 0 0 rfl rfl rfl rfl rfl (Nat.zero_le _) (Nat.zero_le _) ?_
  refine c_chkIdx hP hE (by decide) (by decide) ?_
  refine x_aload_n hP rfl rfl ?_
  refine x_iload_n hP rfl rfl ?_
  refine x_baldS (k := 5) (iz := 32) hP rfl rfl (show ¬ (iI (0 : Nat) < 0 ∨ 2 ≤ (iI (0 : Nat)).toNatClampNeg) by decide) (x := .int (iI 77)) rfl ?_
  refine x_sipush hP rfl ?_
  refine x_iand hP rfl ?_
  refine x_i2c hP rfl ?_
  show P _ _ _ _ [Value.int (iI 77)] _ _ _ _
  refine x_nret hP rfl rfl (by decide) ?_
  exact x_nret hP rfl rfl (by decide) k
theorem c_chr0_1 (hP : x_closed E P) (hE : x_is2 (some E.2.2) = false) (k : Q (some (.int (iI 73))) h) : P 78 (d + 3) 0 (x_la 0 [.ref (1000026 + 0), .int (iI (1 : Nat))]) [] h rc rs Q := by
  refine x_aload_n hP rfl rfl ?_
  refine x_callVs0 (k0 := 21) (iz := 26) hP 0 0 rfl rfl rfl rfl rfl rfl (Nat.zero_le _) (Nat.zero_le _) ?_
  refine c_isLatin1 (s := 0) hP (by decide) ?_
  refine zb_if_eq hP rfl (fun q => by cases q) (fun _ => ?_)
  refine x_aload_n hP rfl rfl ?_
  refine x_getO (k := 66) (iz := 26) hP rfl rfl rfl ?_
  show P _ _ _ _ [Value.ref (1000000 + 32)] _ _ _ _
  refine x_iload_n hP rfl rfl ?_
  refine x_callS2 hP 0 0 rfl rfl rfl rfl rfl (Nat.zero_le _) (Nat.zero_le _) ?_
  refine x_iload_n hP rfl rfl ?_
  refine x_aload_n hP rfl rfl ?_
  refine x_alenS (k := 5) (iz := 32) hP rfl rfl ?_
  show P _ _ _ _ [Value.int (iI (2 : Nat)), _] _ _ _ _
  refine x_callS2 hP 0 0 rfl rfl rfl rfl rfl (Nat.zero_le _) (Nat.zero_le _) ?_
  refine c_chkIdx hP hE (by decide) (by decide) ?_
  refine x_aload_n hP rfl rfl ?_
  refine x_iload_n hP rfl rfl ?_
  refine x_baldS (k := 5) (iz := 32) hP rfl rfl (show ¬ (iI (1 : Nat) < 0 ∨ 2 ≤ (iI (1 : Nat)).toNatClampNeg) by decide) (x := .int (iI 73)) rfl ?_
  refine x_sipush hP rfl ?_
  refine x_iand hP rfl ?_
  refine x_i2c hP rfl ?_
  show P _ _ _ _ [Value.int (iI 73)] _ _ _ _
  refine x_nret hP rfl rfl (by decide) ?_
  exact x_nret hP rfl rfl (by decide) k
theorem c_chr1_0 (hP : x_closed E P) (hE : x_is2 (some E.2.2) = false) (k : Q (some (.int (iI 78))) h) : P 78 (d + 3) 0 (x_la 0 [.ref (1000026 + 1), .int (iI (0 : Nat))]) [] h rc rs Q := by
  refine x_aload_n hP rfl rfl ?_
  refine x_callVs0 (k0 := 22) (iz := 27) hP 0 0 rfl rfl rfl rfl rfl rfl (Nat.zero_le _) (Nat.zero_le _) ?_
  refine c_isLatin1 (s := 1) hP (by decide) ?_
  refine zb_if_eq hP rfl (fun q => by cases q) (fun _ => ?_)
  refine x_aload_n hP rfl rfl ?_
  refine x_getO (k := 68) (iz := 27) hP rfl rfl rfl ?_
  show P _ _ _ _ [Value.ref (1000000 + 33)] _ _ _ _
  refine x_iload_n hP rfl rfl ?_
  refine x_callS2 hP 0 0 rfl rfl rfl rfl rfl (Nat.zero_le _) (Nat.zero_le _) ?_
  refine x_iload_n hP rfl rfl ?_
  refine x_aload_n hP rfl rfl ?_
  refine x_alenS (k := 6) (iz := 33) hP rfl rfl ?_
  show P _ _ _ _ [Value.int (iI (1 : Nat)), _] _ _ _ _
  refine x_callS2 hP 0 0 rfl rfl rfl rfl rfl (Nat.zero_le _) (Nat.zero_le _) ?_
  refine c_chkIdx hP hE (by decide) (by decide) ?_
  refine x_aload_n hP rfl rfl ?_
  refine x_iload_n hP rfl rfl ?_
  refine x_baldS (k := 6) (iz := 33) hP rfl rfl (show ¬ (iI (0 : Nat) < 0 ∨ 1 ≤ (iI (0 : Nat)).toNatClampNeg) by decide) (x := .int (iI 78)) rfl ?_
  refine x_sipush hP rfl ?_
  refine x_iand hP rfl ?_
  refine x_i2c hP rfl ?_
  show P _ _ _ _ [Value.int (iI 78)] _ _ _ _
  refine x_nret hP rfl rfl (by decide) ?_
  exact x_nret hP rfl rfl (by decide) k
theorem c_chr2_0 (hP : x_closed E P) (hE : x_is2 (some E.2.2) = false) (k : Q (some (.int (iI 77))) h) : P 78 (d + 3) 0 (x_la 0 [.ref (1000026 + 2), .int (iI (0 : Nat))]) [] h rc rs Q := by
  refine x_aload_n hP rfl rfl ?_
  refine x_callVs0 (k0 := 23) (iz := 28) hP 0 0 rfl rfl rfl rfl rfl rfl (Nat.zero_le _) (Nat.zero_le _) ?_
  refine c_isLatin1 (s := 2) hP (by decide) ?_
  refine zb_if_eq hP rfl (fun q => by cases q) (fun _ => ?_)
  refine x_aload_n hP rfl rfl ?_
  refine x_getO (k := 70) (iz := 28) hP rfl rfl rfl ?_
  show P _ _ _ _ [Value.ref (1000000 + 34)] _ _ _ _
  refine x_iload_n hP rfl rfl ?_
  refine x_callS2 hP 0 0 rfl rfl rfl rfl rfl (Nat.zero_le _) (Nat.zero_le _) ?_
  refine x_iload_n hP rfl rfl ?_
  refine x_aload_n hP rfl rfl ?_
  refine x_alenS (k := 7) (iz := 34) hP rfl rfl ?_
  show P _ _ _ _ [Value.int (iI (1 : Nat)), _] _ _ _ _
  refine x_callS2 hP 0 0 rfl rfl rfl rfl rfl (Nat.zero_le _) (Nat.zero_le _) ?_
  refine c_chkIdx hP hE (by decide) (by decide) ?_
  refine x_aload_n hP rfl rfl ?_
  refine x_iload_n hP rfl rfl ?_
  refine x_baldS (k := 7) (iz := 34) hP rfl rfl (show ¬ (iI (0 : Nat) < 0 ∨ 1 ≤ (iI (0 : Nat)).toNatClampNeg) by decide) (x := .int (iI 77)) rfl ?_
  refine x_sipush hP rfl ?_
  refine x_iand hP rfl ?_
  refine x_i2c hP rfl ?_
  show P _ _ _ _ [Value.int (iI 77)] _ _ _ _
  refine x_nret hP rfl rfl (by decide) ?_
  exact x_nret hP rfl rfl (by decide) k
theorem c_chr3_0 (hP : x_closed E P) (hE : x_is2 (some E.2.2) = false) (k : Q (some (.int (iI 78))) h) : P 78 (d + 3) 0 (x_la 0 [.ref (1000026 + 3), .int (iI (0 : Nat))]) [] h rc rs Q := by
  refine x_aload_n hP rfl rfl ?_
  refine x_callVs0 (k0 := 24) (iz := 29) hP 0 0 rfl rfl rfl rfl rfl rfl (Nat.zero_le _) (Nat.zero_le _) ?_
  refine c_isLatin1 (s := 3) hP (by decide) ?_
  refine zb_if_eq hP rfl (fun q => by cases q) (fun _ => ?_)
  refine x_aload_n hP rfl rfl ?_
  refine x_getO (k := 72) (iz := 29) hP rfl rfl rfl ?_
  show P _ _ _ _ [Value.ref (1000000 + 35)] _ _ _ _
  refine x_iload_n hP rfl rfl ?_
  refine x_callS2 hP 0 0 rfl rfl rfl rfl rfl (Nat.zero_le _) (Nat.zero_le _) ?_
  refine x_iload_n hP rfl rfl ?_
  refine x_aload_n hP rfl rfl ?_
  refine x_alenS (k := 8) (iz := 35) hP rfl rfl ?_
  show P _ _ _ _ [Value.int (iI (2 : Nat)), _] _ _ _ _
  refine x_callS2 hP 0 0 rfl rfl rfl rfl rfl (Nat.zero_le _) (Nat.zero_le _) ?_
  refine c_chkIdx hP hE (by decide) (by decide) ?_
  refine x_aload_n hP rfl rfl ?_
  refine x_iload_n hP rfl rfl ?_
  refine x_baldS (k := 8) (iz := 35) hP rfl rfl (show ¬ (iI (0 : Nat) < 0 ∨ 2 ≤ (iI (0 : Nat)).toNatClampNeg) by decide) (x := .int (iI 78)) rfl ?_
  refine x_sipush hP rfl ?_
  refine x_iand hP rfl ?_
  refine x_i2c hP rfl ?_
  show P _ _ _ _ [Value.int (iI 78)] _ _ _ _
  refine x_nret hP rfl rfl (by decide) ?_
  exact x_nret hP rfl rfl (by decide) k
theorem c_chr3_1 (hP : x_closed E P) (hE : x_is2 (some E.2.2) = false) (k : Q (some (.int (iI 77))) h) : P 78 (d + 3) 0 (x_la 0 [.ref (1000026 + 3), .int (iI (1 : Nat))]) [] h rc rs Q := by
  refine x_aload_n hP rfl rfl ?_
  refine x_callVs0 (k0 := 24) (iz := 29) hP 0 0 rfl rfl rfl rfl rfl rfl (Nat.zero_le _) (Nat.zero_le _) ?_
  refine c_isLatin1 (s := 3) hP (by decide) ?_
  refine zb_if_eq hP rfl (fun q => by cases q) (fun _ => ?_)
  refine x_aload_n hP rfl rfl ?_
  refine x_getO (k := 72) (iz := 29) hP rfl rfl rfl ?_
  show P _ _ _ _ [Value.ref (1000000 + 35)] _ _ _ _
  refine x_iload_n hP rfl rfl ?_
  refine x_callS2 hP 0 0 rfl rfl rfl rfl rfl (Nat.zero_le _) (Nat.zero_le _) ?_
  refine x_iload_n hP rfl rfl ?_
  refine x_aload_n hP rfl rfl ?_
  refine x_alenS (k := 8) (iz := 35) hP rfl rfl ?_
  show P _ _ _ _ [Value.int (iI (2 : Nat)), _] _ _ _ _
  refine x_callS2 hP 0 0 rfl rfl rfl rfl rfl (Nat.zero_le _) (Nat.zero_le _) ?_
  refine c_chkIdx hP hE (by decide) (by decide) ?_
  refine x_aload_n hP rfl rfl ?_
  refine x_iload_n hP rfl rfl ?_
  refine x_baldS (k := 8) (iz := 35) hP rfl rfl (show ¬ (iI (1 : Nat) < 0 ∨ 2 ≤ (iI (1 : Nat)).toNatClampNeg) by decide) (x := .int (iI 77)) rfl ?_
  refine x_sipush hP rfl ?_
  refine x_iand hP rfl ?_
  refine x_i2c hP rfl ?_
  show P _ _ _ _ [Value.int (iI 77)] _ _ _ _
  refine x_nret hP rfl rfl (by decide) ?_
  exact x_nret hP rfl rfl (by decide) k
theorem c_chr5_0 (hP : x_closed E P) (hE : x_is2 (some E.2.2) = false) (k : Q (some (.int (iI 65))) h) : P 78 (d + 3) 0 (x_la 0 [.ref (1000026 + 5), .int (iI (0 : Nat))]) [] h rc rs Q := by
  refine x_aload_n hP rfl rfl ?_
  refine x_callVs0 (k0 := 26) (iz := 31) hP 0 0 rfl rfl rfl rfl rfl rfl (Nat.zero_le _) (Nat.zero_le _) ?_
  refine c_isLatin1 (s := 5) hP (by decide) ?_
  refine zb_if_eq hP rfl (fun q => by cases q) (fun _ => ?_)
  refine x_aload_n hP rfl rfl ?_
  refine x_getO (k := 76) (iz := 31) hP rfl rfl rfl ?_
  show P _ _ _ _ [Value.ref (1000000 + 37)] _ _ _ _
  refine x_iload_n hP rfl rfl ?_
  refine x_callS2 hP 0 0 rfl rfl rfl rfl rfl (Nat.zero_le _) (Nat.zero_le _) ?_
  refine x_iload_n hP rfl rfl ?_
  refine x_aload_n hP rfl rfl ?_
  refine x_alenS (k := 10) (iz := 37) hP rfl rfl ?_
  show P _ _ _ _ [Value.int (iI (1 : Nat)), _] _ _ _ _
  refine x_callS2 hP 0 0 rfl rfl rfl rfl rfl (Nat.zero_le _) (Nat.zero_le _) ?_
  refine c_chkIdx hP hE (by decide) (by decide) ?_
  refine x_aload_n hP rfl rfl ?_
  refine x_iload_n hP rfl rfl ?_
  refine x_baldS (k := 10) (iz := 37) hP rfl rfl (show ¬ (iI (0 : Nat) < 0 ∨ 1 ≤ (iI (0 : Nat)).toNatClampNeg) by decide) (x := .int (iI 65)) rfl ?_
  refine x_sipush hP rfl ?_
  refine x_iand hP rfl ?_
  refine x_i2c hP rfl ?_
  show P _ _ _ _ [Value.int (iI 65)] _ _ _ _
  refine x_nret hP rfl rfl (by decide) ?_
  exact x_nret hP rfl rfl (by decide) k
theorem c_rtLen (hP : x_closed E P) {f : Nat} (hf : f < 12) {L : x_L} (hL : L 1 = some (.ref (1000001 + f))) {i : Nat} (k : ∀ r1 r2, P 75 (d + 2) 16 L [.int (iI (thg f).length), .int (iI i)] h r1 r2 Q) : P 75 (d + 2) 9 L [.int (iI i)] h rc rs Q := by
  match f, hf, hL, k with
  | 0, _, hL, k =>
    refine x_aload_n hP rfl hL ?_
    refine x_getO (k := 2) (iz := 1) hP rfl rfl rfl ?_
    show P _ _ _ _ [Value.ref (1000000 + 27), _] _ _ _ _
    refine x_callVs0 (k0 := 22) (iz := 27) hP 0 0 rfl rfl rfl rfl rfl rfl (Nat.zero_le _) (Nat.zero_le _) ?_
    refine c_strLen (s := 1) hP (by decide) ?_
    exact k _ _
  | 1, _, hL, k =>
    refine x_aload_n hP rfl hL ?_
    refine x_getO (k := 6) (iz := 2) hP rfl rfl rfl ?_
    show P _ _ _ _ [Value.ref (1000000 + 27), _] _ _ _ _
    refine x_callVs0 (k0 := 22) (iz := 27) hP 0 0 rfl rfl rfl rfl rfl rfl (Nat.zero_le _) (Nat.zero_le _) ?_
    refine c_strLen (s := 1) hP (by decide) ?_
    exact k _ _
  | 2, _, hL, k =>
    refine x_aload_n hP rfl hL ?_
    refine x_getO (k := 10) (iz := 3) hP rfl rfl rfl ?_
    show P _ _ _ _ [Value.ref (1000000 + 28), _] _ _ _ _
    refine x_callVs0 (k0 := 23) (iz := 28) hP 0 0 rfl rfl rfl rfl rfl rfl (Nat.zero_le _) (Nat.zero_le _) ?_
    refine c_strLen (s := 2) hP (by decide) ?_
    exact k _ _
  | 3, _, hL, k =>
    refine x_aload_n hP rfl hL ?_
    refine x_getO (k := 14) (iz := 4) hP rfl rfl rfl ?_
    show P _ _ _ _ [Value.ref (1000000 + 26), _] _ _ _ _
    refine x_callVs0 (k0 := 21) (iz := 26) hP 0 0 rfl rfl rfl rfl rfl rfl (Nat.zero_le _) (Nat.zero_le _) ?_
    refine c_strLen (s := 0) hP (by decide) ?_
    exact k _ _
  | 4, _, hL, k =>
    refine x_aload_n hP rfl hL ?_
    refine x_getO (k := 18) (iz := 5) hP rfl rfl rfl ?_
    show P _ _ _ _ [Value.ref (1000000 + 26), _] _ _ _ _
    refine x_callVs0 (k0 := 21) (iz := 26) hP 0 0 rfl rfl rfl rfl rfl rfl (Nat.zero_le _) (Nat.zero_le _) ?_
    refine c_strLen (s := 0) hP (by decide) ?_
    exact k _ _
  | 5, _, hL, k =>
    refine x_aload_n hP rfl hL ?_
    refine x_getO (k := 22) (iz := 6) hP rfl rfl rfl ?_
    show P _ _ _ _ [Value.ref (1000000 + 28), _] _ _ _ _
    refine x_callVs0 (k0 := 23) (iz := 28) hP 0 0 rfl rfl rfl rfl rfl rfl (Nat.zero_le _) (Nat.zero_le _) ?_
    refine c_strLen (s := 2) hP (by decide) ?_
    exact k _ _
  | 6, _, hL, k =>
    refine x_aload_n hP rfl hL ?_
    refine x_getO (k := 26) (iz := 7) hP rfl rfl rfl ?_
    show P _ _ _ _ [Value.ref (1000000 + 28), _] _ _ _ _
    refine x_callVs0 (k0 := 23) (iz := 28) hP 0 0 rfl rfl rfl rfl rfl rfl (Nat.zero_le _) (Nat.zero_le _) ?_
    refine c_strLen (s := 2) hP (by decide) ?_
    exact k _ _
  | 7, _, hL, k =>
    refine x_aload_n hP rfl hL ?_
    refine x_getO (k := 30) (iz := 8) hP rfl rfl rfl ?_
    show P _ _ _ _ [Value.ref (1000000 + 29), _] _ _ _ _
    refine x_callVs0 (k0 := 24) (iz := 29) hP 0 0 rfl rfl rfl rfl rfl rfl (Nat.zero_le _) (Nat.zero_le _) ?_
    refine c_strLen (s := 3) hP (by decide) ?_
    exact k _ _
  | 8, _, hL, k =>
    refine x_aload_n hP rfl hL ?_
    refine x_getO (k := 34) (iz := 9) hP rfl rfl rfl ?_
    show P _ _ _ _ [Value.ref (1000000 + 29), _] _ _ _ _
    refine x_callVs0 (k0 := 24) (iz := 29) hP 0 0 rfl rfl rfl rfl rfl rfl (Nat.zero_le _) (Nat.zero_le _) ?_
    refine c_strLen (s := 3) hP (by decide) ?_
    exact k _ _
  | 9, _, hL, k =>
    refine x_aload_n hP rfl hL ?_
    refine x_getO (k := 38) (iz := 10) hP rfl rfl rfl ?_
    show P _ _ _ _ [Value.ref (1000000 + 30), _] _ _ _ _
    refine x_callVs0 (k0 := 25) (iz := 30) hP 0 0 rfl rfl rfl rfl rfl rfl (Nat.zero_le _) (Nat.zero_le _) ?_
    refine c_strLen (s := 4) hP (by decide) ?_
    exact k _ _
  | 10, _, hL, k =>
    refine x_aload_n hP rfl hL ?_
    refine x_getO (k := 42) (iz := 11) hP rfl rfl rfl ?_
    show P _ _ _ _ [Value.ref (1000000 + 30), _] _ _ _ _
    refine x_callVs0 (k0 := 25) (iz := 30) hP 0 0 rfl rfl rfl rfl rfl rfl (Nat.zero_le _) (Nat.zero_le _) ?_
    refine c_strLen (s := 4) hP (by decide) ?_
    exact k _ _
  | 11, _, hL, k =>
    refine x_aload_n hP rfl hL ?_
    refine x_getO (k := 46) (iz := 12) hP rfl rfl rfl ?_
    show P _ _ _ _ [Value.ref (1000000 + 31), _] _ _ _ _
    refine x_callVs0 (k0 := 26) (iz := 31) hP 0 0 rfl rfl rfl rfl rfl rfl (Nat.zero_le _) (Nat.zero_le _) ?_
    refine c_strLen (s := 5) hP (by decide) ?_
    exact k _ _
  | f + 12, hf, _, _ => exact absurd hf (by omega)
theorem c_rtChr (hP : x_closed E P) (hE : x_is2 (some E.2.2) = false) {f : Nat} (hf : f < 12) {L : x_L} (hL : L 1 = some (.ref (1000001 + f))) {i : Nat} (hL3 : L 3 = some (.int (iI i))) (hi : i < (thg f).length) (k : ∀ r1 r2, P 75 (d + 4) 41 L [.int (iI ((thg f).getD i 0))] h r1 r2 Q) : P 75 (d + 4) 33 L [] h rc rs Q := by
  match f, i, hf, hL, hL3, hi, k with
  | 0, 0, _, hL, hL3, _, k =>
    refine x_aload_n hP rfl hL ?_
    refine x_getO (k := 2) (iz := 1) hP rfl rfl rfl ?_
    show P _ _ _ _ [Value.ref (1000000 + 27)] _ _ _ _
    refine x_iload_n hP rfl hL3 ?_
    refine x_callVs1 (k0 := 22) (iz := 27) hP 0 0 rfl rfl rfl rfl rfl rfl (Nat.zero_le _) (Nat.zero_le _) ?_
    refine c_chr1_0 hP hE ?_
    exact k _ _
  | 0, i + 1, _, _, _, hi, _ => exact absurd hi (by show ¬ i + 1 < 1; omega)
  | 1, 0, _, hL, hL3, _, k =>
    refine x_aload_n hP rfl hL ?_
    refine x_getO (k := 6) (iz := 2) hP rfl rfl rfl ?_
    show P _ _ _ _ [Value.ref (1000000 + 27)] _ _ _ _
    refine x_iload_n hP rfl hL3 ?_
    refine x_callVs1 (k0 := 22) (iz := 27) hP 0 0 rfl rfl rfl rfl rfl rfl (Nat.zero_le _) (Nat.zero_le _) ?_
    refine c_chr1_0 hP hE ?_
    exact k _ _
  | 1, i + 1, _, _, _, hi, _ => exact absurd hi (by show ¬ i + 1 < 1; omega)
  | 2, 0, _, hL, hL3, _, k =>
    refine x_aload_n hP rfl hL ?_
    refine x_getO (k := 10) (iz := 3) hP rfl rfl rfl ?_
    show P _ _ _ _ [Value.ref (1000000 + 28)] _ _ _ _
    refine x_iload_n hP rfl hL3 ?_
    refine x_callVs1 (k0 := 23) (iz := 28) hP 0 0 rfl rfl rfl rfl rfl rfl (Nat.zero_le _) (Nat.zero_le _) ?_
    refine c_chr2_0 hP hE ?_
    exact k _ _
  | 2, i + 1, _, _, _, hi, _ => exact absurd hi (by show ¬ i + 1 < 1; omega)
  | 3, 0, _, hL, hL3, _, k =>
    refine x_aload_n hP rfl hL ?_
    refine x_getO (k := 14) (iz := 4) hP rfl rfl rfl ?_
    show P _ _ _ _ [Value.ref (1000000 + 26)] _ _ _ _
    refine x_iload_n hP rfl hL3 ?_
    refine x_callVs1 (k0 := 21) (iz := 26) hP 0 0 rfl rfl rfl rfl rfl rfl (Nat.zero_le _) (Nat.zero_le _) ?_
    refine c_chr0_0 hP hE ?_
    exact k _ _
  | 3, 1, _, hL, hL3, _, k =>
    refine x_aload_n hP rfl hL ?_
    refine x_getO (k := 14) (iz := 4) hP rfl rfl rfl ?_
    show P _ _ _ _ [Value.ref (1000000 + 26)] _ _ _ _
    refine x_iload_n hP rfl hL3 ?_
    refine x_callVs1 (k0 := 21) (iz := 26) hP 0 0 rfl rfl rfl rfl rfl rfl (Nat.zero_le _) (Nat.zero_le _) ?_
    refine c_chr0_1 hP hE ?_
    exact k _ _
  | 3, i + 2, _, _, _, hi, _ => exact absurd hi (by show ¬ i + 2 < 2; omega)
  | 4, 0, _, hL, hL3, _, k =>
    refine x_aload_n hP rfl hL ?_
    refine x_getO (k := 18) (iz := 5) hP rfl rfl rfl ?_
    show P _ _ _ _ [Value.ref (1000000 + 26)] _ _ _ _
    refine x_iload_n hP rfl hL3 ?_
    refine x_callVs1 (k0 := 21) (iz := 26) hP 0 0 rfl rfl rfl rfl rfl rfl (Nat.zero_le _) (Nat.zero_le _) ?_
    refine c_chr0_0 hP hE ?_
    exact k _ _
  | 4, 1, _, hL, hL3, _, k =>
    refine x_aload_n hP rfl hL ?_
    refine x_getO (k := 18) (iz := 5) hP rfl rfl rfl ?_
    show P _ _ _ _ [Value.ref (1000000 + 26)] _ _ _ _
    refine x_iload_n hP rfl hL3 ?_
    refine x_callVs1 (k0 := 21) (iz := 26) hP 0 0 rfl rfl rfl rfl rfl rfl (Nat.zero_le _) (Nat.zero_le _) ?_
    refine c_chr0_1 hP hE ?_
    exact k _ _
  | 4, i + 2, _, _, _, hi, _ => exact absurd hi (by show ¬ i + 2 < 2; omega)
  | 5, 0, _, hL, hL3, _, k =>
    refine x_aload_n hP rfl hL ?_
    refine x_getO (k := 22) (iz := 6) hP rfl rfl rfl ?_
    show P _ _ _ _ [Value.ref (1000000 + 28)] _ _ _ _
    refine x_iload_n hP rfl hL3 ?_
    refine x_callVs1 (k0 := 23) (iz := 28) hP 0 0 rfl rfl rfl rfl rfl rfl (Nat.zero_le _) (Nat.zero_le _) ?_
    refine c_chr2_0 hP hE ?_
    exact k _ _
  | 5, i + 1, _, _, _, hi, _ => exact absurd hi (by show ¬ i + 1 < 1; omega)
  | 6, 0, _, hL, hL3, _, k =>
    refine x_aload_n hP rfl hL ?_
    refine x_getO (k := 26) (iz := 7) hP rfl rfl rfl ?_
    show P _ _ _ _ [Value.ref (1000000 + 28)] _ _ _ _
    refine x_iload_n hP rfl hL3 ?_
    refine x_callVs1 (k0 := 23) (iz := 28) hP 0 0 rfl rfl rfl rfl rfl rfl (Nat.zero_le _) (Nat.zero_le _) ?_
    refine c_chr2_0 hP hE ?_
    exact k _ _
  | 6, i + 1, _, _, _, hi, _ => exact absurd hi (by show ¬ i + 1 < 1; omega)
  | 7, 0, _, hL, hL3, _, k =>
    refine x_aload_n hP rfl hL ?_
    refine x_getO (k := 30) (iz := 8) hP rfl rfl rfl ?_
    show P _ _ _ _ [Value.ref (1000000 + 29)] _ _ _ _
    refine x_iload_n hP rfl hL3 ?_
    refine x_callVs1 (k0 := 24) (iz := 29) hP 0 0 rfl rfl rfl rfl rfl rfl (Nat.zero_le _) (Nat.zero_le _) ?_
    refine c_chr3_0 hP hE ?_
    exact k _ _
  | 7, 1, _, hL, hL3, _, k =>
    refine x_aload_n hP rfl hL ?_
    refine x_getO (k := 30) (iz := 8) hP rfl rfl rfl ?_
    show P _ _ _ _ [Value.ref (1000000 + 29)] _ _ _ _
    refine x_iload_n hP rfl hL3 ?_
    refine x_callVs1 (k0 := 24) (iz := 29) hP 0 0 rfl rfl rfl rfl rfl rfl (Nat.zero_le _) (Nat.zero_le _) ?_
    refine c_chr3_1 hP hE ?_
    exact k _ _
  | 7, i + 2, _, _, _, hi, _ => exact absurd hi (by show ¬ i + 2 < 2; omega)
  | 8, 0, _, hL, hL3, _, k =>
    refine x_aload_n hP rfl hL ?_
    refine x_getO (k := 34) (iz := 9) hP rfl rfl rfl ?_
    show P _ _ _ _ [Value.ref (1000000 + 29)] _ _ _ _
    refine x_iload_n hP rfl hL3 ?_
    refine x_callVs1 (k0 := 24) (iz := 29) hP 0 0 rfl rfl rfl rfl rfl rfl (Nat.zero_le _) (Nat.zero_le _) ?_
    refine c_chr3_0 hP hE ?_
    exact k _ _
  | 8, 1, _, hL, hL3, _, k =>
    refine x_aload_n hP rfl hL ?_
    refine x_getO (k := 34) (iz := 9) hP rfl rfl rfl ?_
    show P _ _ _ _ [Value.ref (1000000 + 29)] _ _ _ _
    refine x_iload_n hP rfl hL3 ?_
    refine x_callVs1 (k0 := 24) (iz := 29) hP 0 0 rfl rfl rfl rfl rfl rfl (Nat.zero_le _) (Nat.zero_le _) ?_
    refine c_chr3_1 hP hE ?_
    exact k _ _
  | 8, i + 2, _, _, _, hi, _ => exact absurd hi (by show ¬ i + 2 < 2; omega)
  | 9, i + 0, _, _, _, hi, _ => exact absurd hi (by show ¬ i + 0 < 0; omega)
  | 10, i + 0, _, _, _, hi, _ => exact absurd hi (by show ¬ i + 0 < 0; omega)
  | 11, 0, _, hL, hL3, _, k =>
    refine x_aload_n hP rfl hL ?_
    refine x_getO (k := 46) (iz := 12) hP rfl rfl rfl ?_
    show P _ _ _ _ [Value.ref (1000000 + 31)] _ _ _ _
    refine x_iload_n hP rfl hL3 ?_
    refine x_callVs1 (k0 := 26) (iz := 31) hP 0 0 rfl rfl rfl rfl rfl rfl (Nat.zero_le _) (Nat.zero_le _) ?_
    refine c_chr5_0 hP hE ?_
    exact k _ _
  | 11, i + 1, _, _, _, hi, _ => exact absurd hi (by show ¬ i + 1 < 1; omega)
  | f + 12, _, hf, _, _, _, _ => exact absurd hf (by omega)
end
