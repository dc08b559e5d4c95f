/-! the class's constructor -/
def kpn (n a : Nat) : Nat × Nat := bif Nat.blt a n then x_kd0 a else (0, 0)
theorem blt_t {a n : Nat} (h : a < n) : Nat.blt a n = true := Nat.ble_eq_true_of_le h
theorem blt_f {a n : Nat} (h : n ≤ a) : Nat.blt a n = false := by
  cases hb : Nat.blt a n with
  | false => rfl
  | true => exact absurd (Nat.le_of_ble_eq_true hb) (by omega)
theorem kpn_lt {n a : Nat} (h : a < n) : kpn n a = x_kd0 a := by unfold kpn; rw [blt_t h]; rfl
theorem kpn_ge {n a : Nat} (h : n ≤ a) : kpn n a = (0, 0) := by unfold kpn; rw [blt_f h]; rfl
theorem kpn_new {n m k l : Nat} (hm : m = n + 1) (h : x_kd0 n = (k, l)) (I : x_M Int32) (J : x_M Int64) (R : x_M (Option Nat)) : x_new (x_hk n (kpn n) I J R) k l = x_hk m (kpn m) I J R := by
  subst hm
  unfold x_new
  refine congrArg (fun z => ((n + 1, z, I, J, R) : x_H)) (funext fun a => ?_)
  show (bif Nat.beq a n then (k, l) else kpn n a) = kpn (n + 1) a
  rw [x_beq]
  by_cases q : a = n
  · rw [decide_eq_true q, q, kpn_lt (Nat.lt_succ_self n), h]; rfl
  · rw [decide_eq_false q]
    show kpn n a = kpn (n + 1) a
    rcases Nat.lt_or_ge a n with z | z
    · rw [kpn_lt z, kpn_lt (by omega)]
    · rw [kpn_ge z, kpn_ge (by omega)]
section
variable {E : x_E} {P : x_Pr} {d y pc rc rs : Nat} {L : x_L} {st : List Value} {I : x_M Int32} {J : x_M Int64} {R : x_M (Option Nat)} {Q : x_Q}
theorem w_new {n m k l : Nat} (hm : m = n + 1) (h : x_kd0 n = (k, l)) (k1 : P y d pc L st (x_hk m (kpn m) I J R) rc rs Q) : P y d pc L st (x_new (x_hk n (kpn n) I J R) k l) rc rs Q := by
  rw [kpn_new hm h]; exact k1
theorem n_row (hP : x_closed E P) {r m1 m2 m3 : Nat} (e1 : m1 = r + 1) (e2 : m2 = r + 2) (e3 : m3 = r + 3) (h0 : x_kd0 r = (1003, 0)) (h1 : x_kd0 m1 = (1, 200)) (h2 : x_kd0 m2 = (1, 4)) (hr : m3 < 1000000) (k : Q none (x_hk m3 (kpn m3) I J (x_at (x_at R 1192 r 0 (some m1)) 1194 r 0 (some m2)))) : P 3 (d + 1) 0 (x_la 0 [.ref r]) [] (x_hk m1 (kpn m1) I J R) 2 204 Q := by
  subst e1 e2 e3
  have a0 : kpn (r + 1) r = (1003, 0) := (kpn_lt (by omega)).trans h0
  have a2 : kpn (r + 2) r = (1003, 0) := (kpn_lt (by omega)).trans h0
  have a3 : kpn (r + 3) r = (1003, 0) := (kpn_lt (by omega)).trans h0
  first | refine x_aload_n hP rfl rfl ?_ | refine x_aload_nN hP rfl rfl ?_
  refine x_objI hP rfl (by decide) ?_
  first | refine x_aload_n hP rfl rfl ?_ | refine x_aload_nN hP rfl rfl ?_
  refine x_sipush hP rfl ?_
  refine x_newa (q := r + 1) (N := 200) hP rfl (by decide) (by decide) (by decide) rfl (by omega) (by omega) (by omega) ?_
  refine w_new (m := r + 2) rfl h1 ?_
  refine x_putR hP rfl (by first | assumption | rfl) ?_
  first | refine w_nI ?_ | refine w_nL ?_ | refine w_nR ?_ | refine w_mI ?_ | refine w_mL ?_ | refine w_mR ?_ | skip
  first | refine x_aload_n hP rfl rfl ?_ | refine x_aload_nN hP rfl rfl ?_
  refine x_iconst hP rfl ?_
  refine x_newa (q := r + 2) (N := 4) hP rfl (by decide) (by decide) (by decide) rfl (by omega) (by omega) (by omega) ?_
  refine w_new (m := r + 3) rfl h2 ?_
  refine x_putR hP rfl (by first | assumption | rfl) ?_
  first | refine w_nI ?_ | refine w_nL ?_ | refine w_nR ?_ | refine w_mI ?_ | refine w_mL ?_ | refine w_mR ?_ | skip
  refine x_vret hP rfl rfl ?_
  exact k
theorem n_Tape (hP : x_closed E P) (k : Q none (x_hk 3 (kpn 3) I J (x_at R 1064 1 0 (some 2)))) : P 1 (d + 1) 0 (x_la 0 [.ref 1]) [] (x_hk 2 (kpn 2) I J R) 1 2000 Q := by
  first | refine x_aload_n hP rfl rfl ?_ | refine x_aload_nN hP rfl rfl ?_
  refine x_objI hP rfl (by decide) ?_
  first | refine x_aload_n hP rfl rfl ?_ | refine x_aload_nN hP rfl rfl ?_
  refine x_sipush hP rfl ?_
  refine x_newa (q := 2) (N := 2000) hP rfl (by decide) (by decide) (by decide) rfl (by decide) (by omega) (by omega) ?_
  refine w_new (m := 3) rfl rfl ?_
  refine x_putR hP rfl (by first | assumption | rfl) ?_
  first | refine w_nI ?_ | refine w_nL ?_ | refine w_nR ?_ | refine w_mI ?_ | refine w_mL ?_ | refine w_mR ?_ | skip
  refine x_vret hP rfl rfl ?_
  exact k
theorem n_TreeReader (hP : x_closed E P) (k : Q none (x_hk 4 (kpn 4) I J R)) : P 2 (d + 1) 0 (x_la 0 [.ref 3]) [] (x_hk 4 (kpn 4) I J R) 0 0 Q := by
  first | refine x_aload_n hP rfl rfl ?_ | refine x_aload_nN hP rfl rfl ?_
  refine x_objI hP rfl (by decide) ?_
  refine x_vret hP rfl rfl ?_
  exact k
theorem n_Joiner (hP : x_closed E P) (k : Q none (x_hk 90 (kpn 90) I J (x_at (x_at (x_at (x_at (x_at R 1320 84 0 (some 85)) 1321 84 0 (some 86)) 1192 87 0 (some 88)) 1194 87 0 (some 89)) 1323 84 0 (some 87)))) : P 5 (d + 2) 0 (x_la 0 [.ref 84]) [] (x_hk 85 (kpn 85) I J R) 5 1232 Q := by
  first | refine x_aload_n hP rfl rfl ?_ | refine x_aload_nN hP rfl rfl ?_
  refine x_objI hP rfl (by decide) ?_
  first | refine x_aload_n hP rfl rfl ?_ | refine x_aload_nN hP rfl rfl ?_
  refine x_sipush hP rfl ?_
  refine x_newa (q := 85) (N := 512) hP rfl (by decide) (by decide) (by decide) rfl (by decide) (by omega) (by omega) ?_
  refine w_new (m := 86) rfl rfl ?_
  refine x_putR hP rfl (by first | assumption | rfl) ?_
  first | refine w_nI ?_ | refine w_nL ?_ | refine w_nR ?_ | refine w_mI ?_ | refine w_mL ?_ | refine w_mR ?_ | skip
  first | refine x_aload_n hP rfl rfl ?_ | refine x_aload_nN hP rfl rfl ?_
  refine x_sipush hP rfl ?_
  refine x_newa (q := 86) (N := 512) hP rfl (by decide) (by decide) (by decide) rfl (by decide) (by omega) (by omega) ?_
  refine w_new (m := 87) rfl rfl ?_
  refine x_putR hP rfl (by first | assumption | rfl) ?_
  first | refine w_nI ?_ | refine w_nL ?_ | refine w_nR ?_ | refine w_mI ?_ | refine w_mL ?_ | refine w_mR ?_ | skip
  first | refine x_aload_n hP rfl rfl ?_ | refine x_aload_nN hP rfl rfl ?_
  refine x_newc (q := 87) (N := 4) hP rfl rfl rfl (by decide) (by omega) (by omega) ?_
  refine w_new (m := 88) rfl rfl ?_
  refine x_dup hP rfl rfl ?_
  refine x_callI0 hP 2 204 rfl rfl rfl rfl rfl (by omega) (by omega) ?_
  refine n_row (r := 87) (m1 := 88) (m2 := 89) (m3 := 90) hP rfl rfl rfl rfl rfl rfl (by decide) ?_
  refine x_putR hP rfl (by first | assumption | rfl) ?_
  first | refine w_nI ?_ | refine w_nL ?_ | refine w_nR ?_ | refine w_mI ?_ | refine w_mL ?_ | refine w_mR ?_ | skip
  refine x_vret hP rfl rfl ?_
  exact k
theorem n_Sorter (hP : x_closed E P) (k : Q none (x_hk 95 (kpn 95) I J (x_at (x_at (x_at (x_at R 1384 90 0 (some 91)) 1385 90 0 (some 92)) 1386 90 0 (some 93)) 1387 90 0 (some 94)))) : P 6 (d + 1) 0 (x_la 0 [.ref 90]) [] (x_hk 91 (kpn 91) I J R) 4 800 Q := by
  first | refine x_aload_n hP rfl rfl ?_ | refine x_aload_nN hP rfl rfl ?_
  refine x_objI hP rfl (by decide) ?_
  first | refine x_aload_n hP rfl rfl ?_ | refine x_aload_nN hP rfl rfl ?_
  refine x_sipush hP rfl ?_
  refine x_newa (q := 91) (N := 200) hP rfl (by decide) (by decide) (by decide) rfl (by decide) (by omega) (by omega) ?_
  refine w_new (m := 92) rfl rfl ?_
  refine x_putR hP rfl (by first | assumption | rfl) ?_
  first | refine w_nI ?_ | refine w_nL ?_ | refine w_nR ?_ | refine w_mI ?_ | refine w_mL ?_ | refine w_mR ?_ | skip
  first | refine x_aload_n hP rfl rfl ?_ | refine x_aload_nN hP rfl rfl ?_
  refine x_sipush hP rfl ?_
  refine x_newa (q := 92) (N := 200) hP rfl (by decide) (by decide) (by decide) rfl (by decide) (by omega) (by omega) ?_
  refine w_new (m := 93) rfl rfl ?_
  refine x_putR hP rfl (by first | assumption | rfl) ?_
  first | refine w_nI ?_ | refine w_nL ?_ | refine w_nR ?_ | refine w_mI ?_ | refine w_mL ?_ | refine w_mR ?_ | skip
  first | refine x_aload_n hP rfl rfl ?_ | refine x_aload_nN hP rfl rfl ?_
  refine x_sipush hP rfl ?_
  refine x_newa (q := 93) (N := 200) hP rfl (by decide) (by decide) (by decide) rfl (by decide) (by omega) (by omega) ?_
  refine w_new (m := 94) rfl rfl ?_
  refine x_putR hP rfl (by first | assumption | rfl) ?_
  first | refine w_nI ?_ | refine w_nL ?_ | refine w_nR ?_ | refine w_mI ?_ | refine w_mL ?_ | refine w_mR ?_ | skip
  first | refine x_aload_n hP rfl rfl ?_ | refine x_aload_nN hP rfl rfl ?_
  refine x_sipush hP rfl ?_
  refine x_newa (q := 94) (N := 200) hP rfl (by decide) (by decide) (by decide) rfl (by decide) (by omega) (by omega) ?_
  refine w_new (m := 95) rfl rfl ?_
  refine x_putR hP rfl (by first | assumption | rfl) ?_
  first | refine w_nI ?_ | refine w_nL ?_ | refine w_nR ?_ | refine w_mI ?_ | refine w_mL ?_ | refine w_mR ?_ | skip
  refine x_vret hP rfl rfl ?_
  exact k
theorem n_Kin (hP : x_closed E P) (k : Q none (x_hk 97 (kpn 97) I J (x_at R 1448 95 0 (some 96)))) : P 7 (d + 1) 0 (x_la 0 [.ref 95]) [] (x_hk 96 (kpn 96) I J R) 1 30 Q := by
  first | refine x_aload_n hP rfl rfl ?_ | refine x_aload_nN hP rfl rfl ?_
  refine x_objI hP rfl (by decide) ?_
  first | refine x_aload_n hP rfl rfl ?_ | refine x_aload_nN hP rfl rfl ?_
  refine x_bipush hP rfl ?_
  refine x_newa (q := 96) (N := 30) hP rfl (by decide) (by decide) (by decide) rfl (by decide) (by omega) (by omega) ?_
  refine w_new (m := 97) rfl rfl ?_
  refine x_putR hP rfl (by first | assumption | rfl) ?_
  first | refine w_nI ?_ | refine w_nL ?_ | refine w_nR ?_ | refine w_mI ?_ | refine w_mL ?_ | refine w_mR ?_ | skip
  refine x_vret hP rfl rfl ?_
  exact k
theorem n_SetReader (hP : x_closed E P) (k : Q none (x_hk 97 (kpn 97) I J (x_at (x_at (x_at (x_at (x_at (x_at (x_at (x_at (x_at (x_at (x_at (x_at (x_at (x_at (x_at (x_at (x_at (x_at (x_at (x_at (x_at (x_at (x_at (x_at (x_at (x_at (x_at (x_at (x_at (x_at (x_at (x_at (x_at (x_at (x_at (x_at (x_at (x_at (x_at (x_at (x_at (x_at (x_at (x_at (x_at (x_at (x_at (x_at (x_at (x_at (x_at (x_at (x_at (x_at (x_at (x_at (x_at (x_at (x_at (x_at (x_at (x_at (x_at (x_at (x_at (x_at (x_at (x_at (x_at (x_at R 1256 26 0 (some 27)) 1257 26 0 (some 28)) 1258 26 0 (some 29)) 1192 30 0 (some 31)) 1194 30 0 (some 32)) 7 27 0 (some 30)) 1192 33 0 (some 34)) 1194 33 0 (some 35)) 7 28 0 (some 33)) 1192 36 0 (some 37)) 1194 36 0 (some 38)) 7 29 0 (some 36)) 1192 39 0 (some 40)) 1194 39 0 (some 41)) 7 27 1 (some 39)) 1192 42 0 (some 43)) 1194 42 0 (some 44)) 7 28 1 (some 42)) 1192 45 0 (some 46)) 1194 45 0 (some 47)) 7 29 1 (some 45)) 1192 48 0 (some 49)) 1194 48 0 (some 50)) 7 27 2 (some 48)) 1192 51 0 (some 52)) 1194 51 0 (some 53)) 7 28 2 (some 51)) 1192 54 0 (some 55)) 1194 54 0 (some 56)) 7 29 2 (some 54)) 1192 57 0 (some 58)) 1194 57 0 (some 59)) 7 27 3 (some 57)) 1192 60 0 (some 61)) 1194 60 0 (some 62)) 7 28 3 (some 60)) 1192 63 0 (some 64)) 1194 63 0 (some 65)) 7 29 3 (some 63)) 1192 66 0 (some 67)) 1194 66 0 (some 68)) 7 27 4 (some 66)) 1192 69 0 (some 70)) 1194 69 0 (some 71)) 7 28 4 (some 69)) 1192 72 0 (some 73)) 1194 72 0 (some 74)) 7 29 4 (some 72)) 1192 75 0 (some 76)) 1194 75 0 (some 77)) 7 27 5 (some 75)) 1192 78 0 (some 79)) 1194 78 0 (some 80)) 7 28 5 (some 78)) 1192 81 0 (some 82)) 1194 81 0 (some 83)) 7 29 5 (some 81)) 1320 84 0 (some 85)) 1321 84 0 (some 86)) 1192 87 0 (some 88)) 1194 87 0 (some 89)) 1323 84 0 (some 87)) 1259 26 0 (some 84)) 1384 90 0 (some 91)) 1385 90 0 (some 92)) 1386 90 0 (some 93)) 1387 90 0 (some 94)) 1260 26 0 (some 90)) 1448 95 0 (some 96)) 1261 26 0 (some 95)))) : P 4 (d + 3) 0 (x_la 0 [.ref 26]) [] (x_hk 27 (kpn 27) I J R) 70 5837 Q := by
  first | refine x_aload_n hP rfl rfl ?_ | refine x_aload_nN hP rfl rfl ?_
  refine x_objI hP rfl (by decide) ?_
  first | refine x_aload_n hP rfl rfl ?_ | refine x_aload_nN hP rfl rfl ?_
  refine x_bipush hP rfl ?_
  refine x_newq (q := 27) (N := 6) hP rfl (by decide) (by decide) (by decide) rfl (by decide) (by omega) (by omega) ?_
  refine w_new (m := 28) rfl rfl ?_
  refine x_putR hP rfl (by first | assumption | rfl) ?_
  first | refine w_nI ?_ | refine w_nL ?_ | refine w_nR ?_ | refine w_mI ?_ | refine w_mL ?_ | refine w_mR ?_ | skip
  first | refine x_aload_n hP rfl rfl ?_ | refine x_aload_nN hP rfl rfl ?_
  refine x_bipush hP rfl ?_
  refine x_newq (q := 28) (N := 6) hP rfl (by decide) (by decide) (by decide) rfl (by decide) (by omega) (by omega) ?_
  refine w_new (m := 29) rfl rfl ?_
  refine x_putR hP rfl (by first | assumption | rfl) ?_
  first | refine w_nI ?_ | refine w_nL ?_ | refine w_nR ?_ | refine w_mI ?_ | refine w_mL ?_ | refine w_mR ?_ | skip
  first | refine x_aload_n hP rfl rfl ?_ | refine x_aload_nN hP rfl rfl ?_
  refine x_bipush hP rfl ?_
  refine x_newq (q := 29) (N := 6) hP rfl (by decide) (by decide) (by decide) rfl (by decide) (by omega) (by omega) ?_
  refine w_new (m := 30) rfl rfl ?_
  refine x_putR hP rfl (by first | assumption | rfl) ?_
  first | refine w_nI ?_ | refine w_nL ?_ | refine w_nR ?_ | refine w_mI ?_ | refine w_mL ?_ | refine w_mR ?_ | skip
  refine x_iconst hP rfl ?_
  refine x_istore_n hP rfl ?_
  refine x_re hP [some (.ref 26), some (.int (iI (0 : Nat)))] ⟨rfl, rfl, trivial⟩ ?_
  refine x_iload_n hP rfl rfl ?_
  refine x_iconst hP rfl ?_
  refine z_icmp_gt hP rfl (by omega) (by omega) (fun c35 => ?_) (fun c35 => ?_)
  · omega
  first | refine x_aload_n hP rfl rfl ?_ | refine x_aload_nN hP rfl rfl ?_
  refine x_getR hP rfl (by first | assumption | rfl) (by first | assumption | exact hR _ _ _ _ rfl | exact hR1 _ _ _ _ rfl | exact hR2 _ _ _ _ rfl | rfl) ?_
  refine x_iload_n hP rfl rfl ?_
  refine x_newc (q := 30) (N := 4) hP rfl rfl rfl (by decide) (by omega) (by omega) ?_
  refine w_new (m := 31) rfl rfl ?_
  refine x_dup hP rfl rfl ?_
  refine x_callI0 hP 2 204 rfl rfl rfl rfl rfl (by omega) (by omega) ?_
  refine n_row (r := 30) (m1 := 31) (m2 := 32) (m3 := 33) hP rfl rfl rfl rfl rfl rfl (by decide) ?_
  refine z_aast (ci := 3) hP rfl (by first | assumption | rfl) (by decide) (by omega) (by decide) (by decide) rfl rfl (by first | assumption | rfl) ?_
  first | refine w_nI ?_ | refine w_nL ?_ | refine w_nR ?_ | refine w_mI ?_ | refine w_mL ?_ | refine w_mR ?_ | skip
  rw [Int.toNat_natCast]
  first | refine x_aload_n hP rfl rfl ?_ | refine x_aload_nN hP rfl rfl ?_
  refine x_getR hP rfl (by first | assumption | rfl) (by first | assumption | exact hR _ _ _ _ rfl | exact hR1 _ _ _ _ rfl | exact hR2 _ _ _ _ rfl | rfl) ?_
  refine x_iload_n hP rfl rfl ?_
  refine x_newc (q := 33) (N := 4) hP rfl rfl rfl (by decide) (by omega) (by omega) ?_
  refine w_new (m := 34) rfl rfl ?_
  refine x_dup hP rfl rfl ?_
  refine x_callI0 hP 2 204 rfl rfl rfl rfl rfl (by omega) (by omega) ?_
  refine n_row (r := 33) (m1 := 34) (m2 := 35) (m3 := 36) hP rfl rfl rfl rfl rfl rfl (by decide) ?_
  refine z_aast (ci := 3) hP rfl (by first | assumption | rfl) (by decide) (by omega) (by decide) (by decide) rfl rfl (by first | assumption | rfl) ?_
  first | refine w_nI ?_ | refine w_nL ?_ | refine w_nR ?_ | refine w_mI ?_ | refine w_mL ?_ | refine w_mR ?_ | skip
  rw [Int.toNat_natCast]
  first | refine x_aload_n hP rfl rfl ?_ | refine x_aload_nN hP rfl rfl ?_
  refine x_getR hP rfl (by first | assumption | rfl) (by first | assumption | exact hR _ _ _ _ rfl | exact hR1 _ _ _ _ rfl | exact hR2 _ _ _ _ rfl | rfl) ?_
  refine x_iload_n hP rfl rfl ?_
  refine x_newc (q := 36) (N := 4) hP rfl rfl rfl (by decide) (by omega) (by omega) ?_
  refine w_new (m := 37) rfl rfl ?_
  refine x_dup hP rfl rfl ?_
  refine x_callI0 hP 2 204 rfl rfl rfl rfl rfl (by omega) (by omega) ?_
  refine n_row (r := 36) (m1 := 37) (m2 := 38) (m3 := 39) hP rfl rfl rfl rfl rfl rfl (by decide) ?_
  refine z_aast (ci := 3) hP rfl (by first | assumption | rfl) (by decide) (by omega) (by decide) (by decide) rfl rfl (by first | assumption | rfl) ?_
  first | refine w_nI ?_ | refine w_nL ?_ | refine w_nR ?_ | refine w_mI ?_ | refine w_mL ?_ | refine w_mR ?_ | skip
  rw [Int.toNat_natCast]
  refine z_iinc hP rfl rfl rfl ?_
  refine x_goto hP rfl ?_
  refine x_re hP [some (.ref 26), some (.int (iI (1 : Nat)))] ⟨rfl, rfl, trivial⟩ ?_
  refine x_iload_n hP rfl rfl ?_
  refine x_iconst hP rfl ?_
  refine z_icmp_gt hP rfl (by omega) (by omega) (fun c35 => ?_) (fun c35 => ?_)
  · omega
  first | refine x_aload_n hP rfl rfl ?_ | refine x_aload_nN hP rfl rfl ?_
  refine x_getR hP rfl (by first | assumption | rfl) (by first | assumption | exact hR _ _ _ _ rfl | exact hR1 _ _ _ _ rfl | exact hR2 _ _ _ _ rfl | rfl) ?_
  refine x_iload_n hP rfl rfl ?_
  refine x_newc (q := 39) (N := 4) hP rfl rfl rfl (by decide) (by omega) (by omega) ?_
  refine w_new (m := 40) rfl rfl ?_
  refine x_dup hP rfl rfl ?_
  refine x_callI0 hP 2 204 rfl rfl rfl rfl rfl (by omega) (by omega) ?_
  refine n_row (r := 39) (m1 := 40) (m2 := 41) (m3 := 42) hP rfl rfl rfl rfl rfl rfl (by decide) ?_
  refine z_aast (ci := 3) hP rfl (by first | assumption | rfl) (by decide) (by omega) (by decide) (by decide) rfl rfl (by first | assumption | rfl) ?_
  first | refine w_nI ?_ | refine w_nL ?_ | refine w_nR ?_ | refine w_mI ?_ | refine w_mL ?_ | refine w_mR ?_ | skip
  rw [Int.toNat_natCast]
  first | refine x_aload_n hP rfl rfl ?_ | refine x_aload_nN hP rfl rfl ?_
  refine x_getR hP rfl (by first | assumption | rfl) (by first | assumption | exact hR _ _ _ _ rfl | exact hR1 _ _ _ _ rfl | exact hR2 _ _ _ _ rfl | rfl) ?_
  refine x_iload_n hP rfl rfl ?_
  refine x_newc (q := 42) (N := 4) hP rfl rfl rfl (by decide) (by omega) (by omega) ?_
  refine w_new (m := 43) rfl rfl ?_
  refine x_dup hP rfl rfl ?_
  refine x_callI0 hP 2 204 rfl rfl rfl rfl rfl (by omega) (by omega) ?_
  refine n_row (r := 42) (m1 := 43) (m2 := 44) (m3 := 45) hP rfl rfl rfl rfl rfl rfl (by decide) ?_
  refine z_aast (ci := 3) hP rfl (by first | assumption | rfl) (by decide) (by omega) (by decide) (by decide) rfl rfl (by first | assumption | rfl) ?_
  first | refine w_nI ?_ | refine w_nL ?_ | refine w_nR ?_ | refine w_mI ?_ | refine w_mL ?_ | refine w_mR ?_ | skip
  rw [Int.toNat_natCast]
  first | refine x_aload_n hP rfl rfl ?_ | refine x_aload_nN hP rfl rfl ?_
  refine x_getR hP rfl (by first | assumption | rfl) (by first | assumption | exact hR _ _ _ _ rfl | exact hR1 _ _ _ _ rfl | exact hR2 _ _ _ _ rfl | rfl) ?_
  refine x_iload_n hP rfl rfl ?_
  refine x_newc (q := 45) (N := 4) hP rfl rfl rfl (by decide) (by omega) (by omega) ?_
  refine w_new (m := 46) rfl rfl ?_
  refine x_dup hP rfl rfl ?_
  refine x_callI0 hP 2 204 rfl rfl rfl rfl rfl (by omega) (by omega) ?_
  refine n_row (r := 45) (m1 := 46) (m2 := 47) (m3 := 48) hP rfl rfl rfl rfl rfl rfl (by decide) ?_
  refine z_aast (ci := 3) hP rfl (by first | assumption | rfl) (by decide) (by omega) (by decide) (by decide) rfl rfl (by first | assumption | rfl) ?_
  first | refine w_nI ?_ | refine w_nL ?_ | refine w_nR ?_ | refine w_mI ?_ | refine w_mL ?_ | refine w_mR ?_ | skip
  rw [Int.toNat_natCast]
  refine z_iinc hP rfl rfl rfl ?_
  refine x_goto hP rfl ?_
  refine x_re hP [some (.ref 26), some (.int (iI (2 : Nat)))] ⟨rfl, rfl, trivial⟩ ?_
  refine x_iload_n hP rfl rfl ?_
  refine x_iconst hP rfl ?_
  refine z_icmp_gt hP rfl (by omega) (by omega) (fun c35 => ?_) (fun c35 => ?_)
  · omega
  first | refine x_aload_n hP rfl rfl ?_ | refine x_aload_nN hP rfl rfl ?_
  refine x_getR hP rfl (by first | assumption | rfl) (by first | assumption | exact hR _ _ _ _ rfl | exact hR1 _ _ _ _ rfl | exact hR2 _ _ _ _ rfl | rfl) ?_
  refine x_iload_n hP rfl rfl ?_
  refine x_newc (q := 48) (N := 4) hP rfl rfl rfl (by decide) (by omega) (by omega) ?_
  refine w_new (m := 49) rfl rfl ?_
  refine x_dup hP rfl rfl ?_
  refine x_callI0 hP 2 204 rfl rfl rfl rfl rfl (by omega) (by omega) ?_
  refine n_row (r := 48) (m1 := 49) (m2 := 50) (m3 := 51) hP rfl rfl rfl rfl rfl rfl (by decide) ?_
  refine z_aast (ci := 3) hP rfl (by first | assumption | rfl) (by decide) (by omega) (by decide) (by decide) rfl rfl (by first | assumption | rfl) ?_
  first | refine w_nI ?_ | refine w_nL ?_ | refine w_nR ?_ | refine w_mI ?_ | refine w_mL ?_ | refine w_mR ?_ | skip
  rw [Int.toNat_natCast]
  first | refine x_aload_n hP rfl rfl ?_ | refine x_aload_nN hP rfl rfl ?_
  refine x_getR hP rfl (by first | assumption | rfl) (by first | assumption | exact hR _ _ _ _ rfl | exact hR1 _ _ _ _ rfl | exact hR2 _ _ _ _ rfl | rfl) ?_
  refine x_iload_n hP rfl rfl ?_
  refine x_newc (q := 51) (N := 4) hP rfl rfl rfl (by decide) (by omega) (by omega) ?_
  refine w_new (m := 52) rfl rfl ?_
  refine x_dup hP rfl rfl ?_
  refine x_callI0 hP 2 204 rfl rfl rfl rfl rfl (by omega) (by omega) ?_
  refine n_row (r := 51) (m1 := 52) (m2 := 53) (m3 := 54) hP rfl rfl rfl rfl rfl rfl (by decide) ?_
  refine z_aast (ci := 3) hP rfl (by first | assumption | rfl) (by decide) (by omega) (by decide) (by decide) rfl rfl (by first | assumption | rfl) ?_
  first | refine w_nI ?_ | refine w_nL ?_ | refine w_nR ?_ | refine w_mI ?_ | refine w_mL ?_ | refine w_mR ?_ | skip
  rw [Int.toNat_natCast]
  first | refine x_aload_n hP rfl rfl ?_ | refine x_aload_nN hP rfl rfl ?_
  refine x_getR hP rfl (by first | assumption | rfl) (by first | assumption | exact hR _ _ _ _ rfl | exact hR1 _ _ _ _ rfl | exact hR2 _ _ _ _ rfl | rfl) ?_
  refine x_iload_n hP rfl rfl ?_
  refine x_newc (q := 54) (N := 4) hP rfl rfl rfl (by decide) (by omega) (by omega) ?_
  refine w_new (m := 55) rfl rfl ?_
  refine x_dup hP rfl rfl ?_
  refine x_callI0 hP 2 204 rfl rfl rfl rfl rfl (by omega) (by omega) ?_
  refine n_row (r := 54) (m1 := 55) (m2 := 56) (m3 := 57) hP rfl rfl rfl rfl rfl rfl (by decide) ?_
  refine z_aast (ci := 3) hP rfl (by first | assumption | rfl) (by decide) (by omega) (by decide) (by decide) rfl rfl (by first | assumption | rfl) ?_
  first | refine w_nI ?_ | refine w_nL ?_ | refine w_nR ?_ | refine w_mI ?_ | refine w_mL ?_ | refine w_mR ?_ | skip
  rw [Int.toNat_natCast]
  refine z_iinc hP rfl rfl rfl ?_
  refine x_goto hP rfl ?_
  refine x_re hP [some (.ref 26), some (.int (iI (3 : Nat)))] ⟨rfl, rfl, trivial⟩ ?_
  refine x_iload_n hP rfl rfl ?_
  refine x_iconst hP rfl ?_
  refine z_icmp_gt hP rfl (by omega) (by omega) (fun c35 => ?_) (fun c35 => ?_)
  · omega
  first | refine x_aload_n hP rfl rfl ?_ | refine x_aload_nN hP rfl rfl ?_
  refine x_getR hP rfl (by first | assumption | rfl) (by first | assumption | exact hR _ _ _ _ rfl | exact hR1 _ _ _ _ rfl | exact hR2 _ _ _ _ rfl | rfl) ?_
  refine x_iload_n hP rfl rfl ?_
  refine x_newc (q := 57) (N := 4) hP rfl rfl rfl (by decide) (by omega) (by omega) ?_
  refine w_new (m := 58) rfl rfl ?_
  refine x_dup hP rfl rfl ?_
  refine x_callI0 hP 2 204 rfl rfl rfl rfl rfl (by omega) (by omega) ?_
  refine n_row (r := 57) (m1 := 58) (m2 := 59) (m3 := 60) hP rfl rfl rfl rfl rfl rfl (by decide) ?_
  refine z_aast (ci := 3) hP rfl (by first | assumption | rfl) (by decide) (by omega) (by decide) (by decide) rfl rfl (by first | assumption | rfl) ?_
  first | refine w_nI ?_ | refine w_nL ?_ | refine w_nR ?_ | refine w_mI ?_ | refine w_mL ?_ | refine w_mR ?_ | skip
  rw [Int.toNat_natCast]
  first | refine x_aload_n hP rfl rfl ?_ | refine x_aload_nN hP rfl rfl ?_
  refine x_getR hP rfl (by first | assumption | rfl) (by first | assumption | exact hR _ _ _ _ rfl | exact hR1 _ _ _ _ rfl | exact hR2 _ _ _ _ rfl | rfl) ?_
  refine x_iload_n hP rfl rfl ?_
  refine x_newc (q := 60) (N := 4) hP rfl rfl rfl (by decide) (by omega) (by omega) ?_
  refine w_new (m := 61) rfl rfl ?_
  refine x_dup hP rfl rfl ?_
  refine x_callI0 hP 2 204 rfl rfl rfl rfl rfl (by omega) (by omega) ?_
  refine n_row (r := 60) (m1 := 61) (m2 := 62) (m3 := 63) hP rfl rfl rfl rfl rfl rfl (by decide) ?_
  refine z_aast (ci := 3) hP rfl (by first | assumption | rfl) (by decide) (by omega) (by decide) (by decide) rfl rfl (by first | assumption | rfl) ?_
  first | refine w_nI ?_ | refine w_nL ?_ | refine w_nR ?_ | refine w_mI ?_ | refine w_mL ?_ | refine w_mR ?_ | skip
  rw [Int.toNat_natCast]
  first | refine x_aload_n hP rfl rfl ?_ | refine x_aload_nN hP rfl rfl ?_
  refine x_getR hP rfl (by first | assumption | rfl) (by first | assumption | exact hR _ _ _ _ rfl | exact hR1 _ _ _ _ rfl | exact hR2 _ _ _ _ rfl | rfl) ?_
  refine x_iload_n hP rfl rfl ?_
  refine x_newc (q := 63) (N := 4) hP rfl rfl rfl (by decide) (by omega) (by omega) ?_
  refine w_new (m := 64) rfl rfl ?_
  refine x_dup hP rfl rfl ?_
  refine x_callI0 hP 2 204 rfl rfl rfl rfl rfl (by omega) (by omega) ?_
  refine n_row (r := 63) (m1 := 64) (m2 := 65) (m3 := 66) hP rfl rfl rfl rfl rfl rfl (by decide) ?_
  refine z_aast (ci := 3) hP rfl (by first | assumption | rfl) (by decide) (by omega) (by decide) (by decide) rfl rfl (by first | assumption | rfl) ?_
  first | refine w_nI ?_ | refine w_nL ?_ | refine w_nR ?_ | refine w_mI ?_ | refine w_mL ?_ | refine w_mR ?_ | skip
  rw [Int.toNat_natCast]
  refine z_iinc hP rfl rfl rfl ?_
  refine x_goto hP rfl ?_
  refine x_re hP [some (.ref 26), some (.int (iI (4 : Nat)))] ⟨rfl, rfl, trivial⟩ ?_
  refine x_iload_n hP rfl rfl ?_
  refine x_iconst hP rfl ?_
  refine z_icmp_gt hP rfl (by omega) (by omega) (fun c35 => ?_) (fun c35 => ?_)
  · omega
  first | refine x_aload_n hP rfl rfl ?_ | refine x_aload_nN hP rfl rfl ?_
  refine x_getR hP rfl (by first | assumption | rfl) (by first | assumption | exact hR _ _ _ _ rfl | exact hR1 _ _ _ _ rfl | exact hR2 _ _ _ _ rfl | rfl) ?_
  refine x_iload_n hP rfl rfl ?_
  refine x_newc (q := 66) (N := 4) hP rfl rfl rfl (by decide) (by omega) (by omega) ?_
  refine w_new (m := 67) rfl rfl ?_
  refine x_dup hP rfl rfl ?_
  refine x_callI0 hP 2 204 rfl rfl rfl rfl rfl (by omega) (by omega) ?_
  refine n_row (r := 66) (m1 := 67) (m2 := 68) (m3 := 69) hP rfl rfl rfl rfl rfl rfl (by decide) ?_
  refine z_aast (ci := 3) hP rfl (by first | assumption | rfl) (by decide) (by omega) (by decide) (by decide) rfl rfl (by first | assumption | rfl) ?_
  first | refine w_nI ?_ | refine w_nL ?_ | refine w_nR ?_ | refine w_mI ?_ | refine w_mL ?_ | refine w_mR ?_ | skip
  rw [Int.toNat_natCast]
  first | refine x_aload_n hP rfl rfl ?_ | refine x_aload_nN hP rfl rfl ?_
  refine x_getR hP rfl (by first | assumption | rfl) (by first | assumption | exact hR _ _ _ _ rfl | exact hR1 _ _ _ _ rfl | exact hR2 _ _ _ _ rfl | rfl) ?_
  refine x_iload_n hP rfl rfl ?_
  refine x_newc (q := 69) (N := 4) hP rfl rfl rfl (by decide) (by omega) (by omega) ?_
  refine w_new (m := 70) rfl rfl ?_
  refine x_dup hP rfl rfl ?_
  refine x_callI0 hP 2 204 rfl rfl rfl rfl rfl (by omega) (by omega) ?_
  refine n_row (r := 69) (m1 := 70) (m2 := 71) (m3 := 72) hP rfl rfl rfl rfl rfl rfl (by decide) ?_
  refine z_aast (ci := 3) hP rfl (by first | assumption | rfl) (by decide) (by omega) (by decide) (by decide) rfl rfl (by first | assumption | rfl) ?_
  first | refine w_nI ?_ | refine w_nL ?_ | refine w_nR ?_ | refine w_mI ?_ | refine w_mL ?_ | refine w_mR ?_ | skip
  rw [Int.toNat_natCast]
  first | refine x_aload_n hP rfl rfl ?_ | refine x_aload_nN hP rfl rfl ?_
  refine x_getR hP rfl (by first | assumption | rfl) (by first | assumption | exact hR _ _ _ _ rfl | exact hR1 _ _ _ _ rfl | exact hR2 _ _ _ _ rfl | rfl) ?_
  refine x_iload_n hP rfl rfl ?_
  refine x_newc (q := 72) (N := 4) hP rfl rfl rfl (by decide) (by omega) (by omega) ?_
  refine w_new (m := 73) rfl rfl ?_
  refine x_dup hP rfl rfl ?_
  refine x_callI0 hP 2 204 rfl rfl rfl rfl rfl (by omega) (by omega) ?_
  refine n_row (r := 72) (m1 := 73) (m2 := 74) (m3 := 75) hP rfl rfl rfl rfl rfl rfl (by decide) ?_
  refine z_aast (ci := 3) hP rfl (by first | assumption | rfl) (by decide) (by omega) (by decide) (by decide) rfl rfl (by first | assumption | rfl) ?_
  first | refine w_nI ?_ | refine w_nL ?_ | refine w_nR ?_ | refine w_mI ?_ | refine w_mL ?_ | refine w_mR ?_ | skip
  rw [Int.toNat_natCast]
  refine z_iinc hP rfl rfl rfl ?_
  refine x_goto hP rfl ?_
  refine x_re hP [some (.ref 26), some (.int (iI (5 : Nat)))] ⟨rfl, rfl, trivial⟩ ?_
  refine x_iload_n hP rfl rfl ?_
  refine x_iconst hP rfl ?_
  refine z_icmp_gt hP rfl (by omega) (by omega) (fun c35 => ?_) (fun c35 => ?_)
  · omega
  first | refine x_aload_n hP rfl rfl ?_ | refine x_aload_nN hP rfl rfl ?_
  refine x_getR hP rfl (by first | assumption | rfl) (by first | assumption | exact hR _ _ _ _ rfl | exact hR1 _ _ _ _ rfl | exact hR2 _ _ _ _ rfl | rfl) ?_
  refine x_iload_n hP rfl rfl ?_
  refine x_newc (q := 75) (N := 4) hP rfl rfl rfl (by decide) (by omega) (by omega) ?_
  refine w_new (m := 76) rfl rfl ?_
  refine x_dup hP rfl rfl ?_
  refine x_callI0 hP 2 204 rfl rfl rfl rfl rfl (by omega) (by omega) ?_
  refine n_row (r := 75) (m1 := 76) (m2 := 77) (m3 := 78) hP rfl rfl rfl rfl rfl rfl (by decide) ?_
  refine z_aast (ci := 3) hP rfl (by first | assumption | rfl) (by decide) (by omega) (by decide) (by decide) rfl rfl (by first | assumption | rfl) ?_
  first | refine w_nI ?_ | refine w_nL ?_ | refine w_nR ?_ | refine w_mI ?_ | refine w_mL ?_ | refine w_mR ?_ | skip
  rw [Int.toNat_natCast]
  first | refine x_aload_n hP rfl rfl ?_ | refine x_aload_nN hP rfl rfl ?_
  refine x_getR hP rfl (by first | assumption | rfl) (by first | assumption | exact hR _ _ _ _ rfl | exact hR1 _ _ _ _ rfl | exact hR2 _ _ _ _ rfl | rfl) ?_
  refine x_iload_n hP rfl rfl ?_
  refine x_newc (q := 78) (N := 4) hP rfl rfl rfl (by decide) (by omega) (by omega) ?_
  refine w_new (m := 79) rfl rfl ?_
  refine x_dup hP rfl rfl ?_
  refine x_callI0 hP 2 204 rfl rfl rfl rfl rfl (by omega) (by omega) ?_
  refine n_row (r := 78) (m1 := 79) (m2 := 80) (m3 := 81) hP rfl rfl rfl rfl rfl rfl (by decide) ?_
  refine z_aast (ci := 3) hP rfl (by first | assumption | rfl) (by decide) (by omega) (by decide) (by decide) rfl rfl (by first | assumption | rfl) ?_
  first | refine w_nI ?_ | refine w_nL ?_ | refine w_nR ?_ | refine w_mI ?_ | refine w_mL ?_ | refine w_mR ?_ | skip
  rw [Int.toNat_natCast]
  first | refine x_aload_n hP rfl rfl ?_ | refine x_aload_nN hP rfl rfl ?_
  refine x_getR hP rfl (by first | assumption | rfl) (by first | assumption | exact hR _ _ _ _ rfl | exact hR1 _ _ _ _ rfl | exact hR2 _ _ _ _ rfl | rfl) ?_
  refine x_iload_n hP rfl rfl ?_
  refine x_newc (q := 81) (N := 4) hP rfl rfl rfl (by decide) (by omega) (by omega) ?_
  refine w_new (m := 82) rfl rfl ?_
  refine x_dup hP rfl rfl ?_
  refine x_callI0 hP 2 204 rfl rfl rfl rfl rfl (by omega) (by omega) ?_
  refine n_row (r := 81) (m1 := 82) (m2 := 83) (m3 := 84) hP rfl rfl rfl rfl rfl rfl (by decide) ?_
  refine z_aast (ci := 3) hP rfl (by first | assumption | rfl) (by decide) (by omega) (by decide) (by decide) rfl rfl (by first | assumption | rfl) ?_
  first | refine w_nI ?_ | refine w_nL ?_ | refine w_nR ?_ | refine w_mI ?_ | refine w_mL ?_ | refine w_mR ?_ | skip
  rw [Int.toNat_natCast]
  refine z_iinc hP rfl rfl rfl ?_
  refine x_goto hP rfl ?_
  refine x_re hP [some (.ref 26), some (.int (iI (6 : Nat)))] ⟨rfl, rfl, trivial⟩ ?_
  refine x_iload_n hP rfl rfl ?_
  refine x_iconst hP rfl ?_
  refine z_icmp_gt hP rfl (by omega) (by omega) (fun c35 => ?_) (fun c35 => ?_)
  rotate_left
  · omega
  first | refine x_aload_n hP rfl rfl ?_ | refine x_aload_nN hP rfl rfl ?_
  refine x_newc (q := 84) (N := 4) hP rfl rfl rfl (by decide) (by omega) (by omega) ?_
  refine w_new (m := 85) rfl rfl ?_
  refine x_dup hP rfl rfl ?_
  refine x_callI0 hP 5 1232 rfl rfl rfl rfl rfl (by omega) (by omega) ?_
  refine n_Joiner hP ?_
  refine x_putR hP rfl (by first | assumption | rfl) ?_
  first | refine w_nI ?_ | refine w_nL ?_ | refine w_nR ?_ | refine w_mI ?_ | refine w_mL ?_ | refine w_mR ?_ | skip
  first | refine x_aload_n hP rfl rfl ?_ | refine x_aload_nN hP rfl rfl ?_
  refine x_newc (q := 90) (N := 4) hP rfl rfl rfl (by decide) (by omega) (by omega) ?_
  refine w_new (m := 91) rfl rfl ?_
  refine x_dup hP rfl rfl ?_
  refine x_callI0 hP 4 800 rfl rfl rfl rfl rfl (by omega) (by omega) ?_
  refine n_Sorter hP ?_
  refine x_putR hP rfl (by first | assumption | rfl) ?_
  first | refine w_nI ?_ | refine w_nL ?_ | refine w_nR ?_ | refine w_mI ?_ | refine w_mL ?_ | refine w_mR ?_ | skip
  first | refine x_aload_n hP rfl rfl ?_ | refine x_aload_nN hP rfl rfl ?_
  refine x_newc (q := 95) (N := 5) hP rfl rfl rfl (by decide) (by omega) (by omega) ?_
  refine w_new (m := 96) rfl rfl ?_
  refine x_dup hP rfl rfl ?_
  refine x_callI0 hP 1 30 rfl rfl rfl rfl rfl (by omega) (by omega) ?_
  refine n_Kin hP ?_
  refine x_putR hP rfl (by first | assumption | rfl) ?_
  first | refine w_nI ?_ | refine w_nL ?_ | refine w_nR ?_ | refine w_mI ?_ | refine w_mL ?_ | refine w_mR ?_ | skip
  refine x_vret hP rfl rfl ?_
  exact k
theorem n_Trees98 (hP : x_closed E P) (k : ∀ I', (∀ j, j < 384 → I' 1 109 j = iI (-2000000000)) → frP (fun k b _ => k = 1 ∧ b = 109) I I' → Q none (x_hk 110 (kpn 110) I' J (x_at (x_at (x_at (x_at (x_at (x_at (x_at (x_at (x_at (x_at (x_at R 1514 98 0 (some 99)) 1515 98 0 (some 100)) 1516 98 0 (some 101)) 1517 98 0 (some 102)) 1518 98 0 (some 103)) 1519 98 0 (some 104)) 1520 98 0 (some 105)) 1521 98 0 (some 106)) 1522 98 0 (some 107)) 1523 98 0 (some 108)) 1524 98 0 (some 109)))) : P 8 (d + 1) 0 (x_la 0 [.ref 98]) [] (x_hk 99 (kpn 99) I J R) 11 1415 Q := by
  first | refine x_aload_n hP rfl rfl ?_ | refine x_aload_nN hP rfl rfl ?_
  refine x_objI hP rfl (by decide) ?_
  first | refine x_aload_n hP rfl rfl ?_ | refine x_aload_nN hP rfl rfl ?_
  refine x_iconst hP rfl ?_
  refine x_newa (q := 99) (N := 4) hP rfl (by decide) (by decide) (by decide) rfl (by decide) (by omega) (by omega) ?_
  refine w_new (m := 100) rfl rfl ?_
  refine x_putR hP rfl (by first | assumption | rfl) ?_
  first | refine w_nI ?_ | refine w_nL ?_ | refine w_nR ?_ | refine w_mI ?_ | refine w_mL ?_ | refine w_mR ?_ | skip
  first | refine x_aload_n hP rfl rfl ?_ | refine x_aload_nN hP rfl rfl ?_
  refine x_sipush hP rfl ?_
  refine x_newa (q := 100) (N := 128) hP rfl (by decide) (by decide) (by decide) rfl (by decide) (by omega) (by omega) ?_
  refine w_new (m := 101) rfl rfl ?_
  refine x_putR hP rfl (by first | assumption | rfl) ?_
  first | refine w_nI ?_ | refine w_nL ?_ | refine w_nR ?_ | refine w_mI ?_ | refine w_mL ?_ | refine w_mR ?_ | skip
  first | refine x_aload_n hP rfl rfl ?_ | refine x_aload_nN hP rfl rfl ?_
  refine x_sipush hP rfl ?_
  refine x_newa (q := 101) (N := 128) hP rfl (by decide) (by decide) (by decide) rfl (by decide) (by omega) (by omega) ?_
  refine w_new (m := 102) rfl rfl ?_
  refine x_putR hP rfl (by first | assumption | rfl) ?_
  first | refine w_nI ?_ | refine w_nL ?_ | refine w_nR ?_ | refine w_mI ?_ | refine w_mL ?_ | refine w_mR ?_ | skip
  first | refine x_aload_n hP rfl rfl ?_ | refine x_aload_nN hP rfl rfl ?_
  refine x_sipush hP rfl ?_
  refine x_newa (q := 102) (N := 128) hP rfl (by decide) (by decide) (by decide) rfl (by decide) (by omega) (by omega) ?_
  refine w_new (m := 103) rfl rfl ?_
  refine x_putR hP rfl (by first | assumption | rfl) ?_
  first | refine w_nI ?_ | refine w_nL ?_ | refine w_nR ?_ | refine w_mI ?_ | refine w_mL ?_ | refine w_mR ?_ | skip
  first | refine x_aload_n hP rfl rfl ?_ | refine x_aload_nN hP rfl rfl ?_
  refine x_sipush hP rfl ?_
  refine x_newa (q := 103) (N := 128) hP rfl (by decide) (by decide) (by decide) rfl (by decide) (by omega) (by omega) ?_
  refine w_new (m := 104) rfl rfl ?_
  refine x_putR hP rfl (by first | assumption | rfl) ?_
  first | refine w_nI ?_ | refine w_nL ?_ | refine w_nR ?_ | refine w_mI ?_ | refine w_mL ?_ | refine w_mR ?_ | skip
  first | refine x_aload_n hP rfl rfl ?_ | refine x_aload_nN hP rfl rfl ?_
  refine x_sipush hP rfl ?_
  refine x_newa (q := 104) (N := 128) hP rfl (by decide) (by decide) (by decide) rfl (by decide) (by omega) (by omega) ?_
  refine w_new (m := 105) rfl rfl ?_
  refine x_putR hP rfl (by first | assumption | rfl) ?_
  first | refine w_nI ?_ | refine w_nL ?_ | refine w_nR ?_ | refine w_mI ?_ | refine w_mL ?_ | refine w_mR ?_ | skip
  first | refine x_aload_n hP rfl rfl ?_ | refine x_aload_nN hP rfl rfl ?_
  refine x_sipush hP rfl ?_
  refine x_newa (q := 105) (N := 128) hP rfl (by decide) (by decide) (by decide) rfl (by decide) (by omega) (by omega) ?_
  refine w_new (m := 106) rfl rfl ?_
  refine x_putR hP rfl (by first | assumption | rfl) ?_
  first | refine w_nI ?_ | refine w_nL ?_ | refine w_nR ?_ | refine w_mI ?_ | refine w_mL ?_ | refine w_mR ?_ | skip
  first | refine x_aload_n hP rfl rfl ?_ | refine x_aload_nN hP rfl rfl ?_
  refine x_sipush hP rfl ?_
  refine x_newa (q := 106) (N := 128) hP rfl (by decide) (by decide) (by decide) rfl (by decide) (by omega) (by omega) ?_
  refine w_new (m := 107) rfl rfl ?_
  refine x_putR hP rfl (by first | assumption | rfl) ?_
  first | refine w_nI ?_ | refine w_nL ?_ | refine w_nR ?_ | refine w_mI ?_ | refine w_mL ?_ | refine w_mR ?_ | skip
  first | refine x_aload_n hP rfl rfl ?_ | refine x_aload_nN hP rfl rfl ?_
  refine x_sipush hP rfl ?_
  refine x_newa (q := 107) (N := 128) hP rfl (by decide) (by decide) (by decide) rfl (by decide) (by omega) (by omega) ?_
  refine w_new (m := 108) rfl rfl ?_
  refine x_putR hP rfl (by first | assumption | rfl) ?_
  first | refine w_nI ?_ | refine w_nL ?_ | refine w_nR ?_ | refine w_mI ?_ | refine w_mL ?_ | refine w_mR ?_ | skip
  first | refine x_aload_n hP rfl rfl ?_ | refine x_aload_nN hP rfl rfl ?_
  refine x_iconst hP rfl ?_
  refine x_newa (q := 108) (N := 3) hP rfl (by decide) (by decide) (by decide) rfl (by decide) (by omega) (by omega) ?_
  refine w_new (m := 109) rfl rfl ?_
  refine x_putR hP rfl (by first | assumption | rfl) ?_
  first | refine w_nI ?_ | refine w_nL ?_ | refine w_nR ?_ | refine w_mI ?_ | refine w_mL ?_ | refine w_mR ?_ | skip
  first | refine x_aload_n hP rfl rfl ?_ | refine x_aload_nN hP rfl rfl ?_
  refine x_sipush hP rfl ?_
  refine x_newa (q := 109) (N := 384) hP rfl (by decide) (by decide) (by decide) rfl (by decide) (by omega) (by omega) ?_
  refine w_new (m := 110) rfl rfl ?_
  refine x_putR hP rfl (by first | assumption | rfl) ?_
  first | refine w_nI ?_ | refine w_nL ?_ | refine w_nR ?_ | refine w_mI ?_ | refine w_mL ?_ | refine w_mR ?_ | skip
  first | refine x_aload_n hP rfl rfl ?_ | refine x_aload_nN hP rfl rfl ?_
  refine x_getR hP rfl (by first | assumption | rfl) (by first | assumption | exact hR _ _ _ _ rfl | exact hR1 _ _ _ _ rfl | exact hR2 _ _ _ _ rfl | rfl) ?_
  refine x_ldcI hP rfl ?_
  refine x_callS2 hP 0 0 rfl rfl rfl rfl rfl (Nat.zero_le _) (Nat.zero_le _) ?_
  refine c_fill hP (kd := kpn 110) rfl (by decide) (fun I' h1 h2 => ?_)
  refine x_vret hP rfl rfl ?_
  exact k I' h1 h2
theorem n_Trees110 (hP : x_closed E P) (k : ∀ I', (∀ j, j < 384 → I' 1 121 j = iI (-2000000000)) → frP (fun k b _ => k = 1 ∧ b = 121) I I' → Q none (x_hk 122 (kpn 122) I' J (x_at (x_at (x_at (x_at (x_at (x_at (x_at (x_at (x_at (x_at (x_at R 1514 110 0 (some 111)) 1515 110 0 (some 112)) 1516 110 0 (some 113)) 1517 110 0 (some 114)) 1518 110 0 (some 115)) 1519 110 0 (some 116)) 1520 110 0 (some 117)) 1521 110 0 (some 118)) 1522 110 0 (some 119)) 1523 110 0 (some 120)) 1524 110 0 (some 121)))) : P 8 (d + 1) 0 (x_la 0 [.ref 110]) [] (x_hk 111 (kpn 111) I J R) 11 1415 Q := by
  first | refine x_aload_n hP rfl rfl ?_ | refine x_aload_nN hP rfl rfl ?_
  refine x_objI hP rfl (by decide) ?_
  first | refine x_aload_n hP rfl rfl ?_ | refine x_aload_nN hP rfl rfl ?_
  refine x_iconst hP rfl ?_
  refine x_newa (q := 111) (N := 4) hP rfl (by decide) (by decide) (by decide) rfl (by decide) (by omega) (by omega) ?_
  refine w_new (m := 112) rfl rfl ?_
  refine x_putR hP rfl (by first | assumption | rfl) ?_
  first | refine w_nI ?_ | refine w_nL ?_ | refine w_nR ?_ | refine w_mI ?_ | refine w_mL ?_ | refine w_mR ?_ | skip
  first | refine x_aload_n hP rfl rfl ?_ | refine x_aload_nN hP rfl rfl ?_
  refine x_sipush hP rfl ?_
  refine x_newa (q := 112) (N := 128) hP rfl (by decide) (by decide) (by decide) rfl (by decide) (by omega) (by omega) ?_
  refine w_new (m := 113) rfl rfl ?_
  refine x_putR hP rfl (by first | assumption | rfl) ?_
  first | refine w_nI ?_ | refine w_nL ?_ | refine w_nR ?_ | refine w_mI ?_ | refine w_mL ?_ | refine w_mR ?_ | skip
  first | refine x_aload_n hP rfl rfl ?_ | refine x_aload_nN hP rfl rfl ?_
  refine x_sipush hP rfl ?_
  refine x_newa (q := 113) (N := 128) hP rfl (by decide) (by decide) (by decide) rfl (by decide) (by omega) (by omega) ?_
  refine w_new (m := 114) rfl rfl ?_
  refine x_putR hP rfl (by first | assumption | rfl) ?_
  first | refine w_nI ?_ | refine w_nL ?_ | refine w_nR ?_ | refine w_mI ?_ | refine w_mL ?_ | refine w_mR ?_ | skip
  first | refine x_aload_n hP rfl rfl ?_ | refine x_aload_nN hP rfl rfl ?_
  refine x_sipush hP rfl ?_
  refine x_newa (q := 114) (N := 128) hP rfl (by decide) (by decide) (by decide) rfl (by decide) (by omega) (by omega) ?_
  refine w_new (m := 115) rfl rfl ?_
  refine x_putR hP rfl (by first | assumption | rfl) ?_
  first | refine w_nI ?_ | refine w_nL ?_ | refine w_nR ?_ | refine w_mI ?_ | refine w_mL ?_ | refine w_mR ?_ | skip
  first | refine x_aload_n hP rfl rfl ?_ | refine x_aload_nN hP rfl rfl ?_
  refine x_sipush hP rfl ?_
  refine x_newa (q := 115) (N := 128) hP rfl (by decide) (by decide) (by decide) rfl (by decide) (by omega) (by omega) ?_
  refine w_new (m := 116) rfl rfl ?_
  refine x_putR hP rfl (by first | assumption | rfl) ?_
  first | refine w_nI ?_ | refine w_nL ?_ | refine w_nR ?_ | refine w_mI ?_ | refine w_mL ?_ | refine w_mR ?_ | skip
  first | refine x_aload_n hP rfl rfl ?_ | refine x_aload_nN hP rfl rfl ?_
  refine x_sipush hP rfl ?_
  refine x_newa (q := 116) (N := 128) hP rfl (by decide) (by decide) (by decide) rfl (by decide) (by omega) (by omega) ?_
  refine w_new (m := 117) rfl rfl ?_
  refine x_putR hP rfl (by first | assumption | rfl) ?_
  first | refine w_nI ?_ | refine w_nL ?_ | refine w_nR ?_ | refine w_mI ?_ | refine w_mL ?_ | refine w_mR ?_ | skip
  first | refine x_aload_n hP rfl rfl ?_ | refine x_aload_nN hP rfl rfl ?_
  refine x_sipush hP rfl ?_
  refine x_newa (q := 117) (N := 128) hP rfl (by decide) (by decide) (by decide) rfl (by decide) (by omega) (by omega) ?_
  refine w_new (m := 118) rfl rfl ?_
  refine x_putR hP rfl (by first | assumption | rfl) ?_
  first | refine w_nI ?_ | refine w_nL ?_ | refine w_nR ?_ | refine w_mI ?_ | refine w_mL ?_ | refine w_mR ?_ | skip
  first | refine x_aload_n hP rfl rfl ?_ | refine x_aload_nN hP rfl rfl ?_
  refine x_sipush hP rfl ?_
  refine x_newa (q := 118) (N := 128) hP rfl (by decide) (by decide) (by decide) rfl (by decide) (by omega) (by omega) ?_
  refine w_new (m := 119) rfl rfl ?_
  refine x_putR hP rfl (by first | assumption | rfl) ?_
  first | refine w_nI ?_ | refine w_nL ?_ | refine w_nR ?_ | refine w_mI ?_ | refine w_mL ?_ | refine w_mR ?_ | skip
  first | refine x_aload_n hP rfl rfl ?_ | refine x_aload_nN hP rfl rfl ?_
  refine x_sipush hP rfl ?_
  refine x_newa (q := 119) (N := 128) hP rfl (by decide) (by decide) (by decide) rfl (by decide) (by omega) (by omega) ?_
  refine w_new (m := 120) rfl rfl ?_
  refine x_putR hP rfl (by first | assumption | rfl) ?_
  first | refine w_nI ?_ | refine w_nL ?_ | refine w_nR ?_ | refine w_mI ?_ | refine w_mL ?_ | refine w_mR ?_ | skip
  first | refine x_aload_n hP rfl rfl ?_ | refine x_aload_nN hP rfl rfl ?_
  refine x_iconst hP rfl ?_
  refine x_newa (q := 120) (N := 3) hP rfl (by decide) (by decide) (by decide) rfl (by decide) (by omega) (by omega) ?_
  refine w_new (m := 121) rfl rfl ?_
  refine x_putR hP rfl (by first | assumption | rfl) ?_
  first | refine w_nI ?_ | refine w_nL ?_ | refine w_nR ?_ | refine w_mI ?_ | refine w_mL ?_ | refine w_mR ?_ | skip
  first | refine x_aload_n hP rfl rfl ?_ | refine x_aload_nN hP rfl rfl ?_
  refine x_sipush hP rfl ?_
  refine x_newa (q := 121) (N := 384) hP rfl (by decide) (by decide) (by decide) rfl (by decide) (by omega) (by omega) ?_
  refine w_new (m := 122) rfl rfl ?_
  refine x_putR hP rfl (by first | assumption | rfl) ?_
  first | refine w_nI ?_ | refine w_nL ?_ | refine w_nR ?_ | refine w_mI ?_ | refine w_mL ?_ | refine w_mR ?_ | skip
  first | refine x_aload_n hP rfl rfl ?_ | refine x_aload_nN hP rfl rfl ?_
  refine x_getR hP rfl (by first | assumption | rfl) (by first | assumption | exact hR _ _ _ _ rfl | exact hR1 _ _ _ _ rfl | exact hR2 _ _ _ _ rfl | rfl) ?_
  refine x_ldcI hP rfl ?_
  refine x_callS2 hP 0 0 rfl rfl rfl rfl rfl (Nat.zero_le _) (Nat.zero_le _) ?_
  refine c_fill hP (kd := kpn 122) rfl (by decide) (fun I' h1 h2 => ?_)
  refine x_vret hP rfl rfl ?_
  exact k I' h1 h2
end
