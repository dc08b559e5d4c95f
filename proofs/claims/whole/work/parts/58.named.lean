/-! the words of ACTS and FUNCTIONS -/
def actN (v : Int64) : Option Nat := if v = lI 1802069107 then some 0 else if v = lI 6384748 then some 1 else if v = lI 1701733491 then some 2 else if v = lI 30064 then some 3 else if v = lI 1885434984 then some 4 else if v = lI 1936286323 then some 5 else if v = lI 1852143732 then some 6 else if v = lI 1650549611 then some 7 else if v = lI 1684366704 then some 8 else none
def fncN (v : Int64) : Option Nat := if v = lI 1751474532 then some 0 else if v = lI 1952541036 then some 1 else if v = lI 1718971500 then some 2 else if v = lI 1870030194 then some 3 else if v = lI 504363246962 then some 4 else if v = lI 1919513445 then some 5 else if v = lI 1717660780 then some 6 else if v = lI 7630704 then some 7 else if v = lI 7106423 then some 8 else if v = lI 1953654117 then some 9 else if v = lI 1953854062 then some 10 else if v = lI 1700881256 then some 11 else none
section
variable {E : x_E} {P : x_Pr} {d rc rs : Nat} {Q : x_Q} {h : x_H}
theorem c_actNamed (hP : x_closed E P) {v : Int64} (k : Q (some (va_rf ((actN v).map fun a => 1000013 + a))) h) : P 88 d 0 (x_la 0 [.long v]) [] h rc rs Q := by
  unfold actN at k
  refine x_gets hP rfl ?_
  show P _ _ _ _ [Value.ref (1000000 + 23)] _ _ _ _
  first | refine x_astore_n hP rfl ?_ | refine x_astore_nN hP rfl ?_
  first | refine x_aload_n hP rfl rfl ?_ | refine x_aload_nN hP rfl rfl ?_
  refine x_alenS (k := 2) (iz := 23) hP rfl rfl ?_
  show P _ _ _ _ [Value.int (iI (9 : Nat))] _ _ _ _
  refine x_istore_n hP rfl ?_
  refine x_iconst hP rfl ?_
  refine x_istore hP rfl ?_
  refine x_iload hP rfl rfl ?_
  refine x_iload_n hP rfl rfl ?_
  refine z_icmp_ge hP rfl (by omega) (by omega) (fun c13 => ?_) (fun c13 => ?_)
  · omega
  first | refine x_aload_n hP rfl rfl ?_ | refine x_aload_nN hP rfl rfl ?_
  refine x_iload hP rfl rfl ?_
  refine x_aaldS (k := 2) (iz := 23) hP rfl rfl (vpA2 (by decide)) (x := .ref (1000000 + 13)) rfl ?_
  first | refine x_astore hP rfl ?_ | refine x_astoreN hP rfl ?_
  first | refine x_aload hP rfl rfl ?_ | refine x_aloadN hP rfl rfl ?_
  refine x_getO (k := 49) (iz := 13) hP rfl rfl rfl ?_
  show P _ _ _ _ [Value.long (lI 1802069107)] _ _ _ _
  refine x_lload_n hP rfl rfl ?_
  refine x_lcmp hP rfl ?_
  first | refine zb_if_ne hP rfl (fun c29 => ?_) (fun c29 => ?_) | refine zl_if_ne hP rfl (fun c29 => ?_) (fun c29 => ?_) | refine z_if_ne hP rfl (by omega) (fun c29 => ?_) (fun c29 => ?_)
  rotate_left
  · rw [if_pos c29.symm] at k
    first | refine x_aload hP rfl rfl ?_ | refine x_aloadN hP rfl rfl ?_
    exact x_aret hP (r := some _) rfl rfl k
  rw [if_neg fun q => c29 q.symm] at k
  refine z_iinc hP rfl rfl rfl ?_
  refine x_goto hP rfl ?_
  refine x_iload hP rfl rfl ?_
  refine x_iload_n hP rfl rfl ?_
  refine z_icmp_ge hP rfl (by omega) (by omega) (fun c13 => ?_) (fun c13 => ?_)
  · omega
  first | refine x_aload_n hP rfl rfl ?_ | refine x_aload_nN hP rfl rfl ?_
  refine x_iload hP rfl rfl ?_
  refine x_aaldS (k := 2) (iz := 23) hP rfl rfl (vpA2 (by decide)) (x := .ref (1000000 + 14)) rfl ?_
  first | refine x_astore hP rfl ?_ | refine x_astoreN hP rfl ?_
  first | refine x_aload hP rfl rfl ?_ | refine x_aloadN hP rfl rfl ?_
  refine x_getO (k := 51) (iz := 14) hP rfl rfl rfl ?_
  show P _ _ _ _ [Value.long (lI 6384748)] _ _ _ _
  refine x_lload_n hP rfl rfl ?_
  refine x_lcmp hP rfl ?_
  first | refine zb_if_ne hP rfl (fun c29 => ?_) (fun c29 => ?_) | refine zl_if_ne hP rfl (fun c29 => ?_) (fun c29 => ?_) | refine z_if_ne hP rfl (by omega) (fun c29 => ?_) (fun c29 => ?_)
  rotate_left
  · rw [if_pos c29.symm] at k
    first | refine x_aload hP rfl rfl ?_ | refine x_aloadN hP rfl rfl ?_
    exact x_aret hP (r := some _) rfl rfl k
  rw [if_neg fun q => c29 q.symm] at k
  refine z_iinc hP rfl rfl rfl ?_
  refine x_goto hP rfl ?_
  refine x_iload hP rfl rfl ?_
  refine x_iload_n hP rfl rfl ?_
  refine z_icmp_ge hP rfl (by omega) (by omega) (fun c13 => ?_) (fun c13 => ?_)
  · omega
  first | refine x_aload_n hP rfl rfl ?_ | refine x_aload_nN hP rfl rfl ?_
  refine x_iload hP rfl rfl ?_
  refine x_aaldS (k := 2) (iz := 23) hP rfl rfl (vpA2 (by decide)) (x := .ref (1000000 + 15)) rfl ?_
  first | refine x_astore hP rfl ?_ | refine x_astoreN hP rfl ?_
  first | refine x_aload hP rfl rfl ?_ | refine x_aloadN hP rfl rfl ?_
  refine x_getO (k := 53) (iz := 15) hP rfl rfl rfl ?_
  show P _ _ _ _ [Value.long (lI 1701733491)] _ _ _ _
  refine x_lload_n hP rfl rfl ?_
  refine x_lcmp hP rfl ?_
  first | refine zb_if_ne hP rfl (fun c29 => ?_) (fun c29 => ?_) | refine zl_if_ne hP rfl (fun c29 => ?_) (fun c29 => ?_) | refine z_if_ne hP rfl (by omega) (fun c29 => ?_) (fun c29 => ?_)
  rotate_left
  · rw [if_pos c29.symm] at k
    first | refine x_aload hP rfl rfl ?_ | refine x_aloadN hP rfl rfl ?_
    exact x_aret hP (r := some _) rfl rfl k
  rw [if_neg fun q => c29 q.symm] at k
  refine z_iinc hP rfl rfl rfl ?_
  refine x_goto hP rfl ?_
  refine x_iload hP rfl rfl ?_
  refine x_iload_n hP rfl rfl ?_
  refine z_icmp_ge hP rfl (by omega) (by omega) (fun c13 => ?_) (fun c13 => ?_)
  · omega
  first | refine x_aload_n hP rfl rfl ?_ | refine x_aload_nN hP rfl rfl ?_
  refine x_iload hP rfl rfl ?_
  refine x_aaldS (k := 2) (iz := 23) hP rfl rfl (vpA2 (by decide)) (x := .ref (1000000 + 16)) rfl ?_
  first | refine x_astore hP rfl ?_ | refine x_astoreN hP rfl ?_
  first | refine x_aload hP rfl rfl ?_ | refine x_aloadN hP rfl rfl ?_
  refine x_getO (k := 55) (iz := 16) hP rfl rfl rfl ?_
  show P _ _ _ _ [Value.long (lI 30064)] _ _ _ _
  refine x_lload_n hP rfl rfl ?_
  refine x_lcmp hP rfl ?_
  first | refine zb_if_ne hP rfl (fun c29 => ?_) (fun c29 => ?_) | refine zl_if_ne hP rfl (fun c29 => ?_) (fun c29 => ?_) | refine z_if_ne hP rfl (by omega) (fun c29 => ?_) (fun c29 => ?_)
  rotate_left
  · rw [if_pos c29.symm] at k
    first | refine x_aload hP rfl rfl ?_ | refine x_aloadN hP rfl rfl ?_
    exact x_aret hP (r := some _) rfl rfl k
  rw [if_neg fun q => c29 q.symm] at k
  refine z_iinc hP rfl rfl rfl ?_
  refine x_goto hP rfl ?_
  refine x_iload hP rfl rfl ?_
  refine x_iload_n hP rfl rfl ?_
  refine z_icmp_ge hP rfl (by omega) (by omega) (fun c13 => ?_) (fun c13 => ?_)
  · omega
  first | refine x_aload_n hP rfl rfl ?_ | refine x_aload_nN hP rfl rfl ?_
  refine x_iload hP rfl rfl ?_
  refine x_aaldS (k := 2) (iz := 23) hP rfl rfl (vpA2 (by decide)) (x := .ref (1000000 + 17)) rfl ?_
  first | refine x_astore hP rfl ?_ | refine x_astoreN hP rfl ?_
  first | refine x_aload hP rfl rfl ?_ | refine x_aloadN hP rfl rfl ?_
  refine x_getO (k := 57) (iz := 17) hP rfl rfl rfl ?_
  show P _ _ _ _ [Value.long (lI 1885434984)] _ _ _ _
  refine x_lload_n hP rfl rfl ?_
  refine x_lcmp hP rfl ?_
  first | refine zb_if_ne hP rfl (fun c29 => ?_) (fun c29 => ?_) | refine zl_if_ne hP rfl (fun c29 => ?_) (fun c29 => ?_) | refine z_if_ne hP rfl (by omega) (fun c29 => ?_) (fun c29 => ?_)
  rotate_left
  · rw [if_pos c29.symm] at k
    first | refine x_aload hP rfl rfl ?_ | refine x_aloadN hP rfl rfl ?_
    exact x_aret hP (r := some _) rfl rfl k
  rw [if_neg fun q => c29 q.symm] at k
  refine z_iinc hP rfl rfl rfl ?_
  refine x_goto hP rfl ?_
  refine x_iload hP rfl rfl ?_
  refine x_iload_n hP rfl rfl ?_
  refine z_icmp_ge hP rfl (by omega) (by omega) (fun c13 => ?_) (fun c13 => ?_)
  · omega
  first | refine x_aload_n hP rfl rfl ?_ | refine x_aload_nN hP rfl rfl ?_
  refine x_iload hP rfl rfl ?_
  refine x_aaldS (k := 2) (iz := 23) hP rfl rfl (vpA2 (by decide)) (x := .ref (1000000 + 18)) rfl ?_
  first | refine x_astore hP rfl ?_ | refine x_astoreN hP rfl ?_
  first | refine x_aload hP rfl rfl ?_ | refine x_aloadN hP rfl rfl ?_
  refine x_getO (k := 59) (iz := 18) hP rfl rfl rfl ?_
  show P _ _ _ _ [Value.long (lI 1936286323)] _ _ _ _
  refine x_lload_n hP rfl rfl ?_
  refine x_lcmp hP rfl ?_
  first | refine zb_if_ne hP rfl (fun c29 => ?_) (fun c29 => ?_) | refine zl_if_ne hP rfl (fun c29 => ?_) (fun c29 => ?_) | refine z_if_ne hP rfl (by omega) (fun c29 => ?_) (fun c29 => ?_)
  rotate_left
  · rw [if_pos c29.symm] at k
    first | refine x_aload hP rfl rfl ?_ | refine x_aloadN hP rfl rfl ?_
    exact x_aret hP (r := some _) rfl rfl k
  rw [if_neg fun q => c29 q.symm] at k
  refine z_iinc hP rfl rfl rfl ?_
  refine x_goto hP rfl ?_
  refine x_iload hP rfl rfl ?_
  refine x_iload_n hP rfl rfl ?_
  refine z_icmp_ge hP rfl (by omega) (by omega) (fun c13 => ?_) (fun c13 => ?_)
  · omega
  first | refine x_aload_n hP rfl rfl ?_ | refine x_aload_nN hP rfl rfl ?_
  refine x_iload hP rfl rfl ?_
  refine x_aaldS (k := 2) (iz := 23) hP rfl rfl (vpA2 (by decide)) (x := .ref (1000000 + 19)) rfl ?_
  first | refine x_astore hP rfl ?_ | refine x_astoreN hP rfl ?_
  first | refine x_aload hP rfl rfl ?_ | refine x_aloadN hP rfl rfl ?_
  refine x_getO (k := 61) (iz := 19) hP rfl rfl rfl ?_
  show P _ _ _ _ [Value.long (lI 1852143732)] _ _ _ _
  refine x_lload_n hP rfl rfl ?_
  refine x_lcmp hP rfl ?_
  first | refine zb_if_ne hP rfl (fun c29 => ?_) (fun c29 => ?_) | refine zl_if_ne hP rfl (fun c29 => ?_) (fun c29 => ?_) | refine z_if_ne hP rfl (by omega) (fun c29 => ?_) (fun c29 => ?_)
  rotate_left
  · rw [if_pos c29.symm] at k
    first | refine x_aload hP rfl rfl ?_ | refine x_aloadN hP rfl rfl ?_
    exact x_aret hP (r := some _) rfl rfl k
  rw [if_neg fun q => c29 q.symm] at k
  refine z_iinc hP rfl rfl rfl ?_
  refine x_goto hP rfl ?_
  refine x_iload hP rfl rfl ?_
  refine x_iload_n hP rfl rfl ?_
  refine z_icmp_ge hP rfl (by omega) (by omega) (fun c13 => ?_) (fun c13 => ?_)
  · omega
  first | refine x_aload_n hP rfl rfl ?_ | refine x_aload_nN hP rfl rfl ?_
  refine x_iload hP rfl rfl ?_
  refine x_aaldS (k := 2) (iz := 23) hP rfl rfl (vpA2 (by decide)) (x := .ref (1000000 + 20)) rfl ?_
  first | refine x_astore hP rfl ?_ | refine x_astoreN hP rfl ?_
  first | refine x_aload hP rfl rfl ?_ | refine x_aloadN hP rfl rfl ?_
  refine x_getO (k := 63) (iz := 20) hP rfl rfl rfl ?_
  show P _ _ _ _ [Value.long (lI 1650549611)] _ _ _ _
  refine x_lload_n hP rfl rfl ?_
  refine x_lcmp hP rfl ?_
  first | refine zb_if_ne hP rfl (fun c29 => ?_) (fun c29 => ?_) | refine zl_if_ne hP rfl (fun c29 => ?_) (fun c29 => ?_) | refine z_if_ne hP rfl (by omega) (fun c29 => ?_) (fun c29 => ?_)
  rotate_left
  · rw [if_pos c29.symm] at k
    first | refine x_aload hP rfl rfl ?_ | refine x_aloadN hP rfl rfl ?_
    exact x_aret hP (r := some _) rfl rfl k
  rw [if_neg fun q => c29 q.symm] at k
  refine z_iinc hP rfl rfl rfl ?_
  refine x_goto hP rfl ?_
  refine x_iload hP rfl rfl ?_
  refine x_iload_n hP rfl rfl ?_
  refine z_icmp_ge hP rfl (by omega) (by omega) (fun c13 => ?_) (fun c13 => ?_)
  · omega
  first | refine x_aload_n hP rfl rfl ?_ | refine x_aload_nN hP rfl rfl ?_
  refine x_iload hP rfl rfl ?_
  refine x_aaldS (k := 2) (iz := 23) hP rfl rfl (vpA2 (by decide)) (x := .ref (1000000 + 21)) rfl ?_
  first | refine x_astore hP rfl ?_ | refine x_astoreN hP rfl ?_
  first | refine x_aload hP rfl rfl ?_ | refine x_aloadN hP rfl rfl ?_
  refine x_getO (k := 65) (iz := 21) hP rfl rfl rfl ?_
  show P _ _ _ _ [Value.long (lI 1684366704)] _ _ _ _
  refine x_lload_n hP rfl rfl ?_
  refine x_lcmp hP rfl ?_
  first | refine zb_if_ne hP rfl (fun c29 => ?_) (fun c29 => ?_) | refine zl_if_ne hP rfl (fun c29 => ?_) (fun c29 => ?_) | refine z_if_ne hP rfl (by omega) (fun c29 => ?_) (fun c29 => ?_)
  rotate_left
  · rw [if_pos c29.symm] at k
    first | refine x_aload hP rfl rfl ?_ | refine x_aloadN hP rfl rfl ?_
    exact x_aret hP (r := some _) rfl rfl k
  rw [if_neg fun q => c29 q.symm] at k
  refine z_iinc hP rfl rfl rfl ?_
  refine x_goto hP rfl ?_
  refine x_iload hP rfl rfl ?_
  refine x_iload_n hP rfl rfl ?_
  refine z_icmp_ge hP rfl (by omega) (by omega) (fun c13 => ?_) (fun c13 => ?_)
  rotate_left
  · omega
  refine x_null hP rfl ?_
  exact x_aret hP (r := none) rfl rfl k
theorem c_fncNamed (hP : x_closed E P) {v : Int64} (k : Q (some (va_rf ((fncN v).map fun a => 1000001 + a))) h) : P 73 d 0 (x_la 0 [.long v]) [] h rc rs Q := by
  unfold fncN at k
  refine x_gets hP rfl ?_
  show P _ _ _ _ [Value.ref (1000000 + 22)] _ _ _ _
  first | refine x_astore_n hP rfl ?_ | refine x_astore_nN hP rfl ?_
  first | refine x_aload_n hP rfl rfl ?_ | refine x_aload_nN hP rfl rfl ?_
  refine x_alenS (k := 1) (iz := 22) hP rfl rfl ?_
  show P _ _ _ _ [Value.int (iI (12 : Nat))] _ _ _ _
  refine x_istore_n hP rfl ?_
  refine x_iconst hP rfl ?_
  refine x_istore hP rfl ?_
  refine x_iload hP rfl rfl ?_
  refine x_iload_n hP rfl rfl ?_
  refine z_icmp_ge hP rfl (by omega) (by omega) (fun c13 => ?_) (fun c13 => ?_)
  · omega
  first | refine x_aload_n hP rfl rfl ?_ | refine x_aload_nN hP rfl rfl ?_
  refine x_iload hP rfl rfl ?_
  refine x_aaldS (k := 1) (iz := 22) hP rfl rfl (vpF2 (by decide)) (x := .ref (1000000 + 1)) rfl ?_
  first | refine x_astore hP rfl ?_ | refine x_astoreN hP rfl ?_
  first | refine x_aload hP rfl rfl ?_ | refine x_aloadN hP rfl rfl ?_
  refine x_getO (k := 1) (iz := 1) hP rfl rfl rfl ?_
  show P _ _ _ _ [Value.long (lI 1751474532)] _ _ _ _
  refine x_lload_n hP rfl rfl ?_
  refine x_lcmp hP rfl ?_
  first | refine zb_if_ne hP rfl (fun c29 => ?_) (fun c29 => ?_) | refine zl_if_ne hP rfl (fun c29 => ?_) (fun c29 => ?_) | refine z_if_ne hP rfl (by omega) (fun c29 => ?_) (fun c29 => ?_)
  rotate_left
  · rw [if_pos c29.symm] at k
    first | refine x_aload hP rfl rfl ?_ | refine x_aloadN hP rfl rfl ?_
    exact x_aret hP (r := some _) rfl rfl k
  rw [if_neg fun q => c29 q.symm] at k
  refine z_iinc hP rfl rfl rfl ?_
  refine x_goto hP rfl ?_
  refine x_iload hP rfl rfl ?_
  refine x_iload_n hP rfl rfl ?_
  refine z_icmp_ge hP rfl (by omega) (by omega) (fun c13 => ?_) (fun c13 => ?_)
  · omega
  first | refine x_aload_n hP rfl rfl ?_ | refine x_aload_nN hP rfl rfl ?_
  refine x_iload hP rfl rfl ?_
  refine x_aaldS (k := 1) (iz := 22) hP rfl rfl (vpF2 (by decide)) (x := .ref (1000000 + 2)) rfl ?_
  first | refine x_astore hP rfl ?_ | refine x_astoreN hP rfl ?_
  first | refine x_aload hP rfl rfl ?_ | refine x_aloadN hP rfl rfl ?_
  refine x_getO (k := 5) (iz := 2) hP rfl rfl rfl ?_
  show P _ _ _ _ [Value.long (lI 1952541036)] _ _ _ _
  refine x_lload_n hP rfl rfl ?_
  refine x_lcmp hP rfl ?_
  first | refine zb_if_ne hP rfl (fun c29 => ?_) (fun c29 => ?_) | refine zl_if_ne hP rfl (fun c29 => ?_) (fun c29 => ?_) | refine z_if_ne hP rfl (by omega) (fun c29 => ?_) (fun c29 => ?_)
  rotate_left
  · rw [if_pos c29.symm] at k
    first | refine x_aload hP rfl rfl ?_ | refine x_aloadN hP rfl rfl ?_
    exact x_aret hP (r := some _) rfl rfl k
  rw [if_neg fun q => c29 q.symm] at k
  refine z_iinc hP rfl rfl rfl ?_
  refine x_goto hP rfl ?_
  refine x_iload hP rfl rfl ?_
  refine x_iload_n hP rfl rfl ?_
  refine z_icmp_ge hP rfl (by omega) (by omega) (fun c13 => ?_) (fun c13 => ?_)
  · omega
  first | refine x_aload_n hP rfl rfl ?_ | refine x_aload_nN hP rfl rfl ?_
  refine x_iload hP rfl rfl ?_
  refine x_aaldS (k := 1) (iz := 22) hP rfl rfl (vpF2 (by decide)) (x := .ref (1000000 + 3)) rfl ?_
  first | refine x_astore hP rfl ?_ | refine x_astoreN hP rfl ?_
  first | refine x_aload hP rfl rfl ?_ | refine x_aloadN hP rfl rfl ?_
  refine x_getO (k := 9) (iz := 3) hP rfl rfl rfl ?_
  show P _ _ _ _ [Value.long (lI 1718971500)] _ _ _ _
  refine x_lload_n hP rfl rfl ?_
  refine x_lcmp hP rfl ?_
  first | refine zb_if_ne hP rfl (fun c29 => ?_) (fun c29 => ?_) | refine zl_if_ne hP rfl (fun c29 => ?_) (fun c29 => ?_) | refine z_if_ne hP rfl (by omega) (fun c29 => ?_) (fun c29 => ?_)
  rotate_left
  · rw [if_pos c29.symm] at k
    first | refine x_aload hP rfl rfl ?_ | refine x_aloadN hP rfl rfl ?_
    exact x_aret hP (r := some _) rfl rfl k
  rw [if_neg fun q => c29 q.symm] at k
  refine z_iinc hP rfl rfl rfl ?_
  refine x_goto hP rfl ?_
  refine x_iload hP rfl rfl ?_
  refine x_iload_n hP rfl rfl ?_
  refine z_icmp_ge hP rfl (by omega) (by omega) (fun c13 => ?_) (fun c13 => ?_)
  · omega
  first | refine x_aload_n hP rfl rfl ?_ | refine x_aload_nN hP rfl rfl ?_
  refine x_iload hP rfl rfl ?_
  refine x_aaldS (k := 1) (iz := 22) hP rfl rfl (vpF2 (by decide)) (x := .ref (1000000 + 4)) rfl ?_
  first | refine x_astore hP rfl ?_ | refine x_astoreN hP rfl ?_
  first | refine x_aload hP rfl rfl ?_ | refine x_aloadN hP rfl rfl ?_
  refine x_getO (k := 13) (iz := 4) hP rfl rfl rfl ?_
  show P _ _ _ _ [Value.long (lI 1870030194)] _ _ _ _
  refine x_lload_n hP rfl rfl ?_
  refine x_lcmp hP rfl ?_
  first | refine zb_if_ne hP rfl (fun c29 => ?_) (fun c29 => ?_) | refine zl_if_ne hP rfl (fun c29 => ?_) (fun c29 => ?_) | refine z_if_ne hP rfl (by omega) (fun c29 => ?_) (fun c29 => ?_)
  rotate_left
  · rw [if_pos c29.symm] at k
    first | refine x_aload hP rfl rfl ?_ | refine x_aloadN hP rfl rfl ?_
    exact x_aret hP (r := some _) rfl rfl k
  rw [if_neg fun q => c29 q.symm] at k
  refine z_iinc hP rfl rfl rfl ?_
  refine x_goto hP rfl ?_
  refine x_iload hP rfl rfl ?_
  refine x_iload_n hP rfl rfl ?_
  refine z_icmp_ge hP rfl (by omega) (by omega) (fun c13 => ?_) (fun c13 => ?_)
  · omega
  first | refine x_aload_n hP rfl rfl ?_ | refine x_aload_nN hP rfl rfl ?_
  refine x_iload hP rfl rfl ?_
  refine x_aaldS (k := 1) (iz := 22) hP rfl rfl (vpF2 (by decide)) (x := .ref (1000000 + 5)) rfl ?_
  first | refine x_astore hP rfl ?_ | refine x_astoreN hP rfl ?_
  first | refine x_aload hP rfl rfl ?_ | refine x_aloadN hP rfl rfl ?_
  refine x_getO (k := 17) (iz := 5) hP rfl rfl rfl ?_
  show P _ _ _ _ [Value.long (lI 504363246962)] _ _ _ _
  refine x_lload_n hP rfl rfl ?_
  refine x_lcmp hP rfl ?_
  first | refine zb_if_ne hP rfl (fun c29 => ?_) (fun c29 => ?_) | refine zl_if_ne hP rfl (fun c29 => ?_) (fun c29 => ?_) | refine z_if_ne hP rfl (by omega) (fun c29 => ?_) (fun c29 => ?_)
  rotate_left
  · rw [if_pos c29.symm] at k
    first | refine x_aload hP rfl rfl ?_ | refine x_aloadN hP rfl rfl ?_
    exact x_aret hP (r := some _) rfl rfl k
  rw [if_neg fun q => c29 q.symm] at k
  refine z_iinc hP rfl rfl rfl ?_
  refine x_goto hP rfl ?_
  refine x_iload hP rfl rfl ?_
  refine x_iload_n hP rfl rfl ?_
  refine z_icmp_ge hP rfl (by omega) (by omega) (fun c13 => ?_) (fun c13 => ?_)
  · omega
  first | refine x_aload_n hP rfl rfl ?_ | refine x_aload_nN hP rfl rfl ?_
  refine x_iload hP rfl rfl ?_
  refine x_aaldS (k := 1) (iz := 22) hP rfl rfl (vpF2 (by decide)) (x := .ref (1000000 + 6)) rfl ?_
  first | refine x_astore hP rfl ?_ | refine x_astoreN hP rfl ?_
  first | refine x_aload hP rfl rfl ?_ | refine x_aloadN hP rfl rfl ?_
  refine x_getO (k := 21) (iz := 6) hP rfl rfl rfl ?_
  show P _ _ _ _ [Value.long (lI 1919513445)] _ _ _ _
  refine x_lload_n hP rfl rfl ?_
  refine x_lcmp hP rfl ?_
  first | refine zb_if_ne hP rfl (fun c29 => ?_) (fun c29 => ?_) | refine zl_if_ne hP rfl (fun c29 => ?_) (fun c29 => ?_) | refine z_if_ne hP rfl (by omega) (fun c29 => ?_) (fun c29 => ?_)
  rotate_left
  · rw [if_pos c29.symm] at k
    first | refine x_aload hP rfl rfl ?_ | refine x_aloadN hP rfl rfl ?_
    exact x_aret hP (r := some _) rfl rfl k
  rw [if_neg fun q => c29 q.symm] at k
  refine z_iinc hP rfl rfl rfl ?_
  refine x_goto hP rfl ?_
  refine x_iload hP rfl rfl ?_
  refine x_iload_n hP rfl rfl ?_
  refine z_icmp_ge hP rfl (by omega) (by omega) (fun c13 => ?_) (fun c13 => ?_)
  · omega
  first | refine x_aload_n hP rfl rfl ?_ | refine x_aload_nN hP rfl rfl ?_
  refine x_iload hP rfl rfl ?_
  refine x_aaldS (k := 1) (iz := 22) hP rfl rfl (vpF2 (by decide)) (x := .ref (1000000 + 7)) rfl ?_
  first | refine x_astore hP rfl ?_ | refine x_astoreN hP rfl ?_
  first | refine x_aload hP rfl rfl ?_ | refine x_aloadN hP rfl rfl ?_
  refine x_getO (k := 25) (iz := 7) hP rfl rfl rfl ?_
  show P _ _ _ _ [Value.long (lI 1717660780)] _ _ _ _
  refine x_lload_n hP rfl rfl ?_
  refine x_lcmp hP rfl ?_
  first | refine zb_if_ne hP rfl (fun c29 => ?_) (fun c29 => ?_) | refine zl_if_ne hP rfl (fun c29 => ?_) (fun c29 => ?_) | refine z_if_ne hP rfl (by omega) (fun c29 => ?_) (fun c29 => ?_)
  rotate_left
  · rw [if_pos c29.symm] at k
    first | refine x_aload hP rfl rfl ?_ | refine x_aloadN hP rfl rfl ?_
    exact x_aret hP (r := some _) rfl rfl k
  rw [if_neg fun q => c29 q.symm] at k
  refine z_iinc hP rfl rfl rfl ?_
  refine x_goto hP rfl ?_
  refine x_iload hP rfl rfl ?_
  refine x_iload_n hP rfl rfl ?_
  refine z_icmp_ge hP rfl (by omega) (by omega) (fun c13 => ?_) (fun c13 => ?_)
  · omega
  first | refine x_aload_n hP rfl rfl ?_ | refine x_aload_nN hP rfl rfl ?_
  refine x_iload hP rfl rfl ?_
  refine x_aaldS (k := 1) (iz := 22) hP rfl rfl (vpF2 (by decide)) (x := .ref (1000000 + 8)) rfl ?_
  first | refine x_astore hP rfl ?_ | refine x_astoreN hP rfl ?_
  first | refine x_aload hP rfl rfl ?_ | refine x_aloadN hP rfl rfl ?_
  refine x_getO (k := 29) (iz := 8) hP rfl rfl rfl ?_
  show P _ _ _ _ [Value.long (lI 7630704)] _ _ _ _
  refine x_lload_n hP rfl rfl ?_
  refine x_lcmp hP rfl ?_
  first | refine zb_if_ne hP rfl (fun c29 => ?_) (fun c29 => ?_) | refine zl_if_ne hP rfl (fun c29 => ?_) (fun c29 => ?_) | refine z_if_ne hP rfl (by omega) (fun c29 => ?_) (fun c29 => ?_)
  rotate_left
  · rw [if_pos c29.symm] at k
    first | refine x_aload hP rfl rfl ?_ | refine x_aloadN hP rfl rfl ?_
    exact x_aret hP (r := some _) rfl rfl k
  rw [if_neg fun q => c29 q.symm] at k
  refine z_iinc hP rfl rfl rfl ?_
  refine x_goto hP rfl ?_
  refine x_iload hP rfl rfl ?_
  refine x_iload_n hP rfl rfl ?_
  refine z_icmp_ge hP rfl (by omega) (by omega) (fun c13 => ?_) (fun c13 => ?_)
  · omega
  first | refine x_aload_n hP rfl rfl ?_ | refine x_aload_nN hP rfl rfl ?_
  refine x_iload hP rfl rfl ?_
  refine x_aaldS (k := 1) (iz := 22) hP rfl rfl (vpF2 (by decide)) (x := .ref (1000000 + 9)) rfl ?_
  first | refine x_astore hP rfl ?_ | refine x_astoreN hP rfl ?_
  first | refine x_aload hP rfl rfl ?_ | refine x_aloadN hP rfl rfl ?_
  refine x_getO (k := 33) (iz := 9) hP rfl rfl rfl ?_
  show P _ _ _ _ [Value.long (lI 7106423)] _ _ _ _
  refine x_lload_n hP rfl rfl ?_
  refine x_lcmp hP rfl ?_
  first | refine zb_if_ne hP rfl (fun c29 => ?_) (fun c29 => ?_) | refine zl_if_ne hP rfl (fun c29 => ?_) (fun c29 => ?_) | refine z_if_ne hP rfl (by omega) (fun c29 => ?_) (fun c29 => ?_)
  rotate_left
  · rw [if_pos c29.symm] at k
    first | refine x_aload hP rfl rfl ?_ | refine x_aloadN hP rfl rfl ?_
    exact x_aret hP (r := some _) rfl rfl k
  rw [if_neg fun q => c29 q.symm] at k
  refine z_iinc hP rfl rfl rfl ?_
  refine x_goto hP rfl ?_
  refine x_iload hP rfl rfl ?_
  refine x_iload_n hP rfl rfl ?_
  refine z_icmp_ge hP rfl (by omega) (by omega) (fun c13 => ?_) (fun c13 => ?_)
  · omega
  first | refine x_aload_n hP rfl rfl ?_ | refine x_aload_nN hP rfl rfl ?_
  refine x_iload hP rfl rfl ?_
  refine x_aaldS (k := 1) (iz := 22) hP rfl rfl (vpF2 (by decide)) (x := .ref (1000000 + 10)) rfl ?_
  first | refine x_astore hP rfl ?_ | refine x_astoreN hP rfl ?_
  first | refine x_aload hP rfl rfl ?_ | refine x_aloadN hP rfl rfl ?_
  refine x_getO (k := 37) (iz := 10) hP rfl rfl rfl ?_
  show P _ _ _ _ [Value.long (lI 1953654117)] _ _ _ _
  refine x_lload_n hP rfl rfl ?_
  refine x_lcmp hP rfl ?_
  first | refine zb_if_ne hP rfl (fun c29 => ?_) (fun c29 => ?_) | refine zl_if_ne hP rfl (fun c29 => ?_) (fun c29 => ?_) | refine z_if_ne hP rfl (by omega) (fun c29 => ?_) (fun c29 => ?_)
  rotate_left
  · rw [if_pos c29.symm] at k
    first | refine x_aload hP rfl rfl ?_ | refine x_aloadN hP rfl rfl ?_
    exact x_aret hP (r := some _) rfl rfl k
  rw [if_neg fun q => c29 q.symm] at k
  refine z_iinc hP rfl rfl rfl ?_
  refine x_goto hP rfl ?_
  refine x_iload hP rfl rfl ?_
  refine x_iload_n hP rfl rfl ?_
  refine z_icmp_ge hP rfl (by omega) (by omega) (fun c13 => ?_) (fun c13 => ?_)
  · omega
  first | refine x_aload_n hP rfl rfl ?_ | refine x_aload_nN hP rfl rfl ?_
  refine x_iload hP rfl rfl ?_
  refine x_aaldS (k := 1) (iz := 22) hP rfl rfl (vpF2 (by decide)) (x := .ref (1000000 + 11)) rfl ?_
  first | refine x_astore hP rfl ?_ | refine x_astoreN hP rfl ?_
  first | refine x_aload hP rfl rfl ?_ | refine x_aloadN hP rfl rfl ?_
  refine x_getO (k := 41) (iz := 11) hP rfl rfl rfl ?_
  show P _ _ _ _ [Value.long (lI 1953854062)] _ _ _ _
  refine x_lload_n hP rfl rfl ?_
  refine x_lcmp hP rfl ?_
  first | refine zb_if_ne hP rfl (fun c29 => ?_) (fun c29 => ?_) | refine zl_if_ne hP rfl (fun c29 => ?_) (fun c29 => ?_) | refine z_if_ne hP rfl (by omega) (fun c29 => ?_) (fun c29 => ?_)
  rotate_left
  · rw [if_pos c29.symm] at k
    first | refine x_aload hP rfl rfl ?_ | refine x_aloadN hP rfl rfl ?_
    exact x_aret hP (r := some _) rfl rfl k
  rw [if_neg fun q => c29 q.symm] at k
  refine z_iinc hP rfl rfl rfl ?_
  refine x_goto hP rfl ?_
  refine x_iload hP rfl rfl ?_
  refine x_iload_n hP rfl rfl ?_
  refine z_icmp_ge hP rfl (by omega) (by omega) (fun c13 => ?_) (fun c13 => ?_)
  · omega
  first | refine x_aload_n hP rfl rfl ?_ | refine x_aload_nN hP rfl rfl ?_
  refine x_iload hP rfl rfl ?_
  refine x_aaldS (k := 1) (iz := 22) hP rfl rfl (vpF2 (by decide)) (x := .ref (1000000 + 12)) rfl ?_
  first | refine x_astore hP rfl ?_ | refine x_astoreN hP rfl ?_
  first | refine x_aload hP rfl rfl ?_ | refine x_aloadN hP rfl rfl ?_
  refine x_getO (k := 45) (iz := 12) hP rfl rfl rfl ?_
  show P _ _ _ _ [Value.long (lI 1700881256)] _ _ _ _
  refine x_lload_n hP rfl rfl ?_
  refine x_lcmp hP rfl ?_
  first | refine zb_if_ne hP rfl (fun c29 => ?_) (fun c29 => ?_) | refine zl_if_ne hP rfl (fun c29 => ?_) (fun c29 => ?_) | refine z_if_ne hP rfl (by omega) (fun c29 => ?_) (fun c29 => ?_)
  rotate_left
  · rw [if_pos c29.symm] at k
    first | refine x_aload hP rfl rfl ?_ | refine x_aloadN hP rfl rfl ?_
    exact x_aret hP (r := some _) rfl rfl k
  rw [if_neg fun q => c29 q.symm] at k
  refine z_iinc hP rfl rfl rfl ?_
  refine x_goto hP rfl ?_
  refine x_iload hP rfl rfl ?_
  refine x_iload_n hP rfl rfl ?_
  refine z_icmp_ge hP rfl (by omega) (by omega) (fun c13 => ?_) (fun c13 => ?_)
  rotate_left
  · omega
  refine x_null hP rfl ?_
  exact x_aret hP (r := none) rfl rfl k
end
