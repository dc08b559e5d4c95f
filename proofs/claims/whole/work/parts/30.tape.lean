/-! Tape: its bytes are cell 2 -/
/-- what peek answers -/
def pkv (I : x_M Int32) (n p : Int) : Int32 := if p < n then I 2 2 p.toNat &&& iI 255 else iI (-1)
theorem c_peek {E : x_E} {P : x_Pr} (hP : x_closed E P) {d rc rs : Nat} {I : x_M Int32} {J : x_M Int64} {R : x_M (Option Nat)} {Q : x_Q} {n p : Int} (hb : R 1064 1 0 = some 2) (h1 : I 1065 1 0 = iI n) (h2 : I 1066 1 0 = iI p) (hn : 0 ≤ n ∧ n ≤ 2000) (hp : 0 ≤ p ∧ p ≤ 2000) (k : Q (some (.int (pkv I n p))) (x_hp I J R)) : P 32 d 0 (x_la 0 [.ref 1]) [] (x_hp I J R) rc rs Q := by
  first | refine x_aload_n hP rfl rfl ?_ | refine x_aload_nN hP rfl rfl ?_
  refine x_getI hP rfl (by first | rfl | assumption) (by first | assumption | rfl) ?_
  refine z_if_lt hP rfl (by omega) (fun c4 => ?_) (fun c4 => ?_)
  · omega
  first | refine x_aload_n hP rfl rfl ?_ | refine x_aload_nN hP rfl rfl ?_
  refine x_getI hP rfl (by first | rfl | assumption) (by first | assumption | rfl) ?_
  first | refine x_aload_n hP rfl rfl ?_ | refine x_aload_nN hP rfl rfl ?_
  refine x_getI hP rfl (by first | rfl | assumption) (by first | assumption | rfl) ?_
  refine z_icmp_ge hP rfl (by omega) (by omega) (fun c15 => ?_) (fun c15 => ?_)
  · refine x_iconst hP rfl ?_
    refine x_iret hP rfl rfl ?_
    rw [pkv, if_neg (by omega)] at k
    exact k
  · rw [pkv, if_pos (by omega)] at k
    first | refine x_aload_n hP rfl rfl ?_ | refine x_aload_nN hP rfl rfl ?_
    refine x_getR hP rfl (by first | rfl | assumption) (by first | assumption | rfl) ?_
    first | refine x_aload_n hP rfl rfl ?_ | refine x_aload_nN hP rfl rfl ?_
    refine x_getI hP rfl (by first | rfl | assumption) (by first | assumption | rfl) ?_
    refine z_bald hP rfl (by first | rfl | assumption) (by decide) (by omega) (by first | assumption | rfl) ?_
    refine x_sipush hP rfl ?_
    refine x_iand hP rfl ?_
    refine x_goto hP rfl ?_
    refine x_iret hP rfl rfl ?_
    exact k
