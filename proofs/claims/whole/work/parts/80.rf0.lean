/-! THE REFERENCE: its tape, its text -/
/-- the two cursors over a memory -/
def rT (I : x_M Int32) (p w : Int) : x_M Int32 := x_at (x_at I 1580 122 0 (iI p)) 1581 122 0 (iI w)
theorem rT_at (I : x_M Int32) (J : x_M Int64) (R : x_M (Option Nat)) (p w q : Int) : x_hp (x_at (rT I p w) 1580 122 0 (iI q)) J R = x_hp (rT I q w) J R := by
  unfold rT
  rw [x_at_sw _ _ _ _ _ _ _ _ _ (by decide), x_at_at]
theorem rT_wr (I : x_M Int32) (J : x_M Int64) (R : x_M (Option Nat)) (p w q : Int) : x_hp (x_at (rT I p w) 1581 122 0 (iI q)) J R = x_hp (rT I p q) J R := by
  unfold rT
  rw [x_at_at]
def rC (k a _i : Nat) : Prop := a = 122 ∧ (k = 1580 ∨ k = 1581)
theorem rT_fr (I : x_M Int32) (p w : Int) : frP rC I (rT I p w) := frP_at (frP_at (frP_refl _ _) ⟨rfl, Or.inl rfl⟩) ⟨rfl, Or.inr rfl⟩
theorem rT_self {I : x_M Int32} {p w : Int} (h1 : I 1580 122 0 = iI p) (h2 : I 1581 122 0 = iI w) : rT I p w = I := by
  unfold rT
  rw [x_at_id _ _ _ _ h1, x_at_id _ _ _ _ h2]
theorem rT_rT (I : x_M Int32) (p w q v : Int) : rT (rT I p w) q v = rT I q v := by
  unfold rT
  rw [x_at_sw _ _ _ _ _ _ _ _ _ (by decide), x_at_at, x_at_sw _ _ _ _ _ _ _ _ _ (by decide), x_at_at]
theorem rT_hi (I : x_M Int32) (p w : Int) {k a i : Nat} (h : ¬ rC k a i) : rT I p w k a i = I k a i := rT_fr I p w k a i h
/-- the text being read -/
def txB (I : x_M Int32) (n : Nat) (c : Nat → Nat) : Prop := I 1579 122 0 = iI n ∧ n ≤ 2000 ∧ (∀ i, c i < 256) ∧ ∀ i, i < n → I 1 124 i = iI (c i)
/-- the tape -/
def tpR (I : x_M Int32) (n : Nat) (c : Nat → Nat) : Prop := I 1578 122 0 = iI n ∧ n ≤ 2000 ∧ (∀ i, c i < 256) ∧ ∀ i, i < n → I 1 123 i = iI (c i)
def rG (k a _i : Nat) : Prop := (a = 122 ∧ k = 1578) ∨ a = 123
def qPost {α : Type} (Q : x_Q) (I : x_M Int32) (J : x_M Int64) (R : x_M (Option Nat)) (bad : Value → Prop) (good : α → Value) (r : Nat ⊕ (α × Nat)) : Prop := match r with
  | .inl e => ∀ (q : Nat) (v : Value), bad v → Q (some v) (x_hp (rT I q e) J R)
  | .inr (v, q) => Q (some (good v)) (x_hp (rT I q (-1)) J R)
section
variable {E : x_E} {P : x_Pr} {d rc rs : Nat} {I : x_M Int32} {J : x_M Int64} {R : x_M (Option Nat)} {Q : x_Q} {n p : Nat} {w : Int} {c : Nat → Nat}
theorem r_four1 (hP : x_closed E P) (hR : x_fin R) {x : Int32} {s : Nat} (hs : s ≤ 24) (ht : tpR I n c) (hn : n < 2000) (k : ∀ I' r1 r2, tpR I' (n + 1) (cU c n (byt x s)) → frP rG I I' → P 157 d 3 (x_ls [some (.ref 122), some (.int x), some (.int (iI ((s : Int) - 8)))]) [] (x_hp I' J R) r1 r2 Q) : P 157 d 3 (x_ls [some (.ref 122), some (.int x), some (.int (iI s))]) [] (x_hp I J R) rc rs Q := by
  obtain ⟨h1, h2, h3, h4⟩ := ht
  refine x_iload_n hP rfl rfl ?_
  refine z_if_lt hP rfl (by omega) (fun c4 => ?_) (fun c4 => ?_)
  · omega
  first | refine x_aload_n hP rfl rfl ?_ | refine x_aload_nN hP rfl rfl ?_
  refine x_getR hP rfl (by first | assumption | rfl) (by first | assumption | exact hR _ _ _ _ rfl | exact hR1 _ _ _ _ rfl | exact hR2 _ _ _ _ rfl | rfl) ?_
  first | refine x_aload_n hP rfl rfl ?_ | refine x_aload_nN hP rfl rfl ?_
  refine x_getI hP rfl (by first | assumption | rfl) (by first | assumption | exact hR _ _ _ _ rfl | exact hR1 _ _ _ _ rfl | exact hR2 _ _ _ _ rfl | rfl) ?_
  refine x_iload_n hP rfl rfl ?_
  refine x_iload_n hP rfl rfl ?_
  refine x_ishr hP rfl ?_
  refine x_sipush hP rfl ?_
  refine x_iand hP rfl ?_
  rw [show (x >>> (iI (s : Nat) &&& 31)) &&& iI 255 = iI (byt x s) from shr255 x hs]
  refine z_iast hP rfl (by first | assumption | rfl) (by first | decide | omega) (by omega) ?_
  first | refine w_nI ?_ | refine w_nL ?_ | refine w_nR ?_ | refine w_mI ?_ | refine w_mL ?_ | refine w_mR ?_ | skip
  rw [Int.toNat_natCast]
  have g : x_at I 1 123 n (iI (byt x s)) 1578 122 0 = iI n := h1
  first | refine x_aload_n hP rfl rfl ?_ | refine x_aload_nN hP rfl rfl ?_
  refine x_dup hP rfl rfl ?_
  refine x_getI hP rfl (by first | assumption | rfl) (by first | assumption | exact hR _ _ _ _ rfl | exact hR1 _ _ _ _ rfl | exact hR2 _ _ _ _ rfl | rfl) ?_
  refine x_iconst hP rfl ?_
  first | refine z_iadd hP rfl ?_ | refine x_iadd hP rfl ?_
  refine x_putI hP rfl (by first | assumption | rfl) ?_
  first | refine w_nI ?_ | refine w_nL ?_ | refine w_nR ?_ | refine w_mI ?_ | refine w_mL ?_ | refine w_mR ?_ | skip
  refine z_iinc hP rfl rfl rfl ?_
  refine x_goto hP rfl ?_
  refine x_re hP [some (.ref 122), some (.int x), some (.int (iI ((s : Int) - 8)))] ⟨rfl, rfl, rfl, trivial⟩ (k _ _ _ ⟨?_, by omega, fun i => ?_, fun i hi => ?_⟩ (frP_at (frP_at (frP_refl _ _) (Or.inr rfl)) (Or.inl ⟨rfl, rfl⟩)))
  · rw [x_at_eq, if_pos ⟨rfl, rfl, rfl⟩]; rfl
  · unfold cU; split; exact byt_lt _ _; exact h3 i
  · unfold cU
    rw [x_at_eq, if_neg (by omega), x_at_eq]
    by_cases q : i = n
    · rw [if_pos ⟨rfl, rfl, q⟩, if_pos q]
    · rw [if_neg (by omega), if_neg q]; exact h4 i (by omega)
theorem r_four (hP : x_closed E P) (hR : x_fin R) {x : Int32} (ht : tpR I n c) (hn : n + 4 ≤ 2000) (k : ∀ I', tpR I' (n + 4) (c4 c n x) → frP rG I I' → Q none (x_hp I' J R)) : P 157 d 0 (x_la 0 [.ref 122, .int x]) [] (x_hp I J R) rc rs Q := by
  refine x_bipush hP rfl ?_
  refine x_istore_n hP rfl ?_
  refine x_re hP [some (.ref 122), some (.int x), some (.int (iI (24 : Nat)))] ⟨rfl, rfl, rfl, trivial⟩ (r_four1 hP hR (by decide) ht (by omega) (fun I1 r1 r2 t1 f1 => ?_))
  refine x_re hP [some (.ref 122), some (.int x), some (.int (iI (16 : Nat)))] ⟨rfl, rfl, rfl, trivial⟩ (r_four1 hP hR (by decide) t1 (by omega) (fun I2 r1 r2 t2 f2 => ?_))
  refine x_re hP [some (.ref 122), some (.int x), some (.int (iI (8 : Nat)))] ⟨rfl, rfl, rfl, trivial⟩ (r_four1 hP hR (by decide) t2 (by omega) (fun I3 r1 r2 t3 f3 => ?_))
  refine x_re hP [some (.ref 122), some (.int x), some (.int (iI (0 : Nat)))] ⟨rfl, rfl, rfl, trivial⟩ (r_four1 hP hR (by decide) t3 (by omega) (fun I4 r1 r2 t4 f4 => ?_))
  refine x_iload_n hP rfl rfl ?_
  refine z_if_lt hP rfl (by omega) (fun c4 => ?_) (fun c4 => ?_)
  · refine x_vret hP rfl rfl ?_
    exact k _ t4 (frP_trans f1 (frP_trans f2 (frP_trans f3 f4)))
  · omega
theorem r_feed (hP : x_closed E P) (hR : x_fin R) {x1 x2 x3 x4 x5 : Int32} (ht : tpR I n c) (k1 : n + 20 ≤ 2000 → ∀ I', tpR I' (n + 20) (c20 c n x1 x2 x3 x4 x5) → frP rG I I' → Q (some (.int (iI (n + 20 : Nat)))) (x_hp I' J R)) (k2 : ¬ n + 20 ≤ 2000 → Q (some (.int (iI (-4)))) (x_hp I J R)) : P 156 (d + 1) 0 (x_la 0 [.ref 122, .int x1, .int x2, .int x3, .int x4, .int x5]) [] (x_hp I J R) rc rs Q := by
  have h1 := ht.1
  have h2 := ht.2.1
  first | refine x_aload_n hP rfl rfl ?_ | refine x_aload_nN hP rfl rfl ?_
  refine x_getI hP rfl (by first | assumption | rfl) (by first | assumption | exact hR _ _ _ _ rfl | exact hR1 _ _ _ _ rfl | exact hR2 _ _ _ _ rfl | rfl) ?_
  refine x_bipush hP rfl ?_
  first | refine z_iadd hP rfl ?_ | refine x_iadd hP rfl ?_
  refine x_sipush hP rfl ?_
  refine z_icmp_le hP rfl (by omega) (by omega) (fun c10 => ?_) (fun c10 => ?_)
  rotate_left
  · refine x_bipush hP rfl ?_
    refine x_iret hP rfl rfl ?_
    exact k2 (by omega)
  have hn : n + 20 ≤ 2000 := by omega
  clear c10 k2
  first | refine x_aload_n hP rfl rfl ?_ | refine x_aload_nN hP rfl rfl ?_
  refine x_iload_n hP rfl rfl ?_
  refine x_callV1 (ci := 9) hP 0 0 rfl rfl rfl (by first | assumption | rfl) rfl rfl rfl (Nat.zero_le _) (Nat.zero_le _) ?_
  refine r_four hP hR ht (by omega) (fun I1 t1 f1 => ?_)
  first | refine x_aload_n hP rfl rfl ?_ | refine x_aload_nN hP rfl rfl ?_
  refine x_iload_n hP rfl rfl ?_
  refine x_callV1 (ci := 9) hP 0 0 rfl rfl rfl (by first | assumption | rfl) rfl rfl rfl (Nat.zero_le _) (Nat.zero_le _) ?_
  refine r_four hP hR t1 (by omega) (fun I2 t2 f2 => ?_)
  first | refine x_aload_n hP rfl rfl ?_ | refine x_aload_nN hP rfl rfl ?_
  refine x_iload_n hP rfl rfl ?_
  refine x_callV1 (ci := 9) hP 0 0 rfl rfl rfl (by first | assumption | rfl) rfl rfl rfl (Nat.zero_le _) (Nat.zero_le _) ?_
  refine r_four hP hR t2 (by omega) (fun I3 t3 f3 => ?_)
  first | refine x_aload_n hP rfl rfl ?_ | refine x_aload_nN hP rfl rfl ?_
  refine x_iload hP rfl rfl ?_
  refine x_callV1 (ci := 9) hP 0 0 rfl rfl rfl (by first | assumption | rfl) rfl rfl rfl (Nat.zero_le _) (Nat.zero_le _) ?_
  refine r_four hP hR t3 (by omega) (fun I4 t4 f4 => ?_)
  first | refine x_aload_n hP rfl rfl ?_ | refine x_aload_nN hP rfl rfl ?_
  refine x_iload hP rfl rfl ?_
  refine x_callV1 (ci := 9) hP 0 0 rfl rfl rfl (by first | assumption | rfl) rfl rfl rfl (Nat.zero_le _) (Nat.zero_le _) ?_
  refine r_four hP hR t4 (by omega) (fun I5 t5 f5 => ?_)
  have g := t5.1
  first | refine x_aload_n hP rfl rfl ?_ | refine x_aload_nN hP rfl rfl ?_
  refine x_getI hP rfl (by first | assumption | rfl) (by first | assumption | exact hR _ _ _ _ rfl | exact hR1 _ _ _ _ rfl | exact hR2 _ _ _ _ rfl | rfl) ?_
  refine x_iret hP rfl rfl ?_
  exact k1 hn I5 t5 (frP_trans f1 (frP_trans f2 (frP_trans f3 (frP_trans f4 f5))))
theorem r_end (hP : x_closed E P) (hR : x_fin R) {x : Int} (hx : -2147483648 ≤ x ∧ x < 2147483648) (ht : tpR I n c) (k1 : ∀ m : Nat, x = m → m ≤ n → ∀ I', tpR I' m c → frP rG I I' → Q (some (.int (iI m))) (x_hp I' J R)) (k2 : x < 0 ∨ (n : Int) < x → Q (some (.int (iI (-1)))) (x_hp I J R)) : P 158 (d + 1) 0 (x_la 0 [.ref 122, .int (iI x)]) [] (x_hp I J R) rc rs Q := by
  have h1 := ht.1
  have h2 := ht.2.1
  refine x_iload_n hP rfl rfl ?_
  refine z_if_lt hP rfl (by omega) (fun c1 => ?_) (fun c1 => ?_)
  · refine x_iconst hP rfl ?_
    refine x_iret hP rfl rfl ?_
    exact k2 (by omega)
  refine x_iload_n hP rfl rfl ?_
  first | refine x_aload_n hP rfl rfl ?_ | refine x_aload_nN hP rfl rfl ?_
  refine x_getI hP rfl (by first | assumption | rfl) (by first | assumption | exact hR _ _ _ _ rfl | exact hR1 _ _ _ _ rfl | exact hR2 _ _ _ _ rfl | rfl) ?_
  refine z_icmp_le hP rfl (by omega) (by omega) (fun c9 => ?_) (fun c9 => ?_)
  rotate_left
  · refine x_iconst hP rfl ?_
    refine x_iret hP rfl rfl ?_
    exact k2 (by omega)
  obtain ⟨m, rfl⟩ : ∃ m : Nat, x = m := ⟨x.toNat, by omega⟩
  first | refine x_aload_n hP rfl rfl ?_ | refine x_aload_nN hP rfl rfl ?_
  refine x_iload_n hP rfl rfl ?_
  refine x_putI hP rfl (by first | assumption | rfl) ?_
  first | refine w_nI ?_ | refine w_nL ?_ | refine w_nR ?_ | refine w_mI ?_ | refine w_mL ?_ | refine w_mR ?_ | skip
  refine x_iload_n hP rfl rfl ?_
  refine x_iret hP rfl rfl ?_
  obtain ⟨h1, h2, h3, h4⟩ := ht
  refine k1 m rfl (by omega) _ ⟨?_, by omega, h3, fun i hi => ?_⟩ (frP_at (frP_refl _ _) (Or.inl ⟨rfl, rfl⟩))
  · rw [x_at_eq, if_pos ⟨rfl, rfl, rfl⟩]
  · rw [x_at_eq, if_neg (by omega)]; exact h4 i (by omega)
/-- what the taking of the text changes -/
def rK (k a _i : Nat) : Prop := (a = 122 ∧ (k = 1578 ∨ k = 1579 ∨ k = 1580 ∨ k = 1581 ∨ k = 1602)) ∨ a = 124
theorem r_take_loop (hP : x_closed E P) (hR : x_fin R) : ∀ (f i : Nat) (I : x_M Int32), i + f = n → n ≤ 2000 → (∀ i, c i < 256) → I 1579 122 0 = iI n → (∀ i, i < n → I 1 123 i = iI (c i)) → (∀ j, j < i → I 1 124 j = iI (c j)) → (∀ I' L r1 r2, txB I' n c → (∀ i, i < n → I' 1 123 i = iI (c i)) → frP rK I I' → x_ag L 0 [some (.ref 122)] → P 160 d 36 L [] (x_hp I' J R) r1 r2 Q) → ∀ rc rs, P 160 d 10 (x_ls [some (.ref 122), some (.int (iI i))]) [] (x_hp I J R) rc rs Q := by
  intro f
  induction f with
  | zero =>
    intro i I hi h1 h2 h3 h4 h5 k rc rs
    obtain rfl : i = n := by omega
    refine x_iload_n hP rfl rfl ?_
    first | refine x_aload_n hP rfl rfl ?_ | refine x_aload_nN hP rfl rfl ?_
    refine x_getI hP rfl (by first | assumption | rfl) (by first | assumption | exact hR _ _ _ _ rfl | exact hR1 _ _ _ _ rfl | exact hR2 _ _ _ _ rfl | rfl) ?_
    refine z_icmp_ge hP rfl (by omega) (by omega) (fun c15 => ?_) (fun c15 => ?_)
    · exact k I _ _ _ ⟨h3, h1, h2, h5⟩ h4 (frP_refl _ _) ⟨rfl, trivial⟩
    · omega
  | succ f ih =>
    intro i I hi h1 h2 h3 h4 h5 k rc rs
    have v := h4 i (by omega)
    refine x_iload_n hP rfl rfl ?_
    first | refine x_aload_n hP rfl rfl ?_ | refine x_aload_nN hP rfl rfl ?_
    refine x_getI hP rfl (by first | assumption | rfl) (by first | assumption | exact hR _ _ _ _ rfl | exact hR1 _ _ _ _ rfl | exact hR2 _ _ _ _ rfl | rfl) ?_
    refine z_icmp_ge hP rfl (by omega) (by omega) (fun c15 => ?_) (fun c15 => ?_)
    · omega
    first | refine x_aload_n hP rfl rfl ?_ | refine x_aload_nN hP rfl rfl ?_
    refine x_getR hP rfl (by first | assumption | rfl) (by first | assumption | exact hR _ _ _ _ rfl | exact hR1 _ _ _ _ rfl | exact hR2 _ _ _ _ rfl | rfl) ?_
    refine x_iload_n hP rfl rfl ?_
    first | refine x_aload_n hP rfl rfl ?_ | refine x_aload_nN hP rfl rfl ?_
    refine x_getR hP rfl (by first | assumption | rfl) (by first | assumption | exact hR _ _ _ _ rfl | exact hR1 _ _ _ _ rfl | exact hR2 _ _ _ _ rfl | rfl) ?_
    refine x_iload_n hP rfl rfl ?_
    refine z_iald hP rfl (by first | assumption | rfl) (by first | decide | omega) (by omega) (by first | assumption | exact hR _ _ _ _ rfl | exact hR1 _ _ _ _ rfl | exact hR2 _ _ _ _ rfl | rfl) ?_
    refine z_iast hP rfl (by first | assumption | rfl) (by first | decide | omega) (by omega) ?_
    first | refine w_nI ?_ | refine w_nL ?_ | refine w_nR ?_ | refine w_mI ?_ | refine w_mL ?_ | refine w_mR ?_ | skip
    rw [Int.toNat_natCast]
    refine z_iinc hP rfl rfl rfl ?_
    refine x_goto hP rfl ?_
    refine x_re hP [some (.ref 122), some (.int (iI (i + 1 : Nat)))] ⟨rfl, rfl, trivial⟩ (ih (i + 1) _ (by omega) h1 h2 ?_ (fun j hj => ?_) (fun j hj => ?_) (fun I' L r1 r2 w1 w2 w3 => k I' L r1 r2 w1 w2 (frP_trans (frP_at (frP_refl _ _) (Or.inr rfl)) w3)) _ _)
    · rw [x_at_eq, if_neg (by omega)]; exact h3
    · rw [x_at_eq, if_neg (by omega)]; exact h4 j hj
    · rw [x_at_eq]
      by_cases q : j = i
      · rw [if_pos ⟨rfl, rfl, q⟩, q]
      · rw [if_neg (by omega)]; exact h5 j (by omega)
theorem r_take (hP : x_closed E P) (hR : x_fin R) (ht : tpR I n c) (k : ∀ I', txB I' n c → tpR I' 0 c → I' 1602 122 0 = bI false → rT I' 0 (-1) = I' → frP rK I I' → Q none (x_hp I' J R)) : P 160 (d + 1) 0 (x_la 0 [.ref 122]) [] (x_hp I J R) rc rs Q := by
  obtain ⟨h1, h2, h3, h4⟩ := ht
  first | refine x_aload_n hP rfl rfl ?_ | refine x_aload_nN hP rfl rfl ?_
  first | refine x_aload_n hP rfl rfl ?_ | refine x_aload_nN hP rfl rfl ?_
  refine x_getI hP rfl (by first | assumption | rfl) (by first | assumption | exact hR _ _ _ _ rfl | exact hR1 _ _ _ _ rfl | exact hR2 _ _ _ _ rfl | rfl) ?_
  refine x_putI hP rfl (by first | assumption | rfl) ?_
  first | refine w_nI ?_ | refine w_nL ?_ | refine w_nR ?_ | refine w_mI ?_ | refine w_mL ?_ | refine w_mR ?_ | skip
  refine x_iconst hP rfl ?_
  refine x_istore_n hP rfl ?_
  refine x_re hP [some (.ref 122), some (.int (iI (0 : Nat)))] ⟨rfl, rfl, trivial⟩ (r_take_loop hP hR n 0 _ (by omega) h2 h3 ?_ (fun j hj => ?_) (fun j hj => absurd hj (Nat.not_lt_zero _)) (fun I1 L r1 r2 g1 g2 g3 hL => ?_) _ _)
  · rw [x_at_eq, if_pos ⟨rfl, rfl, rfl⟩]
  · rw [x_at_eq, if_neg (by omega)]; exact h4 j hj
  refine x_re hP _ hL ?_
  first | refine x_aload_n hP rfl rfl ?_ | refine x_aload_nN hP rfl rfl ?_
  refine x_iconst hP rfl ?_
  refine x_putI hP rfl (by first | assumption | rfl) ?_
  first | refine w_nI ?_ | refine w_nL ?_ | refine w_nR ?_ | refine w_mI ?_ | refine w_mL ?_ | refine w_mR ?_ | skip
  first | refine x_aload_n hP rfl rfl ?_ | refine x_aload_nN hP rfl rfl ?_
  refine x_iconst hP rfl ?_
  refine x_putI hP rfl (by first | assumption | rfl) ?_
  first | refine w_nI ?_ | refine w_nL ?_ | refine w_nR ?_ | refine w_mI ?_ | refine w_mL ?_ | refine w_mR ?_ | skip
  first | refine x_aload_n hP rfl rfl ?_ | refine x_aload_nN hP rfl rfl ?_
  refine x_iconst hP rfl ?_
  refine x_putI hP rfl (by first | assumption | rfl) ?_
  first | refine w_nI ?_ | refine w_nL ?_ | refine w_nR ?_ | refine w_mI ?_ | refine w_mL ?_ | refine w_mR ?_ | skip
  first | refine x_aload_n hP rfl rfl ?_ | refine x_aload_nN hP rfl rfl ?_
  refine x_iconst hP rfl ?_
  refine x_putZ hP rfl (by first | assumption | rfl) (by first | exact Or.inl rfl | exact Or.inr rfl | assumption) ?_
  first | refine w_nI ?_ | refine w_nL ?_ | refine w_nR ?_ | refine w_mI ?_ | refine w_mL ?_ | refine w_mR ?_ | skip
  refine x_vret hP rfl rfl ?_
  refine k _ g1 ⟨rfl, by omega, h3, fun i hi => absurd hi (Nat.not_lt_zero _)⟩ rfl (rT_self rfl rfl) (frP_at (frP_at (frP_at (frP_at (frP_trans (frP_at (frP_refl _ _) ?_) g3) ?_) ?_) ?_) ?_)
  all_goals exact Or.inl ⟨rfl, by decide⟩
theorem r_here (hP : x_closed E P) (hR : x_fin R) (ht : txB I n c) (hp : p ≤ n) (k : Q (some (.int (iI (ch c n p)))) (x_hp (rT I p w) J R)) : P 165 d 0 (x_la 0 [.ref 122]) [] (x_hp (rT I p w) J R) rc rs Q := by
  obtain ⟨h1, h2, h3, h4⟩ := ht
  have g1 : rT I p w 1580 122 0 = iI p := rfl
  have g2 : rT I p w 1579 122 0 = iI n := h1
  unfold ch at k
  first | refine x_aload_n hP rfl rfl ?_ | refine x_aload_nN hP rfl rfl ?_
  refine x_getI hP rfl (by first | assumption | rfl) (by first | assumption | exact hR _ _ _ _ rfl | exact hR1 _ _ _ _ rfl | exact hR2 _ _ _ _ rfl | rfl) ?_
  first | refine x_aload_n hP rfl rfl ?_ | refine x_aload_nN hP rfl rfl ?_
  refine x_getI hP rfl (by first | assumption | rfl) (by first | assumption | exact hR _ _ _ _ rfl | exact hR1 _ _ _ _ rfl | exact hR2 _ _ _ _ rfl | rfl) ?_
  refine z_icmp_ge hP rfl (by omega) (by omega) (fun c8 => ?_) (fun c8 => ?_)
  · rw [if_neg (by omega)] at k
    refine x_iconst hP rfl ?_
    refine x_iret hP rfl rfl ?_
    exact k
  · rw [if_pos (by omega)] at k
    have v : rT I p w 1 124 p = iI (c p) := h4 p (by omega)
    first | refine x_aload_n hP rfl rfl ?_ | refine x_aload_nN hP rfl rfl ?_
    refine x_getR hP rfl (by first | assumption | rfl) (by first | assumption | exact hR _ _ _ _ rfl | exact hR1 _ _ _ _ rfl | exact hR2 _ _ _ _ rfl | rfl) ?_
    first | refine x_aload_n hP rfl rfl ?_ | refine x_aload_nN hP rfl rfl ?_
    refine x_getI hP rfl (by first | assumption | rfl) (by first | assumption | exact hR _ _ _ _ rfl | exact hR1 _ _ _ _ rfl | exact hR2 _ _ _ _ rfl | rfl) ?_
    refine z_iald hP rfl (by first | assumption | rfl) (by first | decide | omega) (by omega) (by first | assumption | exact hR _ _ _ _ rfl | exact hR1 _ _ _ _ rfl | exact hR2 _ _ _ _ rfl | rfl) ?_
    refine x_goto hP rfl ?_
    refine x_iret hP rfl rfl ?_
    exact k
theorem r_failO (hP : x_closed E P) {x : Int} (k : Q none (x_hp (rT I p x) J R)) : P 162 d 0 (x_la 0 [.ref 122, .int (iI x)]) [] (x_hp (rT I p (-1)) J R) rc rs Q := by
  have g1 : rT I p (-1) 1581 122 0 = iI (-1) := rfl
  first | refine x_aload_n hP rfl rfl ?_ | refine x_aload_nN hP rfl rfl ?_
  refine x_getI hP rfl (by first | assumption | rfl) (by first | assumption | exact hR _ _ _ _ rfl | exact hR1 _ _ _ _ rfl | exact hR2 _ _ _ _ rfl | rfl) ?_
  first | refine zl_if_ge hP rfl (fun c4 => ?_) (fun c4 => ?_) | refine z_if_ge hP rfl (by omega) (fun c4 => ?_) (fun c4 => ?_)
  · omega
  first | refine x_aload_n hP rfl rfl ?_ | refine x_aload_nN hP rfl rfl ?_
  refine x_iload_n hP rfl rfl ?_
  refine x_putI hP rfl (by first | assumption | rfl) ?_
  first | refine w_nI ?_ | refine w_nL ?_ | refine w_nR ?_ | refine w_mI ?_ | refine w_mL ?_ | refine w_mR ?_ | skip
  rw [rT_wr]
  refine x_vret hP rfl rfl ?_
  exact k
theorem r_failB (hP : x_closed E P) {x : Int32} {e : Int} (he : 0 ≤ e ∧ e < 2147483648) (k : Q none (x_hp (rT I p e) J R)) : P 162 d 0 (x_la 0 [.ref 122, .int x]) [] (x_hp (rT I p e) J R) rc rs Q := by
  have g1 : rT I p e 1581 122 0 = iI e := rfl
  first | refine x_aload_n hP rfl rfl ?_ | refine x_aload_nN hP rfl rfl ?_
  refine x_getI hP rfl (by first | assumption | rfl) (by first | assumption | exact hR _ _ _ _ rfl | exact hR1 _ _ _ _ rfl | exact hR2 _ _ _ _ rfl | rfl) ?_
  first | refine zl_if_ge hP rfl (fun c4 => ?_) (fun c4 => ?_) | refine z_if_ge hP rfl (by omega) (fun c4 => ?_) (fun c4 => ?_)
  · refine x_vret hP rfl rfl ?_
    exact k
  · omega
theorem r_badO (hP : x_closed E P) (k : Q (some (.int (bI false))) (x_hp (rT I p (-1)) J R)) : P 163 d 0 (x_la 0 [.ref 122]) [] (x_hp (rT I p (-1)) J R) rc rs Q := by
  have g1 : rT I p (-1) 1581 122 0 = iI (-1) := rfl
  first | refine x_aload_n hP rfl rfl ?_ | refine x_aload_nN hP rfl rfl ?_
  refine x_getI hP rfl (by first | assumption | rfl) (by first | assumption | exact hR _ _ _ _ rfl | exact hR1 _ _ _ _ rfl | exact hR2 _ _ _ _ rfl | rfl) ?_
  refine z_if_lt hP rfl (by omega) (fun c4 => ?_) (fun c4 => ?_)
  · refine x_iconst hP rfl ?_
    refine x_zret hP rfl rfl (by first | exact Or.inl iI_0 | exact Or.inr iI_1 | exact bI_or _ | assumption) ?_
    exact k
  · omega
theorem r_badB (hP : x_closed E P) {e : Int} (he : 0 ≤ e ∧ e < 2147483648) (k : Q (some (.int (bI true))) (x_hp (rT I p e) J R)) : P 163 d 0 (x_la 0 [.ref 122]) [] (x_hp (rT I p e) J R) rc rs Q := by
  have g1 : rT I p e 1581 122 0 = iI e := rfl
  first | refine x_aload_n hP rfl rfl ?_ | refine x_aload_nN hP rfl rfl ?_
  refine x_getI hP rfl (by first | assumption | rfl) (by first | assumption | exact hR _ _ _ _ rfl | exact hR1 _ _ _ _ rfl | exact hR2 _ _ _ _ rfl | rfl) ?_
  refine z_if_lt hP rfl (by omega) (fun c4 => ?_) (fun c4 => ?_)
  · omega
  refine x_iconst hP rfl ?_
  refine x_goto hP rfl ?_
  refine x_zret hP rfl rfl (by first | exact Or.inl iI_0 | exact Or.inr iI_1 | exact bI_or _ | assumption) ?_
  exact k
theorem r_needO (hP : x_closed E P) (hR : x_fin R) (ht : txB I n c) (hp : p ≤ n) {x : Int} (hx : 0 ≤ x ∧ x < 256) (k1 : ch c n p = x → p < n → Q none (x_hp (rT I (p + 1 : Nat) (-1)) J R)) (k2 : ¬ ch c n p = x → Q none (x_hp (rT I p p) J R)) : P 168 (d + 1) 0 (x_la 0 [.ref 122, .int (iI x)]) [] (x_hp (rT I p (-1)) J R) rc rs Q := by
  have cr := ch_rg (n := n) ht.2.2.1 p
  have g1 : rT I p (-1) 1580 122 0 = iI p := rfl
  have h2 := ht.2.1
  first | refine x_aload_n hP rfl rfl ?_ | refine x_aload_nN hP rfl rfl ?_
  refine x_callV0 (ci := 9) hP 0 0 rfl rfl rfl (by first | assumption | rfl) rfl rfl rfl (Nat.zero_le _) (Nat.zero_le _) ?_
  refine r_badO hP ?_
  first | refine zb_if_eq hP rfl (fun c4 => ?_) (fun c4 => ?_) | refine zl_if_eq hP rfl (fun c4 => ?_) (fun c4 => ?_) | refine z_if_eq hP rfl (by omega) (fun c4 => ?_) (fun c4 => ?_)
  rotate_left
  · cases c4
  first | refine x_aload_n hP rfl rfl ?_ | refine x_aload_nN hP rfl rfl ?_
  refine x_callV0 (ci := 9) hP 0 0 rfl rfl rfl (by first | assumption | rfl) rfl rfl rfl (Nat.zero_le _) (Nat.zero_le _) ?_
  refine r_here hP hR ht hp ?_
  refine x_iload_n hP rfl rfl ?_
  first | refine z_icmp_ne hP rfl (by omega) (by omega) (fun c13 => ?_) (fun c13 => ?_) | refine x_icmp_ne hP rfl (fun c13 => ?_) (fun c13 => ?_)
  · first | refine x_aload_n hP rfl rfl ?_ | refine x_aload_nN hP rfl rfl ?_
    first | refine x_aload_n hP rfl rfl ?_ | refine x_aload_nN hP rfl rfl ?_
    refine x_getI hP rfl (by first | assumption | rfl) (by first | assumption | exact hR _ _ _ _ rfl | exact hR1 _ _ _ _ rfl | exact hR2 _ _ _ _ rfl | rfl) ?_
    refine x_callV1 (ci := 9) hP 0 0 rfl rfl rfl (by first | assumption | rfl) rfl rfl rfl (Nat.zero_le _) (Nat.zero_le _) ?_
    refine r_failO hP ?_
    refine x_vret hP rfl rfl ?_
    exact k2 c13
  · have hlt : p < n := by unfold ch at c13; split at c13 <;> omega
    first | refine x_aload_n hP rfl rfl ?_ | refine x_aload_nN hP rfl rfl ?_
    refine x_dup hP rfl rfl ?_
    refine x_getI hP rfl (by first | assumption | rfl) (by first | assumption | exact hR _ _ _ _ rfl | exact hR1 _ _ _ _ rfl | exact hR2 _ _ _ _ rfl | rfl) ?_
    refine x_iconst hP rfl ?_
    first | refine z_iadd hP rfl ?_ | refine x_iadd hP rfl ?_
    refine x_putI hP rfl (by first | assumption | rfl) ?_
    first | refine w_nI ?_ | refine w_nL ?_ | refine w_nR ?_ | refine w_mI ?_ | refine w_mL ?_ | refine w_mR ?_ | skip
    rw [rT_at]
    refine x_goto hP rfl ?_
    refine x_vret hP rfl rfl ?_
    exact k1 c13 hlt
theorem r_needB (hP : x_closed E P) {x : Int32} {e : Int} (he : 0 ≤ e ∧ e < 2147483648) (k : Q none (x_hp (rT I p e) J R)) : P 168 (d + 1) 0 (x_la 0 [.ref 122, .int x]) [] (x_hp (rT I p e) J R) rc rs Q := by
  first | refine x_aload_n hP rfl rfl ?_ | refine x_aload_nN hP rfl rfl ?_
  refine x_callV0 (ci := 9) hP 0 0 rfl rfl rfl (by first | assumption | rfl) rfl rfl rfl (Nat.zero_le _) (Nat.zero_le _) ?_
  refine r_badB hP he ?_
  first | refine zb_if_eq hP rfl (fun c4 => ?_) (fun c4 => ?_) | refine zl_if_eq hP rfl (fun c4 => ?_) (fun c4 => ?_) | refine z_if_eq hP rfl (by omega) (fun c4 => ?_) (fun c4 => ?_)
  · cases c4
  refine x_vret hP rfl rfl ?_
  exact k
theorem r_isDigit (hP : x_closed E P) {x : Int} (hx : -2147483648 ≤ x ∧ x < 2147483648) {h : x_H} (k : Q (some (.int (bI (isDg x)))) h) : P 167 d 0 (x_la 0 [.int (iI x)]) [] h rc rs Q := by
  unfold isDg at k
  refine x_iload_n hP rfl rfl ?_
  refine x_bipush hP rfl ?_
  refine z_icmp_lt hP rfl (by omega) (by omega) (fun c3 => ?_) (fun c3 => ?_)
  · rw [decide_eq_false (by omega)] at k
    refine x_iconst hP rfl ?_
    refine x_zret hP rfl rfl (by first | exact Or.inl iI_0 | exact Or.inr iI_1 | exact bI_or _ | assumption) ?_
    exact k
  refine x_iload_n hP rfl rfl ?_
  refine x_bipush hP rfl ?_
  refine z_icmp_gt hP rfl (by omega) (by omega) (fun c9 => ?_) (fun c9 => ?_)
  · rw [decide_eq_false (by omega)] at k
    refine x_iconst hP rfl ?_
    refine x_zret hP rfl rfl (by first | exact Or.inl iI_0 | exact Or.inr iI_1 | exact bI_or _ | assumption) ?_
    exact k
  · rw [decide_eq_true (by omega)] at k
    refine x_iconst hP rfl ?_
    refine x_goto hP rfl ?_
    refine x_zret hP rfl rfl (by first | exact Or.inl iI_0 | exact Or.inr iI_1 | exact bI_or _ | assumption) ?_
    exact k
theorem r_isSmall (hP : x_closed E P) {x : Int} (hx : -2147483648 ≤ x ∧ x < 2147483648) {h : x_H} (k : Q (some (.int (bI (isLt x)))) h) : P 166 d 0 (x_la 0 [.int (iI x)]) [] h rc rs Q := by
  unfold isLt at k
  refine x_iload_n hP rfl rfl ?_
  refine x_bipush hP rfl ?_
  refine z_icmp_lt hP rfl (by omega) (by omega) (fun c3 => ?_) (fun c3 => ?_)
  · rw [decide_eq_false (by omega)] at k
    refine x_iconst hP rfl ?_
    refine x_zret hP rfl rfl (by first | exact Or.inl iI_0 | exact Or.inr iI_1 | exact bI_or _ | assumption) ?_
    exact k
  refine x_iload_n hP rfl rfl ?_
  refine x_bipush hP rfl ?_
  refine z_icmp_gt hP rfl (by omega) (by omega) (fun c9 => ?_) (fun c9 => ?_)
  · rw [decide_eq_false (by omega)] at k
    refine x_iconst hP rfl ?_
    refine x_zret hP rfl rfl (by first | exact Or.inl iI_0 | exact Or.inr iI_1 | exact bI_or _ | assumption) ?_
    exact k
  · rw [decide_eq_true (by omega)] at k
    refine x_iconst hP rfl ?_
    refine x_goto hP rfl ?_
    refine x_zret hP rfl rfl (by first | exact Or.inl iI_0 | exact Or.inr iI_1 | exact bI_or _ | assumption) ?_
    exact k
end
