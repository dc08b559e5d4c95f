/-! bytes of an int, letters of a long -/
/-- eight bits of an int, from bit s on -/
def byt (x : Int32) (s : Nat) : Nat := x.toBitVec.toNat >>> s % 256
theorem byt_lt (x : Int32) (s : Nat) : byt x s < 256 := Nat.mod_lt _ (by decide)
theorem i8 (x : Int32) : x.toInt8.toInt32 = iI (sgb (x.toBitVec.toNat % 256)) := by
  rw [← Int32.toInt_inj, Int8.toInt_toInt32, Int32.toInt_toInt8, iI_toInt (by unfold sgb; split <;> omega)]
  have h : x.toInt = x.toBitVec.toInt := rfl
  rw [h, BitVec.toInt_eq_toNat_bmod]
  rw [Int.bmod_bmod_of_dvd (by decide), Int.bmod_def]
  unfold sgb
  have hb := x.toBitVec.isLt
  generalize x.toBitVec.toNat = z at *
  split <;> split <;> omega
theorem nar8 (x : Int32) : vp_nar .byte x = x.toInt8.toInt32 := rfl
theorem nar8' {z : Nat} (h : z < 256) : vp_nar .byte (iI (sgb z)) = iI (sgb z) := by
  have : ∀ z, z < 256 → vp_nar .byte (iI (sgb z)) = iI (sgb z) := by decide +kernel
  exact this z h
theorem shb (x : Int32) {s : Nat} (hs : s < 32) : ((x.toUInt32 >>> ((iI s).toUInt32 &&& Int32.toUInt32 31)).toInt32).toBitVec.toNat % 256 = byt x s := by
  show ((x.toUInt32 >>> ((iI s).toUInt32 &&& Int32.toUInt32 31)).toBitVec).toNat % 256 = _
  rw [UInt32.toBitVec_shiftRight]
  show (x.toUInt32.toBitVec >>> (((iI s).toUInt32 &&& Int32.toUInt32 31).toBitVec % 32).toNat).toNat % 256 = _
  rw [s_u s hs, BitVec.toNat_ushiftRight]
  rfl
theorem shr255 (x : Int32) {s : Nat} (hs : s ≤ 24) : (x >>> (iI s &&& 31)) &&& iI 255 = iI (byt x s) := b_ext fun i hi => by
  have e255 : bt (iI 255) i = decide (i < 8) := by
    have : ∀ i, i < 32 → bt (iI 255) i = decide (i < 8) := by decide +kernel
    exact this i hi
  rw [b_and, b_sshr s (by omega) _ hi, b_nat, e255, decide_eq_true hi, Bool.true_and]
  unfold byt
  rw [show (256 : Nat) = 2 ^ 8 from rfl, Nat.testBit_mod_two_pow, Nat.testBit_shiftRight]
  by_cases h : i < 8
  · rw [if_pos (by omega), decide_eq_true h, Bool.and_true, Bool.true_and]; rfl
  · rw [decide_eq_false h, Bool.and_false, Bool.false_and]
/-- a text with one byte more -/
def cU (c : Nat → Nat) (n b : Nat) : Nat → Nat := fun i => if i = n then b else c i
/-- a text with the four bytes of an int more -/
def c4 (c : Nat → Nat) (n : Nat) (x : Int32) : Nat → Nat := cU (cU (cU (cU c n (byt x 24)) (n + 1) (byt x 16)) (n + 2) (byt x 8)) (n + 3) (byt x 0)
/-- the tape's own places -/
def tg (k a _i : Nat) : Prop := (k = 1065 ∧ a = 1) ∨ (k = 2 ∧ a = 2)
/-- the tape's bytes, all but the length -/
theorem tpB_up {I : x_M Int32} {n : Nat} {c : Nat → Nat} {b : Nat} (ht : tpB I n c) (hn : n < 2000) (hb : b < 256) : tpB (x_at (x_at I 2 2 n (iI (sgb b))) 1065 1 0 (iI ((n : Int) + 1))) (n + 1) (cU c n b) := by
  obtain ⟨h1, h2, h3, h4⟩ := ht
  refine ⟨?_, hn, fun i => ?_, fun i hi => ?_⟩
  · rw [x_at_eq, if_pos ⟨rfl, rfl, rfl⟩]; rfl
  · unfold cU; split
    · exact hb
    · exact h3 i
  · rw [x_at_eq, if_neg (by omega), x_at_eq]
    unfold cU
    by_cases h : i = n
    · rw [if_pos ⟨rfl, rfl, h⟩, if_pos h]
    · rw [if_neg (fun q => h q.2.2), if_neg h]
      exact h4 i (by omega)
section
variable {E : x_E} {P : x_Pr} {d rc rs : Nat} {I : x_M Int32} {J : x_M Int64} {R : x_M (Option Nat)} {Q : x_Q} {n p : Nat} {w : Int} {c : Nat → Nat}
theorem c_add1 (hP : x_closed E P) (hR : x_fin R) {x : Int32} {s : Nat} (hs : s < 32) (ht : tpB I n c) (hn : n < 2000) (k : ∀ I', tpB I' (n + 1) (cU c n (byt x s)) → frP tg I I' → P 20 d 3 (x_ls [some (.ref 1), some (.int x), some (.int (iI ((s : Int) - 8)))]) [] (x_hp I' J R) rc rs Q) : P 20 d 3 (x_ls [some (.ref 1), some (.int x), some (.int (iI (s : Int)))]) [] (x_hp I J R) rc rs Q := by
  have ht' := ht
  obtain ⟨h1, h2, h3, h4⟩ := ht
  refine x_iload_n hP rfl rfl ?_
  refine z_if_lt hP rfl (by omega) (fun c4 => ?_) (fun c4 => ?_)
  · omega
  first | refine x_aload_n hP rfl rfl ?_ | refine x_aload_nN hP rfl rfl ?_
  refine x_getI hP rfl (by first | assumption | rfl) (by first | assumption | exact hR _ _ _ _ rfl | exact hR1 _ _ _ _ rfl | exact hR2 _ _ _ _ rfl | rfl) ?_
  refine x_sipush hP rfl ?_
  refine z_icmp_ge hP rfl (by omega) (by omega) (fun c14 => ?_) (fun c14 => ?_)
  · omega
  first | refine x_aload_n hP rfl rfl ?_ | refine x_aload_nN hP rfl rfl ?_
  refine x_getR hP rfl (by first | assumption | rfl) (by first | assumption | exact hR _ _ _ _ rfl | exact hR1 _ _ _ _ rfl | exact hR2 _ _ _ _ rfl | rfl) ?_
  first | refine x_aload_n hP rfl rfl ?_ | refine x_aload_nN hP rfl rfl ?_
  refine x_getI hP rfl (by first | assumption | rfl) (by first | assumption | exact hR _ _ _ _ rfl | exact hR1 _ _ _ _ rfl | exact hR2 _ _ _ _ rfl | rfl) ?_
  refine x_iload_n hP rfl rfl ?_
  refine x_iload_n hP rfl rfl ?_
  refine x_iushr hP rfl ?_
  refine x_i2b hP rfl ?_
  refine z_bast hP rfl (by first | assumption | rfl) (by first | decide | omega) (by omega) ?_
  first | refine w_nI ?_ | refine w_nL ?_ | refine w_nR ?_ | refine w_mI ?_ | refine w_mL ?_ | refine w_mR ?_ | skip
  have h1' : (x_at I 2 2 n (iI (sgb (byt x s)))) 1065 1 0 = iI n := h1
  rw [i8, shb x hs, nar8' (byt_lt _ _)]
  first | refine x_aload_n hP rfl rfl ?_ | refine x_aload_nN hP rfl rfl ?_
  refine x_dup hP rfl rfl ?_
  refine x_getI hP rfl (by first | assumption | rfl) (by first | assumption | exact hR _ _ _ _ rfl | exact hR1 _ _ _ _ rfl | exact hR2 _ _ _ _ rfl | rfl) ?_
  refine x_iconst hP rfl ?_
  first | refine z_iadd hP rfl ?_ | refine x_iadd hP rfl ?_
  refine x_putI hP rfl (by first | assumption | rfl) ?_
  first | refine w_nI ?_ | refine w_nL ?_ | refine w_nR ?_ | refine w_mI ?_ | refine w_mL ?_ | refine w_mR ?_ | skip
  refine z_iinc hP rfl rfl rfl ?_
  refine x_goto hP rfl ?_
  exact x_re hP [some (.ref 1), some (.int x), some (.int (iI ((s : Int) - 8)))] ⟨rfl, rfl, rfl, trivial⟩ (k _ (tpB_up ht' hn (byt_lt _ _)) (frP_at (frP_at (frP_refl _ _) (Or.inr ⟨rfl, rfl⟩)) (Or.inl ⟨rfl, rfl⟩)))
theorem c_add (hP : x_closed E P) (hR : x_fin R) {x : Int32} (ht : tpB I n c) (hn : n + 4 ≤ 2000) (k : ∀ I', tpB I' (n + 4) (c4 c n x) → frP tg I I' → Q none (x_hp I' J R)) : P 20 d 0 (x_la 0 [.ref 1, .int x]) [] (x_hp I J R) rc rs Q := by
  refine x_bipush hP rfl ?_
  refine x_istore_n hP rfl ?_
  refine x_re hP [some (.ref 1), some (.int x), some (.int (iI ((24 : Nat) : Int)))] ⟨rfl, rfl, rfl, trivial⟩ ?_
  refine c_add1 hP hR (by decide) ht (by omega) fun I1 t1 f1 => ?_
  refine x_re hP [some (.ref 1), some (.int x), some (.int (iI ((16 : Nat) : Int)))] ⟨rfl, rfl, rfl, trivial⟩ ?_
  refine c_add1 hP hR (by decide) t1 (by omega) fun I2 t2 f2 => ?_
  refine x_re hP [some (.ref 1), some (.int x), some (.int (iI ((8 : Nat) : Int)))] ⟨rfl, rfl, rfl, trivial⟩ ?_
  refine c_add1 hP hR (by decide) t2 (by omega) fun I3 t3 f3 => ?_
  refine x_re hP [some (.ref 1), some (.int x), some (.int (iI ((0 : Nat) : Int)))] ⟨rfl, rfl, rfl, trivial⟩ ?_
  refine c_add1 hP hR (by decide) t3 (by omega) fun I4 t4 f4 => ?_
  refine x_iload_n hP rfl rfl ?_
  refine z_if_lt hP rfl (by omega) (fun c4 => ?_) (fun c4 => ?_)
  · refine x_vret hP rfl rfl ?_
    exact k _ t4 (frP_trans f1 (frP_trans f2 (frP_trans f3 f4)))
  · omega
end
/-! letters in a long, as a number -/
def wN (c : Nat → Nat) (p : Nat) : Nat → Nat
  | 0 => 0
  | m + 1 => wN c p m * 256 + c (p + m)
theorem lor8 (a b : Nat) (hb : b < 256) : (lI a <<< ((iI 8).toInt64 &&& 63)) ||| lI b = lI (a * 256 + b : Nat) := by
  apply Int64.toBitVec_inj.1
  rw [Int64.toBitVec_or, Int64.toBitVec_shiftLeft]
  have e1 : ∀ z : Nat, (lI z).toBitVec = BitVec.ofNat 64 z := fun z => by
    have : lI z = Int64.ofNat z := Int64.ofInt_eq_ofNat
    rw [this]; rfl
  rw [e1, e1, e1]
  show BitVec.ofNat 64 a <<< ((((iI 8).toInt64 &&& 63).toBitVec.smod 64).toNat) ||| BitVec.ofNat 64 b = _
  rw [show (((iI 8).toInt64 &&& 63).toBitVec.smod 64).toNat = 8 by decide +kernel]
  apply BitVec.eq_of_getLsbD_eq
  intro i hi
  have e2 : a * 256 + b = a <<< 8 ||| b := by rw [← Nat.shiftLeft_add_eq_or_of_lt (by omega : b < 2 ^ 8), Nat.shiftLeft_eq]
  rw [BitVec.getLsbD_or, BitVec.getLsbD_shiftLeft, BitVec.getLsbD_ofNat, BitVec.getLsbD_ofNat, BitVec.getLsbD_ofNat, e2, Nat.testBit_or, Nat.testBit_shiftLeft]
  by_cases h8 : i < 8
  · simp [h8, hi, Nat.not_le.mpr h8]
  · simp [h8, hi, Nat.not_lt.mp h8, show i - 8 < 64 by omega]
theorem wk_eq (c : Nat → Nat) (p : Nat) (hc : ∀ i, c i < 256) : ∀ m, wk c p m = lI (wN c p m)
  | 0 => rfl
  | m + 1 => by
    rw [wk, wk_eq c p hc m, i2l_iI (z := c (p + m)) (by have := hc (p + m); omega), lor8 _ _ (hc _)]
    rfl
theorem rn_LD {c : Nat → Nat} {n : Nat} : ∀ (f p i : Nat), i < rn c n p f → isLD (ch c n (p + i)) = true
  | 0, p, i, h => absurd h (Nat.not_lt_zero _)
  | f + 1, p, i, h => by
    cases e : isLD (ch c n p) with
    | false => rw [rn_0 e] at h; exact absurd h (Nat.not_lt_zero _)
    | true =>
      rw [rn_1 e] at h
      cases i with
      | zero => exact e
      | succ i =>
        have := rn_LD (c := c) (n := n) f (p + 1) i (by omega)
        rw [show p + (i + 1) = p + 1 + i by omega]
        exact this
theorem LD_rg {c : Nat → Nat} {n p : Nat} (h : isLD (ch c n p) = true) : p < n ∧ 48 ≤ c p ∧ c p ≤ 122 := by
  have h := of_decide_eq_true h
  unfold ch at h
  split at h <;> omega
theorem rn_le {c : Nat → Nat} {n : Nat} : ∀ (f p : Nat), p ≤ n → p + rn c n p f ≤ n
  | 0, p, h => h
  | f + 1, p, h => by
    cases e : isLD (ch c n p) with
    | false => rw [rn_0 e]; exact h
    | true =>
      have := LD_rg e
      have ih := rn_le (c := c) (n := n) f (p + 1) (by omega)
      rw [rn_1 e]
      omega
theorem wN_rg {c : Nat → Nat} {p : Nat} : ∀ m, (∀ i, i < m → 48 ≤ c (p + i) ∧ c (p + i) ≤ 122) → 48 * wN (fun _ => 1) 0 m ≤ wN c p m ∧ wN c p m ≤ 122 * wN (fun _ => 1) 0 m
  | 0, _ => ⟨Nat.le_refl _, Nat.le_refl _⟩
  | m + 1, h => by
    have ih := wN_rg m fun i hi => h i (by omega)
    have := h m (by omega)
    simp only [wN]
    omega
theorem wN_lt {c : Nat → Nat} {p m : Nat} (hm : m ≤ 8) (h : ∀ i, i < m → 48 ≤ c (p + i) ∧ c (p + i) ≤ 122) : wN c p m < 9223372036854775808 ∧ (1 ≤ m → 0 < wN c p m) := by
  have h1 := wN_rg m h
  have h2 : ∀ m, m ≤ 8 → 122 * wN (fun _ => 1) 0 m < 9223372036854775808 ∧ (1 ≤ m → 0 < wN (fun _ => 1) 0 m) := by decide +kernel
  have := h2 m hm
  constructor
  · omega
  · intro h3; have := this.2 h3; omega
theorem rl_1 {c : Nat → Nat} {n p : Nat} (h : isLt (ch c n p) = true) : 1 ≤ rl c n p ∧ p < n := by
  have hb := of_decide_eq_true h
  have h1 : isLD (ch c n p) = true := decide_eq_true (Or.inl hb)
  have h2 := LD_rg h1
  refine ⟨?_, h2.1⟩
  unfold rl
  rw [show n - p = (n - p - 1) + 1 by omega, rn_1 h1]
  omega
theorem rl_c {c : Nat → Nat} {n p i : Nat} (h : i < rl c n p) : 48 ≤ c (p + i) ∧ c (p + i) ≤ 122 := (LD_rg (rn_LD _ _ _ h)).2
theorem rl_le {c : Nat → Nat} {n p : Nat} (h : p ≤ n) : p + rl c n p ≤ n := rn_le _ _ h
theorem wk_ne0 {c : Nat → Nat} {n p : Nat} (hc : ∀ i, c i < 256) (h : isLt (ch c n p) = true) (h8 : rl c n p ≤ 8) : ¬ wk c p (rl c n p) = lI 0 := by
  have h1 := wN_lt (c := c) (p := p) h8 (fun i hi => rl_c hi)
  have h2 := h1.2 (rl_1 h).1
  rw [wk_eq c p hc, show (0 : Int) = ((0 : Nat) : Int) from rfl, lI_eq (by omega) (by omega)]
  omega
section
variable {E : x_E} {P : x_Pr} {d rc rs : Nat} {I : x_M Int32} {J : x_M Int64} {R : x_M (Option Nat)} {Q : x_Q} {n p : Nat} {w : Int} {c : Nat → Nat}
theorem c_nam (hP : x_closed E P) (hR : x_fin R) (ht : tpB I n c) (hp : p ≤ n) (k : pPost Q I J R w (.long (lI 0)) (fun v => .long v) (namR c n p)) : P 38 (d + 2) 0 (x_la 0 [.ref 1]) [] (x_hp (tI I p w) J R) rc rs Q := by
  unfold namR at k
  refine c_readName hP hR ht hp (fun e => ?_) (fun e e2 => ?_) (fun e e2 => ?_) (fun e e2 => wk_ne0 ht.2.2.1 e e2)
  · rw [if_neg (by rw [e]; decide)] at k
    exact k p
  · rw [if_pos e, if_neg (by omega)] at k
    exact k _
  · rw [if_pos e, if_pos e2] at k
    exact k
end
theorem namR_rg {c : Nat → Nat} {n p q : Nat} {v : Int64} (hc : ∀ i, c i < 256) (hp : p ≤ n) (h : namR c n p = .inr (v, q)) : p < q ∧ q ≤ n ∧ ¬ v = lI 0 ∧ isLt (ch c n p) = true ∧ q = p + rl c n p ∧ rl c n p ≤ 8 ∧ v = wk c p (rl c n p) := by
  unfold namR at h
  split at h
  · next e =>
    split at h
    · next e2 =>
      have h := Sum.inr.inj h
      cases h
      have h1 := rl_1 e
      exact ⟨by omega, rl_le hp, wk_ne0 hc e e2, e, rfl, e2, rfl⟩
    · cases h
  · cases h
