/-! SetBook: the SHEET -/
def bn (v : Int64) : Nat := v.toBitVec.toNat
def lb (v : Int64) (s : Nat) : Nat := bn v >>> s % 256
def nmA (v : Int64) : Nat → List Nat
  | 0 => []
  | j + 1 => (if lb v (8 * j) = 0 then [] else [lb v (8 * j)]) ++ nmA v j
def nmB (v : Int64) : List Nat := nmA v 8
def ln (v : Int64) (j : Nat) : Nat := sumS (fun s => if bn v >>> (8 * s) = 0 then 0 else 1) j
/-- a NAME's letters lie side by side -/
def nmOk (v : Int64) : Prop := ∀ s, s < 8 → lb v (8 * s) < 128 ∧ (¬ bn v >>> (8 * s) = 0 → ¬ lb v (8 * s) = 0)
theorem nmA_len {v : Int64} (h : nmOk v) : ∀ j, j ≤ 8 → (nmA v j).length = ln v j
  | 0, _ => rfl
  | j + 1, hj => by
    show ((if lb v (8 * j) = 0 then [] else [lb v (8 * j)]) ++ nmA v j).length = ln v j + (if bn v >>> (8 * j) = 0 then 0 else 1)
    rw [List.length_append, nmA_len h j (by omega)]
    by_cases q : bn v >>> (8 * j) = 0
    · have : lb v (8 * j) = 0 := by unfold lb; rw [q]
      rw [if_pos this, if_pos q]
      show 0 + ln v j = ln v j + 0
      omega
    · rw [if_neg ((h j (by omega)).2 q), if_neg q]
      show 1 + ln v j = ln v j + 1
      omega
theorem nmA_lt {v : Int64} (h : nmOk v) : ∀ j, j ≤ 8 → ∀ x ∈ nmA v j, x < 128
  | 0, _, x, hx => absurd hx List.not_mem_nil
  | j + 1, hj, x, hx => by
    rcases List.mem_append.mp hx with q | q
    · split at q
      · exact absurd q List.not_mem_nil
      · rw [List.mem_singleton.mp q]; exact (h j (by omega)).1
    · exact nmA_lt h j (by omega) x q
theorem ln_le (v : Int64) (j : Nat) : ln v j ≤ j := by
  have := sumS_mono (f := fun s => if bn v >>> (8 * s) = 0 then 0 else 1) (g := fun _ => 1) j fun q _ => by split <;> omega
  have e2 := sumS_ltn j j (Nat.le_refl _)
  rw [sumS_congr j (f := fun _ => 1) (g := fun q => if q < j then 1 else 0) (fun q hq => (if_pos hq).symm), e2] at this
  exact this
def lus (x : Int64) (i : Nat) : Int64 := (x.toUInt64 >>> ((iI (8 * i : Nat)).toInt64.toUInt64 &&& Int64.toUInt64 63)).toInt64
theorem lus_nat (x : Int64) {i : Nat} (hi : i < 8) : (lus x i).toBitVec.toNat = bn x >>> (8 * i) := by
  have dec : ∀ i, i < 8 → ((iI (8 * i : Nat)).toInt64.toUInt64 &&& Int64.toUInt64 63).toNat % 64 = 8 * i := by decide +kernel
  show (x.toUInt64 >>> ((iI (8 * i : Nat)).toInt64.toUInt64 &&& Int64.toUInt64 63)).toNat = _
  rw [UInt64.toNat_shiftRight, dec i hi]
  rfl
theorem lus_0 (x : Int64) {i : Nat} (hi : i < 8) : lus x i = lI 0 ↔ bn x >>> (8 * i) = 0 := by
  rw [← lus_nat x hi]
  constructor
  · intro h; rw [h]; rfl
  · intro h
    apply Int64.toBitVec_inj.1
    apply BitVec.eq_of_toNat_eq
    rw [h]; rfl
theorem lus_255 (x : Int64) {i : Nat} (hi : i < 8) : ((lus x i).toInt32 &&& iI 255) = iI (lb x (8 * i) : Nat) := by
  rw [← Int32.toBitVec_inj]
  apply BitVec.eq_of_toNat_eq
  rw [Int32.toBitVec_and, BitVec.toNat_and]
  show ((lus x i).toBitVec.signExtend 32).toNat &&& (2 ^ 8 - 1) = _
  rw [BitVec.signExtend_eq_setWidth_of_le _ (by decide), BitVec.toNat_setWidth, lus_nat x hi, Nat.and_two_pow_sub_one_eq_mod, ← nI_iI]
  show _ = (BitVec.ofNat 32 (lb x (8 * i))).toNat
  rw [BitVec.toNat_ofNat]
  unfold lb
  omega
theorem i2b_128 {x : Nat} (h : x < 128) : (iI (x : Nat)).toInt8.toInt32 = iI x := (show ∀ x : Nat, x < 128 → (iI (x : Nat)).toInt8.toInt32 = iI x by decide +kernel) x h
theorem nar_128 {x : Nat} (h : x < 128) : vp_nar .byte (iI (x : Nat)) = iI x := (show ∀ x : Nat, x < 128 → vp_nar .byte (iI (x : Nat)) = iI x by decide +kernel) x h
def tuA (T : x_T) (x : Nat) : Nat → List Nat → List Nat
  | _, [] => []
  | n, e :: o => (if 0 < n then [46] else []) ++ (nmB (tN T e (pt x e)) ++ tuA T x (n + 1) o)
def tuL (T : x_T) (o : List Nat) (x : Nat) : List Nat := tuA T x 0 o ++ [10]
def prL (T : x_T) (V : x_V) : List Nat := V.2.flatMap (tuL T V.1)
def spPrint (S : x_St) : Int × x_St := if (prL (zT (sZ S)) (sV S)).length ≤ 3000 then (((prL (zT (sZ S)) (sV S)).length : Nat), (sN S, sC S, sZ S, sV S, prL (zT (sZ S)) (sV S))) else (-4, S)
def byO (f : Nat → Nat) : List Nat → Nat
  | [] => 0
  | e :: o => f e + 1 + byO f o
def byT (f : Nat → Nat → Nat) (o : List Nat) : List Nat → Nat
  | [] => 0
  | x :: l => byO (f x) o + byT f o l
/-- every NAME of the trees is one -/
def nmsOk (T : x_T) : Prop := ∀ e, e < tD T → ∀ k, k < tS T e → nmOk (tN T e k)
theorem tuA_len {T : x_T} {x : Nat} : ∀ (o : List Nat) (n : Nat), (∀ e ∈ o, nmOk (tN T e (pt x e))) → 0 < n → (tuA T x n o).length = byO (fun e => ln (tN T e (pt x e)) 8) o
  | [], _, _, _ => rfl
  | e :: o, n, h, hn => by
    unfold tuA byO
    rw [if_pos hn, List.length_append, List.length_append, tuA_len o (n + 1) (fun e he => h e (List.mem_cons_of_mem _ he)) (by omega), show (nmB (tN T e (pt x e))).length = ln (tN T e (pt x e)) 8 from nmA_len (h e List.mem_cons_self) 8 (Nat.le_refl _)]
    show 1 + _ = _
    omega
theorem tuL_len {T : x_T} {x : Nat} {o : List Nat} (ho : ¬ o = []) (h : ∀ e ∈ o, nmOk (tN T e (pt x e))) : (tuL T o x).length = byO (fun e => ln (tN T e (pt x e)) 8) o := by
  cases o with
  | nil => exact absurd rfl ho
  | cons e o =>
    unfold tuL tuA byO
    rw [if_neg (by omega), List.length_append, List.length_append, List.length_append, tuA_len o 1 (fun e he => h e (List.mem_cons_of_mem _ he)) (by omega), show (nmB (tN T e (pt x e))).length = ln (tN T e (pt x e)) 8 from nmA_len (h e List.mem_cons_self) 8 (Nat.le_refl _)]
    show 0 + _ + 1 = _
    omega
theorem prL_len {T : x_T} {o : List Nat} (ho : ¬ o = []) : ∀ (l : List Nat), (∀ x ∈ l, ∀ e ∈ o, nmOk (tN T e (pt x e))) → (l.flatMap (tuL T o)).length = byT (fun x e => ln (tN T e (pt x e)) 8) o l
  | [], _ => rfl
  | x :: l, h => by
    rw [List.flatMap_cons, List.length_append, prL_len ho l fun y hy => h y (List.mem_cons_of_mem _ hy), tuL_len ho (h x List.mem_cons_self)]
    rfl
theorem byO_snoc (f : Nat → Nat) (e : Nat) : ∀ o, byO f (o ++ [e]) = byO f o + (f e + 1)
  | [] => by show f e + 1 + 0 = 0 + (f e + 1); omega
  | a :: o => by show f a + 1 + byO f (o ++ [e]) = f a + 1 + byO f o + (f e + 1); rw [byO_snoc f e o]; omega
theorem byT_snoc (f : Nat → Nat → Nat) (o : List Nat) (x : Nat) : ∀ l, byT f o (l ++ [x]) = byT f o l + byO (f x) o
  | [] => by show byO (f x) o + 0 = 0 + byO (f x) o; omega
  | a :: l => by show byO (f a) o + byT f o (l ++ [x]) = byO (f a) o + byT f o l + byO (f x) o; rw [byT_snoc f o x l]; omega
theorem byO_le {f : Nat → Nat} (hf : ∀ e, f e ≤ 8) : ∀ o, byO f o ≤ 9 * o.length
  | [] => Nat.le_refl _
  | e :: o => by have := byO_le hf o; have := hf e; show f e + 1 + byO f o ≤ 9 * (o.length + 1); omega
theorem byT_le {f : Nat → Nat → Nat} {o : List Nat} (hf : ∀ x e, f x e ≤ 8) (ho : o.length ≤ 4) : ∀ l, byT f o l ≤ 36 * l.length
  | [] => Nat.le_refl _
  | x :: l => by have := byT_le hf ho l; have := byO_le (hf x) o; show byO (f x) o + byT f o l ≤ 36 * (l.length + 1); omega
section
variable {E : x_E} {P : x_Pr} {d rc rs : Nat} {I : x_M Int32} {J : x_M Int64} {R : x_M (Option Nat)} {Q : x_Q}
theorem c_lengthOf_loop (hP : x_closed E P) {h : x_H} {v : Int64} : ∀ (f i : Nat), i + f = 8 → Q (some (.int (iI (ln v 8)))) h → P 144 d 4 (x_ls [some (.long v), none, some (.int (iI (ln v i))), some (.int (iI (8 * i : Nat)))]) [] h rc rs Q := by
  intro f
  induction f with
  | zero =>
    intro i hi k
    obtain rfl : i = 8 := by omega
    refine x_iload_n hP rfl rfl ?_
    refine x_bipush hP rfl ?_
    refine z_icmp_ge hP rfl (by omega) (by omega) (fun c7 => ?_) (fun c7 => ?_)
    · refine x_iload_n hP rfl rfl ?_
      refine x_iret hP rfl rfl ?_
      exact k
    · omega
  | succ f ih =>
    intro i hi k
    have hi8 : i < 8 := by omega
    have st : ln v (i + 1) = ln v i + (if bn v >>> (8 * i) = 0 then 0 else 1) := rfl
    refine x_iload_n hP rfl rfl ?_
    refine x_bipush hP rfl ?_
    refine z_icmp_ge hP rfl (by omega) (by omega) (fun c7 => ?_) (fun c7 => ?_)
    · omega
    refine x_lload_n hP rfl rfl ?_
    refine x_iload_n hP rfl rfl ?_
    refine x_lushr hP rfl ?_
    refine x_lconst hP rfl ?_
    refine x_lcmp hP rfl ?_
    first | refine zb_if_eq hP rfl (fun c15 => ?_) (fun c15 => ?_) | refine zl_if_eq hP rfl (fun c15 => ?_) (fun c15 => ?_) | refine z_if_eq hP rfl (by omega) (fun c15 => ?_) (fun c15 => ?_)
    · have c15 : bn v >>> (8 * i) = 0 := (lus_0 v hi8).mp c15
      rw [if_pos c15] at st
      refine z_iinc hP rfl rfl rfl ?_
      refine x_goto hP rfl ?_
      exact x_re hP [some (.long v), none, some (.int (iI (ln v (i + 1)))), some (.int (iI (8 * (i + 1) : Nat)))] ⟨rfl, by rw [st]; rfl, by rw [show ((8 * i : Nat) : Int) + 8 = ((8 * (i + 1) : Nat) : Int) by omega]; rfl, trivial⟩ (ih (i + 1) (by omega) k)
    · have c15 : ¬ bn v >>> (8 * i) = 0 := fun z => c15 ((lus_0 v hi8).mpr z)
      rw [if_neg c15] at st
      refine z_iinc hP rfl rfl rfl ?_
      refine z_iinc hP rfl rfl rfl ?_
      refine x_goto hP rfl ?_
      exact x_re hP [some (.long v), none, some (.int (iI (ln v (i + 1)))), some (.int (iI (8 * (i + 1) : Nat)))] ⟨rfl, by rw [st]; rfl, by rw [show ((8 * i : Nat) : Int) + 8 = ((8 * (i + 1) : Nat) : Int) by omega]; rfl, trivial⟩ (ih (i + 1) (by omega) k)
theorem c_lengthOf (hP : x_closed E P) {h : x_H} {v : Int64} (k : Q (some (.int (iI (ln v 8)))) h) : P 144 d 0 (x_la 0 [.long v]) [] h rc rs Q := by
  refine x_iconst hP rfl ?_
  refine x_istore_n hP rfl ?_
  refine x_iconst hP rfl ?_
  refine x_istore_n hP rfl ?_
  exact x_re hP [some (.long v), none, some (.int (iI (ln v 0))), some (.int (iI (8 * 0 : Nat)))] ⟨rfl, rfl, rfl, trivial⟩ (c_lengthOf_loop hP 8 0 (by omega) k)
def wS (a : Nat) : Prop := a = 0 ∨ a = 97
theorem c_wByte (hP : x_closed E P) (hR : x_fin R) {L : List Nat} {x : Nat} (hx : x < 128) (hL : L.length < 3000) (hs : shI I L) (k : ∀ I', shI I' (L ++ [x]) → frP (fun _ a _ => wS a) I I' → Q none (x_hp I' J R)) : P 146 d 0 (x_la 0 [.ref 0, .int (iI x)]) [] (x_hp I J R) rc rs Q := by
  obtain ⟨h1, h2, h3, h4⟩ := hs
  first | refine x_aload_n hP rfl rfl ?_ | refine x_aload_nN hP rfl rfl ?_
  refine x_getI hP rfl (by first | assumption | rfl) (by first | assumption | exact hR _ _ _ _ rfl | exact hR1 _ _ _ _ rfl | exact hR2 _ _ _ _ rfl | rfl) ?_
  refine x_sipush hP rfl ?_
  refine z_icmp_ge hP rfl (by omega) (by omega) (fun c7 => ?_) (fun c7 => ?_)
  · omega
  first | refine x_aload_n hP rfl rfl ?_ | refine x_aload_nN hP rfl rfl ?_
  refine x_getR hP rfl (by first | assumption | rfl) (by first | assumption | exact hR _ _ _ _ rfl | exact hR1 _ _ _ _ rfl | exact hR2 _ _ _ _ rfl | rfl) ?_
  first | refine x_aload_n hP rfl rfl ?_ | refine x_aload_nN hP rfl rfl ?_
  refine x_getI hP rfl (by first | assumption | rfl) (by first | assumption | exact hR _ _ _ _ rfl | exact hR1 _ _ _ _ rfl | exact hR2 _ _ _ _ rfl | rfl) ?_
  refine x_iload_n hP rfl rfl ?_
  refine x_i2b hP rfl ?_
  rw [i2b_128 hx]
  refine z_bast hP rfl (by first | assumption | rfl) (by first | decide | omega) (by omega) ?_
  first | refine w_nI ?_ | refine w_nL ?_ | refine w_nR ?_ | refine w_mI ?_ | refine w_mL ?_ | refine w_mR ?_ | skip
  rw [Int.toNat_natCast]
  have g : x_at I 2 97 L.length (iI x) 1006 0 0 = iI L.length := h1
  first | refine x_aload_n hP rfl rfl ?_ | refine x_aload_nN hP rfl rfl ?_
  refine x_dup hP rfl rfl ?_
  refine x_getI hP rfl (by first | assumption | rfl) (by first | assumption | exact hR _ _ _ _ rfl | exact hR1 _ _ _ _ rfl | exact hR2 _ _ _ _ rfl | rfl) ?_
  refine x_iconst hP rfl ?_
  first | refine z_iadd hP rfl ?_ | refine x_iadd hP rfl ?_
  refine x_putI hP rfl (by first | assumption | rfl) ?_
  first | refine w_nI ?_ | refine w_nL ?_ | refine w_nR ?_ | refine w_mI ?_ | refine w_mL ?_ | refine w_mR ?_ | skip
  refine x_vret hP rfl rfl ?_
  refine k _ ⟨?_, by rw [List.length_append]; show L.length + 1 ≤ 3000; omega, fun i hi => ?_, fun z hz => ?_⟩ (frP_at (frP_at (frP_refl _ _) (Or.inr rfl)) (Or.inl rfl))
  · rw [x_at_eq, if_pos ⟨rfl, rfl, rfl⟩, List.length_append]; rfl
  · rw [List.length_append] at hi
    have hi : i < L.length + 1 := hi
    rw [x_at_eq, if_neg (by omega), x_at_eq]
    by_cases q : i = L.length
    · rw [if_pos ⟨rfl, rfl, q⟩, q, getD_app2 (Nat.le_refl _), Nat.sub_self, nar_128 hx]; rfl
    · rw [if_neg (by omega), getD_app1 (by omega)]; exact h3 i (by omega)
  · rcases List.mem_append.mp hz with q | q
    · exact h4 z q
    · rw [List.mem_singleton.mp q]; exact hx
theorem c_wName_loop (hP : x_closed E P) (hR : x_fin R) {v : Int64} (hv : nmOk v) : ∀ (j : Nat) (I : x_M Int32) (L : List Nat), j ≤ 8 → L.length + (nmA v j).length ≤ 3000 → shI I L → (∀ I', shI I' (L ++ nmA v j) → frP (fun _ a _ => wS a) I I' → Q none (x_hp I' J R)) → ∀ rc rs, P 147 (d + 1) 3 (x_ls [some (.ref 0), some (.long v), none, some (.int (iI ((8 * j : Nat) - 8))), none]) [] (x_hp I J R) rc rs Q := by
  intro j
  induction j with
  | zero =>
    intro I L hj hl hs k rc rs
    unfold nmA at k
    rw [List.append_nil] at k
    refine x_iload_n hP rfl rfl ?_
    refine z_if_lt hP rfl (by omega) (fun c4 => ?_) (fun c4 => ?_)
    · refine x_vret hP rfl rfl ?_
      exact k I hs (frP_refl _ _)
    · omega
  | succ j ih =>
    intro I L hj hl hs k rc rs
    have hj8 : j < 8 := by omega
    have nx := hv j hj8
    unfold nmA at k hl
    rw [show ((8 * (j + 1) : Nat) : Int) - 8 = ((8 * j : Nat) : Int) by omega]
    refine x_iload_n hP rfl rfl ?_
    refine z_if_lt hP rfl (by omega) (fun c4 => ?_) (fun c4 => ?_)
    · omega
    refine x_lload_n hP rfl rfl ?_
    refine x_iload_n hP rfl rfl ?_
    refine x_lushr hP rfl ?_
    refine x_l2i hP rfl ?_
    refine x_sipush hP rfl ?_
    refine x_iand hP rfl ?_
    rw [show ((v.toUInt64 >>> ((iI (8 * j : Nat)).toInt64.toUInt64 &&& Int64.toUInt64 63)).toInt64.toInt32 &&& iI 255) = iI (lb v (8 * j) : Nat) from lus_255 v hj8]
    refine x_istore hP rfl ?_
    refine x_iload hP rfl rfl ?_
    first | refine zb_if_eq hP rfl (fun c19 => ?_) (fun c19 => ?_) | refine zl_if_eq hP rfl (fun c19 => ?_) (fun c19 => ?_) | refine z_if_eq hP rfl (by omega) (fun c19 => ?_) (fun c19 => ?_)
    · rw [if_pos (by omega)] at k hl
      refine z_iinc hP rfl rfl rfl ?_
      refine x_goto hP rfl ?_
      exact x_re hP [some (.ref 0), some (.long v), none, some (.int (iI ((8 * j : Nat) - 8))), none] ⟨rfl, rfl, rfl, trivial⟩ (ih I L (by omega) hl hs k _ _)
    · rw [if_neg (by omega)] at k hl
      rw [List.length_append] at hl
      have hl : L.length + (1 + (nmA v j).length) ≤ 3000 := hl
      first | refine x_aload_n hP rfl rfl ?_ | refine x_aload_nN hP rfl rfl ?_
      refine x_iload hP rfl rfl ?_
      refine x_callV1 (ci := 0) hP 0 0 rfl rfl rfl (by first | assumption | rfl) rfl rfl rfl (Nat.zero_le _) (Nat.zero_le _) ?_
      refine c_wByte hP hR nx.1 (by omega) hs (fun I1 g1 g2 => ?_)
      refine z_iinc hP rfl rfl rfl ?_
      refine x_goto hP rfl ?_
      exact x_re hP [some (.ref 0), some (.long v), none, some (.int (iI ((8 * j : Nat) - 8))), none] ⟨rfl, rfl, rfl, trivial⟩ (ih I1 (L ++ [lb v (8 * j)]) (by omega) (by rw [List.length_append]; show L.length + 1 + _ ≤ _; omega) g1 (fun I' w1 w2 => k I' (by rw [List.append_assoc] at w1; exact w1) (frP_trans g2 w2)) _ _)
theorem c_wName (hP : x_closed E P) (hR : x_fin R) {v : Int64} (hv : nmOk v) {L : List Nat} (hl : L.length + (nmB v).length ≤ 3000) (hs : shI I L) (k : ∀ I', shI I' (L ++ nmB v) → frP (fun _ a _ => wS a) I I' → Q none (x_hp I' J R)) : P 147 (d + 1) 0 (x_la 0 [.ref 0, .long v]) [] (x_hp I J R) rc rs Q := by
  refine x_bipush hP rfl ?_
  refine x_istore_n hP rfl ?_
  exact x_re hP [some (.ref 0), some (.long v), none, some (.int (iI ((8 * 8 : Nat) - 8))), none] ⟨rfl, rfl, rfl, trivial⟩ (c_wName_loop hP hR hv 8 I L (Nat.le_refl _) hl hs k _ _)
variable {t : Nat} {T : x_T} {ol l : List Nat}
theorem c_nameIn (hP : x_closed E P) (hR : x_fin R) (hta : isTa t) (ht : R 1007 0 0 = some t) (hc : ct I J t T) (hw : rw I 4 ol l) {x i : Nat} (hi : i < ol.length) (hx : x < 1048576) (h1 : ol.getD i 0 < tD T) (h2 : pt x (ol.getD i 0) < tS T (ol.getD i 0)) (k : Q (some (.long (tN T (ol.getD i 0) (pt x (ol.getD i 0))))) (x_hp I J R)) : P 143 (d + 1) 0 (x_la 0 [.ref 0, .int (iI x), .int (iI i)]) [] (x_hp I J R) rc rs Q := by
  have tr := isTr_of hR hta
  obtain ⟨t0, t1, t2, t3, t4, t5, t6, t7, t8, t9, t10, t11, u1, u2, u3, u4, u5, u6, u7, u8, u9, u10, u11⟩ := tr
  have isr : isRw R 4 := isRw_of hR (by decide)
  have v := hw.2.2.2.2.1 i hi
  have o4 := hw.2.2.2.1
  have nn := (hc.2.2.2.1 _ h1 _ h2).1
  have w4 := (hc.2.2.2.2.2.2.2 _ h1).2.1
  have w1 := hc.2.2.2.2.2.1
  first | refine x_aload_n hP rfl rfl ?_ | refine x_aload_nN hP rfl rfl ?_
  refine x_getR hP rfl (by first | assumption | rfl) (by first | assumption | exact hR _ _ _ _ rfl | exact hR1 _ _ _ _ rfl | exact hR2 _ _ _ _ rfl | rfl) ?_
  refine x_getR hP rfl (by first | assumption | rfl) (by first | assumption | exact hR _ _ _ _ rfl | exact hR1 _ _ _ _ rfl | exact hR2 _ _ _ _ rfl | rfl) ?_
  refine x_iload_n hP rfl rfl ?_
  refine z_iald hP rfl (by first | assumption | rfl) (by first | decide | omega) (by omega) (by first | assumption | exact hR _ _ _ _ rfl | exact hR1 _ _ _ _ rfl | exact hR2 _ _ _ _ rfl | rfl) ?_
  refine x_istore_n hP rfl ?_
  first | refine x_aload_n hP rfl rfl ?_ | refine x_aload_nN hP rfl rfl ?_
  refine x_getR hP rfl (by first | assumption | rfl) (by first | assumption | exact hR _ _ _ _ rfl | exact hR1 _ _ _ _ rfl | exact hR2 _ _ _ _ rfl | rfl) ?_
  refine x_getR hP rfl (by first | assumption | rfl) (by first | assumption | exact hR _ _ _ _ rfl | exact hR1 _ _ _ _ rfl | exact hR2 _ _ _ _ rfl | rfl) ?_
  refine x_iload_n hP rfl rfl ?_
  refine x_iload_n hP rfl rfl ?_
  refine x_iload_n hP rfl rfl ?_
  refine x_callS2 hP 0 0 rfl rfl rfl rfl rfl (Nat.zero_le _) (Nat.zero_le _) ?_
  refine c_partOf hP hx (by omega) ?_
  refine x_callS2 hP 0 0 rfl rfl rfl rfl rfl (Nat.zero_le _) (Nat.zero_le _) ?_
  refine c_idOf hP (by omega) (pt_lt _ _) ?_
  refine z_lald hP rfl (by first | assumption | rfl) (by first | decide | omega) (by omega) (by first | assumption | exact hR _ _ _ _ rfl | exact hR1 _ _ _ _ rfl | exact hR2 _ _ _ _ rfl | rfl) ?_
  refine x_lret hP rfl rfl ?_
  exact k
theorem c_wTuple_loop (hP : x_closed E P) (hR : x_fin R) (hta : isTa t) (ht : R 1007 0 0 = some t) (hn : nmsOk T) {x : Nat} (hx : x < 1048576) (ho : ∀ e ∈ ol, e < tD T ∧ pt x e < tS T e) : ∀ (o2 : List Nat) (i : Nat) (I : x_M Int32) (L : List Nat), i ≤ ol.length → ol.drop i = o2 → ct I J t T → rw I 4 ol l → L.length + (tuA T x i o2).length + 1 ≤ 3000 → shI I L → (∀ I', shI I' (L ++ (tuA T x i o2 ++ [10])) → ct I' J t T → rw I' 4 ol l → frP (fun _ a _ => wS a) I I' → Q none (x_hp I' J R)) → ∀ rc rs, P 145 (d + 2) 2 (x_ls [some (.ref 0), some (.int (iI x)), some (.int (iI i))]) [] (x_hp I J R) rc rs Q := by
  have tg1 := isTa_rg hta
  have isr : isRw R 4 := isRw_of hR (by decide)
  intro o2
  induction o2 with
  | nil =>
    intro i I L hi hd hc hw hl hs k rc rs
    have hl2 : i = ol.length := by have := List.drop_eq_nil_iff.mp hd; omega
    have a2 := hw.2.1
    have o4 := hw.2.2.2.1
    unfold tuA at k hl
    refine x_iload_n hP rfl rfl ?_
    first | refine x_aload_n hP rfl rfl ?_ | refine x_aload_nN hP rfl rfl ?_
    refine x_getR hP rfl (by first | assumption | rfl) (by first | assumption | exact hR _ _ _ _ rfl | exact hR1 _ _ _ _ rfl | exact hR2 _ _ _ _ rfl | rfl) ?_
    refine x_getI hP rfl (by first | assumption | rfl) (by first | assumption | exact hR _ _ _ _ rfl | exact hR1 _ _ _ _ rfl | exact hR2 _ _ _ _ rfl | rfl) ?_
    refine z_icmp_ge hP rfl (by omega) (by omega) (fun c10 => ?_) (fun c10 => ?_)
    · first | refine x_aload_n hP rfl rfl ?_ | refine x_aload_nN hP rfl rfl ?_
      refine x_bipush hP rfl ?_
      refine x_callV1 (ci := 0) hP 0 0 rfl rfl rfl (by first | assumption | rfl) rfl rfl rfl (Nat.zero_le _) (Nat.zero_le _) ?_
      refine c_wByte (x := 10) hP hR (by decide) (by show L.length < 3000; rw [List.length_nil] at hl; omega) hs (fun I1 g1 g2 => ?_)
      refine x_vret hP rfl rfl ?_
      exact k I1 g1 (ct_fr hc g2 (frP_refl _ _) fun k a i z => by unfold wS at z; omega) (rw_fr hw g2 fun k a i z => by have := rg_a z; unfold wS; omega) g2
    · omega
  | cons e o2 ih =>
    intro i I L hi hd hc hw hl hs k rc rs
    have hlt : i < ol.length := by
      rcases Nat.lt_or_ge i ol.length with q | q
      · exact q
      · rw [List.drop_eq_nil_of_le q] at hd; cases hd
    have hdd := dropc hlt
    rw [hd] at hdd
    have hx1 : ol.getD i 0 = e := by injection hdd with a b; exact a.symm
    have hx2 : ol.drop (i + 1) = o2 := by injection hdd with a b; exact b.symm
    have em : e ∈ ol := by rw [← hx1]; exact getD_mem hlt
    have ⟨e1, e2⟩ := ho e em
    have no := hn e e1 _ e2
    have a2 := hw.2.1
    have o4 := hw.2.2.2.1
    unfold tuA at k hl
    rw [List.length_append, List.length_append] at hl
    have nam : ∀ (I1 : x_M Int32) (L1 : List Nat), L1 = L ++ (if 0 < i then [46] else []) → shI I1 L1 → frP (fun _ a _ => wS a) I I1 → ∀ r1 r2, P 145 (d + 2) 23 (x_ls [some (.ref 0), some (.int (iI x)), some (.int (iI i))]) [] (x_hp I1 J R) r1 r2 Q := by
      intro I1 L1 e3 s1 f1 r1 r2
      have c1 : ct I1 J t T := ct_fr hc f1 (frP_refl _ _) fun k a i z => by unfold wS at z; omega
      have w1 : rw I1 4 ol l := rw_fr hw f1 fun k a i z => by have := rg_a z; unfold wS; omega
      first | refine x_aload_n hP rfl rfl ?_ | refine x_aload_nN hP rfl rfl ?_
      first | refine x_aload_n hP rfl rfl ?_ | refine x_aload_nN hP rfl rfl ?_
      refine x_iload_n hP rfl rfl ?_
      refine x_iload_n hP rfl rfl ?_
      refine x_callV2 (ci := 0) hP 0 0 rfl rfl rfl (by first | assumption | rfl) rfl rfl rfl (Nat.zero_le _) (Nat.zero_le _) ?_
      refine c_nameIn hP hR hta ht c1 w1 hlt hx (by rw [hx1]; exact e1) (by rw [hx1]; exact e2) ?_
      rw [hx1]
      refine x_callV1 (ci := 0) hP 0 0 rfl rfl rfl (by first | assumption | rfl) rfl rfl rfl (Nat.zero_le _) (Nat.zero_le _) ?_
      refine c_wName hP hR no (by rw [e3, List.length_append]; omega) s1 (fun I2 g1 g2 => ?_)
      refine z_iinc hP rfl rfl rfl ?_
      refine x_goto hP rfl ?_
      refine x_re hP [some (.ref 0), some (.int (iI x)), some (.int (iI (i + 1 : Nat)))] ⟨rfl, rfl, rfl, trivial⟩ (ih (i + 1) I2 _ hlt hx2 (ct_fr c1 g2 (frP_refl _ _) fun k a i z => by unfold wS at z; omega) (rw_fr w1 g2 fun k a i z => by have := rg_a z; unfold wS; omega) (by rw [e3, List.length_append, List.length_append]; omega) g1 (fun I' z1 z2 z3 z4 => k I' ?_ z2 z3 (frP_trans f1 (frP_trans g2 z4))) _ _)
      rw [e3] at z1
      simp only [List.append_assoc] at z1 ⊢
      exact z1
    refine x_iload_n hP rfl rfl ?_
    first | refine x_aload_n hP rfl rfl ?_ | refine x_aload_nN hP rfl rfl ?_
    refine x_getR hP rfl (by first | assumption | rfl) (by first | assumption | exact hR _ _ _ _ rfl | exact hR1 _ _ _ _ rfl | exact hR2 _ _ _ _ rfl | rfl) ?_
    refine x_getI hP rfl (by first | assumption | rfl) (by first | assumption | exact hR _ _ _ _ rfl | exact hR1 _ _ _ _ rfl | exact hR2 _ _ _ _ rfl | rfl) ?_
    refine z_icmp_ge hP rfl (by omega) (by omega) (fun c10 => ?_) (fun c10 => ?_)
    · omega
    refine x_iload_n hP rfl rfl ?_
    refine z_if_le hP rfl (by omega) (fun c14 => ?_) (fun c14 => ?_)
    · exact nam I L (by rw [if_neg (by omega), List.append_nil]) hs (frP_refl _ _) _ _
    · rw [if_pos (by omega)] at hl nam
      have hl : L.length + (1 + ((nmB (tN T e (pt x e))).length + (tuA T x (i + 1) o2).length)) + 1 ≤ 3000 := hl
      first | refine x_aload_n hP rfl rfl ?_ | refine x_aload_nN hP rfl rfl ?_
      refine x_bipush hP rfl ?_
      refine x_callV1 (ci := 0) hP 0 0 rfl rfl rfl (by first | assumption | rfl) rfl rfl rfl (Nat.zero_le _) (Nat.zero_le _) ?_
      refine c_wByte (x := 46) hP hR (by decide) (by omega) hs (fun I1 g1 g2 => ?_)
      exact nam I1 _ rfl g1 g2 _ _
theorem c_wTuple (hP : x_closed E P) (hR : x_fin R) (hta : isTa t) (ht : R 1007 0 0 = some t) (hn : nmsOk T) {x : Nat} (hx : x < 1048576) (ho : ∀ e ∈ ol, e < tD T ∧ pt x e < tS T e) {L : List Nat} (hc : ct I J t T) (hw : rw I 4 ol l) (hl : L.length + (tuL T ol x).length ≤ 3000) (hs : shI I L) (k : ∀ I', shI I' (L ++ tuL T ol x) → ct I' J t T → rw I' 4 ol l → frP (fun _ a _ => wS a) I I' → Q none (x_hp I' J R)) : P 145 (d + 2) 0 (x_la 0 [.ref 0, .int (iI x)]) [] (x_hp I J R) rc rs Q := by
  unfold tuL at hl
  rw [List.length_append] at hl
  refine x_iconst hP rfl ?_
  refine x_istore_n hP rfl ?_
  exact x_re hP [some (.ref 0), some (.int (iI x)), some (.int (iI (0 : Nat)))] ⟨rfl, rfl, rfl, trivial⟩ (c_wTuple_loop hP hR hta ht hn hx ho ol 0 I L (Nat.zero_le _) rfl hc hw hl hs k _ _)
theorem c_by_in (hP : x_closed E P) (hR : x_fin R) (hta : isTa t) (ht : R 1007 0 0 = some t) (hc : ct I J t T) (hw : rw I 4 ol l) (ho : ∀ x ∈ l, ∀ e ∈ ol, e < tD T ∧ pt x e < tS T e) {b j : Nat} (hj : j < l.length) (k : ∀ r1 r2, P 142 (d + 2) 56 (x_ls [some (.ref 0), some (.int (iI (b + byO (fun e => ln (tN T e (pt (l.getD j 0) e)) 8) ol : Nat))), some (.int (iI j))]) [] (x_hp I J R) r1 r2 Q) : ∀ (f i : Nat), i + f = ol.length → ∀ rc rs, P 142 (d + 2) 17 (x_ls [some (.ref 0), some (.int (iI (b + byO (fun e => ln (tN T e (pt (l.getD j 0) e)) 8) (ol.take i) : Nat))), some (.int (iI j)), some (.int (iI i))]) [] (x_hp I J R) rc rs Q := by
  have ⟨a1, a2, a3, a4, a5, a6, a7, a8⟩ := hw
  have isr : isRw R 4 := isRw_of hR (by decide)
  intro f
  induction f with
  | zero =>
    intro i hi rc rs
    refine x_iload_n hP rfl rfl ?_
    first | refine x_aload_n hP rfl rfl ?_ | refine x_aload_nN hP rfl rfl ?_
    refine x_getR hP rfl (by first | assumption | rfl) (by first | assumption | exact hR _ _ _ _ rfl | exact hR1 _ _ _ _ rfl | exact hR2 _ _ _ _ rfl | rfl) ?_
    refine x_getI hP rfl (by first | assumption | rfl) (by first | assumption | exact hR _ _ _ _ rfl | exact hR1 _ _ _ _ rfl | exact hR2 _ _ _ _ rfl | rfl) ?_
    refine z_icmp_ge hP rfl (by omega) (by omega) (fun c25 => ?_) (fun c25 => ?_)
    · rw [List.take_of_length_le (by omega)]
      exact x_re hP [some (.ref 0), some (.int (iI (b + byO (fun e => ln (tN T e (pt (l.getD j 0) e)) 8) ol : Nat))), some (.int (iI j))] ⟨rfl, rfl, rfl, trivial⟩ (k _ _)
    · omega
  | succ f ih =>
    intro i hi rc rs
    have hlt : i < ol.length := by omega
    have v6 := a6 j hj
    have ⟨e1, e2⟩ := ho _ (getD_mem hj) _ (getD_mem hlt)
    have lt := a7 _ (getD_mem hj)
    refine x_iload_n hP rfl rfl ?_
    first | refine x_aload_n hP rfl rfl ?_ | refine x_aload_nN hP rfl rfl ?_
    refine x_getR hP rfl (by first | assumption | rfl) (by first | assumption | exact hR _ _ _ _ rfl | exact hR1 _ _ _ _ rfl | exact hR2 _ _ _ _ rfl | rfl) ?_
    refine x_getI hP rfl (by first | assumption | rfl) (by first | assumption | exact hR _ _ _ _ rfl | exact hR1 _ _ _ _ rfl | exact hR2 _ _ _ _ rfl | rfl) ?_
    refine z_icmp_ge hP rfl (by omega) (by omega) (fun c25 => ?_) (fun c25 => ?_)
    · omega
    refine x_iload_n hP rfl rfl ?_
    first | refine x_aload_n hP rfl rfl ?_ | refine x_aload_nN hP rfl rfl ?_
    first | refine x_aload_n hP rfl rfl ?_ | refine x_aload_nN hP rfl rfl ?_
    refine x_getR hP rfl (by first | assumption | rfl) (by first | assumption | exact hR _ _ _ _ rfl | exact hR1 _ _ _ _ rfl | exact hR2 _ _ _ _ rfl | rfl) ?_
    refine x_getR hP rfl (by first | assumption | rfl) (by first | assumption | exact hR _ _ _ _ rfl | exact hR1 _ _ _ _ rfl | exact hR2 _ _ _ _ rfl | rfl) ?_
    refine x_iload_n hP rfl rfl ?_
    refine z_iald hP rfl (by first | assumption | rfl) (by first | decide | omega) (by omega) (by first | assumption | exact hR _ _ _ _ rfl | exact hR1 _ _ _ _ rfl | exact hR2 _ _ _ _ rfl | rfl) ?_
    refine x_iload_n hP rfl rfl ?_
    refine x_callV2 (ci := 0) hP 0 0 rfl rfl rfl (by first | assumption | rfl) rfl rfl rfl (Nat.zero_le _) (Nat.zero_le _) ?_
    refine c_nameIn hP hR hta ht hc hw hlt lt e1 e2 ?_
    refine x_callS1 hP 0 0 rfl rfl rfl rfl rfl (Nat.zero_le _) (Nat.zero_le _) ?_
    refine c_lengthOf hP ?_
    refine x_iconst hP rfl ?_
    first | refine z_iadd hP rfl ?_ | refine x_iadd hP rfl ?_
    first | refine z_iadd hP rfl ?_ | refine x_iadd hP rfl ?_
    refine x_istore_n hP rfl ?_
    refine z_iinc hP rfl rfl rfl ?_
    refine x_goto hP rfl ?_
    refine x_re hP [some (.ref 0), some (.int (iI (b + byO (fun e => ln (tN T e (pt (l.getD j 0) e)) 8) (ol.take (i + 1)) : Nat))), some (.int (iI j)), some (.int (iI (i + 1 : Nat)))] ⟨rfl, ?_, rfl, rfl, trivial⟩ (ih (i + 1) (by omega) _ _)
    rw [takec hlt, byO_snoc]
    rw [show ((b + (byO (fun e => ln (tN T e (pt (l.getD j 0) e)) 8) (ol.take i) + (ln (tN T (ol.getD i 0) (pt (l.getD j 0) (ol.getD i 0))) 8 + 1)) : Nat) : Int) = ((b + byO (fun e => ln (tN T e (pt (l.getD j 0) e)) 8) (ol.take i) : Nat) : Int) + ((ln (tN T (ol.getD i 0) (pt (l.getD j 0) (ol.getD i 0))) 8 : Nat) + 1) by omega]
    rfl
theorem c_by_out (hP : x_closed E P) (hR : x_fin R) (hta : isTa t) (ht : R 1007 0 0 = some t) (hc : ct I J t T) (hw : rw I 4 ol l) (ho : ∀ x ∈ l, ∀ e ∈ ol, e < tD T ∧ pt x e < tS T e) : ∀ (f j : Nat), j + f = l.length → Q (some (.int (iI (byT (fun x e => ln (tN T e (pt x e)) 8) ol l)))) (x_hp I J R) → ∀ rc rs, P 142 (d + 2) 4 (x_ls [some (.ref 0), some (.int (iI (byT (fun x e => ln (tN T e (pt x e)) 8) ol (l.take j)))), some (.int (iI j)), none]) [] (x_hp I J R) rc rs Q := by
  have ⟨a1, a2, a3, a4, a5, a6, a7, a8⟩ := hw
  have isr : isRw R 4 := isRw_of hR (by decide)
  intro f
  induction f with
  | zero =>
    intro j hj k rc rs
    refine x_iload_n hP rfl rfl ?_
    first | refine x_aload_n hP rfl rfl ?_ | refine x_aload_nN hP rfl rfl ?_
    refine x_getR hP rfl (by first | assumption | rfl) (by first | assumption | exact hR _ _ _ _ rfl | exact hR1 _ _ _ _ rfl | exact hR2 _ _ _ _ rfl | rfl) ?_
    refine x_getI hP rfl (by first | assumption | rfl) (by first | assumption | exact hR _ _ _ _ rfl | exact hR1 _ _ _ _ rfl | exact hR2 _ _ _ _ rfl | rfl) ?_
    refine z_icmp_ge hP rfl (by omega) (by omega) (fun c12 => ?_) (fun c12 => ?_)
    · refine x_iload_n hP rfl rfl ?_
      refine x_iret hP rfl rfl ?_
      rw [List.take_of_length_le (by omega)]
      exact k
    · omega
  | succ f ih =>
    intro j hj k rc rs
    have hlt : j < l.length := by omega
    refine x_iload_n hP rfl rfl ?_
    first | refine x_aload_n hP rfl rfl ?_ | refine x_aload_nN hP rfl rfl ?_
    refine x_getR hP rfl (by first | assumption | rfl) (by first | assumption | exact hR _ _ _ _ rfl | exact hR1 _ _ _ _ rfl | exact hR2 _ _ _ _ rfl | rfl) ?_
    refine x_getI hP rfl (by first | assumption | rfl) (by first | assumption | exact hR _ _ _ _ rfl | exact hR1 _ _ _ _ rfl | exact hR2 _ _ _ _ rfl | rfl) ?_
    refine z_icmp_ge hP rfl (by omega) (by omega) (fun c12 => ?_) (fun c12 => ?_)
    · omega
    refine x_iconst hP rfl ?_
    refine x_istore_n hP rfl ?_
    refine x_re hP [some (.ref 0), some (.int (iI (byT (fun x e => ln (tN T e (pt x e)) 8) ol (l.take j) + byO (fun e => ln (tN T e (pt (l.getD j 0) e)) 8) (ol.take 0) : Nat))), some (.int (iI j)), some (.int (iI (0 : Nat)))] ⟨rfl, rfl, rfl, rfl, trivial⟩ (c_by_in hP hR hta ht hc hw ho hlt (fun r1 r2 => ?_) ol.length 0 (by omega) _ _)
    refine z_iinc hP rfl rfl rfl ?_
    refine x_goto hP rfl ?_
    refine x_re hP [some (.ref 0), some (.int (iI (byT (fun x e => ln (tN T e (pt x e)) 8) ol (l.take (j + 1))))), some (.int (iI (j + 1 : Nat))), none] ⟨rfl, by rw [takec hlt, byT_snoc]; rfl, rfl, trivial⟩ (ih (j + 1) (by omega) k _ _)
theorem c_print_loop (hP : x_closed E P) (hR : x_fin R) (hta : isTa t) (ht : R 1007 0 0 = some t) (hn : nmsOk T) (ho : ∀ x ∈ l, ∀ e ∈ ol, e < tD T ∧ pt x e < tS T e) : ∀ (l2 : List Nat) (j : Nat) (I : x_M Int32) (L : List Nat), j ≤ l.length → l.drop j = l2 → ct I J t T → rw I 4 ol l → L.length + (l2.flatMap (tuL T ol)).length ≤ 3000 → shI I L → (∀ I', shI I' (L ++ l2.flatMap (tuL T ol)) → frP (fun _ a _ => wS a) I I' → Q (some (.int (iI (L ++ l2.flatMap (tuL T ol)).length))) (x_hp I' J R)) → ∀ rc rs, P 141 (d + 3) 20 (x_ls [some (.ref 0), some (.int (iI j))]) [] (x_hp I J R) rc rs Q := by
  have isr : isRw R 4 := isRw_of hR (by decide)
  intro l2
  induction l2 with
  | nil =>
    intro j I L hj hd hc hw hl hs k rc rs
    have hl2 : j = l.length := by have := List.drop_eq_nil_iff.mp hd; omega
    have ⟨a1, a2, a3, a4, a5, a6, a7, a8⟩ := hw
    rw [List.flatMap_nil, List.append_nil] at k
    have s1 := hs.1
    refine x_iload_n hP rfl rfl ?_
    first | refine x_aload_n hP rfl rfl ?_ | refine x_aload_nN hP rfl rfl ?_
    refine x_getR hP rfl (by first | assumption | rfl) (by first | assumption | exact hR _ _ _ _ rfl | exact hR1 _ _ _ _ rfl | exact hR2 _ _ _ _ rfl | rfl) ?_
    refine x_getI hP rfl (by first | assumption | rfl) (by first | assumption | exact hR _ _ _ _ rfl | exact hR1 _ _ _ _ rfl | exact hR2 _ _ _ _ rfl | rfl) ?_
    refine z_icmp_ge hP rfl (by omega) (by omega) (fun c28 => ?_) (fun c28 => ?_)
    · first | refine x_aload_n hP rfl rfl ?_ | refine x_aload_nN hP rfl rfl ?_
      refine x_getI hP rfl (by first | assumption | rfl) (by first | assumption | exact hR _ _ _ _ rfl | exact hR1 _ _ _ _ rfl | exact hR2 _ _ _ _ rfl | rfl) ?_
      refine x_iret hP rfl rfl ?_
      exact k I hs (frP_refl _ _)
    · omega
  | cons x l2 ih =>
    intro j I L hj hd hc hw hl hs k rc rs
    have hlt : j < l.length := by
      rcases Nat.lt_or_ge j l.length with q | q
      · exact q
      · rw [List.drop_eq_nil_of_le q] at hd; cases hd
    have hdd := dropc hlt
    rw [hd] at hdd
    have hx1 : l.getD j 0 = x := by injection hdd with a b; exact a.symm
    have hx2 : l.drop (j + 1) = l2 := by injection hdd with a b; exact b.symm
    have ⟨a1, a2, a3, a4, a5, a6, a7, a8⟩ := hw
    have v6 := a6 j hlt
    rw [hx1] at v6
    have xm : x ∈ l := by rw [← hx1]; exact getD_mem hlt
    rw [List.flatMap_cons] at k hl
    rw [List.length_append] at hl
    refine x_iload_n hP rfl rfl ?_
    first | refine x_aload_n hP rfl rfl ?_ | refine x_aload_nN hP rfl rfl ?_
    refine x_getR hP rfl (by first | assumption | rfl) (by first | assumption | exact hR _ _ _ _ rfl | exact hR1 _ _ _ _ rfl | exact hR2 _ _ _ _ rfl | rfl) ?_
    refine x_getI hP rfl (by first | assumption | rfl) (by first | assumption | exact hR _ _ _ _ rfl | exact hR1 _ _ _ _ rfl | exact hR2 _ _ _ _ rfl | rfl) ?_
    refine z_icmp_ge hP rfl (by omega) (by omega) (fun c28 => ?_) (fun c28 => ?_)
    · omega
    first | refine x_aload_n hP rfl rfl ?_ | refine x_aload_nN hP rfl rfl ?_
    first | refine x_aload_n hP rfl rfl ?_ | refine x_aload_nN hP rfl rfl ?_
    refine x_getR hP rfl (by first | assumption | rfl) (by first | assumption | exact hR _ _ _ _ rfl | exact hR1 _ _ _ _ rfl | exact hR2 _ _ _ _ rfl | rfl) ?_
    refine x_getR hP rfl (by first | assumption | rfl) (by first | assumption | exact hR _ _ _ _ rfl | exact hR1 _ _ _ _ rfl | exact hR2 _ _ _ _ rfl | rfl) ?_
    refine x_iload_n hP rfl rfl ?_
    refine z_iald hP rfl (by first | assumption | rfl) (by first | decide | omega) (by omega) (by first | assumption | exact hR _ _ _ _ rfl | exact hR1 _ _ _ _ rfl | exact hR2 _ _ _ _ rfl | rfl) ?_
    refine x_callV1 (ci := 0) hP 0 0 rfl rfl rfl (by first | assumption | rfl) rfl rfl rfl (Nat.zero_le _) (Nat.zero_le _) ?_
    refine c_wTuple (L := L) hP hR hta ht hn (a7 x xm) (ho x xm) hc hw (by omega) hs (fun I1 g1 g2 g3 g4 => ?_)
    refine z_iinc hP rfl rfl rfl ?_
    refine x_goto hP rfl ?_
    refine x_re hP [some (.ref 0), some (.int (iI (j + 1 : Nat)))] ⟨rfl, rfl, trivial⟩ (ih (j + 1) I1 (L ++ tuL T ol x) hlt hx2 g2 g3 (by rw [List.length_append]; omega) g1 (fun I' z1 z2 => ?_) _ _)
    have := k I' (by rw [List.append_assoc] at z1; exact z1) (frP_trans g4 z2)
    rw [← List.append_assoc] at this
    exact this
end
section
variable {E : x_E} {P : x_Pr} {d rc rs : Nat} {I : x_M Int32} {J : x_M Int64} {R : x_M (Option Nat)} {Q : x_Q} {S : x_St} {F : Int}
theorem m_print (hP : x_closed E P) (hn : nmsOk (zT (sZ S))) (hc : clI I J R S F) (k : ∀ I' J' R', clI I' J' R' (spPrint S).2 (F + 40) → frP (fun _ a _ => lo a) I I' → frP (fun _ a _ => lo a) J J' → Q (some (.int (iI (spPrint S).1))) (x_hp I' J' R')) : P 141 (d + 3) 0 (x_la 0 [.ref 0]) [] (x_hp I J R) rc rs Q := by
  have hc' := hc
  obtain ⟨t, t2, σ, tn, hR, h2, h3, h4, h5, h6, h7, h8, h9⟩ := hc
  have tg1 := isTa_rg h6.2.1
  unfold spPrint at k
  have ho : ∀ x ∈ (sV S).2, ∀ e ∈ (sV S).1, e < tD (zT (sZ S)) ∧ pt x e < tS (zT (sZ S)) e := fun x hx e he => by
    rcases h7.2 with z | z
    · rw [z] at hx; exact absurd hx List.not_mem_nil
    · exact ⟨z.1.2.2 e he, (z.2 x hx).2.1 e he⟩
  have ll : (prL (zT (sZ S)) (sV S)).length = byT (fun x e => ln (tN (zT (sZ S)) e (pt x e)) 8) (sV S).1 (sV S).2 := by
    rcases h7.2 with z | z
    · rw [z]; rfl
    · exact prL_len z.1.1 _ fun x hx e he => hn e (ho x hx e he).1 _ (ho x hx e he).2
  have bl := byT_le (f := fun x e => ln (tN (zT (sZ S)) e (pt x e)) 8) (o := (sV S).1) (fun x e => ln_le _ 8) h7.1.2.2.2.1 (sV S).2
  have sl2 := h7.1.2.2.1
  first | refine x_aload_n hP rfl rfl ?_ | refine x_aload_nN hP rfl rfl ?_
  refine x_callV0 (ci := 0) hP 0 0 rfl rfl rfl (by first | assumption | rfl) rfl rfl rfl (Nat.zero_le _) (Nat.zero_le _) ?_
  refine x_iconst hP rfl ?_
  refine x_istore_n hP rfl ?_
  refine x_iconst hP rfl ?_
  refine x_istore_n hP rfl ?_
  refine x_re hP [some (.ref 0), some (.int (iI (byT (fun x e => ln (tN (zT (sZ S)) e (pt x e)) 8) (sV S).1 ((sV S).2.take 0)))), some (.int (iI (0 : Nat))), none] ⟨rfl, rfl, rfl, trivial⟩ (c_by_out hP hR h6.2.1 h2 h6.2.2.1 h7.1 ho (sV S).2.length 0 (by omega) ?_ _ _)
  refine x_sipush hP rfl ?_
  refine z_icmp_le hP rfl (by omega) (by omega) (fun c7 => ?_) (fun c7 => ?_)
  rotate_left
  · rw [if_neg (by omega)] at k
    refine x_bipush hP rfl ?_
    refine x_iret hP rfl rfl ?_
    exact k I J R (clI_mono hc' (by omega)) (frP_refl _ _) (frP_refl _ _)
  rw [if_pos (by omega)] at k
  first | refine x_aload_n hP rfl rfl ?_ | refine x_aload_nN hP rfl rfl ?_
  refine x_iconst hP rfl ?_
  refine x_putI hP rfl (by first | assumption | rfl) ?_
  first | refine w_nI ?_ | refine w_nL ?_ | refine w_nR ?_ | refine w_mI ?_ | refine w_mL ?_ | refine w_mR ?_ | skip
  refine x_iconst hP rfl ?_
  refine x_istore_n hP rfl ?_
  have f0 : frP (fun _ a _ => wS a) I (x_at I 1006 0 0 (iI 0)) := frP_at (frP_refl _ _) (Or.inl rfl)
  have s0 : shI (x_at I 1006 0 0 (iI 0)) [] := ⟨by rw [x_at_eq, if_pos ⟨rfl, rfl, rfl⟩]; rfl, Nat.zero_le _, fun i hi => absurd hi (Nat.not_lt_zero _), fun x hx => absurd hx List.not_mem_nil⟩
  refine x_re hP [some (.ref 0), some (.int (iI (0 : Nat)))] ⟨rfl, rfl, trivial⟩ (c_print_loop hP hR h6.2.1 h2 hn ho (sV S).2 0 _ [] (Nat.zero_le _) rfl (ct_fr h6.2.2.1 f0 (frP_refl _ _) fun k a i z => by unfold wS at z; omega) (rw_fr h7.1 f0 fun k a i z => by have := rg_a z; unfold wS; omega) (by rw [List.length_nil, Nat.zero_add]; show (prL _ _).length ≤ 3000; omega) s0 (fun I' z1 z2 => ?_) _ _)
  rw [List.nil_append] at z1 ⊢
  have ff : frP (fun _ a _ => wS a) I I' := frP_trans f0 z2
  obtain ⟨b1, b2, b3, b4, b5, b6⟩ := h6
  have tpy : tpB I' (sN S) (sC S) := by
    obtain ⟨x1, x2, x3, x4⟩ := b1
    exact ⟨(ff _ _ _ (by unfold wS; omega)).trans x1, x2, x3, fun i hi => (ff _ _ _ (by unfold wS; omega)).trans (x4 i hi)⟩
  refine k I' J R ⟨t, t2, σ, tn, hR, h2, h3, h4, h5, ⟨tpy, b2, ct_fr b3 ff (frP_refl _ _) fun k a i z => by unfold wS at z; omega, stP_fr b4 ff fun k a i z => by unfold wS at z; omega, nuP_fr b5 ff fun k a i z => by unfold wS at z; omega, fun j hj => ⟨rw_fr (b6 j hj).1 ff fun k' a i z => by have := rg_a z; unfold wS; omega, (b6 j hj).2⟩⟩, ⟨rw_fr h7.1 ff fun k' a i z => by have := rg_a z; unfold wS; omega, h7.2⟩, ⟨jnv_fr2 h8.1 ff fun k a i z => by unfold wS at z; unfold jA; omega, ?_⟩, z1⟩ (frP_mono ff fun k a i z => by unfold wS at z; unfold lo; omega) (frP_refl _ _)
  have := h8.2
  show tn + 2 * (sN S : Int) ≤ F + 40
  omega
end
