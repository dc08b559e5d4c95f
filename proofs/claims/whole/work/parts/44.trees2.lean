/-! Trees: the telling and the settling -/
/-- an array by a function, from place b on -/
def af (I : x_M Int32) (a b s : Nat) (A : Nat → Int) : Prop := ∀ k, k < s → I 1 a (b + k) = iI (A k)
theorem af_up {I : x_M Int32} {a b s u : Nat} {A : Nat → Int} {v : Int} (h : af I a b s A) : af (x_at I 1 a (b + u) (iI v)) a b s (fun k => if k = u then v else A k) := fun k hk => by
  show _ = iI (if k = u then v else A k)
  rw [x_at_eq]
  by_cases e : k = u
  · rw [if_pos ⟨rfl, rfl, by omega⟩, if_pos e]
  · rw [if_neg (by omega), if_neg e]
    exact h k hk
theorem af_out {I : x_M Int32} {a b s k' a' i' : Nat} {A : Nat → Int} {v : Int32} (h : af I a b s A) (hn : ¬ (1 = k' ∧ a = a')) : af (x_at I k' a' i' v) a b s A := fun k hk => by
  rw [x_at_eq, if_neg (fun q => hn ⟨q.1, q.2.1⟩)]
  exact h k hk
theorem af_ext {I : x_M Int32} {a b s : Nat} {A B : Nat → Int} (h : af I a b s A) (e : ∀ k, k < s → A k = B k) : af I a b s B := fun k hk => by rw [← e k hk]; exact h k hk
theorem af_fr {S : Nat → Nat → Nat → Prop} {I I' : x_M Int32} {a b s : Nat} {A : Nat → Int} (h : af I a b s A) (hf : frP S I I') (hs : ∀ k, k < s → ¬ S 1 a (b + k)) : af I' a b s A := fun k hk => (hf _ _ _ (hs k hk)).trans (h k hk)
/-- how many lie right under a MEMBER; how many leaves it has -/
def kdn (p : Nat → Int) (s k : Nat) : Nat := kw p (fun _ => 1) s k
def lvs (p : Nat → Int) (s k : Nat) : Nat := uw p (fun j => if kdn p s j = 0 then 1 else 0) s k
theorem twf_wfp {T : x_T} (h : twf T) {d : Nat} (hd : d < tD T) : wfp (tP T d) (tS T d) := by
  have := h.2.2 d hd
  exact ⟨this.2.2.1, fun k h0 hk => ⟨((this.2.2.2.2 k hk).2 h0).1, ((this.2.2.2.2 k hk).2 h0).2.1⟩⟩
theorem sfrom_all {f : Nat → Nat} {i s : Nat} (h : ∀ j, j < i → f j = 0) : sfrom f i s = sumS f s := sumS_congr _ fun j _ => by
  by_cases q : i ≤ j
  · rw [if_pos q]
  · rw [if_neg q, h j (by omega)]
theorem par_lt {p : Nat → Int} {s k j : Nat} (h : wfp p s) (hj : j < s) (e : p j = k) : k < j := by
  rcases Nat.eq_zero_or_pos j with z | z
  · subst z; have := h.1; omega
  · have := h.2 j z hj; omega
theorem kw_from {p : Nat → Int} {s k i : Nat} (h : wfp p s) (hi : i ≤ k + 1) (w : Nat → Nat) (hk : k < s) : sfrom (fun j => if p j = k then w j else 0) i s = kw p w s k := sfrom_all fun j hj => if_neg fun e => by
  have := par_lt h (by omega) e
  omega
theorem lvs_eq {p : Nat → Int} {s k : Nat} (h : wfp p s) (hk : k < s) : lvs p s k = if kdn p s k = 0 then 1 else kw p (lvs p s) s k := by
  have e : lvs p s k = (if kdn p s k = 0 then 1 else 0) + kw p (lvs p s) s k := uw_eq h hk _
  rw [e]
  by_cases h0 : kdn p s k = 0
  · rw [if_pos h0, if_pos h0]
    have : kw p (lvs p s) s k = 0 := by
      have z : ∀ (f : Nat → Nat) n, sumS f n = 0 → ∀ j, j < n → f j = 0 := by
        intro f n
        induction n with
        | zero => intro _ j hj; omega
        | succ n ih =>
          intro h j hj
          simp only [sumS] at h
          by_cases q : j = n
          · rw [q]; omega
          · exact ih (by omega) j (by omega)
      refine sumS_z fun j hj => ?_
      have := z _ _ h0 j hj
      by_cases q : p j = k
      · rw [if_pos q] at this; cases this
      · rw [if_neg q]
    rw [this]
  · rw [if_neg h0, if_neg h0, Nat.zero_add]
section
variable {E : x_E} {P : x_Pr} {d rc rs : Nat} {I : x_M Int32} {J : x_M Int64} {R : x_M (Option Nat)} {Q : x_Q} {t : Nat} {T : x_T}
theorem c_fill_loop (hP : x_closed E P) {nc : Nat} {kd : Nat → Nat × Nat} {a n : Nat} (ha : kd a = (1, n)) (hn : n < 100000) {v : Int32} : ∀ (f i : Nat) (I : x_M Int32), i + f = n → (∀ j, j < i → I 1 a j = v) → (∀ I', (∀ j, j < n → I' 1 a j = v) → frP (fun k b _ => k = 1 ∧ b = a) I I' → Q none (nc, kd, I', J, R)) → P 9 d 5 (x_ls [some (.ref a), some (.int v), some (.int (iI i)), some (.int (iI n))]) [] (nc, kd, I, J, R) rc rs Q := by
  intro f
  induction f with
  | zero =>
    intro i I hi hm k
    refine x_iload_n hP rfl rfl ?_
    refine x_iload_n hP rfl rfl ?_
    refine z_icmp_ge hP rfl (by omega) (by omega) (fun c7 => ?_) (fun c7 => ?_)
    · refine x_vret hP rfl rfl ?_
      exact k I (by rw [← show i = n by omega]; exact hm) (frP_refl _ _)
    · omega
  | succ f ih =>
    intro i I hi hm k
    refine x_iload_n hP rfl rfl ?_
    refine x_iload_n hP rfl rfl ?_
    refine z_icmp_ge hP rfl (by omega) (by omega) (fun c7 => ?_) (fun c7 => ?_)
    · omega
    first | refine x_aload_n hP rfl rfl ?_ | refine x_aload_nN hP rfl rfl ?_
    refine x_iload_n hP rfl rfl ?_
    refine x_iload_n hP rfl rfl ?_
    refine z_iast hP rfl (by first | assumption | rfl) (by first | decide | omega) (by omega) ?_
    first | refine w_nI ?_ | refine w_nL ?_ | refine w_nR ?_ | refine w_mI ?_ | refine w_mL ?_ | refine w_mR ?_ | skip
    refine z_iinc hP rfl rfl rfl ?_
    refine x_goto hP rfl ?_
    refine x_re hP [some (.ref a), some (.int v), some (.int (iI (i + 1 : Nat))), some (.int (iI n))] ⟨rfl, rfl, rfl, rfl, trivial⟩ (ih (i + 1) _ (by omega) (fun j hj => ?_) (fun I' h1 h2 => k I' h1 (frP_trans (frP_at (frP_refl _ _) ⟨rfl, rfl⟩) h2)))
    show x_at I 1 a i v 1 a j = v
    rw [x_at_eq]
    by_cases e : j = i
    · rw [if_pos ⟨rfl, rfl, e⟩]
    · rw [if_neg (fun q => e q.2.2)]
      exact hm j (by omega)
theorem c_fill (hP : x_closed E P) {nc : Nat} {kd : Nat → Nat × Nat} {a n : Nat} (ha : kd a = (1, n)) (hn : n < 100000) {v : Int32} (k : ∀ I', (∀ j, j < n → I' 1 a j = v) → frP (fun k b _ => k = 1 ∧ b = a) I I' → Q none (nc, kd, I', J, R)) : P 9 d 0 (x_la 0 [.ref a, .int v]) [] (nc, kd, I, J, R) rc rs Q := by
  refine x_iconst hP rfl ?_
  refine x_istore_n hP rfl ?_
  first | refine x_aload_n hP rfl rfl ?_ | refine x_aload_nN hP rfl rfl ?_
  refine z_alen hP rfl (by first | assumption | rfl) (by decide) (by decide) ?_
  refine x_istore_n hP rfl ?_
  exact x_re hP [some (.ref a), some (.int v), some (.int (iI (0 : Nat))), some (.int (iI n))] ⟨rfl, rfl, rfl, rfl, trivial⟩ (c_fill_loop hP ha hn n 0 I (by omega) (fun j hj => by omega) k)
theorem c_numberAt (hP : x_closed E P) (ht : isTr R t) {nu : Nat → Nat → Nat → Int} (hn : nuP I t nu) {e z m : Nat} (he : e < 4) (hz : z < 32) (hm : m < 3) (k : Q (some (.int (iI (nu m e z)))) (x_hp I J R)) : P 61 d 0 (x_la 0 [.ref t, .int (iI (32 * e + z : Nat)), .int (iI m)]) [] (x_hp I J R) rc rs Q := by
  obtain ⟨t0, t1, t2, t3, t4, t5, t6, t7, t8, t9, t10, t11, u1, u2, u3, u4, u5, u6, u7, u8, u9, u10, u11⟩ := ht
  have v := (hn m e z hm he hz).1
  first | refine x_aload_n hP rfl rfl ?_ | refine x_aload_nN hP rfl rfl ?_
  refine x_getR hP rfl (by first | assumption | rfl) (by first | assumption | exact hR _ _ _ _ rfl | exact hR1 _ _ _ _ rfl | exact hR2 _ _ _ _ rfl | rfl) ?_
  refine x_iload_n hP rfl rfl ?_
  refine x_sipush hP rfl ?_
  first | refine z_imul hP rfl ?_ | refine x_imul hP rfl ?_
  refine x_iload_n hP rfl rfl ?_
  first | refine z_iadd hP rfl ?_ | refine x_iadd hP rfl ?_
  refine z_iald hP rfl (by first | assumption | rfl) (by first | decide | omega) (by omega) (by first | assumption | exact hR _ _ _ _ rfl | exact hR1 _ _ _ _ rfl | exact hR2 _ _ _ _ rfl | rfl) ?_
  refine x_iret hP rfl rfl ?_
  exact k
def nuU (nu : Nat → Nat → Nat → Int) (m e z : Nat) (v : Int) : Nat → Nat → Nat → Int := fun m' e' z' => if m' = m ∧ e' = e ∧ z' = z then v else nu m' e' z'
theorem c_putNumber (hP : x_closed E P) (ht : isTr R t) {nu : Nat → Nat → Nat → Int} (hn : nuP I t nu) {e z m : Nat} (he : e < 4) (hz : z < 32) (hm : m < 3) {v : Int} (hv : v = -2000000000 ∨ -1000000 ≤ v ∧ v ≤ 1000000) (k : ∀ I', nuP I' t (nuU nu m e z v) → frP (fun k a _ => k = 1 ∧ a = t + 11) I I' → Q none (x_hp I' J R)) : P 54 d 0 (x_la 0 [.ref t, .int (iI (32 * e + z : Nat)), .int (iI m), .int (iI v)]) [] (x_hp I J R) rc rs Q := by
  obtain ⟨t0, t1, t2, t3, t4, t5, t6, t7, t8, t9, t10, t11, u1, u2, u3, u4, u5, u6, u7, u8, u9, u10, u11⟩ := ht
  first | refine x_aload_n hP rfl rfl ?_ | refine x_aload_nN hP rfl rfl ?_
  refine x_getR hP rfl (by first | assumption | rfl) (by first | assumption | exact hR _ _ _ _ rfl | exact hR1 _ _ _ _ rfl | exact hR2 _ _ _ _ rfl | rfl) ?_
  refine x_iload_n hP rfl rfl ?_
  refine x_sipush hP rfl ?_
  first | refine z_imul hP rfl ?_ | refine x_imul hP rfl ?_
  refine x_iload_n hP rfl rfl ?_
  first | refine z_iadd hP rfl ?_ | refine x_iadd hP rfl ?_
  refine x_iload_n hP rfl rfl ?_
  refine z_iast hP rfl (by first | assumption | rfl) (by first | decide | omega) (by omega) ?_
  first | refine w_nI ?_ | refine w_nL ?_ | refine w_nR ?_ | refine w_mI ?_ | refine w_mL ?_ | refine w_mR ?_ | skip
  refine x_vret hP rfl rfl ?_
  refine k _ (fun m' e' z' h1 h2 h3 => ?_) (frP_at (frP_refl _ _) ⟨rfl, rfl⟩)
  show x_at I 1 (t + 11) (m * 128 + (32 * e + z)) (iI v) 1 (t + 11) (m' * 128 + (32 * e' + z')) = _ ∧ _
  rw [x_at_eq]
  unfold nuU
  by_cases q : m' = m ∧ e' = e ∧ z' = z
  · rw [if_pos q, if_pos ⟨rfl, rfl, by omega⟩]
    exact ⟨rfl, hv⟩
  · rw [if_neg q, if_neg (by omega)]
    exact hn m' e' z' h1 h2 h3
/-- how many MEMBERS have a number of MARK m, in DIMENSION e among the first f; in the first DIMENSIONS -/
def cn1 (nu : Nat → Nat → Nat → Int) (m e f : Nat) : Nat := sumS (fun z => if nu m e z = -2000000000 then 0 else 1) f
def cn (T : x_T) (nu : Nat → Nat → Nat → Int) (m f : Nat) : Nat := sumS (fun e => cn1 nu m e (tS T e)) f
theorem c_withNum_in (hP : x_closed E P) (ht : isTr R t) (hc : ct I J t T) {nu : Nat → Nat → Nat → Int} (hn : nuP I t nu) {e m : Nat} (he : e < tD T) (hm : m < 3) {b : Nat} : ∀ (f i : Nat), i + f = tS T e → P 60 (d + 1) 4 (x_ls [some (.ref t), some (.int (iI m)), some (.int (iI (b + cn1 nu m e (tS T e) : Nat))), some (.int (iI (e + 1 : Nat))), none]) [] (x_hp I J R) rc rs Q → P 60 (d + 1) 15 (x_ls [some (.ref t), some (.int (iI m)), some (.int (iI (b + cn1 nu m e i : Nat))), some (.int (iI e)), some (.int (iI i))]) [] (x_hp I J R) rc rs Q := by
  have ht' := ht
  obtain ⟨t0, t1, t2, t3, t4, t5, t6, t7, t8, t9, t10, t11, u1, u2, u3, u4, u5, u6, u7, u8, u9, u10, u11⟩ := ht
  obtain ⟨h1, h2, h3, h4, h5, w1, w2, w3⟩ := hc
  have v1 := h3 e he
  have v2 := w3 e he
  intro f
  induction f with
  | zero =>
    intro i hi k
    obtain rfl : i = tS T e := by omega
    refine x_iload hP rfl rfl ?_
    first | refine x_aload_n hP rfl rfl ?_ | refine x_aload_nN hP rfl rfl ?_
    refine x_getR hP rfl (by first | assumption | rfl) (by first | assumption | exact hR _ _ _ _ rfl | exact hR1 _ _ _ _ rfl | exact hR2 _ _ _ _ rfl | rfl) ?_
    refine x_iload_n hP rfl rfl ?_
    refine z_iald hP rfl (by first | assumption | rfl) (by first | decide | omega) (by omega) (by first | assumption | exact hR _ _ _ _ rfl | exact hR1 _ _ _ _ rfl | exact hR2 _ _ _ _ rfl | rfl) ?_
    refine z_icmp_ge hP rfl (by omega) (by omega) (fun c23 => ?_) (fun c23 => ?_)
    · refine z_iinc hP rfl rfl rfl ?_
      refine x_goto hP rfl ?_
      exact x_re hP [some (.ref t), some (.int (iI m)), some (.int (iI (b + cn1 nu m e (tS T e) : Nat))), some (.int (iI (e + 1 : Nat))), none] ⟨rfl, rfl, rfl, rfl, trivial⟩ k
    · omega
  | succ f ih =>
    intro i hi k
    have hv := (hn m e i hm (by omega) (by omega)).2
    refine x_iload hP rfl rfl ?_
    first | refine x_aload_n hP rfl rfl ?_ | refine x_aload_nN hP rfl rfl ?_
    refine x_getR hP rfl (by first | assumption | rfl) (by first | assumption | exact hR _ _ _ _ rfl | exact hR1 _ _ _ _ rfl | exact hR2 _ _ _ _ rfl | rfl) ?_
    refine x_iload_n hP rfl rfl ?_
    refine z_iald hP rfl (by first | assumption | rfl) (by first | decide | omega) (by omega) (by first | assumption | exact hR _ _ _ _ rfl | exact hR1 _ _ _ _ rfl | exact hR2 _ _ _ _ rfl | rfl) ?_
    refine z_icmp_ge hP rfl (by omega) (by omega) (fun c23 => ?_) (fun c23 => ?_)
    · omega
    first | refine x_aload_n hP rfl rfl ?_ | refine x_aload_nN hP rfl rfl ?_
    refine x_iload_n hP rfl rfl ?_
    refine x_iload hP rfl rfl ?_
    refine x_callS2 hP 0 0 rfl rfl rfl rfl rfl (Nat.zero_le _) (Nat.zero_le _) ?_
    refine c_idOf hP (by omega) (by omega) ?_
    refine x_iload_n hP rfl rfl ?_
    refine x_callV2 (ci := 8) hP 0 0 rfl rfl rfl (by first | assumption | rfl) rfl rfl rfl (Nat.zero_le _) (Nat.zero_le _) ?_
    refine c_numberAt hP ht' hn (by omega) (by omega) hm ?_
    refine x_ldcI hP rfl ?_
    first | refine z_icmp_eq hP rfl (by omega) (by omega) (fun c39 => ?_) (fun c39 => ?_) | refine x_icmp_eq hP rfl (fun c39 => ?_) (fun c39 => ?_)
    · refine z_iinc hP rfl rfl rfl ?_
      refine x_goto hP rfl ?_
      refine x_re hP [some (.ref t), some (.int (iI m)), some (.int (iI (b + cn1 nu m e (i + 1) : Nat))), some (.int (iI e)), some (.int (iI (i + 1 : Nat)))] ⟨rfl, rfl, ?_, rfl, rfl, trivial⟩ (ih (i + 1) (by omega) k)
      unfold cn1
      simp only [sumS]
      rw [if_pos c39]
      rfl
    · refine z_iinc hP rfl rfl rfl ?_
      refine z_iinc hP rfl rfl rfl ?_
      refine x_goto hP rfl ?_
      refine x_re hP [some (.ref t), some (.int (iI m)), some (.int (iI (b + cn1 nu m e (i + 1) : Nat))), some (.int (iI e)), some (.int (iI (i + 1 : Nat)))] ⟨rfl, rfl, ?_, rfl, rfl, trivial⟩ (ih (i + 1) (by omega) k)
      unfold cn1
      simp only [sumS]
      rw [if_neg c39]
      rfl
theorem c_withNum_out (hP : x_closed E P) (ht : isTr R t) (hc : ct I J t T) {nu : Nat → Nat → Nat → Int} (hn : nuP I t nu) {m : Nat} (hm : m < 3) : ∀ (f i : Nat), i + f = tD T → Q (some (.int (iI (cn T nu m (tD T))))) (x_hp I J R) → P 60 (d + 1) 4 (x_ls [some (.ref t), some (.int (iI m)), some (.int (iI (cn T nu m i))), some (.int (iI i)), none]) [] (x_hp I J R) rc rs Q := by
  have ht' := ht
  have hc' := hc
  obtain ⟨t0, t1, t2, t3, t4, t5, t6, t7, t8, t9, t10, t11, u1, u2, u3, u4, u5, u6, u7, u8, u9, u10, u11⟩ := ht
  obtain ⟨h1, h2, h3, h4, h5, w1, w2, w3⟩ := hc
  intro f
  induction f with
  | zero =>
    intro i hi k
    obtain rfl : i = tD T := by omega
    refine x_iload_n hP rfl rfl ?_
    first | refine x_aload_n hP rfl rfl ?_ | refine x_aload_nN hP rfl rfl ?_
    refine x_getI hP rfl (by first | assumption | rfl) (by first | assumption | exact hR _ _ _ _ rfl | exact hR1 _ _ _ _ rfl | exact hR2 _ _ _ _ rfl | rfl) ?_
    refine z_icmp_ge hP rfl (by omega) (by omega) (fun c9 => ?_) (fun c9 => ?_)
    · refine x_iload_n hP rfl rfl ?_
      refine x_iret hP rfl rfl ?_
      exact k
    · omega
  | succ f ih =>
    intro i hi k
    refine x_iload_n hP rfl rfl ?_
    first | refine x_aload_n hP rfl rfl ?_ | refine x_aload_nN hP rfl rfl ?_
    refine x_getI hP rfl (by first | assumption | rfl) (by first | assumption | exact hR _ _ _ _ rfl | exact hR1 _ _ _ _ rfl | exact hR2 _ _ _ _ rfl | rfl) ?_
    refine z_icmp_ge hP rfl (by omega) (by omega) (fun c9 => ?_) (fun c9 => ?_)
    · omega
    refine x_iconst hP rfl ?_
    refine x_istore hP rfl ?_
    exact x_re hP [some (.ref t), some (.int (iI m)), some (.int (iI (cn T nu m i + cn1 nu m i 0 : Nat))), some (.int (iI i)), some (.int (iI (0 : Nat)))] ⟨rfl, rfl, rfl, rfl, rfl, trivial⟩ (c_withNum_in hP ht' hc' hn (by omega) hm (tS T i) 0 (by omega) (ih (i + 1) (by omega) k))
theorem c_withNum (hP : x_closed E P) (ht : isTr R t) (hc : ct I J t T) {nu : Nat → Nat → Nat → Int} (hn : nuP I t nu) {m : Nat} (hm : m < 3) (k : Q (some (.int (iI (cn T nu m (tD T))))) (x_hp I J R)) : P 60 (d + 1) 0 (x_la 0 [.ref t, .int (iI m)]) [] (x_hp I J R) rc rs Q := by
  refine x_iconst hP rfl ?_
  refine x_istore_n hP rfl ?_
  refine x_iconst hP rfl ?_
  refine x_istore_n hP rfl ?_
  exact x_re hP [some (.ref t), some (.int (iI m)), some (.int (iI (cn T nu m 0))), some (.int (iI (0 : Nat))), none] ⟨rfl, rfl, rfl, rfl, trivial⟩ (c_withNum_out hP ht hc hn hm (tD T) 0 (by omega) k)
/-- what a TUPLE shows: the sum over its DIMENSIONS -/
def shO (f : Nat → Int) (acc : Int) : List Nat → Int
  | [] => acc
  | e :: o => if f e = -2000000000 then -2000000000 else shO f (acc + f e) o
def shw (nu : Nat → Nat → Nat → Int) (m : Nat) (o : List Nat) (x : Nat) : Int := shO (fun e => nu m e (pt x e)) 0 o
theorem shO_rg {f : Nat → Int} : ∀ (o : List Nat) (acc : Int), (∀ e ∈ o, f e = -2000000000 ∨ -1000000 ≤ f e ∧ f e ≤ 1000000) → shO f acc o = -2000000000 ∨ acc - 1000000 * o.length ≤ shO f acc o ∧ shO f acc o ≤ acc + 1000000 * o.length
  | [], acc, _ => Or.inr (by simp only [shO, List.length_nil]; omega)
  | e :: o, acc, h => by
    unfold shO
    split
    · exact Or.inl rfl
    · next hn =>
      have h1 := (h e (List.mem_cons_self ..)).resolve_left hn
      rcases shO_rg o (acc + f e) (fun x hx => h x (List.mem_cons_of_mem _ hx)) with q | q
      · exact Or.inl q
      · right
        rw [List.length_cons]
        omega
theorem c_sumOf_loop (hP : x_closed E P) (ht : isTr R t) {nu : Nat → Nat → Nat → Int} (hn : nuP I t nu) {r : Nat} {o l : List Nat} (hr : isRw R r) (hw : rw I r o l) {i m : Nat} (hi : i < l.length) (hm : m < 3) : ∀ (f z : Nat) (acc : Int), z + f = o.length → Q (some (.int (iI (shO (fun e => nu m e (pt (l.getD i 0) e)) acc (o.drop z))))) (x_hp I J R) → P 95 (d + 1) 6 (x_ls [some (.ref t), some (.ref r), some (.int (iI i)), some (.int (iI m)), some (.int (iI acc)), some (.int (iI z)), none, none]) [] (x_hp I J R) rc rs Q := by
  have ht' := ht
  obtain ⟨t0, t1, t2, t3, t4, t5, t6, t7, t8, t9, t10, t11, u1, u2, u3, u4, u5, u6, u7, u8, u9, u10, u11⟩ := ht
  obtain ⟨g1, g2, g3, g4, g5⟩ := hr
  obtain ⟨a1, a2, a3, a4, a5, a6, a7, a8⟩ := hw
  have v1 := a6 i hi
  have v2 := a7 _ (getD_mem hi)
  intro f
  induction f with
  | zero =>
    intro z acc hz k
    rw [drop_all (by omega)] at k
    refine x_iload hP rfl rfl ?_
    first | refine x_aload_n hP rfl rfl ?_ | refine x_aload_nN hP rfl rfl ?_
    refine x_getI hP rfl (by first | assumption | rfl) (by first | assumption | exact hR _ _ _ _ rfl | exact hR1 _ _ _ _ rfl | exact hR2 _ _ _ _ rfl | rfl) ?_
    refine z_icmp_ge hP rfl (by omega) (by omega) (fun c12 => ?_) (fun c12 => ?_)
    · refine x_iload hP rfl rfl ?_
      refine x_iret hP rfl rfl ?_
      exact k
    · omega
  | succ f ih =>
    intro z acc hz k
    rw [dropc (by omega), shO] at k
    have v3 := a5 z (by omega)
    have v4 := a8 _ (getD_mem (l := o) (i := z) (by omega))
    have hv := (hn m (o.getD z 0) (pt (l.getD i 0) (o.getD z 0)) hm v4 (pt_lt _ _)).2
    refine x_iload hP rfl rfl ?_
    first | refine x_aload_n hP rfl rfl ?_ | refine x_aload_nN hP rfl rfl ?_
    refine x_getI hP rfl (by first | assumption | rfl) (by first | assumption | exact hR _ _ _ _ rfl | exact hR1 _ _ _ _ rfl | exact hR2 _ _ _ _ rfl | rfl) ?_
    refine z_icmp_ge hP rfl (by omega) (by omega) (fun c12 => ?_) (fun c12 => ?_)
    · omega
    first | refine x_aload_n hP rfl rfl ?_ | refine x_aload_nN hP rfl rfl ?_
    refine x_getR hP rfl (by first | assumption | rfl) (by first | assumption | exact hR _ _ _ _ rfl | exact hR1 _ _ _ _ rfl | exact hR2 _ _ _ _ rfl | rfl) ?_
    refine x_iload hP rfl rfl ?_
    refine z_iald hP rfl (by first | assumption | rfl) (by first | decide | omega) (by omega) (by first | assumption | exact hR _ _ _ _ rfl | exact hR1 _ _ _ _ rfl | exact hR2 _ _ _ _ rfl | rfl) ?_
    refine x_istore hP rfl ?_
    first | refine x_aload_n hP rfl rfl ?_ | refine x_aload_nN hP rfl rfl ?_
    refine x_iload hP rfl rfl ?_
    first | refine x_aload_n hP rfl rfl ?_ | refine x_aload_nN hP rfl rfl ?_
    refine x_getR hP rfl (by first | assumption | rfl) (by first | assumption | exact hR _ _ _ _ rfl | exact hR1 _ _ _ _ rfl | exact hR2 _ _ _ _ rfl | rfl) ?_
    refine x_iload_n hP rfl rfl ?_
    refine z_iald hP rfl (by first | assumption | rfl) (by first | decide | omega) (by omega) (by first | assumption | exact hR _ _ _ _ rfl | exact hR1 _ _ _ _ rfl | exact hR2 _ _ _ _ rfl | rfl) ?_
    refine x_iload hP rfl rfl ?_
    refine x_callS2 hP 0 0 rfl rfl rfl rfl rfl (Nat.zero_le _) (Nat.zero_le _) ?_
    refine c_partOf hP v2 v4 ?_
    refine x_callS2 hP 0 0 rfl rfl rfl rfl rfl (Nat.zero_le _) (Nat.zero_le _) ?_
    refine c_idOf hP v4 (pt_lt _ _) ?_
    refine x_iload_n hP rfl rfl ?_
    refine x_callV2 (ci := 8) hP 0 0 rfl rfl rfl (by first | assumption | rfl) rfl rfl rfl (Nat.zero_le _) (Nat.zero_le _) ?_
    refine c_numberAt hP ht' hn v4 (pt_lt _ _) hm ?_
    refine x_istore hP rfl ?_
    refine x_iload hP rfl rfl ?_
    refine x_ldcI hP rfl ?_
    first | refine z_icmp_ne hP rfl (by omega) (by omega) (fun c51 => ?_) (fun c51 => ?_) | refine x_icmp_ne hP rfl (fun c51 => ?_) (fun c51 => ?_)
    · rw [if_neg c51] at k
      refine x_iload hP rfl rfl ?_
      refine x_iload hP rfl rfl ?_
      first | refine z_iadd hP rfl ?_ | refine x_iadd hP rfl ?_
      refine x_istore hP rfl ?_
      refine z_iinc hP rfl rfl rfl ?_
      refine x_goto hP rfl ?_
      exact x_re hP [some (.ref t), some (.ref r), some (.int (iI i)), some (.int (iI m)), some (.int (iI (acc + nu m (o.getD z 0) (pt (l.getD i 0) (o.getD z 0))))), some (.int (iI (z + 1 : Nat))), none, none] ⟨rfl, rfl, rfl, rfl, rfl, rfl, trivial⟩ (ih (z + 1) _ (by omega) k)
    · rw [if_pos c51] at k
      refine x_ldcI hP rfl ?_
      refine x_iret hP rfl rfl ?_
      exact k
theorem c_sumOf (hP : x_closed E P) (ht : isTr R t) {nu : Nat → Nat → Nat → Int} (hn : nuP I t nu) {r : Nat} {o l : List Nat} (hr : isRw R r) (hw : rw I r o l) {i m : Nat} (hi : i < l.length) (hm : m < 3) (k : Q (some (.int (iI (shw nu m o (l.getD i 0))))) (x_hp I J R)) : P 95 (d + 1) 0 (x_la 0 [.ref t, .ref r, .int (iI i), .int (iI m)]) [] (x_hp I J R) rc rs Q := by
  refine x_iconst hP rfl ?_
  refine x_istore hP rfl ?_
  refine x_iconst hP rfl ?_
  refine x_istore hP rfl ?_
  exact x_re hP [some (.ref t), some (.ref r), some (.int (iI i)), some (.int (iI m)), some (.int (iI 0)), some (.int (iI (0 : Nat))), none, none] ⟨rfl, rfl, rfl, rfl, rfl, rfl, trivial⟩ (c_sumOf_loop hP ht hn hr hw hi hm o.length 0 0 (by omega) k)
theorem shw_rg {nu : Nat → Nat → Nat → Int} {r m x : Nat} {o l : List Nat} (hn : nuP I t nu) (hw : rw I r o l) (hm : m < 3) : shw nu m o x = -2000000000 ∨ -4000000 ≤ shw nu m o x ∧ shw nu m o x ≤ 4000000 := by
  have h4 := hw.2.2.2.1
  rcases shO_rg (f := fun e => nu m e (pt x e)) o 0 (fun e he => (hn m e (pt x e) hm (hw.2.2.2.2.2.2.2 e he) (pt_lt _ _)).2) with q | q
  · exact Or.inl q
  · right
    unfold shw
    omega
end
