/-! SetReader: what a FUNCTION makes -/
/-- a row whose first places were written anew -/
def cuR (F l : List Nat) : List Nat := mk l.length fun q => if q < F.length then F.getD q 0 else l.getD q 0
theorem cuR_len (F l : List Nat) : (cuR F l).length = l.length := mk_len _ _
theorem cuR_get {F l : List Nat} {i : Nat} (h : F.length ≤ i) (hi : i < l.length) : (cuR F l).getD i 0 = l.getD i 0 := by unfold cuR; rw [mk_get hi, if_neg (by omega)]
theorem cuR_mem {F l : List Nat} {x : Nat} (hF : ∀ z ∈ F, z ∈ l) (h : x ∈ cuR F l) : x ∈ l := by
  unfold cuR at h
  obtain ⟨i, h1, rfl⟩ := mk_mem.mp h
  show (if i < F.length then F.getD i 0 else l.getD i 0) ∈ l
  split
  · next q => exact hF _ (getD_mem q)
  · exact getD_mem h1
theorem cuR_nil (l : List Nat) : cuR [] l = l := lext (cuR_len _ _) fun i hi => by rw [cuR_len] at hi; exact cuR_get (Nat.zero_le _) hi
theorem cuR_put {I : x_M Int32} {r : Nat} {o F l : List Nat} {x : Nat} (hl : F.length < l.length) (hx : x < 1048576) (h : rw I r o (cuR F l)) (hF : ∀ z ∈ F ++ [x], z ∈ l) (hll : ∀ z ∈ l, z < 1048576) : rw (x_at I 1 (r + 1) F.length (iI x)) r o (cuR (F ++ [x]) l) := by
  obtain ⟨a1, a2, a3, a4, a5, a6, a7, a8⟩ := h
  rw [cuR_len] at a1 a3
  refine ⟨?_, ?_, by rw [cuR_len]; exact a3, a4, ar_at a5 (by omega), fun i hi => ?_, fun z hz => hll z (cuR_mem hF hz), a8⟩
  · rw [x_at_eq, if_neg (by omega), cuR_len]; exact a1
  · rw [x_at_eq, if_neg (by omega)]; exact a2
  · rw [cuR_len] at hi
    have a6' := a6 i (by rw [cuR_len]; exact hi)
    unfold cuR at a6' ⊢
    rw [mk_get hi] at a6' ⊢
    rw [x_at_eq]
    by_cases q : i = F.length
    · rw [if_pos ⟨rfl, rfl, q⟩, if_pos (by rw [List.length_append]; show i < F.length + 1; omega), q, getD_app2 (Nat.le_refl _), Nat.sub_self]
      rfl
    · rw [if_neg (by omega), a6']
      by_cases z : i < F.length
      · rw [if_pos z, if_pos (by rw [List.length_append]; omega), getD_app1 z]
      · rw [if_neg z, if_neg (by rw [List.length_append]; show ¬ i < F.length + 1; omega)]
def outF (f : Nat) (x b : Int) : Bool := decide ((f = 3 ∧ x ≤ b) ∨ (f = 4 ∧ b ≤ x))
theorem ksF_eq (f : Nat) (v : Nat → Int) (b : Int) (x : Nat) : ksF f v b x = (decide (¬ v x = -2000000000) && !outF f (v x) b) := by
  unfold ksF outF
  by_cases h1 : v x = -2000000000
  · rw [decide_eq_false (fun q => q.1 h1), decide_eq_false (fun q => q h1)]; rfl
  · by_cases h2 : (f = 3 ∧ v x ≤ b) ∨ (f = 4 ∧ b ≤ v x)
    · rw [decide_eq_true h2, decide_eq_true h1, decide_eq_false (by omega)]; rfl
    · rw [decide_eq_false h2, decide_eq_true h1, decide_eq_true (by omega)]; rfl
section
variable {E : x_E} {P : x_Pr} {d rc rs : Nat} {I : x_M Int32} {J : x_M Int64} {R : x_M (Option Nat)} {Q : x_Q} {t : Nat}
theorem c_ksMid (hP : x_closed E P) {f : Nat} (hf : f = 2 ∨ f = 3 ∨ f = 4) {st i : Int} {v b : Int} (hv : -2147483648 ≤ v ∧ v < 2147483648) (hb : -1000000000 < b ∧ b < 1000000000) (hB : f = 3 ∨ f = 4 → I 1268 26 0 = iI b) {q0 : Nat} (k : ∀ r1 r2, P 94 d 67 (x_ls [some (.ref 26), some (.ref (1000001 + f)), some (.ref q0), some (.int (iI st)), some (.int (iI i)), some (.int (iI v))]) [.int (bI (outF f v b))] (x_hp I J R) r1 r2 Q) : ∀ rc rs, P 94 d 30 (x_ls [some (.ref 26), some (.ref (1000001 + f)), some (.ref q0), some (.int (iI st)), some (.int (iI i)), some (.int (iI v))]) [] (x_hp I J R) rc rs Q := by
  intro rc rs
  rcases hf with rfl | rfl | rfl
  · refine x_aload_n hP rfl rfl ?_
    refine x_gets hP rfl ?_
    refine x_acmp_ne (rx := some 1000003) (ry := some 1000004) hP (fun u w h1 h2 => by cases h1; cases h2; decide) rfl (fun _ => ?_) (fun q => by cases q)
    refine x_aload_n hP rfl rfl ?_
    refine x_gets hP rfl ?_
    refine x_acmp_ne (rx := some 1000003) (ry := some 1000005) hP (fun u w h1 h2 => by cases h1; cases h2; decide) rfl (fun _ => ?_) (fun q => by cases q)
    refine x_iconst hP rfl ?_
    have e : outF 2 v b = false := decide_eq_false (by omega)
    rw [e] at k
    exact k _ _
  · have hB := hB (Or.inl rfl)
    refine x_aload_n hP rfl rfl ?_
    refine x_gets hP rfl ?_
    refine x_acmp_ne (rx := some 1000004) (ry := some 1000004) hP (fun u w h1 h2 => by cases h1; cases h2; decide) rfl (fun q => absurd rfl q) (fun _ => ?_)
    refine x_iload hP rfl rfl ?_
    first | refine x_aload_n hP rfl rfl ?_ | refine x_aload_nN hP rfl rfl ?_
    refine x_getI hP rfl (by first | assumption | rfl) (by first | assumption | exact hR _ _ _ _ rfl | exact hR1 _ _ _ _ rfl | exact hR2 _ _ _ _ rfl | rfl) ?_
    refine z_icmp_le hP rfl (by omega) (by omega) (fun c43 => ?_) (fun c43 => ?_)
    · refine x_iconst hP rfl ?_
      refine x_goto hP rfl ?_
      have e : outF 3 v b = true := decide_eq_true (by omega)
      rw [e] at k
      exact k _ _
    · refine x_aload_n hP rfl rfl ?_
      refine x_gets hP rfl ?_
      refine x_acmp_ne (rx := some 1000004) (ry := some 1000005) hP (fun u w h1 h2 => by cases h1; cases h2; decide) rfl (fun _ => ?_) (fun q => by cases q)
      refine x_iconst hP rfl ?_
      have e : outF 3 v b = false := decide_eq_false (by omega)
      rw [e] at k
      exact k _ _
  · have hB := hB (Or.inr rfl)
    refine x_aload_n hP rfl rfl ?_
    refine x_gets hP rfl ?_
    refine x_acmp_ne (rx := some 1000005) (ry := some 1000004) hP (fun u w h1 h2 => by cases h1; cases h2; decide) rfl (fun _ => ?_) (fun q => by cases q)
    refine x_aload_n hP rfl rfl ?_
    refine x_gets hP rfl ?_
    refine x_acmp_ne (rx := some 1000005) (ry := some 1000005) hP (fun u w h1 h2 => by cases h1; cases h2; decide) rfl (fun q => absurd rfl q) (fun _ => ?_)
    refine x_iload hP rfl rfl ?_
    first | refine x_aload_n hP rfl rfl ?_ | refine x_aload_nN hP rfl rfl ?_
    refine x_getI hP rfl (by first | assumption | rfl) (by first | assumption | exact hR _ _ _ _ rfl | exact hR1 _ _ _ _ rfl | exact hR2 _ _ _ _ rfl | rfl) ?_
    refine z_icmp_lt hP rfl (by omega) (by omega) (fun c59 => ?_) (fun c59 => ?_)
    · refine x_iconst hP rfl ?_
      have e : outF 4 v b = false := decide_eq_false (by omega)
      rw [e] at k
      exact k _ _
    · refine x_iconst hP rfl ?_
      refine x_goto hP rfl ?_
      have e : outF 4 v b = true := decide_eq_true (by omega)
      rw [e] at k
      exact k _ _
theorem c_ks_loop (hP : x_closed E P) (hR : x_fin R) (hta : isTa t) (rt : R 1263 26 0 = some t) {f : Nat} (hf : f = 2 ∨ f = 3 ∨ f = 4) {r : Nat} (hr : r ∈ x_rows) {o l : List Nat} {m : Nat} (hm : m < 3) {b : Int} (hb : -1000000000 < b ∧ b < 1000000000) {nu : Nat → Nat → Nat → Int} {v : Nat → Int} (hv : v = shw nu m o) (hl2 : ∀ z ∈ l, z < 1048576) : ∀ (g i : Nat) (I : x_M Int32) (F : List Nat), i + g = l.length → F = (l.take i).filter (ksF f v b) → I 1267 26 0 = iI m → (f = 3 ∨ f = 4 → I 1268 26 0 = iI b) → nuP I t nu → rw I r o (cuR F l) → (∀ I', rw I' r o (l.filter (ksF f v b)) → frP (rg r) I I' → Q none (x_hp I' J R)) → ∀ rc rs, P 94 (d + 2) 5 (x_ls [some (.ref 26), some (.ref (1000001 + f)), some (.ref r), some (.int (iI F.length)), some (.int (iI i)), none, none]) [] (x_hp I J R) rc rs Q := by
  have isr := isRw_of hR hr
  have ⟨y1, y2, y3, y4, y5⟩ := isr
  have rr := rows_rg hr
  have tr := isTa_rg hta
  have tk : x_kd0 t = (1008, 0) := (isTr_of hR hta).1
  intro g
  induction g with
  | zero =>
    intro i I F hi hF h1 h2 h3 hw k rc rs
    have ⟨a1, a2, a3, a4, a5, a6, a7, a8⟩ := hw
    rw [cuR_len] at a1 a3
    have hFl : F.length ≤ l.length := by rw [hF]; exact Nat.le_trans (List.length_filter_le _ _) (by rw [List.length_take]; omega)
    have hFe : F = l.filter (ksF f v b) := by rw [hF, List.take_of_length_le (by omega)]
    refine x_iload hP rfl rfl ?_
    first | refine x_aload_n hP rfl rfl ?_ | refine x_aload_nN hP rfl rfl ?_
    refine x_getI hP rfl (by first | assumption | rfl) (by first | assumption | exact hR _ _ _ _ rfl | exact hR1 _ _ _ _ rfl | exact hR2 _ _ _ _ rfl | rfl) ?_
    refine z_icmp_ge hP rfl (by omega) (by omega) (fun c11 => ?_) (fun c11 => ?_)
    · first | refine x_aload_n hP rfl rfl ?_ | refine x_aload_nN hP rfl rfl ?_
      refine x_iload_n hP rfl rfl ?_
      refine x_putI hP rfl (by first | assumption | rfl) ?_
      first | refine w_nI ?_ | refine w_nL ?_ | refine w_nR ?_ | refine w_mI ?_ | refine w_mL ?_ | refine w_mR ?_ | skip
      refine x_vret hP rfl rfl ?_
      refine k _ (rw_size hw (by rw [← hFe]) (by omega) ?_ ?_) (frP_at (frP_refl _ _) rg_sz)
      · rw [← hFe]
        intro q hq
        have := a6 q (by rw [cuR_len]; omega)
        unfold cuR at this
        rw [mk_get (by omega), if_pos hq] at this
        exact this
      · exact fun z hz => hl2 z (List.mem_filter.mp hz).1
    · omega
  | succ g ih =>
    intro i I F hi hF h1 h2 h3 hw k rc rs
    have ⟨a1, a2, a3, a4, a5, a6, a7, a8⟩ := hw
    rw [cuR_len] at a1 a3
    have hFl : F.length ≤ i := by rw [hF]; exact Nat.le_trans (List.length_filter_le _ _) (by rw [List.length_take]; omega)
    have hlt : i < l.length := by omega
    have hFm : ∀ z ∈ F, z ∈ l := fun z hz => by rw [hF] at hz; exact List.mem_of_mem_take (List.mem_filter.mp hz).1
    have gi := cuR_get hFl hlt
    have ts : (l.take (i + 1)).filter (ksF f v b) = F ++ (if ksF f v b (l.getD i 0) = true then [l.getD i 0] else []) := by rw [takec hlt, List.filter_append, ← hF, List.filter_cons, List.filter_nil]
    have vg := shw_rg (x := l.getD i 0) h3 hw hm
    rw [← hv] at vg
    have v6 : I 1 (r + 1) i = iI (l.getD i 0) := by rw [← gi]; exact a6 i (by rw [cuR_len]; exact hlt)
    refine x_iload hP rfl rfl ?_
    first | refine x_aload_n hP rfl rfl ?_ | refine x_aload_nN hP rfl rfl ?_
    refine x_getI hP rfl (by first | assumption | rfl) (by first | assumption | exact hR _ _ _ _ rfl | exact hR1 _ _ _ _ rfl | exact hR2 _ _ _ _ rfl | rfl) ?_
    refine z_icmp_ge hP rfl (by omega) (by omega) (fun c11 => ?_) (fun c11 => ?_)
    · omega
    first | refine x_aload_n hP rfl rfl ?_ | refine x_aload_nN hP rfl rfl ?_
    refine x_getR hP rfl (by first | assumption | rfl) (by first | assumption | exact hR _ _ _ _ rfl | exact hR1 _ _ _ _ rfl | exact hR2 _ _ _ _ rfl | rfl) ?_
    first | refine x_aload_n hP rfl rfl ?_ | refine x_aload_nN hP rfl rfl ?_
    refine x_iload hP rfl rfl ?_
    first | refine x_aload_n hP rfl rfl ?_ | refine x_aload_nN hP rfl rfl ?_
    refine x_getI hP rfl (by first | assumption | rfl) (by first | assumption | exact hR _ _ _ _ rfl | exact hR1 _ _ _ _ rfl | exact hR2 _ _ _ _ rfl | rfl) ?_
    refine x_callV3 (ci := 8) hP 0 0 rfl rfl rfl (by first | assumption | rfl) rfl rfl rfl (Nat.zero_le _) (Nat.zero_le _) ?_
    refine c_sumOf hP (isTr_of hR hta) h3 isr hw (by rw [cuR_len]; exact hlt) hm ?_
    rw [gi, ← hv]
    refine x_istore hP rfl ?_
    refine x_re hP [some (.ref 26), some (.ref (1000001 + f)), some (.ref r), some (.int (iI F.length)), some (.int (iI i)), some (.int (iI (v (l.getD i 0))))] ⟨rfl, rfl, rfl, rfl, rfl, rfl, trivial⟩ (c_ksMid hP hf (by omega) hb h2 (fun r1 r2 => ?_) _ _)
    have ke := ksF_eq f v b (l.getD i 0)
    have skip : ksF f v b (l.getD i 0) = false → ∀ r1 r2, P 94 (d + 2) 97 (x_ls [some (.ref 26), some (.ref (1000001 + f)), some (.ref r), some (.int (iI F.length)), some (.int (iI i))]) [] (x_hp I J R) r1 r2 Q := by
      intro q r1 r2
      rw [if_neg (by rw [q]; decide), List.append_nil] at ts
      refine z_iinc hP rfl rfl rfl ?_
      refine x_goto hP rfl ?_
      exact x_re hP [some (.ref 26), some (.ref (1000001 + f)), some (.ref r), some (.int (iI F.length)), some (.int (iI (i + 1 : Nat))), none, none] ⟨rfl, rfl, rfl, rfl, rfl, trivial⟩ (ih (i + 1) I F (by omega) ts.symm h1 h2 h3 hw k _ _)
    refine x_istore hP rfl ?_
    refine x_iload hP rfl rfl ?_
    refine x_ldcI hP rfl ?_
    first | refine z_icmp_eq hP rfl (by omega) (by omega) (fun c73 => ?_) (fun c73 => ?_) | refine x_icmp_eq hP rfl (fun c73 => ?_) (fun c73 => ?_)
    · exact x_re hP [some (.ref 26), some (.ref (1000001 + f)), some (.ref r), some (.int (iI F.length)), some (.int (iI i))] ⟨rfl, rfl, rfl, rfl, rfl, trivial⟩ (skip (by rw [ke, decide_eq_false (fun q => q c73)]; rfl) _ _)
    refine x_iload hP rfl rfl ?_
    first | refine zb_if_ne hP rfl (fun c78 => ?_) (fun c78 => ?_) | refine zl_if_ne hP rfl (fun c78 => ?_) (fun c78 => ?_) | refine z_if_ne hP rfl (by omega) (fun c78 => ?_) (fun c78 => ?_)
    · exact x_re hP [some (.ref 26), some (.ref (1000001 + f)), some (.ref r), some (.int (iI F.length)), some (.int (iI i))] ⟨rfl, rfl, rfl, rfl, rfl, trivial⟩ (skip (by rw [ke, c78, Bool.not_true, Bool.and_false]) _ _)
    · have kt : ksF f v b (l.getD i 0) = true := by rw [ke, decide_eq_true c73, c78]; rfl
      rw [if_pos kt] at ts
      first | refine x_aload_n hP rfl rfl ?_ | refine x_aload_nN hP rfl rfl ?_
      refine x_getR hP rfl (by first | assumption | rfl) (by first | assumption | exact hR _ _ _ _ rfl | exact hR1 _ _ _ _ rfl | exact hR2 _ _ _ _ rfl | rfl) ?_
      refine x_iload_n hP rfl rfl ?_
      first | refine x_aload_n hP rfl rfl ?_ | refine x_aload_nN hP rfl rfl ?_
      refine x_getR hP rfl (by first | assumption | rfl) (by first | assumption | exact hR _ _ _ _ rfl | exact hR1 _ _ _ _ rfl | exact hR2 _ _ _ _ rfl | rfl) ?_
      refine x_iload hP rfl rfl ?_
      refine z_iald hP rfl (by first | assumption | rfl) (by first | decide | omega) (by omega) (by first | assumption | exact hR _ _ _ _ rfl | exact hR1 _ _ _ _ rfl | exact hR2 _ _ _ _ rfl | rfl) ?_
      refine z_iast hP rfl (by first | assumption | rfl) (by first | decide | omega) (by omega) ?_
      first | refine w_nI ?_ | refine w_nL ?_ | refine w_nR ?_ | refine w_mI ?_ | refine w_mL ?_ | refine w_mR ?_ | skip
      refine z_iinc hP rfl rfl rfl ?_
      refine z_iinc hP rfl rfl rfl ?_
      refine x_goto hP rfl ?_
      have hx := hl2 _ (getD_mem hlt)
      refine x_re hP [some (.ref 26), some (.ref (1000001 + f)), some (.ref r), some (.int (iI (F ++ [l.getD i 0]).length)), some (.int (iI (i + 1 : Nat))), none, none] ⟨rfl, rfl, rfl, ?_, rfl, trivial⟩ (ih (i + 1) _ (F ++ [l.getD i 0]) (by omega) ts.symm ?_ ?_ ?_ (cuR_put (by omega) hx hw (fun z hz => by rcases List.mem_append.mp hz with q | q; exact hFm z q; rw [List.mem_singleton.mp q]; exact getD_mem hlt) hl2) (fun I' w1 w2 => k I' w1 (frP_trans (frP_at (frP_refl _ _) rg_tu) w2)) _ _)
      · rw [List.length_append]; rfl
      · rw [x_at_eq, if_neg (by omega)]; exact h1
      · intro q; rw [x_at_eq, if_neg (by omega)]; exact h2 q
      · exact nuP_fr h3 (frP_at (S := fun _ a _ => a = r + 1) (frP_refl _ _) rfl) fun k a i q => by omega
theorem c_keepShowing (hP : x_closed E P) (hR : x_fin R) (hta : isTa t) (rt : R 1263 26 0 = some t) {f : Nat} (hf : f = 2 ∨ f = 3 ∨ f = 4) {r : Nat} (hr : r ∈ x_rows) {o l : List Nat} {m : Nat} (hm : m < 3) {b : Int} (hb : -1000000000 < b ∧ b < 1000000000) {nu : Nat → Nat → Nat → Int} {v : Nat → Int} (hv : v = shw nu m o) (h1 : I 1267 26 0 = iI m) (h2 : f = 3 ∨ f = 4 → I 1268 26 0 = iI b) (hn : nuP I t nu) (hw : rw I r o l) (k : ∀ I', rw I' r o (l.filter (ksF f v b)) → frP (rg r) I I' → Q none (x_hp I' J R)) : P 94 (d + 2) 0 (x_la 0 [.ref 26, .ref (1000001 + f), .ref r]) [] (x_hp I J R) rc rs Q := by
  refine x_iconst hP rfl ?_
  refine x_istore_n hP rfl ?_
  refine x_iconst hP rfl ?_
  refine x_istore hP rfl ?_
  exact x_re hP [some (.ref 26), some (.ref (1000001 + f)), some (.ref r), some (.int (iI (List.length (α := Nat) List.nil))), some (.int (iI (0 : Nat))), none, none] ⟨rfl, rfl, rfl, rfl, rfl, trivial⟩ (c_ks_loop hP hR hta rt hf hr hm hb hv hw.2.2.2.2.2.2.1 l.length 0 I [] (by omega) rfl h1 h2 hn (by rw [cuR_nil]; exact hw) k _ _)
theorem c_goEach_loop (hP : x_closed E P) (hR : x_fin R) (hta : isTa t) {e a r s : Nat} {p : Nat → Int} {H : Nat → Nat} (ra : R 1269 26 0 = some (1000013 + a)) (ha : a < 9) (hr : r ∈ x_rows) {o l : List Nat} (hx : ∀ x ∈ l, pt x e < s) : ∀ (g i : Nat) (I : x_M Int32), i + g = l.length → dm1 I t e p s H → rw I r o l → kn I R t e (adds [] ((l.take i).flatMap fun x => actL p s H a (pt x e))) → (∀ I' L r1 r2, kn I' R t e (eaL p s H a e l) → rw I' r o l → frP (fun _ a _ => kA a) I I' → x_ag L 0 [some (.ref 26), some (.ref r)] → P 110 (d + 4) 56 L [] (x_hp I' J R) r1 r2 Q) → ∀ rc rs, P 110 (d + 4) 21 (x_ls [some (.ref 26), some (.ref r), some (.int (iI e)), some (.int (iI i))]) [] (x_hp I J R) rc rs Q := by
  have isr := isRw_of hR hr
  have ⟨y1, y2, y3, y4, y5⟩ := isr
  have rr := rows_rg hr
  intro g
  induction g with
  | zero =>
    intro i I hi hd hw hk k rc rs
    have ⟨a1, a2, a3, a4, a5, a6, a7, a8⟩ := hw
    refine x_iload_n hP rfl rfl ?_
    first | refine x_aload_n hP rfl rfl ?_ | refine x_aload_nN hP rfl rfl ?_
    refine x_getI hP rfl (by first | assumption | rfl) (by first | assumption | exact hR _ _ _ _ rfl | exact hR1 _ _ _ _ rfl | exact hR2 _ _ _ _ rfl | rfl) ?_
    refine z_icmp_ge hP rfl (by omega) (by omega) (fun c26 => ?_) (fun c26 => ?_)
    · rw [List.take_of_length_le (by omega)] at hk
      exact k I _ _ _ hk hw (frP_refl _ _) ⟨rfl, rfl, trivial⟩
    · omega
  | succ g ih =>
    intro i I hi hd hw hk k rc rs
    have ⟨a1, a2, a3, a4, a5, a6, a7, a8⟩ := hw
    have hlt : i < l.length := by omega
    have v6 := a6 i hlt
    refine x_iload_n hP rfl rfl ?_
    first | refine x_aload_n hP rfl rfl ?_ | refine x_aload_nN hP rfl rfl ?_
    refine x_getI hP rfl (by first | assumption | rfl) (by first | assumption | exact hR _ _ _ _ rfl | exact hR1 _ _ _ _ rfl | exact hR2 _ _ _ _ rfl | rfl) ?_
    refine z_icmp_ge hP rfl (by omega) (by omega) (fun c26 => ?_) (fun c26 => ?_)
    · omega
    first | refine x_aload_n hP rfl rfl ?_ | refine x_aload_nN hP rfl rfl ?_
    refine x_getR hP rfl (by first | assumption | rfl) (by first | assumption | exact hR _ _ _ _ rfl | exact hR1 _ _ _ _ rfl | exact hR2 _ _ _ _ rfl | rfl) ?_
    first | refine x_aload_n hP rfl rfl ?_ | refine x_aload_nN hP rfl rfl ?_
    first | refine x_getR hP rfl (by first | assumption | rfl) (by first | assumption | exact hR _ _ _ _ rfl | exact hR1 _ _ _ _ rfl | exact hR2 _ _ _ _ rfl | rfl) ?_ | refine x_getN hP rfl (by first | assumption | rfl) (by first | assumption | exact hR _ _ _ _ rfl | exact hR1 _ _ _ _ rfl | exact hR2 _ _ _ _ rfl | rfl) ?_
    first | refine x_aload_n hP rfl rfl ?_ | refine x_aload_nN hP rfl rfl ?_
    refine x_getR hP rfl (by first | assumption | rfl) (by first | assumption | exact hR _ _ _ _ rfl | exact hR1 _ _ _ _ rfl | exact hR2 _ _ _ _ rfl | rfl) ?_
    refine x_iload_n hP rfl rfl ?_
    refine z_iald hP rfl (by first | assumption | rfl) (by first | decide | omega) (by omega) (by first | assumption | exact hR _ _ _ _ rfl | exact hR1 _ _ _ _ rfl | exact hR2 _ _ _ _ rfl | rfl) ?_
    refine x_iload_n hP rfl rfl ?_
    refine x_callS2 hP 0 0 rfl rfl rfl rfl rfl (Nat.zero_le _) (Nat.zero_le _) ?_
    refine c_partOf hP (a7 _ (getD_mem hlt)) hd.1 ?_
    refine x_callV2 (ci := 7) hP 0 0 rfl rfl rfl (by first | assumption | rfl) rfl rfl rfl (Nat.zero_le _) (Nat.zero_le _) ?_
    refine c_addAct hP hR hta ha (hx _ (getD_mem hlt)) hd hk (fun I1 g1 g2 => ?_)
    refine z_iinc hP rfl rfl rfl ?_
    refine x_goto hP rfl ?_
    refine x_re hP [some (.ref 26), some (.ref r), some (.int (iI e)), some (.int (iI (i + 1 : Nat)))] ⟨rfl, rfl, rfl, rfl, trivial⟩ (ih (i + 1) I1 (by omega) (dm1_fr hd g2 (fun k a i h => kA_out (k := k) (i := i) hta h)) (rw_fr hw g2 fun k a i q => by have := rg_a q; unfold kA; omega) ?_ (fun I' L r1 r2 w1 w2 w3 => k I' L r1 r2 w1 w2 (frP_trans g2 w3)) _ _)
    rw [takec hlt, List.flatMap_append, adds_app, List.flatMap_cons, List.flatMap_nil, List.append_nil]
    exact g1
theorem c_goEach (hP : x_closed E P) (hR : x_fin R) (hta : isTa t) (rt : R 1263 26 0 = some t) {e a r s : Nat} {p : Nat → Int} {H : Nat → Nat} (ra : R 1269 26 0 = some (1000013 + a)) (ha : a < 9) (hr : r ∈ x_rows) {l : List Nat} (hx : ∀ x ∈ l, pt x e < s) (hd : dm1 I t e p s H) (hw : rw I r [e] l) (k : ∀ I', rw I' r [e] ((eaL p s H a e l).map (tp e)) → frP (fun k a i => kA a ∨ rg r k a i) I I' → Q none (x_hp I' J (x_at R 1451 95 0 (some t)))) : P 110 (d + 4) 0 (x_la 0 [.ref 26, .ref r]) [] (x_hp I J R) rc rs Q := by
  have isr := isRw_of hR hr
  have ⟨y1, y2, y3, y4, y5⟩ := isr
  have rr := rows_rg hr
  have ⟨a1, a2, a3, a4, a5, a6, a7, a8⟩ := hw
  have v5 : I 1 (r + 2) 0 = iI e := a5 0 Nat.zero_lt_one
  have tk : x_kd0 t = (1008, 0) := (isTr_of hR hta).1
  have ta := isTa_rg hta
  first | refine x_aload_n hP rfl rfl ?_ | refine x_aload_nN hP rfl rfl ?_
  refine x_getR hP rfl (by first | assumption | rfl) (by first | assumption | exact hR _ _ _ _ rfl | exact hR1 _ _ _ _ rfl | exact hR2 _ _ _ _ rfl | rfl) ?_
  refine x_iconst hP rfl ?_
  refine z_iald hP rfl (by first | assumption | rfl) (by first | decide | omega) (by omega) (by first | assumption | exact hR _ _ _ _ rfl | exact hR1 _ _ _ _ rfl | exact hR2 _ _ _ _ rfl | rfl) ?_
  refine x_istore_n hP rfl ?_
  first | refine x_aload_n hP rfl rfl ?_ | refine x_aload_nN hP rfl rfl ?_
  refine x_getR hP rfl (by first | assumption | rfl) (by first | assumption | exact hR _ _ _ _ rfl | exact hR1 _ _ _ _ rfl | exact hR2 _ _ _ _ rfl | rfl) ?_
  first | refine x_aload_n hP rfl rfl ?_ | refine x_aload_nN hP rfl rfl ?_
  refine x_getR hP rfl (by first | assumption | rfl) (by first | assumption | exact hR _ _ _ _ rfl | exact hR1 _ _ _ _ rfl | exact hR2 _ _ _ _ rfl | rfl) ?_
  refine x_iload_n hP rfl rfl ?_
  refine x_callV2 (ci := 7) hP 0 0 rfl rfl rfl (by first | assumption | rfl) rfl rfl rfl (Nat.zero_le _) (Nat.zero_le _) ?_
  refine c_kinBegin hP tk (fun I1 g1 g2 => ?_)
  refine x_iconst hP rfl ?_
  refine x_istore_n hP rfl ?_
  have hR1 : x_fin (x_at R 1451 95 0 (some t)) := x_fin_at hR rfl
  have ra1 : x_at R 1451 95 0 (some t) 1269 26 0 = some (1000013 + a) := ra
  generalize x_at R 1451 95 0 (some t) = R1 at hR1 ra1 k g1 ⊢
  refine x_re hP [some (.ref 26), some (.ref r), some (.int (iI e)), some (.int (iI (0 : Nat)))] ⟨rfl, rfl, rfl, rfl, trivial⟩ (c_goEach_loop (o := [e]) hP hR1 hta ra1 ha hr hx l.length 0 I1 (by omega) (dm1_fr hd g2 (fun k a i h => kA_out (k := k) (i := i) hta h)) (rw_fr hw g2 fun k a i q => by have := rg_a q; unfold kA; omega) g1 (fun I2 L r1 r2 h1 h2 h3 hL => ?_) _ _)
  refine x_re hP [some (.ref 26), some (.ref r)] hL ?_
  have hR := hR1
  first | refine x_aload_n hP rfl rfl ?_ | refine x_aload_nN hP rfl rfl ?_
  refine x_getR hP rfl (by first | assumption | rfl) (by first | assumption | exact hR _ _ _ _ rfl | exact hR1 _ _ _ _ rfl | exact hR2 _ _ _ _ rfl | rfl) ?_
  first | refine x_aload_n hP rfl rfl ?_ | refine x_aload_nN hP rfl rfl ?_
  refine x_callV1 (ci := 7) hP 0 0 rfl rfl rfl (by first | assumption | rfl) rfl rfl rfl (Nat.zero_le _) (Nat.zero_le _) ?_
  refine c_kinFill hP hR1 (isRw_of hR1 hr) (by omega) hd.1 h1 (fun I3 g4 g5 => ?_)
  refine x_vret hP rfl rfl ?_
  exact k I3 g4 (frP_tr (frP_trans g2 h3) g5 (fun _ _ _ => Or.inl) (fun _ _ _ => Or.inr))
end
