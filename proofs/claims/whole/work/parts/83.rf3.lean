/-! THE REFERENCE: rows -/
def okd : List Nat → Nat
  | [] => 0
  | e :: o => e + 4 * okd o
/-- a TUPLE as the reference keeps it -/
def rfE : List Nat → Nat → Nat
  | [], _ => 0
  | e :: o, x => pt x e + 32 * rfE o x
theorem okd_lt : ∀ (o : List Nat), (∀ e ∈ o, e < 4) → okd o < 4 ^ o.length
  | [], _ => by decide
  | e :: o, h => by
    have ih := okd_lt o fun x hx => h x (List.mem_cons_of_mem _ hx)
    have := h e List.mem_cons_self
    show e + 4 * okd o < 4 ^ (o.length + 1)
    rw [Nat.pow_succ]
    omega
theorem okd_256 {o : List Nat} (h : ∀ e ∈ o, e < 4) (hl : o.length ≤ 4) : okd o < 256 := Nat.lt_of_lt_of_le (okd_lt o h) (Nat.pow_le_pow_right (by decide) hl)
theorem rfE_lt : ∀ (o : List Nat) (x : Nat), rfE o x < 32 ^ o.length
  | [], _ => Nat.zero_lt_one
  | e :: o, x => by
    have ih := rfE_lt o x
    have := pt_lt x e
    show pt x e + 32 * rfE o x < 32 ^ (o.length + 1)
    rw [Nat.pow_succ]
    omega
theorem rfE_20 {o : List Nat} (x : Nat) (hl : o.length ≤ 4) : rfE o x < 1048576 := Nat.lt_of_lt_of_le (rfE_lt o x) (Nat.pow_le_pow_right (by decide) hl)
theorem okd_dim : ∀ (o : List Nat) (i : Nat), (∀ e ∈ o, e < 4) → i < o.length → okd o >>> (2 * i) % 4 = o.getD i 0
  | [], i, _, h => absurd h (Nat.not_lt_zero _)
  | e :: o, 0, h, _ => by
    have := h e List.mem_cons_self
    show (e + 4 * okd o) >>> 0 % 4 = e
    rw [Nat.shiftRight_zero]
    omega
  | e :: o, i + 1, h, hl => by
    have he := h e List.mem_cons_self
    have ih := okd_dim o i (fun x hx => h x (List.mem_cons_of_mem _ hx)) (Nat.lt_of_succ_lt_succ hl)
    show (e + 4 * okd o) >>> (2 * (i + 1)) % 4 = o.getD i 0
    rw [show 2 * (i + 1) = 2 + 2 * i by omega, Nat.shiftRight_add, show (e + 4 * okd o) >>> 2 = okd o by rw [Nat.shiftRight_eq_div_pow]; omega]
    exact ih
theorem rfE_pt : ∀ (o : List Nat) (x i : Nat), i < o.length → rfE o x >>> (5 * i) % 32 = pt x (o.getD i 0)
  | [], x, i, h => absurd h (Nat.not_lt_zero _)
  | e :: o, x, 0, _ => by
    have := pt_lt x e
    show (pt x e + 32 * rfE o x) >>> 0 % 32 = pt x e
    rw [Nat.shiftRight_zero]
    omega
  | e :: o, x, i + 1, hl => by
    have he := pt_lt x e
    have ih := rfE_pt o x i (Nat.lt_of_succ_lt_succ hl)
    show (pt x e + 32 * rfE o x) >>> (5 * (i + 1)) % 32 = pt x (o.getD i 0)
    rw [show 5 * (i + 1) = 5 + 5 * i by omega, Nat.shiftRight_add, show (pt x e + 32 * rfE o x) >>> 5 = rfE o x by rw [Nat.shiftRight_eq_div_pow]; omega]
    exact ih
theorem okd_inj : ∀ {o o2 : List Nat}, (∀ e ∈ o, e < 4) → (∀ e ∈ o2, e < 4) → o.length = o2.length → okd o = okd o2 → o = o2
  | [], [], _, _, _, _ => rfl
  | [], _ :: _, _, _, h, _ => by cases h
  | _ :: _, [], _, _, h, _ => by cases h
  | a :: o, b :: o2, h1, h2, hl, he => by
    have a4 := h1 a List.mem_cons_self
    have b4 := h2 b List.mem_cons_self
    have he : a + 4 * okd o = b + 4 * okd o2 := he
    have ih := okd_inj (o := o) (o2 := o2) (fun x hx => h1 x (List.mem_cons_of_mem _ hx)) (fun x hx => h2 x (List.mem_cons_of_mem _ hx)) (Nat.succ.inj hl) (by omega)
    rw [ih, show a = b by omega]
theorem rfE_inj {T : x_T} {o : List Nat} {x y : Nat} (hx : vt T o x) (hy : vt T o y) (h : rfE o x = rfE o y) : x = y := by
  refine pt_ext hx.1 hy.1 fun e he => ?_
  by_cases q : e ∈ o
  · obtain ⟨i, h1, h2⟩ := List.mem_iff_getElem.mp q
    have e1 := rfE_pt o x i h1
    have e2 := rfE_pt o y i h1
    have e3 : o.getD i 0 = e := by rw [List.getD_eq_getElem?_getD, List.getElem?_eq_getElem h1]; exact h2
    rw [e3] at e1 e2
    rw [← e1, ← e2, h]
  · rw [hx.2.2 e he q, hy.2.2 e he q]
theorem okd_app : ∀ (o o2 : List Nat), (∀ e ∈ o, e < 4) → okd o ||| okd o2 <<< (2 * o.length) = okd (o ++ o2)
  | [], o2, _ => by show 0 ||| okd o2 <<< 0 = okd o2; rw [Nat.shiftLeft_zero, Nat.zero_or]
  | e :: o, o2, h => by
    have he := h e List.mem_cons_self
    have ih := okd_app o o2 fun x hx => h x (List.mem_cons_of_mem _ hx)
    show (e + 4 * okd o) ||| okd o2 <<< (2 * (o.length + 1)) = e + 4 * okd (o ++ o2)
    rw [← ih, show ∀ z, e + 4 * z = z <<< 2 ||| e from fun z => by rw [← Nat.shiftLeft_add_eq_or_of_lt (by omega : e < 2 ^ 2), Nat.shiftLeft_eq]; omega, show ∀ z, e + 4 * z = z <<< 2 ||| e from fun z => by rw [← Nat.shiftLeft_add_eq_or_of_lt (by omega : e < 2 ^ 2), Nat.shiftLeft_eq]; omega, Nat.shiftLeft_or_distrib, ← Nat.shiftLeft_add, show 2 * (o.length + 1) = 2 * o.length + 2 by omega]
    rw [Nat.or_assoc, Nat.or_assoc, Nat.or_comm e]
theorem rfE_congr : ∀ (o : List Nat) {x y : Nat}, (∀ e ∈ o, pt x e = pt y e) → rfE o x = rfE o y
  | [], _, _, _ => rfl
  | e :: o, x, y, h => by
    show pt x e + 32 * rfE o x = pt y e + 32 * rfE o y
    rw [h e List.mem_cons_self, rfE_congr o fun a ha => h a (List.mem_cons_of_mem _ ha)]
theorem rfE_app : ∀ (o o2 : List Nat) (x y z : Nat), (∀ e ∈ o, pt z e = pt x e) → (∀ e ∈ o2, pt z e = pt y e) → rfE o x ||| rfE o2 y <<< (5 * o.length) = rfE (o ++ o2) z
  | [], o2, x, y, z, _, h2 => by
    show 0 ||| rfE o2 y <<< 0 = rfE o2 z
    rw [Nat.shiftLeft_zero, Nat.zero_or]
    exact (rfE_congr o2 h2).symm
  | e :: o, o2, x, y, z, h1, h2 => by
    have he := pt_lt x e
    have ih := rfE_app o o2 x y z (fun a ha => h1 a (List.mem_cons_of_mem _ ha)) h2
    show (pt x e + 32 * rfE o x) ||| rfE o2 y <<< (5 * (o.length + 1)) = pt z e + 32 * rfE (o ++ o2) z
    rw [h1 e List.mem_cons_self, ← ih, show ∀ w, pt x e + 32 * w = w <<< 5 ||| pt x e from fun w => by rw [← Nat.shiftLeft_add_eq_or_of_lt (by omega : pt x e < 2 ^ 5), Nat.shiftLeft_eq]; omega, show ∀ w, pt x e + 32 * w = w <<< 5 ||| pt x e from fun w => by rw [← Nat.shiftLeft_add_eq_or_of_lt (by omega : pt x e < 2 ^ 5), Nat.shiftLeft_eq]; omega, Nat.shiftLeft_or_distrib, ← Nat.shiftLeft_add, show 5 * (o.length + 1) = 5 * o.length + 5 by omega]
    rw [Nat.or_assoc, Nat.or_assoc, Nat.or_comm (pt x e)]
/-- row s: its DIMENSIONS and its TUPLES, as numbers -/
def rq (I : x_M Int32) (s : Nat) (o ts : List Nat) : Prop := I 1 140 s = iI ts.length ∧ I 1 141 s = iI o.length ∧ I 1 142 s = iI (okd o) ∧ ts.length ≤ 200 ∧ o.length ≤ 4 ∧ (∀ e ∈ o, e < 4) ∧ (∀ i, i < ts.length → I 1 139 (201 * s + i) = iI (ts.getD i 0)) ∧ ∀ t ∈ ts, t < 1048576
def rsF (s k a i : Nat) : Prop := k = 1 ∧ (a = 139 ∧ 201 * s ≤ i ∧ i < 201 * s + 201 ∨ (a = 140 ∨ a = 141 ∨ a = 142) ∧ i = s)
theorem rq_fr {S : Nat → Nat → Nat → Prop} {I I' : x_M Int32} {s : Nat} {o ts : List Nat} (h : rq I s o ts) (hf : frP S I I') (hs : ∀ k a i, rsF s k a i → ¬ S k a i) : rq I' s o ts := by
  obtain ⟨h1, h2, h3, h4, h5, h6, h7, h8⟩ := h
  exact ⟨(hf _ _ _ (hs _ _ _ ⟨rfl, Or.inr ⟨Or.inl rfl, rfl⟩⟩)).trans h1, (hf _ _ _ (hs _ _ _ ⟨rfl, Or.inr ⟨Or.inr (Or.inl rfl), rfl⟩⟩)).trans h2, (hf _ _ _ (hs _ _ _ ⟨rfl, Or.inr ⟨Or.inr (Or.inr rfl), rfl⟩⟩)).trans h3, h4, h5, h6, fun i hi => (hf _ _ _ (hs _ _ _ ⟨rfl, Or.inl ⟨rfl, by omega, by omega⟩⟩)).trans (h7 i hi), h8⟩
theorem rsF_ne {s s2 k a i : Nat} (hn : ¬ s = s2) (h : rsF s k a i) : ¬ rsF s2 k a i := by unfold rsF at *; omega
section
variable {E : x_E} {P : x_Pr} {d rc rs : Nat} {I : x_M Int32} {J : x_M Int64} {R : x_M (Option Nat)} {Q : x_Q} {s s2 : Nat} {ol ts : List Nat}
theorem r_dimension (hP : x_closed E P) (hR : x_fin R) (hs : s < 30) (hq : rq I s ol ts) {i : Nat} (hi : i < ol.length) (k : Q (some (.int (iI (ol.getD i 0)))) (x_hp I J R)) : P 193 d 0 (x_la 0 [.ref 122, .int (iI s), .int (iI i)]) [] (x_hp I J R) rc rs Q := by
  obtain ⟨h1, h2, h3, h4, h5, h6, h7, h8⟩ := hq
  have ok := okd_256 h6 h5
  first | refine x_aload_n hP rfl rfl ?_ | refine x_aload_nN hP rfl rfl ?_
  refine x_getR hP rfl (by first | assumption | rfl) (by first | assumption | exact hR _ _ _ _ rfl | exact hR1 _ _ _ _ rfl | exact hR2 _ _ _ _ rfl | rfl) ?_
  refine x_iload_n hP rfl rfl ?_
  refine z_iald hP rfl (by first | assumption | rfl) (by first | decide | omega) (by omega) (by first | assumption | exact hR _ _ _ _ rfl | exact hR1 _ _ _ _ rfl | exact hR2 _ _ _ _ rfl | rfl) ?_
  refine x_iconst hP rfl ?_
  refine x_iload_n hP rfl rfl ?_
  first | refine z_imul hP rfl ?_ | refine x_imul hP rfl ?_
  rw [show (2 * (i : Int)) = ((2 * i : Nat) : Int) by omega]
  refine x_ishr hP rfl ?_
  rw [iI_shr _ (2 * i) (by omega) (by omega)]
  refine x_iconst hP rfl ?_
  refine x_iand hP rfl ?_
  rw [show iI 3 = iI ((3 : Nat) : Int) from rfl, iI_and, show okd ol >>> (2 * i) &&& 3 = okd ol >>> (2 * i) % 4 from Nat.and_two_pow_sub_one_eq_mod _ 2, okd_dim ol i h6 hi]
  refine x_iret hP rfl rfl ?_
  exact k
theorem r_clear (hP : x_closed E P) (hR : x_fin R) (hs : s < 30) (ho : ol.length ≤ 4) (h4 : ∀ e ∈ ol, e < 4) (k : ∀ I', rq I' s ol [] → frP (rsF s) I I' → Q none (x_hp I' J R)) : P 183 d 0 (x_la 0 [.ref 122, .int (iI s), .int (iI ol.length), .int (iI (okd ol))]) [] (x_hp I J R) rc rs Q := by
  first | refine x_aload_n hP rfl rfl ?_ | refine x_aload_nN hP rfl rfl ?_
  refine x_getR hP rfl (by first | assumption | rfl) (by first | assumption | exact hR _ _ _ _ rfl | exact hR1 _ _ _ _ rfl | exact hR2 _ _ _ _ rfl | rfl) ?_
  refine x_iload_n hP rfl rfl ?_
  refine x_iconst hP rfl ?_
  refine z_iast hP rfl (by first | assumption | rfl) (by first | decide | omega) (by omega) ?_
  first | refine w_nI ?_ | refine w_nL ?_ | refine w_nR ?_ | refine w_mI ?_ | refine w_mL ?_ | refine w_mR ?_ | skip
  rw [Int.toNat_natCast]
  first | refine x_aload_n hP rfl rfl ?_ | refine x_aload_nN hP rfl rfl ?_
  refine x_getR hP rfl (by first | assumption | rfl) (by first | assumption | exact hR _ _ _ _ rfl | exact hR1 _ _ _ _ rfl | exact hR2 _ _ _ _ rfl | rfl) ?_
  refine x_iload_n hP rfl rfl ?_
  refine x_iload_n hP rfl rfl ?_
  refine z_iast hP rfl (by first | assumption | rfl) (by first | decide | omega) (by omega) ?_
  first | refine w_nI ?_ | refine w_nL ?_ | refine w_nR ?_ | refine w_mI ?_ | refine w_mL ?_ | refine w_mR ?_ | skip
  rw [Int.toNat_natCast]
  first | refine x_aload_n hP rfl rfl ?_ | refine x_aload_nN hP rfl rfl ?_
  refine x_getR hP rfl (by first | assumption | rfl) (by first | assumption | exact hR _ _ _ _ rfl | exact hR1 _ _ _ _ rfl | exact hR2 _ _ _ _ rfl | rfl) ?_
  refine x_iload_n hP rfl rfl ?_
  refine x_iload_n hP rfl rfl ?_
  refine z_iast hP rfl (by first | assumption | rfl) (by first | decide | omega) (by omega) ?_
  first | refine w_nI ?_ | refine w_nL ?_ | refine w_nR ?_ | refine w_mI ?_ | refine w_mL ?_ | refine w_mR ?_ | skip
  rw [Int.toNat_natCast]
  refine x_vret hP rfl rfl ?_
  refine k _ ⟨?_, ?_, ?_, Nat.zero_le _, ho, h4, fun i hi => absurd hi (Nat.not_lt_zero _), fun t ht => absurd ht List.not_mem_nil⟩ (frP_at (frP_at (frP_at (frP_refl _ _) ⟨rfl, Or.inr ⟨Or.inl rfl, rfl⟩⟩) ⟨rfl, Or.inr ⟨Or.inr (Or.inl rfl), rfl⟩⟩) ⟨rfl, Or.inr ⟨Or.inr (Or.inr rfl), rfl⟩⟩)
  · rw [x_at_eq, if_neg (by omega), x_at_eq, if_neg (by omega), x_at_eq, if_pos ⟨rfl, rfl, rfl⟩]; rfl
  · rw [x_at_eq, if_neg (by omega), x_at_eq, if_pos ⟨rfl, rfl, rfl⟩]
  · rw [x_at_eq, if_pos ⟨rfl, rfl, rfl⟩]
theorem r_put1 (hP : x_closed E P) (hR : x_fin R) (hs : s < 30) (hq : rq I s ol ts) (hl : ts.length < 200) {t : Nat} (ht : t < 1048576) (k : ∀ I', rq I' s ol (ts ++ [t]) → frP (rsF s) I I' → Q none (x_hp I' J R)) : P 184 d 0 (x_la 0 [.ref 122, .int (iI s), .int (iI t)]) [] (x_hp I J R) rc rs Q := by
  obtain ⟨h1, h2, h3, h4, h5, h6, h7, h8⟩ := hq
  first | refine x_aload_n hP rfl rfl ?_ | refine x_aload_nN hP rfl rfl ?_
  refine x_getR hP rfl (by first | assumption | rfl) (by first | assumption | exact hR _ _ _ _ rfl | exact hR1 _ _ _ _ rfl | exact hR2 _ _ _ _ rfl | rfl) ?_
  refine x_iload_n hP rfl rfl ?_
  refine z_iald hP rfl (by first | assumption | rfl) (by first | decide | omega) (by omega) (by first | assumption | exact hR _ _ _ _ rfl | exact hR1 _ _ _ _ rfl | exact hR2 _ _ _ _ rfl | rfl) ?_
  refine x_sipush hP rfl ?_
  first | refine z_icmp_ne hP rfl (by omega) (by omega) (fun c9 => ?_) (fun c9 => ?_) | refine x_icmp_ne hP rfl (fun c9 => ?_) (fun c9 => ?_)
  rotate_left
  · omega
  first | refine x_aload_n hP rfl rfl ?_ | refine x_aload_nN hP rfl rfl ?_
  refine x_getR hP rfl (by first | assumption | rfl) (by first | assumption | exact hR _ _ _ _ rfl | exact hR1 _ _ _ _ rfl | exact hR2 _ _ _ _ rfl | rfl) ?_
  refine x_sipush hP rfl ?_
  refine x_iload_n hP rfl rfl ?_
  first | refine z_imul hP rfl ?_ | refine x_imul hP rfl ?_
  first | refine x_aload_n hP rfl rfl ?_ | refine x_aload_nN hP rfl rfl ?_
  refine x_getR hP rfl (by first | assumption | rfl) (by first | assumption | exact hR _ _ _ _ rfl | exact hR1 _ _ _ _ rfl | exact hR2 _ _ _ _ rfl | rfl) ?_
  refine x_iload_n hP rfl rfl ?_
  refine z_iald hP rfl (by first | assumption | rfl) (by first | decide | omega) (by omega) (by first | assumption | exact hR _ _ _ _ rfl | exact hR1 _ _ _ _ rfl | exact hR2 _ _ _ _ rfl | rfl) ?_
  first | refine z_iadd hP rfl ?_ | refine x_iadd hP rfl ?_
  refine x_iload_n hP rfl rfl ?_
  refine z_iast hP rfl (by first | assumption | rfl) (by first | decide | omega) (by omega) ?_
  first | refine w_nI ?_ | refine w_nL ?_ | refine w_nR ?_ | refine w_mI ?_ | refine w_mL ?_ | refine w_mR ?_ | skip
  rw [show (201 * (s : Int) + (ts.length : Int)).toNat = 201 * s + ts.length by omega]
  have g : x_at I 1 139 (201 * s + ts.length) (iI t) 1 140 s = iI ts.length := by rw [x_at_eq, if_neg (by omega)]; exact h1
  first | refine x_aload_n hP rfl rfl ?_ | refine x_aload_nN hP rfl rfl ?_
  refine x_getR hP rfl (by first | assumption | rfl) (by first | assumption | exact hR _ _ _ _ rfl | exact hR1 _ _ _ _ rfl | exact hR2 _ _ _ _ rfl | rfl) ?_
  refine x_iload_n hP rfl rfl ?_
  refine x_dup2 hP rfl rfl rfl ?_
  refine z_iald hP rfl (by first | assumption | rfl) (by first | decide | omega) (by omega) (by first | assumption | exact hR _ _ _ _ rfl | exact hR1 _ _ _ _ rfl | exact hR2 _ _ _ _ rfl | rfl) ?_
  refine x_iconst hP rfl ?_
  first | refine z_iadd hP rfl ?_ | refine x_iadd hP rfl ?_
  refine z_iast hP rfl (by first | assumption | rfl) (by first | decide | omega) (by omega) ?_
  first | refine w_nI ?_ | refine w_nL ?_ | refine w_nR ?_ | refine w_mI ?_ | refine w_mL ?_ | refine w_mR ?_ | skip
  rw [Int.toNat_natCast]
  refine x_vret hP rfl rfl ?_
  refine k _ ⟨?_, ?_, ?_, by rw [List.length_append]; exact hl, h5, h6, fun i hi => ?_, fun z hz => ?_⟩ (frP_at (frP_at (frP_refl _ _) ⟨rfl, Or.inl ⟨rfl, by omega, by omega⟩⟩) ⟨rfl, Or.inr ⟨Or.inl rfl, rfl⟩⟩)
  · rw [x_at_eq, if_pos ⟨rfl, rfl, rfl⟩, List.length_append]; rfl
  · rw [x_at_eq, if_neg (by omega), x_at_eq, if_neg (by omega)]; exact h2
  · rw [x_at_eq, if_neg (by omega), x_at_eq, if_neg (by omega)]; exact h3
  · rw [List.length_append] at hi
    have hi : i < ts.length + 1 := hi
    rw [x_at_eq, if_neg (by omega), x_at_eq]
    by_cases q : i = ts.length
    · rw [if_pos ⟨rfl, rfl, by omega⟩, q, getD_app2 (Nat.le_refl _), Nat.sub_self]; rfl
    · rw [if_neg (by omega), getD_app1 (by omega)]; exact h7 i (by omega)
  · rcases List.mem_append.mp hz with q | q
    · exact h8 z q
    · rw [List.mem_singleton.mp q]; exact ht
theorem r_put2 (hP : x_closed E P) (hR : x_fin R) (hs : s < 30) (hq : rq I s ol ts) (hl : ts.length = 200) {t : Int32} (k : Q none (x_hp (x_at I 1602 122 0 (iI 1)) J R)) : P 184 d 0 (x_la 0 [.ref 122, .int (iI s), .int t]) [] (x_hp I J R) rc rs Q := by
  obtain ⟨h1, h2, h3, h4, h5, h6, h7, h8⟩ := hq
  first | refine x_aload_n hP rfl rfl ?_ | refine x_aload_nN hP rfl rfl ?_
  refine x_getR hP rfl (by first | assumption | rfl) (by first | assumption | exact hR _ _ _ _ rfl | exact hR1 _ _ _ _ rfl | exact hR2 _ _ _ _ rfl | rfl) ?_
  refine x_iload_n hP rfl rfl ?_
  refine z_iald hP rfl (by first | assumption | rfl) (by first | decide | omega) (by omega) (by first | assumption | exact hR _ _ _ _ rfl | exact hR1 _ _ _ _ rfl | exact hR2 _ _ _ _ rfl | rfl) ?_
  refine x_sipush hP rfl ?_
  first | refine z_icmp_ne hP rfl (by omega) (by omega) (fun c9 => ?_) (fun c9 => ?_) | refine x_icmp_ne hP rfl (fun c9 => ?_) (fun c9 => ?_)
  · omega
  first | refine x_aload_n hP rfl rfl ?_ | refine x_aload_nN hP rfl rfl ?_
  refine x_iconst hP rfl ?_
  refine x_putZ hP rfl (by first | assumption | rfl) (by first | exact Or.inl rfl | exact Or.inr rfl | assumption) ?_
  first | refine w_nI ?_ | refine w_nL ?_ | refine w_nR ?_ | refine w_mI ?_ | refine w_mL ?_ | refine w_mR ?_ | skip
  refine x_vret hP rfl rfl ?_
  exact k
theorem r_isIn_loop (hP : x_closed E P) (hR : x_fin R) (hs : s < 30) (hq : rq I s ol ts) {t : Nat} (ht : t < 1048576) : ∀ (f i : Nat), i + f = ts.length → Q (some (.int (bI (decide (t ∈ ts.drop i))))) (x_hp I J R) → ∀ rc rs, P 190 d 2 (x_ls [some (.ref 122), some (.int (iI s)), some (.int (iI t)), some (.int (iI i))]) [] (x_hp I J R) rc rs Q := by
  have ⟨h1, h2, h3, h4, h5, h6, h7, h8⟩ := hq
  intro f
  induction f with
  | zero =>
    intro i hi k rc rs
    rw [drop_all (by omega), decide_eq_false List.not_mem_nil] at k
    refine x_iload_n hP rfl rfl ?_
    first | refine x_aload_n hP rfl rfl ?_ | refine x_aload_nN hP rfl rfl ?_
    refine x_getR hP rfl (by first | assumption | rfl) (by first | assumption | exact hR _ _ _ _ rfl | exact hR1 _ _ _ _ rfl | exact hR2 _ _ _ _ rfl | rfl) ?_
    refine x_iload_n hP rfl rfl ?_
    refine z_iald hP rfl (by first | assumption | rfl) (by first | decide | omega) (by omega) (by first | assumption | exact hR _ _ _ _ rfl | exact hR1 _ _ _ _ rfl | exact hR2 _ _ _ _ rfl | rfl) ?_
    refine z_icmp_ge hP rfl (by omega) (by omega) (fun c9 => ?_) (fun c9 => ?_)
    · refine x_iconst hP rfl ?_
      refine x_zret hP rfl rfl (by first | exact Or.inl iI_0 | exact Or.inr iI_1 | exact bI_or _ | assumption) ?_
      exact k
    · omega
  | succ f ih =>
    intro i hi k rc rs
    have hlt : i < ts.length := by omega
    have v := h7 i hlt
    have b := h8 _ (getD_mem hlt)
    rw [dropc hlt] at k
    refine x_iload_n hP rfl rfl ?_
    first | refine x_aload_n hP rfl rfl ?_ | refine x_aload_nN hP rfl rfl ?_
    refine x_getR hP rfl (by first | assumption | rfl) (by first | assumption | exact hR _ _ _ _ rfl | exact hR1 _ _ _ _ rfl | exact hR2 _ _ _ _ rfl | rfl) ?_
    refine x_iload_n hP rfl rfl ?_
    refine z_iald hP rfl (by first | assumption | rfl) (by first | decide | omega) (by omega) (by first | assumption | exact hR _ _ _ _ rfl | exact hR1 _ _ _ _ rfl | exact hR2 _ _ _ _ rfl | rfl) ?_
    refine z_icmp_ge hP rfl (by omega) (by omega) (fun c9 => ?_) (fun c9 => ?_)
    · omega
    first | refine x_aload_n hP rfl rfl ?_ | refine x_aload_nN hP rfl rfl ?_
    refine x_getR hP rfl (by first | assumption | rfl) (by first | assumption | exact hR _ _ _ _ rfl | exact hR1 _ _ _ _ rfl | exact hR2 _ _ _ _ rfl | rfl) ?_
    refine x_sipush hP rfl ?_
    refine x_iload_n hP rfl rfl ?_
    first | refine z_imul hP rfl ?_ | refine x_imul hP rfl ?_
    refine x_iload_n hP rfl rfl ?_
    first | refine z_iadd hP rfl ?_ | refine x_iadd hP rfl ?_
    refine z_iald hP rfl (by first | assumption | rfl) (by first | decide | omega) (by omega) (by first | assumption | exact hR _ _ _ _ rfl | exact hR1 _ _ _ _ rfl | exact hR2 _ _ _ _ rfl | rfl) ?_
    refine x_iload_n hP rfl rfl ?_
    first | refine z_icmp_ne hP rfl (by omega) (by omega) (fun c25 => ?_) (fun c25 => ?_) | refine x_icmp_ne hP rfl (fun c25 => ?_) (fun c25 => ?_)
    · refine z_iinc hP rfl rfl rfl ?_
      refine x_goto hP rfl ?_
      refine x_re hP [some (.ref 122), some (.int (iI s)), some (.int (iI t)), some (.int (iI (i + 1 : Nat)))] ⟨rfl, rfl, rfl, rfl, trivial⟩ (ih (i + 1) (by omega) ?_ _ _)
      rw [show decide (t ∈ ts.drop (i + 1)) = decide (t ∈ ts.getD i 0 :: ts.drop (i + 1)) from decide_eq_decide.mpr ⟨fun z => List.mem_cons_of_mem _ z, fun z => by rcases List.mem_cons.mp z with q | q; exact absurd q.symm (by omega); exact q⟩]
      exact k
    · rw [decide_eq_true (show t ∈ ts.getD i 0 :: ts.drop (i + 1) by rw [show ts.getD i 0 = t by omega]; exact List.mem_cons_self)] at k
      refine x_iconst hP rfl ?_
      refine x_zret hP rfl rfl (by first | exact Or.inl iI_0 | exact Or.inr iI_1 | exact bI_or _ | assumption) ?_
      exact k
theorem r_isIn (hP : x_closed E P) (hR : x_fin R) (hs : s < 30) (hq : rq I s ol ts) {t : Nat} (ht : t < 1048576) (k : Q (some (.int (bI (decide (t ∈ ts))))) (x_hp I J R)) : P 190 d 0 (x_la 0 [.ref 122, .int (iI s), .int (iI t)]) [] (x_hp I J R) rc rs Q := by
  refine x_iconst hP rfl ?_
  refine x_istore_n hP rfl ?_
  exact x_re hP [some (.ref 122), some (.int (iI s)), some (.int (iI t)), some (.int (iI (0 : Nat)))] ⟨rfl, rfl, rfl, rfl, trivial⟩ (r_isIn_loop hP hR hs hq ht ts.length 0 (by omega) k _ _)
theorem r_copy_loop (hP : x_closed E P) (hR : x_fin R) (hs : s < 30) (hs2 : s2 < 30) (hn : ¬ s = s2) : ∀ (f i : Nat) (I : x_M Int32), i + f = ts.length → rq I s ol ts → rq I s2 ol (ts.take i) → (∀ I', rq I' s2 ol ts → frP (rsF s2) I I' → Q none (x_hp I' J R)) → ∀ rc rs, P 182 (d + 1) 19 (x_ls [some (.ref 122), some (.int (iI s)), some (.int (iI s2)), some (.int (iI i))]) [] (x_hp I J R) rc rs Q := by
  intro f
  induction f with
  | zero =>
    intro i I hi hq hq2 k rc rs
    have ⟨h1, h2, h3, h4, h5, h6, h7, h8⟩ := hq
    rw [List.take_of_length_le (by omega)] at hq2
    refine x_iload_n hP rfl rfl ?_
    first | refine x_aload_n hP rfl rfl ?_ | refine x_aload_nN hP rfl rfl ?_
    refine x_getR hP rfl (by first | assumption | rfl) (by first | assumption | exact hR _ _ _ _ rfl | exact hR1 _ _ _ _ rfl | exact hR2 _ _ _ _ rfl | rfl) ?_
    refine x_iload_n hP rfl rfl ?_
    refine z_iald hP rfl (by first | assumption | rfl) (by first | decide | omega) (by omega) (by first | assumption | exact hR _ _ _ _ rfl | exact hR1 _ _ _ _ rfl | exact hR2 _ _ _ _ rfl | rfl) ?_
    refine z_icmp_ge hP rfl (by omega) (by omega) (fun c26 => ?_) (fun c26 => ?_)
    · refine x_vret hP rfl rfl ?_
      exact k I hq2 (frP_refl _ _)
    · omega
  | succ f ih =>
    intro i I hi hq hq2 k rc rs
    have ⟨h1, h2, h3, h4, h5, h6, h7, h8⟩ := hq
    have hlt : i < ts.length := by omega
    have v := h7 i hlt
    refine x_iload_n hP rfl rfl ?_
    first | refine x_aload_n hP rfl rfl ?_ | refine x_aload_nN hP rfl rfl ?_
    refine x_getR hP rfl (by first | assumption | rfl) (by first | assumption | exact hR _ _ _ _ rfl | exact hR1 _ _ _ _ rfl | exact hR2 _ _ _ _ rfl | rfl) ?_
    refine x_iload_n hP rfl rfl ?_
    refine z_iald hP rfl (by first | assumption | rfl) (by first | decide | omega) (by omega) (by first | assumption | exact hR _ _ _ _ rfl | exact hR1 _ _ _ _ rfl | exact hR2 _ _ _ _ rfl | rfl) ?_
    refine z_icmp_ge hP rfl (by omega) (by omega) (fun c26 => ?_) (fun c26 => ?_)
    · omega
    first | refine x_aload_n hP rfl rfl ?_ | refine x_aload_nN hP rfl rfl ?_
    refine x_iload_n hP rfl rfl ?_
    first | refine x_aload_n hP rfl rfl ?_ | refine x_aload_nN hP rfl rfl ?_
    refine x_getR hP rfl (by first | assumption | rfl) (by first | assumption | exact hR _ _ _ _ rfl | exact hR1 _ _ _ _ rfl | exact hR2 _ _ _ _ rfl | rfl) ?_
    refine x_sipush hP rfl ?_
    refine x_iload_n hP rfl rfl ?_
    first | refine z_imul hP rfl ?_ | refine x_imul hP rfl ?_
    refine x_iload_n hP rfl rfl ?_
    first | refine z_iadd hP rfl ?_ | refine x_iadd hP rfl ?_
    refine z_iald hP rfl (by first | assumption | rfl) (by first | decide | omega) (by omega) (by first | assumption | exact hR _ _ _ _ rfl | exact hR1 _ _ _ _ rfl | exact hR2 _ _ _ _ rfl | rfl) ?_
    refine x_callV2 (ci := 9) hP 0 0 rfl rfl rfl (by first | assumption | rfl) rfl rfl rfl (Nat.zero_le _) (Nat.zero_le _) ?_
    refine r_put1 hP hR hs2 hq2 (by rw [List.length_take]; omega) (h8 _ (getD_mem hlt)) (fun I1 g1 g2 => ?_)
    refine z_iinc hP rfl rfl rfl ?_
    refine x_goto hP rfl ?_
    exact x_re hP [some (.ref 122), some (.int (iI s)), some (.int (iI s2)), some (.int (iI (i + 1 : Nat)))] ⟨rfl, rfl, rfl, rfl, trivial⟩ (ih (i + 1) I1 (by omega) (rq_fr hq g2 fun k a i z => rsF_ne hn z) (by rw [takec hlt]; exact g1) (fun I' w1 w2 => k I' w1 (frP_trans g2 w2)) _ _)
theorem r_copy (hP : x_closed E P) (hR : x_fin R) (hs : s < 30) (hs2 : s2 < 30) (hn : ¬ s = s2) (hq : rq I s ol ts) (k : ∀ I', rq I' s2 ol ts → frP (rsF s2) I I' → Q none (x_hp I' J R)) : P 182 (d + 1) 0 (x_la 0 [.ref 122, .int (iI s), .int (iI s2)]) [] (x_hp I J R) rc rs Q := by
  have ⟨h1, h2, h3, h4, h5, h6, h7, h8⟩ := hq
  first | refine x_aload_n hP rfl rfl ?_ | refine x_aload_nN hP rfl rfl ?_
  refine x_iload_n hP rfl rfl ?_
  first | refine x_aload_n hP rfl rfl ?_ | refine x_aload_nN hP rfl rfl ?_
  refine x_getR hP rfl (by first | assumption | rfl) (by first | assumption | exact hR _ _ _ _ rfl | exact hR1 _ _ _ _ rfl | exact hR2 _ _ _ _ rfl | rfl) ?_
  refine x_iload_n hP rfl rfl ?_
  refine z_iald hP rfl (by first | assumption | rfl) (by first | decide | omega) (by omega) (by first | assumption | exact hR _ _ _ _ rfl | exact hR1 _ _ _ _ rfl | exact hR2 _ _ _ _ rfl | rfl) ?_
  first | refine x_aload_n hP rfl rfl ?_ | refine x_aload_nN hP rfl rfl ?_
  refine x_getR hP rfl (by first | assumption | rfl) (by first | assumption | exact hR _ _ _ _ rfl | exact hR1 _ _ _ _ rfl | exact hR2 _ _ _ _ rfl | rfl) ?_
  refine x_iload_n hP rfl rfl ?_
  refine z_iald hP rfl (by first | assumption | rfl) (by first | decide | omega) (by omega) (by first | assumption | exact hR _ _ _ _ rfl | exact hR1 _ _ _ _ rfl | exact hR2 _ _ _ _ rfl | rfl) ?_
  refine x_callV3 (ci := 9) hP 0 0 rfl rfl rfl (by first | assumption | rfl) rfl rfl rfl (Nat.zero_le _) (Nat.zero_le _) ?_
  refine r_clear hP hR hs2 h5 h6 (fun I1 g1 g2 => ?_)
  refine x_iconst hP rfl ?_
  refine x_istore_n hP rfl ?_
  exact x_re hP [some (.ref 122), some (.int (iI s)), some (.int (iI s2)), some (.int (iI (0 : Nat)))] ⟨rfl, rfl, rfl, rfl, trivial⟩ (r_copy_loop hP hR hs hs2 hn ts.length 0 I1 (by omega) (rq_fr hq g2 fun k a i z => rsF_ne hn z) g1 (fun I' w1 w2 => k I' w1 (frP_trans g2 w2)) _ _)
theorem r_hasDim_loop (hP : x_closed E P) (hR : x_fin R) (hs : s < 30) (hq : rq I s ol ts) {e : Int} (he : -2147483648 ≤ e ∧ e < 2147483648) : ∀ (f i : Nat), i + f = ol.length → Q (some (.int (bI (hasI e (ol.drop i))))) (x_hp I J R) → ∀ rc rs, P 194 (d + 1) 2 (x_ls [some (.ref 122), some (.int (iI s)), some (.int (iI e)), some (.int (iI i))]) [] (x_hp I J R) rc rs Q := by
  have ⟨h1, h2, h3, h4, h5, h6, h7, h8⟩ := hq
  intro f
  induction f with
  | zero =>
    intro i hi k rc rs
    rw [drop_all (by omega)] at k
    refine x_iload_n hP rfl rfl ?_
    first | refine x_aload_n hP rfl rfl ?_ | refine x_aload_nN hP rfl rfl ?_
    refine x_getR hP rfl (by first | assumption | rfl) (by first | assumption | exact hR _ _ _ _ rfl | exact hR1 _ _ _ _ rfl | exact hR2 _ _ _ _ rfl | rfl) ?_
    refine x_iload_n hP rfl rfl ?_
    refine z_iald hP rfl (by first | assumption | rfl) (by first | decide | omega) (by omega) (by first | assumption | exact hR _ _ _ _ rfl | exact hR1 _ _ _ _ rfl | exact hR2 _ _ _ _ rfl | rfl) ?_
    refine z_icmp_ge hP rfl (by omega) (by omega) (fun c9 => ?_) (fun c9 => ?_)
    · refine x_iconst hP rfl ?_
      refine x_zret hP rfl rfl (by first | exact Or.inl iI_0 | exact Or.inr iI_1 | exact bI_or _ | assumption) ?_
      exact k
    · omega
  | succ f ih =>
    intro i hi k rc rs
    have hlt : i < ol.length := by omega
    have b := h6 _ (getD_mem hlt)
    rw [dropc hlt] at k
    unfold hasI at k
    rw [List.any_cons] at k
    refine x_iload_n hP rfl rfl ?_
    first | refine x_aload_n hP rfl rfl ?_ | refine x_aload_nN hP rfl rfl ?_
    refine x_getR hP rfl (by first | assumption | rfl) (by first | assumption | exact hR _ _ _ _ rfl | exact hR1 _ _ _ _ rfl | exact hR2 _ _ _ _ rfl | rfl) ?_
    refine x_iload_n hP rfl rfl ?_
    refine z_iald hP rfl (by first | assumption | rfl) (by first | decide | omega) (by omega) (by first | assumption | exact hR _ _ _ _ rfl | exact hR1 _ _ _ _ rfl | exact hR2 _ _ _ _ rfl | rfl) ?_
    refine z_icmp_ge hP rfl (by omega) (by omega) (fun c9 => ?_) (fun c9 => ?_)
    · omega
    first | refine x_aload_n hP rfl rfl ?_ | refine x_aload_nN hP rfl rfl ?_
    refine x_iload_n hP rfl rfl ?_
    refine x_iload_n hP rfl rfl ?_
    refine x_callV2 (ci := 9) hP 0 0 rfl rfl rfl (by first | assumption | rfl) rfl rfl rfl (Nat.zero_le _) (Nat.zero_le _) ?_
    refine r_dimension hP hR hs hq hlt ?_
    refine x_iload_n hP rfl rfl ?_
    first | refine z_icmp_ne hP rfl (by omega) (by omega) (fun c19 => ?_) (fun c19 => ?_) | refine x_icmp_ne hP rfl (fun c19 => ?_) (fun c19 => ?_)
    · rw [decide_eq_false c19, Bool.false_or] at k
      refine z_iinc hP rfl rfl rfl ?_
      refine x_goto hP rfl ?_
      exact x_re hP [some (.ref 122), some (.int (iI s)), some (.int (iI e)), some (.int (iI (i + 1 : Nat)))] ⟨rfl, rfl, rfl, rfl, trivial⟩ (ih (i + 1) (by omega) k _ _)
    · rw [decide_eq_true c19, Bool.true_or] at k
      refine x_iconst hP rfl ?_
      refine x_zret hP rfl rfl (by first | exact Or.inl iI_0 | exact Or.inr iI_1 | exact bI_or _ | assumption) ?_
      exact k
theorem r_hasDim (hP : x_closed E P) (hR : x_fin R) (hs : s < 30) (hq : rq I s ol ts) {e : Int} (he : -2147483648 ≤ e ∧ e < 2147483648) (k : Q (some (.int (bI (hasI e ol)))) (x_hp I J R)) : P 194 (d + 1) 0 (x_la 0 [.ref 122, .int (iI s), .int (iI e)]) [] (x_hp I J R) rc rs Q := by
  refine x_iconst hP rfl ?_
  refine x_istore_n hP rfl ?_
  exact x_re hP [some (.ref 122), some (.int (iI s)), some (.int (iI e)), some (.int (iI (0 : Nat)))] ⟨rfl, rfl, rfl, rfl, trivial⟩ (r_hasDim_loop hP hR hs hq he ol.length 0 (by omega) k _ _)
end
