/-! THE REFERENCE: filters and orders -/
def hwF (f : Nat) : Int := if f = 2 then 0 else if f = 3 then 1 else -1
def ahd (up : Bool) (x y : Int) : Bool := decide (¬ y = -2000000000 ∧ (x = -2000000000 ∨ up = true ∧ y < x ∨ up = false ∧ x < y))
def bef (up : Bool) (v : Nat → Int) (k i : Nat) : Nat := if ahd up (v k) (v i) = true ∨ v i = v k ∧ i < k then 1 else 0
def rkc (up : Bool) (v : Nat → Int) (k n : Nat) : Nat := sumS (bef up v k) n
def srI1 (g : Nat → Nat) (ts : List Nat) (i j : Nat) : List Nat := ((List.range j).filter fun k => decide (g k = i)).map fun k => ts.getD k 0
def srO (g : Nat → Nat) (ts : List Nat) (i : Nat) : List Nat := (List.range i).flatMap fun q => srI1 g ts q ts.length
section
variable {E : x_E} {P : x_Pr} {d rc rs : Nat} {I : x_M Int32} {J : x_M Int64} {R : x_M (Option Nat)} {Q : x_Q} {s : Nat} {ol l : List Nat} {tm : Bool} {nu : Nat → Nat → Nat → Int} {m : Nat}
theorem shw_rgR {x : Nat} (hn : rNu I nu) (h4 : ol.length ≤ 4) (hm : m < 3) (he : ∀ e ∈ ol, e < 4) (h30 : ∀ e ∈ ol, pt x e < 30) : shw nu m ol x = -2000000000 ∨ -4000000 ≤ shw nu m ol x ∧ shw nu m ol x ≤ 4000000 := by
  rcases shO_rg (f := fun e => nu m e (pt x e)) ol 0 (fun e h => (hn m e (pt x e) hm (he e h) (h30 e h)).2) with q | q
  · exact Or.inl q
  · right
    unfold shw
    omega
theorem map_getD {f : Nat → Nat} {l : List Nat} {i : Nat} (h : i < l.length) : (l.map f).getD i 0 = f (l.getD i 0) := by
  rw [List.getD_eq_getElem?_getD, List.getElem?_map, List.getD_eq_getElem?_getD, List.getElem?_eq_getElem h]
  rfl
theorem r_filter_loop (hP : x_closed E P) (hR : x_fin R) (hs : s < 28) (hm : m < 3) {f : Nat} (hf : f = 2 ∨ f = 3 ∨ f = 4) {b : Int} (hb : -2147483648 ≤ b ∧ b < 2147483648) (h30 : ∀ x ∈ l, ∀ e ∈ ol, pt x e < 30) : ∀ (g i : Nat) (I : x_M Int32), i + g = l.length → rNu I nu → rq I 28 ol (l.map (rfE ol)) → rq I s ol (((l.take i).filter (ksF f (shw nu m ol) b)).map (rfE ol)) → (∀ I', rq I' s ol ((l.filter (ksF f (shw nu m ol) b)).map (rfE ol)) → frP (rsF s) I I' → Q none (x_hp I' J R)) → ∀ rc rs, P 203 (d + 2) 29 (x_ls [some (.ref 122), some (.int (iI s)), some (.int (iI m)), some (.int (iI (hwF f))), some (.int (iI b)), some (.int (iI i)), none]) [] (x_hp I J R) rc rs Q := by
  intro g
  induction g with
  | zero =>
    intro i I hi hn hq hq2 k rc rs
    have ⟨h1, h2, h3, h4, h5, h6, h7, h8⟩ := hq
    rw [List.length_map] at h1 h4
    rw [List.take_of_length_le (by omega)] at hq2
    refine x_iload hP rfl rfl ?_
    first | refine x_aload_n hP rfl rfl ?_ | refine x_aload_nN hP rfl rfl ?_
    refine x_getR hP rfl (by first | assumption | rfl) (by first | assumption | exact hR _ _ _ _ rfl | exact hR1 _ _ _ _ rfl | exact hR2 _ _ _ _ rfl | rfl) ?_
    refine x_bipush hP rfl ?_
    refine z_iald hP rfl (by first | assumption | rfl) (by first | decide | omega) (by omega) (by first | assumption | exact hR _ _ _ _ rfl | exact hR1 _ _ _ _ rfl | exact hR2 _ _ _ _ rfl | rfl) ?_
    refine z_icmp_ge hP rfl (by omega) (by omega) (fun c38 => ?_) (fun c38 => ?_)
    · refine x_vret hP rfl rfl ?_
      exact k I hq2 (frP_refl _ _)
    · omega
  | succ g ih =>
    intro i I hi hn hq hq2 k rc rs
    have ⟨h1, h2, h3, h4, h5, h6, h7, h8⟩ := hq
    rw [List.length_map] at h1 h4
    have hlt : i < l.length := by omega
    have xm := getD_mem hlt
    have vr := shw_rgR (x := l.getD i 0) hn h5 hm h6 (h30 _ xm)
    have v : I 1 139 (5628 + i) = iI (rfE ol (l.getD i 0)) := by have := h7 i (by rw [List.length_map]; exact hlt); rw [map_getD hlt] at this; exact this
    have st : (l.take (i + 1)).filter (ksF f (shw nu m ol) b) = (l.take i).filter (ksF f (shw nu m ol) b) ++ (if ksF f (shw nu m ol) b (l.getD i 0) = true then [l.getD i 0] else []) := by rw [takec hlt, List.filter_append, List.filter_cons, List.filter_nil]
    have ke := ksF_eq f (shw nu m ol) b (l.getD i 0)
    unfold outF at ke
    have nx : ∀ I1, rq I1 s ol (((l.take (i + 1)).filter (ksF f (shw nu m ol) b)).map (rfE ol)) → frP (rsF s) I I1 → ∀ L r1 r2, x_ag L 0 [some (.ref 122), some (.int (iI s)), some (.int (iI m)), some (.int (iI (hwF f))), some (.int (iI b)), some (.int (iI i))] → P 203 (d + 2) 100 L [] (x_hp I1 J R) r1 r2 Q := by
      intro I1 g1 g2 L r1 r2 hL
      refine x_re hP _ hL ?_
      refine z_iinc hP rfl rfl rfl ?_
      refine x_goto hP rfl ?_
      exact x_re hP [some (.ref 122), some (.int (iI s)), some (.int (iI m)), some (.int (iI (hwF f))), some (.int (iI b)), some (.int (iI (i + 1 : Nat))), none] ⟨rfl, rfl, rfl, rfl, rfl, rfl, trivial⟩ (ih (i + 1) I1 (by omega) (rNu_fr hn g2 fun k a i z => by unfold rsF at z; omega) (rq_fr hq g2 fun k a i z => rsF_ne (by omega) z) g1 (fun I' w1 w2 => k I' w1 (frP_trans g2 w2)) _ _)
    have put : ksF f (shw nu m ol) b (l.getD i 0) = true → ∀ L r1 r2, x_ag L 0 [some (.ref 122), some (.int (iI s)), some (.int (iI m)), some (.int (iI (hwF f))), some (.int (iI b)), some (.int (iI i))] → P 203 (d + 2) 84 L [] (x_hp I J R) r1 r2 Q := by
      intro hk L r1 r2 hL
      rw [if_pos hk] at st
      have lf : ((l.take i).filter (ksF f (shw nu m ol) b)).length ≤ i := Nat.le_trans (List.length_filter_le _ _) (by rw [List.length_take]; omega)
      refine x_re hP _ hL ?_
      first | refine x_aload_n hP rfl rfl ?_ | refine x_aload_nN hP rfl rfl ?_
      refine x_iload_n hP rfl rfl ?_
      first | refine x_aload_n hP rfl rfl ?_ | refine x_aload_nN hP rfl rfl ?_
      refine x_getR hP rfl (by first | assumption | rfl) (by first | assumption | exact hR _ _ _ _ rfl | exact hR1 _ _ _ _ rfl | exact hR2 _ _ _ _ rfl | rfl) ?_
      refine x_sipush hP rfl ?_
      refine x_iload hP rfl rfl ?_
      first | refine z_iadd hP rfl ?_ | refine x_iadd hP rfl ?_
      refine z_iald hP rfl (by first | assumption | rfl) (by first | decide | omega) (by omega) (by first | assumption | exact hR _ _ _ _ rfl | exact hR1 _ _ _ _ rfl | exact hR2 _ _ _ _ rfl | rfl) ?_
      refine x_callV2 (ci := 9) hP 0 0 rfl rfl rfl (by first | assumption | rfl) rfl rfl rfl (Nat.zero_le _) (Nat.zero_le _) ?_
      refine r_put1 hP hR (by omega) hq2 (by rw [List.length_map]; omega) (rfE_20 _ h5) (fun I1 g1 g2 => ?_)
      exact nx I1 (by rw [st, List.map_append]; exact g1) g2 _ _ _ ⟨rfl, rfl, rfl, rfl, rfl, rfl, trivial⟩
    have skip : ksF f (shw nu m ol) b (l.getD i 0) = false → ∀ L r1 r2, x_ag L 0 [some (.ref 122), some (.int (iI s)), some (.int (iI m)), some (.int (iI (hwF f))), some (.int (iI b)), some (.int (iI i))] → P 203 (d + 2) 100 L [] (x_hp I J R) r1 r2 Q := by
      intro hk L r1 r2 hL
      rw [if_neg (by rw [hk]; decide), List.append_nil] at st
      exact nx I (by rw [st]; exact hq2) (frP_refl _ _) _ _ _ hL
    have h0 : f = 2 → hwF f = 0 := fun z => by rw [z]; rfl
    have h1' : f = 3 → hwF f = 1 := fun z => by rw [z]; rfl
    have h2' : f = 4 → hwF f = -1 := fun z => by rw [z]; rfl
    generalize hx : shw nu m ol (l.getD i 0) = x at ke vr
    have hwb : hwF f = 0 ∨ hwF f = 1 ∨ hwF f = -1 := by rcases hf with z | z | z <;> omega
    refine x_iload hP rfl rfl ?_
    first | refine x_aload_n hP rfl rfl ?_ | refine x_aload_nN hP rfl rfl ?_
    refine x_getR hP rfl (by first | assumption | rfl) (by first | assumption | exact hR _ _ _ _ rfl | exact hR1 _ _ _ _ rfl | exact hR2 _ _ _ _ rfl | rfl) ?_
    refine x_bipush hP rfl ?_
    refine z_iald hP rfl (by first | assumption | rfl) (by first | decide | omega) (by omega) (by first | assumption | exact hR _ _ _ _ rfl | exact hR1 _ _ _ _ rfl | exact hR2 _ _ _ _ rfl | rfl) ?_
    refine z_icmp_ge hP rfl (by omega) (by omega) (fun c38 => ?_) (fun c38 => ?_)
    · omega
    first | refine x_aload_n hP rfl rfl ?_ | refine x_aload_nN hP rfl rfl ?_
    refine x_bipush hP rfl ?_
    refine x_iload hP rfl rfl ?_
    refine x_iload_n hP rfl rfl ?_
    refine x_callV3 (ci := 9) hP 0 0 rfl rfl rfl (by first | assumption | rfl) rfl rfl rfl (Nat.zero_le _) (Nat.zero_le _) ?_
    refine r_shown hP hR (by decide) hn hq (by rw [List.length_map]; exact hlt) hm (map_getD hlt) (h30 _ xm) ?_
    rw [hx]
    refine x_istore hP rfl ?_
    refine x_iload hP rfl rfl ?_
    refine x_ldcI hP rfl ?_
    first | refine z_icmp_eq hP rfl (by omega) (by omega) (fun c56 => ?_) (fun c56 => ?_) | refine x_icmp_eq hP rfl (fun c56 => ?_) (fun c56 => ?_)
    · exact skip (by rw [ke, decide_eq_false (fun z => z c56)]; rfl) _ _ _ ⟨rfl, rfl, rfl, rfl, rfl, rfl, trivial⟩
    refine x_iload_n hP rfl rfl ?_
    first | refine zb_if_eq hP rfl (fun c60 => ?_) (fun c60 => ?_) | refine zl_if_eq hP rfl (fun c60 => ?_) (fun c60 => ?_) | refine z_if_eq hP rfl (by omega) (fun c60 => ?_) (fun c60 => ?_)
    · exact put (by rw [ke, decide_eq_true c56, decide_eq_false (by omega)]; rfl) _ _ _ ⟨rfl, rfl, rfl, rfl, rfl, rfl, trivial⟩
    refine x_iload_n hP rfl rfl ?_
    refine z_if_le hP rfl (by omega) (fun c64 => ?_) (fun c64 => ?_)
    · refine x_iload hP rfl rfl ?_
      refine x_iload hP rfl rfl ?_
      refine z_icmp_ge hP rfl (by omega) (by omega) (fun c81 => ?_) (fun c81 => ?_)
      · exact skip (by rw [ke, decide_eq_true (p := (f = 3 ∧ x ≤ b) ∨ (f = 4 ∧ b ≤ x)) (by omega)]; exact Bool.and_false _) _ _ _ ⟨rfl, rfl, rfl, rfl, rfl, rfl, trivial⟩
      · exact put (by rw [ke, decide_eq_true c56, decide_eq_false (by omega)]; rfl) _ _ _ ⟨rfl, rfl, rfl, rfl, rfl, rfl, trivial⟩
    · refine x_iload hP rfl rfl ?_
      refine x_iload hP rfl rfl ?_
      refine z_icmp_le hP rfl (by omega) (by omega) (fun c71 => ?_) (fun c71 => ?_)
      · exact skip (by rw [ke, decide_eq_true (p := (f = 3 ∧ x ≤ b) ∨ (f = 4 ∧ b ≤ x)) (by omega)]; exact Bool.and_false _) _ _ _ ⟨rfl, rfl, rfl, rfl, rfl, rfl, trivial⟩
      · refine x_goto hP rfl ?_
        exact put (by rw [ke, decide_eq_true c56, decide_eq_false (by omega)]; rfl) _ _ _ ⟨rfl, rfl, rfl, rfl, rfl, rfl, trivial⟩
theorem r_filter (hP : x_closed E P) (hR : x_fin R) (hs : s < 28) (hm : m < 3) {f : Nat} (hf : f = 2 ∨ f = 3 ∨ f = 4) {b : Int} (hb : -2147483648 ≤ b ∧ b < 2147483648) (h30 : ∀ x ∈ l, ∀ e ∈ ol, pt x e < 30) (hn : rNu I nu) (hq : rq I s ol (l.map (rfE ol))) (k : ∀ I', rq I' s ol ((l.filter (ksF f (shw nu m ol) b)).map (rfE ol)) → frP (rsW s) I I' → Q none (x_hp I' J R)) : P 203 (d + 2) 0 (x_la 0 [.ref 122, .int (iI s), .int (iI m), .int (iI (hwF f)), .int (iI b)]) [] (x_hp I J R) rc rs Q := by
  first | refine x_aload_n hP rfl rfl ?_ | refine x_aload_nN hP rfl rfl ?_
  refine x_iload_n hP rfl rfl ?_
  refine x_bipush hP rfl ?_
  refine x_callV2 (ci := 9) hP 0 0 rfl rfl rfl (by first | assumption | rfl) rfl rfl rfl (Nat.zero_le _) (Nat.zero_le _) ?_
  refine r_copy (s2 := 28) hP hR (by omega) (by decide) (by omega) hq (fun I1 g1 g2 => ?_)
  have ⟨h1, h2, h3, h4, h5, h6, h7, h8⟩ := g1
  first | refine x_aload_n hP rfl rfl ?_ | refine x_aload_nN hP rfl rfl ?_
  refine x_iload_n hP rfl rfl ?_
  first | refine x_aload_n hP rfl rfl ?_ | refine x_aload_nN hP rfl rfl ?_
  refine x_getR hP rfl (by first | assumption | rfl) (by first | assumption | exact hR _ _ _ _ rfl | exact hR1 _ _ _ _ rfl | exact hR2 _ _ _ _ rfl | rfl) ?_
  refine x_bipush hP rfl ?_
  refine z_iald hP rfl (by first | assumption | rfl) (by first | decide | omega) (by omega) (by first | assumption | exact hR _ _ _ _ rfl | exact hR1 _ _ _ _ rfl | exact hR2 _ _ _ _ rfl | rfl) ?_
  first | refine x_aload_n hP rfl rfl ?_ | refine x_aload_nN hP rfl rfl ?_
  refine x_getR hP rfl (by first | assumption | rfl) (by first | assumption | exact hR _ _ _ _ rfl | exact hR1 _ _ _ _ rfl | exact hR2 _ _ _ _ rfl | rfl) ?_
  refine x_bipush hP rfl ?_
  refine z_iald hP rfl (by first | assumption | rfl) (by first | decide | omega) (by omega) (by first | assumption | exact hR _ _ _ _ rfl | exact hR1 _ _ _ _ rfl | exact hR2 _ _ _ _ rfl | rfl) ?_
  refine x_callV3 (ci := 9) hP 0 0 rfl rfl rfl (by first | assumption | rfl) rfl rfl rfl (Nat.zero_le _) (Nat.zero_le _) ?_
  refine r_clear hP hR (by omega) h5 h6 (fun I2 g3 g4 => ?_)
  refine x_iconst hP rfl ?_
  refine x_istore hP rfl ?_
  have ff : frP (rsW s) I I2 := frP_tr g2 g4 (fun _ _ _ => Or.inr) fun _ _ _ => Or.inl
  exact x_re hP [some (.ref 122), some (.int (iI s)), some (.int (iI m)), some (.int (iI (hwF f))), some (.int (iI b)), some (.int (iI (0 : Nat))), none] ⟨rfl, rfl, rfl, rfl, rfl, rfl, trivial⟩ (r_filter_loop hP hR hs hm hf hb h30 l.length 0 I2 (by omega) (rNu_fr hn ff fun k a i z => by unfold rsW rsF at z; omega) (rq_fr g1 g4 fun k a i z => rsF_ne (by omega) z) g3 (fun I' w1 w2 => k I' w1 (frP_tr ff w2 (fun _ _ _ z => z) fun _ _ _ => Or.inl)) _ _)
theorem r_turned_loop (hP : x_closed E P) (hR : x_fin R) (hs : s < 28) {ts : List Nat} : ∀ (g i : Nat) (I : x_M Int32), i + g = ts.length → rq I 28 ol ts → rq I s ol (cuR ((rev ts).take i) ts) → (∀ I', rq I' s ol (rev ts) → frP (rsF s) I I' → Q none (x_hp I' J R)) → ∀ rc rs, P 201 d 9 (x_ls [some (.ref 122), some (.int (iI s)), some (.int (iI i))]) [] (x_hp I J R) rc rs Q := by
  have rl : (rev ts).length = ts.length := by unfold rev; exact mk_len _ _
  intro g
  induction g with
  | zero =>
    intro i I hi hq hq2 k rc rs
    have ⟨h1, h2, h3, h4, h5, h6, h7, h8⟩ := hq
    have e : cuR ((rev ts).take i) ts = rev ts := by
      rw [List.take_of_length_le (by omega)]
      refine lext (by rw [cuR_len, rl]) fun j hj => ?_
      rw [cuR_len] at hj
      unfold cuR
      rw [mk_get hj, if_pos (by omega)]
    rw [e] at hq2
    refine x_iload_n hP rfl rfl ?_
    first | refine x_aload_n hP rfl rfl ?_ | refine x_aload_nN hP rfl rfl ?_
    refine x_getR hP rfl (by first | assumption | rfl) (by first | assumption | exact hR _ _ _ _ rfl | exact hR1 _ _ _ _ rfl | exact hR2 _ _ _ _ rfl | rfl) ?_
    refine x_bipush hP rfl ?_
    refine z_iald hP rfl (by first | assumption | rfl) (by first | decide | omega) (by omega) (by first | assumption | exact hR _ _ _ _ rfl | exact hR1 _ _ _ _ rfl | exact hR2 _ _ _ _ rfl | rfl) ?_
    refine z_icmp_ge hP rfl (by omega) (by omega) (fun c17 => ?_) (fun c17 => ?_)
    · refine x_vret hP rfl rfl ?_
      exact k I hq2 (frP_refl _ _)
    · omega
  | succ g ih =>
    intro i I hi hq hq2 k rc rs
    have ⟨h1, h2, h3, h4, h5, h6, h7, h8⟩ := hq
    have ⟨b1, b2, b3, b4, b5, b6, b7, b8⟩ := hq2
    rw [cuR_len] at b1 b4
    have hlt : i < ts.length := by omega
    have v : I 1 139 (5628 + (ts.length - 1 - i)) = iI (ts.getD (ts.length - 1 - i) 0) := h7 _ (by omega)
    have ri : (rev ts).getD i 0 = ts.getD (ts.length - 1 - i) 0 := by unfold rev; rw [mk_get hlt]
    have v2 : I 1 139 ((5628 + (ts.length : Int) - 1 - (i : Int)).toNat) = iI ((rev ts).getD i 0) := by rw [ri, show (5628 + (ts.length : Int) - 1 - (i : Int)).toNat = 5628 + (ts.length - 1 - i) by omega]; exact v
    have tl : ((rev ts).take i).length = i := by rw [List.length_take]; omega
    refine x_iload_n hP rfl rfl ?_
    first | refine x_aload_n hP rfl rfl ?_ | refine x_aload_nN hP rfl rfl ?_
    refine x_getR hP rfl (by first | assumption | rfl) (by first | assumption | exact hR _ _ _ _ rfl | exact hR1 _ _ _ _ rfl | exact hR2 _ _ _ _ rfl | rfl) ?_
    refine x_bipush hP rfl ?_
    refine z_iald hP rfl (by first | assumption | rfl) (by first | decide | omega) (by omega) (by first | assumption | exact hR _ _ _ _ rfl | exact hR1 _ _ _ _ rfl | exact hR2 _ _ _ _ rfl | rfl) ?_
    refine z_icmp_ge hP rfl (by omega) (by omega) (fun c17 => ?_) (fun c17 => ?_)
    · omega
    first | refine x_aload_n hP rfl rfl ?_ | refine x_aload_nN hP rfl rfl ?_
    refine x_getR hP rfl (by first | assumption | rfl) (by first | assumption | exact hR _ _ _ _ rfl | exact hR1 _ _ _ _ rfl | exact hR2 _ _ _ _ rfl | rfl) ?_
    refine x_sipush hP rfl ?_
    refine x_iload_n hP rfl rfl ?_
    first | refine z_imul hP rfl ?_ | refine x_imul hP rfl ?_
    refine x_iload_n hP rfl rfl ?_
    first | refine z_iadd hP rfl ?_ | refine x_iadd hP rfl ?_
    first | refine x_aload_n hP rfl rfl ?_ | refine x_aload_nN hP rfl rfl ?_
    refine x_getR hP rfl (by first | assumption | rfl) (by first | assumption | exact hR _ _ _ _ rfl | exact hR1 _ _ _ _ rfl | exact hR2 _ _ _ _ rfl | rfl) ?_
    refine x_sipush hP rfl ?_
    first | refine x_aload_n hP rfl rfl ?_ | refine x_aload_nN hP rfl rfl ?_
    refine x_getR hP rfl (by first | assumption | rfl) (by first | assumption | exact hR _ _ _ _ rfl | exact hR1 _ _ _ _ rfl | exact hR2 _ _ _ _ rfl | rfl) ?_
    refine x_bipush hP rfl ?_
    refine z_iald hP rfl (by first | assumption | rfl) (by first | decide | omega) (by omega) (by first | assumption | exact hR _ _ _ _ rfl | exact hR1 _ _ _ _ rfl | exact hR2 _ _ _ _ rfl | rfl) ?_
    first | refine z_iadd hP rfl ?_ | refine x_iadd hP rfl ?_
    refine x_iconst hP rfl ?_
    first | refine z_isub hP rfl ?_ | refine x_isub hP rfl ?_
    refine x_iload_n hP rfl rfl ?_
    first | refine z_isub hP rfl ?_ | refine x_isub hP rfl ?_
    refine z_iald hP rfl (by first | assumption | rfl) (by first | decide | omega) (by omega) (by first | assumption | exact hR _ _ _ _ rfl | exact hR1 _ _ _ _ rfl | exact hR2 _ _ _ _ rfl | rfl) ?_
    refine z_iast hP rfl (by first | assumption | rfl) (by first | decide | omega) (by omega) ?_
    first | refine w_nI ?_ | refine w_nL ?_ | refine w_nR ?_ | refine w_mI ?_ | refine w_mL ?_ | refine w_mR ?_ | skip
    rw [show (201 * (s : Int) + (i : Int)).toNat = 201 * s + i by omega]
    refine z_iinc hP rfl rfl rfl ?_
    refine x_goto hP rfl ?_
    have ff : frP (rsF s) I (x_at I 1 139 (201 * s + i) (iI ((rev ts).getD i 0))) := frP_at (frP_refl _ _) ⟨rfl, Or.inl ⟨rfl, by omega, by omega⟩⟩
    refine x_re hP [some (.ref 122), some (.int (iI s)), some (.int (iI (i + 1 : Nat)))] ⟨rfl, rfl, rfl, trivial⟩ (ih (i + 1) _ (by omega) (rq_fr hq ff fun k a i z => rsF_ne (by omega) z) ⟨?_, ?_, ?_, by rw [cuR_len]; exact b4, b5, b6, fun j hj => ?_, fun t ht => ?_⟩ (fun I' w1 w2 => k I' w1 (frP_trans ff w2)) _ _)
    · rw [x_at_eq, if_neg (by omega), cuR_len]; exact b1
    · rw [x_at_eq, if_neg (by omega)]; exact b2
    · rw [x_at_eq, if_neg (by omega)]; exact b3
    · rw [cuR_len] at hj
      have b7' := b7 j (by rw [cuR_len]; exact hj)
      unfold cuR at b7' ⊢
      rw [mk_get hj] at b7' ⊢
      rw [x_at_eq, takec (by omega), List.length_append, tl]
      show (if _ then _ else _) = iI (if j < i + 1 then _ else _ : Nat)
      rw [tl] at b7'
      by_cases q : j = i
      · rw [if_pos ⟨rfl, rfl, by omega⟩, if_pos (by omega), q, getD_app2 (by omega), tl, Nat.sub_self]; rfl
      · rw [if_neg (by omega), b7']
        by_cases z : j < i
        · rw [if_pos z, if_pos (by omega), getD_app1 (by omega)]
        · rw [if_neg z, if_neg (by omega)]
    · exact h8 t (cuR_mem (fun z hz => rev_mem (List.mem_of_mem_take hz)) ht)
theorem r_turned (hP : x_closed E P) (hR : x_fin R) (hs : s < 28) {ts : List Nat} (hq : rq I s ol ts) (k : ∀ I', rq I' s ol (rev ts) → frP (rsW s) I I' → Q none (x_hp I' J R)) : P 201 (d + 2) 0 (x_la 0 [.ref 122, .int (iI s)]) [] (x_hp I J R) rc rs Q := by
  first | refine x_aload_n hP rfl rfl ?_ | refine x_aload_nN hP rfl rfl ?_
  refine x_iload_n hP rfl rfl ?_
  refine x_bipush hP rfl ?_
  refine x_callV2 (ci := 9) hP 0 0 rfl rfl rfl (by first | assumption | rfl) rfl rfl rfl (Nat.zero_le _) (Nat.zero_le _) ?_
  refine r_copy (s2 := 28) hP hR (by omega) (by decide) (by omega) hq (fun I1 g1 g2 => ?_)
  refine x_iconst hP rfl ?_
  refine x_istore_n hP rfl ?_
  refine x_re hP [some (.ref 122), some (.int (iI s)), some (.int (iI (0 : Nat)))] ⟨rfl, rfl, rfl, trivial⟩ (r_turned_loop hP hR hs ts.length 0 I1 (by omega) g1 ?_ (fun I' w1 w2 => k I' w1 (frP_tr g2 w2 (fun _ _ _ => Or.inr) fun _ _ _ => Or.inl)) _ _)
  rw [show (rev ts).take 0 = [] from rfl, cuR_nil]
  exact rq_fr hq g2 fun k a i z => rsF_ne (by omega) z
end
