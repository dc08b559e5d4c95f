/-! THE REFERENCE: rows that may become too many -/
/-- row s holds ts as far as it goes; the flag tells whether all went in -/
def rv (I : x_M Int32) (s : Nat) (o ts : List Nat) (tm : Bool) : Prop := rq I s o (ts.take 200) ∧ I 1602 122 0 = bI (tm || decide (200 < ts.length))
def rsT (s k a i : Nat) : Prop := rsF s k a i ∨ k = 1602 ∧ a = 122
theorem rq_fT {I I' : x_M Int32} {s s2 : Nat} {o ts : List Nat} (h : rq I s o ts) (hn : ¬ s = s2) (hf : frP (rsT s2) I I') : rq I' s o ts := rq_fr h hf fun k a i z q => by
  rcases q with q | q
  · exact rsF_ne hn z q
  · unfold rsF at z; omega
def jk (sg : Int) (us : List Nat) (t : Nat) : Bool := if sg = 43 then true else (decide (t ∈ us) == decide (sg = 38))
theorem joinL_eq {sg : Int} (h : isSg sg = true) (ts us : List Nat) : joinL sg ts us = ts.filter (jk sg us) ++ (if sg = 43 ∨ sg = 94 then flt false ts us else []) := by
  have h := of_decide_eq_true h
  unfold joinL
  rcases h with rfl | rfl | rfl | rfl
  · rw [if_pos rfl, if_pos (Or.inl rfl), show ts.filter (jk 43 us) = ts from List.filter_eq_self.mpr fun t _ => by unfold jk; rw [if_pos rfl]]
  · rw [if_neg (by decide), if_pos rfl, if_neg (by decide), List.append_nil]
    rfl
  · rw [if_neg (by decide), if_neg (by decide), if_pos rfl, if_neg (by decide), List.append_nil]
    rfl
  · rw [if_neg (by decide), if_neg (by decide), if_neg (by decide), if_pos (Or.inr rfl)]
    rfl
section
variable {E : x_E} {P : x_Pr} {d rc rs : Nat} {I : x_M Int32} {J : x_M Int64} {R : x_M (Option Nat)} {Q : x_Q} {s s2 s3 : Nat} {ol ts us : List Nat} {tm : Bool}
theorem r_putV (hP : x_closed E P) (hR : x_fin R) (hs : s < 30) (hq : rv I s ol ts tm) {t : Nat} (ht : t < 1048576) (k : ∀ I', rv I' s ol (ts ++ [t]) tm → frP (rsT s) I I' → Q none (x_hp I' J R)) : P 184 d 0 (x_la 0 [.ref 122, .int (iI s), .int (iI t)]) [] (x_hp I J R) rc rs Q := by
  obtain ⟨h1, h2⟩ := hq
  have hl : (ts ++ [t]).length = ts.length + 1 := by rw [List.length_append]; rfl
  rcases Nat.lt_or_ge ts.length 200 with q | q
  · refine r_put1 hP hR hs h1 (by rw [List.length_take]; omega) ht (fun I1 g1 g2 => k I1 ⟨?_, ?_⟩ (frP_mono g2 fun _ _ _ => Or.inl))
    · rw [List.take_of_length_le (by omega)] at g1
      rw [List.take_of_length_le (by omega)]
      exact g1
    · rw [hl, decide_eq_false (by omega)]
      rw [decide_eq_false (by omega)] at h2
      exact (g2 _ _ _ fun z => by unfold rsF at z; omega).trans h2
  · refine r_put2 hP hR hs h1 (by rw [List.length_take]; omega) (k _ ⟨?_, ?_⟩ (frP_at (frP_refl _ _) (Or.inr ⟨rfl, rfl⟩)))
    · rw [List.take_append_of_le_length q]
      exact rq_fr h1 (frP_at (S := fun k a _ => k = 1602 ∧ a = 122) (frP_refl _ _) ⟨rfl, rfl⟩) fun k a i z => by unfold rsF at z; omega
    · rw [x_at_eq, if_pos ⟨rfl, rfl, rfl⟩, hl, decide_eq_true (by omega), Bool.or_true]
      rfl
theorem r_join1 (hP : x_closed E P) (hR : x_fin R) (hs : s < 30) (hs2 : s2 < 30) (hs3 : s3 < 30) (h13 : ¬ s = s3) (h23 : ¬ s2 = s3) {sg : Int} (hsg : isSg sg = true) {o2 : List Nat} : ∀ (f i : Nat) (I : x_M Int32), i + f = ts.length → rq I s ol ts → rq I s2 o2 us → rv I s3 ol ((ts.take i).filter (jk sg us)) tm → (∀ I' L r1 r2, rv I' s3 ol (ts.filter (jk sg us)) tm → frP (rsT s3) I I' → x_ag L 0 [some (.ref 122), some (.int (iI s)), some (.int (iI s2)), some (.int (iI sg)), some (.int (iI s3))] → P 197 (d + 1) 106 L [] (x_hp I' J R) r1 r2 Q) → ∀ rc rs, P 197 (d + 1) 21 (x_ls [some (.ref 122), some (.int (iI s)), some (.int (iI s2)), some (.int (iI sg)), some (.int (iI s3)), some (.int (iI i)), none, none]) [] (x_hp I J R) rc rs Q := by
  have sb := of_decide_eq_true hsg
  intro f
  induction f with
  | zero =>
    intro i I hi hq hq2 hv k rc rs
    have ⟨h1, h2, h3, h4, h5, h6, h7, h8⟩ := hq
    refine x_iload hP rfl rfl ?_
    first | refine x_aload_n hP rfl rfl ?_ | refine x_aload_nN hP rfl rfl ?_
    refine x_getR hP rfl (by first | assumption | rfl) (by first | assumption | exact hR _ _ _ _ rfl | exact hR1 _ _ _ _ rfl | exact hR2 _ _ _ _ rfl | rfl) ?_
    refine x_iload_n hP rfl rfl ?_
    refine z_iald hP rfl (by first | assumption | rfl) (by first | decide | omega) (by omega) (by first | assumption | exact hR _ _ _ _ rfl | exact hR1 _ _ _ _ rfl | exact hR2 _ _ _ _ rfl | rfl) ?_
    refine z_icmp_ge hP rfl (by omega) (by omega) (fun c29 => ?_) (fun c29 => ?_)
    · rw [List.take_of_length_le (by omega)] at hv
      exact k I _ _ _ hv (frP_refl _ _) ⟨rfl, rfl, rfl, rfl, rfl, trivial⟩
    · omega
  | succ f ih =>
    intro i I hi hq hq2 hv k rc rs
    have ⟨h1, h2, h3, h4, h5, h6, h7, h8⟩ := hq
    have hlt : i < ts.length := by omega
    have v := h7 i hlt
    have tb := h8 _ (getD_mem hlt)
    have st : (ts.take (i + 1)).filter (jk sg us) = (ts.take i).filter (jk sg us) ++ (if jk sg us (ts.getD i 0) = true then [ts.getD i 0] else []) := by rw [takec hlt, List.filter_append, List.filter_cons, List.filter_nil]
    have nx : ∀ I1, rv I1 s3 ol ((ts.take (i + 1)).filter (jk sg us)) tm → frP (rsT s3) I I1 → ∀ L r1 r2, x_ag L 0 [some (.ref 122), some (.int (iI s)), some (.int (iI s2)), some (.int (iI sg)), some (.int (iI s3)), some (.int (iI i))] → P 197 (d + 1) 100 L [] (x_hp I1 J R) r1 r2 Q := by
      intro I1 g1 g2 L r1 r2 hL
      refine x_re hP _ hL ?_
      refine z_iinc hP rfl rfl rfl ?_
      refine x_goto hP rfl ?_
      exact x_re hP [some (.ref 122), some (.int (iI s)), some (.int (iI s2)), some (.int (iI sg)), some (.int (iI s3)), some (.int (iI (i + 1 : Nat))), none, none] ⟨rfl, rfl, rfl, rfl, rfl, rfl, trivial⟩ (ih (i + 1) I1 (by omega) (rq_fT hq h13 g2) (rq_fT hq2 h23 g2) g1 (fun I' L r1 r2 w1 w2 => k I' L r1 r2 w1 (frP_trans g2 w2)) _ _)
    have put : jk sg us (ts.getD i 0) = true → ∀ L r1 r2, x_ag L 0 [some (.ref 122), some (.int (iI s)), some (.int (iI s2)), some (.int (iI sg)), some (.int (iI s3)), some (.int (iI i)), some (.int (iI (ts.getD i 0)))] → P 197 (d + 1) 92 L [] (x_hp I J R) r1 r2 Q := by
      intro hk L r1 r2 hL
      rw [if_pos hk] at st
      refine x_re hP _ hL ?_
      first | refine x_aload_n hP rfl rfl ?_ | refine x_aload_nN hP rfl rfl ?_
      refine x_iload hP rfl rfl ?_
      refine x_iload hP rfl rfl ?_
      refine x_callV2 (ci := 9) hP 0 0 rfl rfl rfl (by first | assumption | rfl) rfl rfl rfl (Nat.zero_le _) (Nat.zero_le _) ?_
      refine r_putV hP hR hs3 hv tb (fun I1 g1 g2 => ?_)
      exact nx I1 (by rw [st]; exact g1) g2 _ _ _ ⟨rfl, rfl, rfl, rfl, rfl, rfl, trivial⟩
    have skip : jk sg us (ts.getD i 0) = false → ∀ L r1 r2, x_ag L 0 [some (.ref 122), some (.int (iI s)), some (.int (iI s2)), some (.int (iI sg)), some (.int (iI s3)), some (.int (iI i))] → P 197 (d + 1) 100 L [] (x_hp I J R) r1 r2 Q := by
      intro hk L r1 r2 hL
      rw [if_neg (by rw [hk]; decide), List.append_nil] at st
      exact nx I (by rw [st]; exact hv) (frP_refl _ _) _ _ _ hL
    refine x_iload hP rfl rfl ?_
    first | refine x_aload_n hP rfl rfl ?_ | refine x_aload_nN hP rfl rfl ?_
    refine x_getR hP rfl (by first | assumption | rfl) (by first | assumption | exact hR _ _ _ _ rfl | exact hR1 _ _ _ _ rfl | exact hR2 _ _ _ _ rfl | rfl) ?_
    refine x_iload_n hP rfl rfl ?_
    refine z_iald hP rfl (by first | assumption | rfl) (by first | decide | omega) (by omega) (by first | assumption | exact hR _ _ _ _ rfl | exact hR1 _ _ _ _ rfl | exact hR2 _ _ _ _ rfl | rfl) ?_
    refine z_icmp_ge hP rfl (by omega) (by omega) (fun c29 => ?_) (fun c29 => ?_)
    · omega
    first | refine x_aload_n hP rfl rfl ?_ | refine x_aload_nN hP rfl rfl ?_
    refine x_getR hP rfl (by first | assumption | rfl) (by first | assumption | exact hR _ _ _ _ rfl | exact hR1 _ _ _ _ rfl | exact hR2 _ _ _ _ rfl | rfl) ?_
    refine x_sipush hP rfl ?_
    refine x_iload_n hP rfl rfl ?_
    first | refine z_imul hP rfl ?_ | refine x_imul hP rfl ?_
    refine x_iload hP rfl rfl ?_
    first | refine z_iadd hP rfl ?_ | refine x_iadd hP rfl ?_
    refine z_iald hP rfl (by first | assumption | rfl) (by first | decide | omega) (by omega) (by first | assumption | exact hR _ _ _ _ rfl | exact hR1 _ _ _ _ rfl | exact hR2 _ _ _ _ rfl | rfl) ?_
    refine x_istore hP rfl ?_
    refine x_iload_n hP rfl rfl ?_
    refine x_bipush hP rfl ?_
    first | refine z_icmp_eq hP rfl (by omega) (by omega) (fun c50 => ?_) (fun c50 => ?_) | refine x_icmp_eq hP rfl (fun c50 => ?_) (fun c50 => ?_)
    · refine x_iconst hP rfl ?_
      refine x_istore hP rfl ?_
      refine x_iload_n hP rfl rfl ?_
      refine x_bipush hP rfl ?_
      first | refine z_icmp_eq hP rfl (by omega) (by omega) (fun c73 => ?_) (fun c73 => ?_) | refine x_icmp_eq hP rfl (fun c73 => ?_) (fun c73 => ?_)
      · exact put (by unfold jk; rw [if_pos c50]) _ _ _ ⟨rfl, rfl, rfl, rfl, rfl, rfl, rfl, trivial⟩
      · exact absurd c50 c73
    first | refine x_aload_n hP rfl rfl ?_ | refine x_aload_nN hP rfl rfl ?_
    refine x_iload_n hP rfl rfl ?_
    refine x_iload hP rfl rfl ?_
    refine x_callV2 (ci := 9) hP 0 0 rfl rfl rfl (by first | assumption | rfl) rfl rfl rfl (Nat.zero_le _) (Nat.zero_le _) ?_
    refine r_isIn hP hR hs2 hq2 tb ?_
    have jkv : jk sg us (ts.getD i 0) = (decide (ts.getD i 0 ∈ us) == decide (sg = 38)) := by unfold jk; rw [if_neg c50]
    first | refine zb_if_eq hP rfl (fun c60 => ?_) (fun c60 => ?_) | refine zl_if_eq hP rfl (fun c60 => ?_) (fun c60 => ?_) | refine z_if_eq hP rfl (by omega) (fun c60 => ?_) (fun c60 => ?_)
    · rw [c60] at jkv
      refine x_iconst hP rfl ?_
      refine x_istore hP rfl ?_
      refine x_iload_n hP rfl rfl ?_
      refine x_bipush hP rfl ?_
      first | refine z_icmp_eq hP rfl (by omega) (by omega) (fun c73 => ?_) (fun c73 => ?_) | refine x_icmp_eq hP rfl (fun c73 => ?_) (fun c73 => ?_)
      · exact absurd c73 c50
      refine x_iload_n hP rfl rfl ?_
      refine x_bipush hP rfl ?_
      first | refine z_icmp_ne hP rfl (by omega) (by omega) (fun c79 => ?_) (fun c79 => ?_) | refine x_icmp_ne hP rfl (fun c79 => ?_) (fun c79 => ?_)
      · rw [decide_eq_false c79] at jkv
        refine x_iconst hP rfl ?_
        refine x_iload hP rfl rfl ?_
        first | refine z_icmp_ne hP rfl (by omega) (by omega) (fun c89 => ?_) (fun c89 => ?_) | refine x_icmp_ne hP rfl (fun c89 => ?_) (fun c89 => ?_)
        · exact absurd rfl c89
        · exact put jkv _ _ _ ⟨rfl, rfl, rfl, rfl, rfl, rfl, rfl, trivial⟩
      · rw [decide_eq_true c79] at jkv
        refine x_iconst hP rfl ?_
        refine x_goto hP rfl ?_
        refine x_iload hP rfl rfl ?_
        first | refine z_icmp_ne hP rfl (by omega) (by omega) (fun c89 => ?_) (fun c89 => ?_) | refine x_icmp_ne hP rfl (fun c89 => ?_) (fun c89 => ?_)
        · exact skip jkv _ _ _ ⟨rfl, rfl, rfl, rfl, rfl, rfl, trivial⟩
        · exact absurd c89 (by decide)
    · rw [c60] at jkv
      refine x_iconst hP rfl ?_
      refine x_goto hP rfl ?_
      refine x_istore hP rfl ?_
      refine x_iload_n hP rfl rfl ?_
      refine x_bipush hP rfl ?_
      first | refine z_icmp_eq hP rfl (by omega) (by omega) (fun c73 => ?_) (fun c73 => ?_) | refine x_icmp_eq hP rfl (fun c73 => ?_) (fun c73 => ?_)
      · exact absurd c73 c50
      refine x_iload_n hP rfl rfl ?_
      refine x_bipush hP rfl ?_
      first | refine z_icmp_ne hP rfl (by omega) (by omega) (fun c79 => ?_) (fun c79 => ?_) | refine x_icmp_ne hP rfl (fun c79 => ?_) (fun c79 => ?_)
      · rw [decide_eq_false c79] at jkv
        refine x_iconst hP rfl ?_
        refine x_iload hP rfl rfl ?_
        first | refine z_icmp_ne hP rfl (by omega) (by omega) (fun c89 => ?_) (fun c89 => ?_) | refine x_icmp_ne hP rfl (fun c89 => ?_) (fun c89 => ?_)
        · exact skip jkv _ _ _ ⟨rfl, rfl, rfl, rfl, rfl, rfl, trivial⟩
        · exact absurd c89 (by decide)
      · rw [decide_eq_true c79] at jkv
        refine x_iconst hP rfl ?_
        refine x_goto hP rfl ?_
        refine x_iload hP rfl rfl ?_
        first | refine z_icmp_ne hP rfl (by omega) (by omega) (fun c89 => ?_) (fun c89 => ?_) | refine x_icmp_ne hP rfl (fun c89 => ?_) (fun c89 => ?_)
        · exact absurd rfl c89
        · exact put jkv _ _ _ ⟨rfl, rfl, rfl, rfl, rfl, rfl, rfl, trivial⟩
theorem r_join2 (hP : x_closed E P) (hR : x_fin R) (hs : s < 30) (hs2 : s2 < 30) (hs3 : s3 < 30) (h13 : ¬ s = s3) (h23 : ¬ s2 = s3) {sg : Int} (hsg : isSg sg = true) {o2 acc : List Nat} : ∀ (f i : Nat) (I : x_M Int32), i + f = us.length → rq I s ol ts → rq I s2 o2 us → rv I s3 ol (acc ++ (if sg = 43 ∨ sg = 94 then flt false ts (us.take i) else [])) tm → (∀ I', rv I' s3 ol (acc ++ (if sg = 43 ∨ sg = 94 then flt false ts us else [])) tm → frP (rsT s3) I I' → Q none (x_hp I' J R)) → ∀ rc rs, P 197 (d + 1) 109 (x_ls [some (.ref 122), some (.int (iI s)), some (.int (iI s2)), some (.int (iI sg)), some (.int (iI s3)), some (.int (iI i))]) [] (x_hp I J R) rc rs Q := by
  have sb := of_decide_eq_true hsg
  intro f
  induction f with
  | zero =>
    intro i I hi hq hq2 hv k rc rs
    have ⟨h1, h2, h3, h4, h5, h6, h7, h8⟩ := hq2
    refine x_iload hP rfl rfl ?_
    first | refine x_aload_n hP rfl rfl ?_ | refine x_aload_nN hP rfl rfl ?_
    refine x_getR hP rfl (by first | assumption | rfl) (by first | assumption | exact hR _ _ _ _ rfl | exact hR1 _ _ _ _ rfl | exact hR2 _ _ _ _ rfl | rfl) ?_
    refine x_iload_n hP rfl rfl ?_
    refine z_iald hP rfl (by first | assumption | rfl) (by first | decide | omega) (by omega) (by first | assumption | exact hR _ _ _ _ rfl | exact hR1 _ _ _ _ rfl | exact hR2 _ _ _ _ rfl | rfl) ?_
    refine z_icmp_ge hP rfl (by omega) (by omega) (fun c117 => ?_) (fun c117 => ?_)
    · refine x_vret hP rfl rfl ?_
      rw [List.take_of_length_le (by omega)] at hv
      exact k I hv (frP_refl _ _)
    · omega
  | succ f ih =>
    intro i I hi hq hq2 hv k rc rs
    have ⟨h1, h2, h3, h4, h5, h6, h7, h8⟩ := hq2
    have hlt : i < us.length := by omega
    have v := h7 i hlt
    have tb := h8 _ (getD_mem hlt)
    have nx : ∀ I1, rv I1 s3 ol (acc ++ (if sg = 43 ∨ sg = 94 then flt false ts (us.take (i + 1)) else [])) tm → frP (rsT s3) I I1 → ∀ L r1 r2, x_ag L 0 [some (.ref 122), some (.int (iI s)), some (.int (iI s2)), some (.int (iI sg)), some (.int (iI s3)), some (.int (iI i))] → P 197 (d + 1) 172 L [] (x_hp I1 J R) r1 r2 Q := by
      intro I1 g1 g2 L r1 r2 hL
      refine x_re hP _ hL ?_
      refine z_iinc hP rfl rfl rfl ?_
      refine x_goto hP rfl ?_
      exact x_re hP [some (.ref 122), some (.int (iI s)), some (.int (iI s2)), some (.int (iI sg)), some (.int (iI s3)), some (.int (iI (i + 1 : Nat)))] ⟨rfl, rfl, rfl, rfl, rfl, rfl, trivial⟩ (ih (i + 1) I1 (by omega) (rq_fT hq h13 g2) (rq_fT hq2 h23 g2) g1 (fun I' w1 w2 => k I' w1 (frP_trans g2 w2)) _ _)
    have main : (sg = 43 ∨ sg = 94) → ∀ L r1 r2, x_ag L 0 [some (.ref 122), some (.int (iI s)), some (.int (iI s2)), some (.int (iI sg)), some (.int (iI s3)), some (.int (iI i))] → P 197 (d + 1) 132 L [] (x_hp I J R) r1 r2 Q := by
      intro hg L r1 r2 hL
      rw [if_pos hg] at hv nx
      have st : flt false ts (us.take (i + 1)) = flt false ts (us.take i) ++ (if (decide (us.getD i 0 ∈ ts) == false) = true then [us.getD i 0] else []) := by unfold flt; rw [takec hlt, List.filter_append, List.filter_cons, List.filter_nil]
      refine x_re hP _ hL ?_
      first | refine x_aload_n hP rfl rfl ?_ | refine x_aload_nN hP rfl rfl ?_
      refine x_iload_n hP rfl rfl ?_
      first | refine x_aload_n hP rfl rfl ?_ | refine x_aload_nN hP rfl rfl ?_
      refine x_getR hP rfl (by first | assumption | rfl) (by first | assumption | exact hR _ _ _ _ rfl | exact hR1 _ _ _ _ rfl | exact hR2 _ _ _ _ rfl | rfl) ?_
      refine x_sipush hP rfl ?_
      refine x_iload_n hP rfl rfl ?_
      first | refine z_imul hP rfl ?_ | refine x_imul hP rfl ?_
      refine x_iload hP rfl rfl ?_
      first | refine z_iadd hP rfl ?_ | refine x_iadd hP rfl ?_
      refine z_iald hP rfl (by first | assumption | rfl) (by first | decide | omega) (by omega) (by first | assumption | exact hR _ _ _ _ rfl | exact hR1 _ _ _ _ rfl | exact hR2 _ _ _ _ rfl | rfl) ?_
      refine x_callV2 (ci := 9) hP 0 0 rfl rfl rfl (by first | assumption | rfl) rfl rfl rfl (Nat.zero_le _) (Nat.zero_le _) ?_
      refine r_isIn hP hR hs hq tb ?_
      first | refine zb_if_ne hP rfl (fun c150 => ?_) (fun c150 => ?_) | refine zl_if_ne hP rfl (fun c150 => ?_) (fun c150 => ?_) | refine z_if_ne hP rfl (by omega) (fun c150 => ?_) (fun c150 => ?_)
      · rw [c150, if_neg (by decide), List.append_nil] at st
        exact nx I (by rw [st]; exact hv) (frP_refl _ _) _ _ _ ⟨rfl, rfl, rfl, rfl, rfl, rfl, trivial⟩
      · rw [c150, if_pos (by decide)] at st
        first | refine x_aload_n hP rfl rfl ?_ | refine x_aload_nN hP rfl rfl ?_
        refine x_iload hP rfl rfl ?_
        first | refine x_aload_n hP rfl rfl ?_ | refine x_aload_nN hP rfl rfl ?_
        refine x_getR hP rfl (by first | assumption | rfl) (by first | assumption | exact hR _ _ _ _ rfl | exact hR1 _ _ _ _ rfl | exact hR2 _ _ _ _ rfl | rfl) ?_
        refine x_sipush hP rfl ?_
        refine x_iload_n hP rfl rfl ?_
        first | refine z_imul hP rfl ?_ | refine x_imul hP rfl ?_
        refine x_iload hP rfl rfl ?_
        first | refine z_iadd hP rfl ?_ | refine x_iadd hP rfl ?_
        refine z_iald hP rfl (by first | assumption | rfl) (by first | decide | omega) (by omega) (by first | assumption | exact hR _ _ _ _ rfl | exact hR1 _ _ _ _ rfl | exact hR2 _ _ _ _ rfl | rfl) ?_
        refine x_callV2 (ci := 9) hP 0 0 rfl rfl rfl (by first | assumption | rfl) rfl rfl rfl (Nat.zero_le _) (Nat.zero_le _) ?_
        refine r_putV hP hR hs3 hv tb (fun I1 g1 g2 => ?_)
        exact nx I1 (by rw [st, ← List.append_assoc]; exact g1) g2 _ _ _ ⟨rfl, rfl, rfl, rfl, rfl, rfl, trivial⟩
    refine x_iload hP rfl rfl ?_
    first | refine x_aload_n hP rfl rfl ?_ | refine x_aload_nN hP rfl rfl ?_
    refine x_getR hP rfl (by first | assumption | rfl) (by first | assumption | exact hR _ _ _ _ rfl | exact hR1 _ _ _ _ rfl | exact hR2 _ _ _ _ rfl | rfl) ?_
    refine x_iload_n hP rfl rfl ?_
    refine z_iald hP rfl (by first | assumption | rfl) (by first | decide | omega) (by omega) (by first | assumption | exact hR _ _ _ _ rfl | exact hR1 _ _ _ _ rfl | exact hR2 _ _ _ _ rfl | rfl) ?_
    refine z_icmp_ge hP rfl (by omega) (by omega) (fun c117 => ?_) (fun c117 => ?_)
    · omega
    refine x_iload_n hP rfl rfl ?_
    refine x_bipush hP rfl ?_
    first | refine z_icmp_eq hP rfl (by omega) (by omega) (fun c123 => ?_) (fun c123 => ?_) | refine x_icmp_eq hP rfl (fun c123 => ?_) (fun c123 => ?_)
    · exact main (Or.inl c123) _ _ _ ⟨rfl, rfl, rfl, rfl, rfl, rfl, trivial⟩
    refine x_iload_n hP rfl rfl ?_
    refine x_bipush hP rfl ?_
    first | refine z_icmp_ne hP rfl (by omega) (by omega) (fun c129 => ?_) (fun c129 => ?_) | refine x_icmp_ne hP rfl (fun c129 => ?_) (fun c129 => ?_)
    · rw [if_neg (by omega)] at hv k
      refine x_vret hP rfl rfl ?_
      exact k I hv (frP_refl _ _)
    · exact main (Or.inr c129) _ _ _ ⟨rfl, rfl, rfl, rfl, rfl, rfl, trivial⟩
theorem r_join (hP : x_closed E P) (hR : x_fin R) (hs : s < 30) (hs2 : s2 < 30) (hs3 : s3 < 30) (h13 : ¬ s = s3) (h23 : ¬ s2 = s3) {sg : Int} (hsg : isSg sg = true) {o2 : List Nat} (hq : rq I s ol ts) (hq2 : rq I s2 o2 us) (hf : I 1602 122 0 = bI tm) (k : ∀ I', rv I' s3 ol (joinL sg ts us) tm → frP (rsT s3) I I' → Q none (x_hp I' J R)) : P 197 (d + 1) 0 (x_la 0 [.ref 122, .int (iI s), .int (iI s2), .int (iI sg), .int (iI s3)]) [] (x_hp I J R) rc rs Q := by
  have ⟨h1, h2, h3, h4, h5, h6, h7, h8⟩ := hq
  rw [joinL_eq hsg] at k
  first | refine x_aload_n hP rfl rfl ?_ | refine x_aload_nN hP rfl rfl ?_
  refine x_iload hP rfl rfl ?_
  first | refine x_aload_n hP rfl rfl ?_ | refine x_aload_nN hP rfl rfl ?_
  refine x_getR hP rfl (by first | assumption | rfl) (by first | assumption | exact hR _ _ _ _ rfl | exact hR1 _ _ _ _ rfl | exact hR2 _ _ _ _ rfl | rfl) ?_
  refine x_iload_n hP rfl rfl ?_
  refine z_iald hP rfl (by first | assumption | rfl) (by first | decide | omega) (by omega) (by first | assumption | exact hR _ _ _ _ rfl | exact hR1 _ _ _ _ rfl | exact hR2 _ _ _ _ rfl | rfl) ?_
  first | refine x_aload_n hP rfl rfl ?_ | refine x_aload_nN hP rfl rfl ?_
  refine x_getR hP rfl (by first | assumption | rfl) (by first | assumption | exact hR _ _ _ _ rfl | exact hR1 _ _ _ _ rfl | exact hR2 _ _ _ _ rfl | rfl) ?_
  refine x_iload_n hP rfl rfl ?_
  refine z_iald hP rfl (by first | assumption | rfl) (by first | decide | omega) (by omega) (by first | assumption | exact hR _ _ _ _ rfl | exact hR1 _ _ _ _ rfl | exact hR2 _ _ _ _ rfl | rfl) ?_
  refine x_callV3 (ci := 9) hP 0 0 rfl rfl rfl (by first | assumption | rfl) rfl rfl rfl (Nat.zero_le _) (Nat.zero_le _) ?_
  refine r_clear hP hR hs3 h5 h6 (fun I1 g1 g2 => ?_)
  refine x_iconst hP rfl ?_
  refine x_istore hP rfl ?_
  have g3 : frP (rsT s3) I I1 := frP_mono g2 fun _ _ _ => Or.inl
  have v1 : rv I1 s3 ol ((ts.take 0).filter (jk sg us)) tm := ⟨g1, by rw [show (tm || decide (200 < ((ts.take 0).filter (jk sg us)).length)) = tm from by rw [show ((ts.take 0).filter (jk sg us)) = [] from rfl, decide_eq_false (by decide), Bool.or_false]]; exact (g2 _ _ _ fun z => by unfold rsF at z; omega).trans hf⟩
  refine x_re hP [some (.ref 122), some (.int (iI s)), some (.int (iI s2)), some (.int (iI sg)), some (.int (iI s3)), some (.int (iI (0 : Nat))), none, none] ⟨rfl, rfl, rfl, rfl, rfl, rfl, trivial⟩ (r_join1 hP hR hs hs2 hs3 h13 h23 hsg ts.length 0 I1 (by omega) (rq_fT hq h13 g3) (rq_fT hq2 h23 g3) v1 (fun I2 L r1 r2 w1 w2 hL => ?_) _ _)
  refine x_re hP _ hL ?_
  refine x_iconst hP rfl ?_
  refine x_istore hP rfl ?_
  refine x_re hP [some (.ref 122), some (.int (iI s)), some (.int (iI s2)), some (.int (iI sg)), some (.int (iI s3)), some (.int (iI (0 : Nat)))] ⟨rfl, rfl, rfl, rfl, rfl, rfl, trivial⟩ (r_join2 (acc := ts.filter (jk sg us)) hP hR hs hs2 hs3 h13 h23 hsg us.length 0 I2 (by omega) (rq_fT hq h13 (frP_trans g3 w2)) (rq_fT hq2 h23 (frP_trans g3 w2)) ?_ (fun I' z1 z2 => k I' z1 (frP_trans g3 (frP_trans w2 z2))) _ _)
  rw [show (if sg = 43 ∨ sg = 94 then flt false ts (us.take 0) else []) = [] from by split <;> rfl, List.append_nil]
  exact w1
end
