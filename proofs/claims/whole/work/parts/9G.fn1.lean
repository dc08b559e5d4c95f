/-! THE some (.ref 122)ERENCE: FUNCTIONS -/
def sFn (s k a i : Nat) : Prop := rC k a i ∨ (k = 1602 ∧ a = 122) ∨ rsF s k a i ∨ rsF 28 k a i ∨ rsF 29 k a i
theorem rT_of {S : Nat → Nat → Nat → Prop} {I I' : x_M Int32} {p w : Int} (hf : frP S (rT I p w) I') (hs : ∀ k a i, S k a i → ¬ rC k a i) : rT I' p w = I' := rT_self ((hf _ _ _ fun z => hs _ _ _ z ⟨rfl, Or.inl rfl⟩).trans rfl) ((hf _ _ _ fun z => hs _ _ _ z ⟨rfl, Or.inr rfl⟩).trans rfl)
theorem rsF_rC {s k a i : Nat} (h : rsF s k a i) : ¬ rC k a i := fun z => by unfold rsF at h; unfold rC at z; omega
theorem rsT_rC {s k a i : Nat} (h : rsT s k a i) : ¬ rC k a i := fun z => by unfold rsT rsF at h; unfold rC at z; omega
theorem rsW_rC {s k a i : Nat} (h : rsW s k a i) : ¬ rC k a i := fun z => by unfold rsW rsF at h; unfold rC at z; omega
theorem tm_rsW {I I' : x_M Int32} {s : Nat} {tm : Bool} (h : I 1602 122 0 = bI tm) (hf : frP (rsW s) I I') : I' 1602 122 0 = bI tm := (hf _ _ _ fun z => by unfold rsW rsF at z; omega).trans h
theorem rsW_sFn {s k a i : Nat} (h : rsW s k a i) : sFn s k a i := by unfold rsW at h; unfold sFn; rcases h with h | h; exact Or.inr (Or.inr (Or.inl h)); exact Or.inr (Or.inr (Or.inr (Or.inl h)))
theorem rC_sFn {s k a i : Nat} (h : rC k a i) : sFn s k a i := Or.inl h
theorem fm_cg {f g : Nat → List Nat} : ∀ (l : List Nat), (∀ x ∈ l, f x = g x) → l.flatMap f = l.flatMap g
  | [], _ => rfl
  | x :: l, h => by rw [List.flatMap_cons, List.flatMap_cons, h x List.mem_cons_self, fm_cg l fun y hy => h y (List.mem_cons_of_mem _ hy)]
theorem tld_num {c : Nat → Nat} {n p : Nat} (hp : p ≤ n) : tldR false 999999999 c n p = numR c n p := by
  unfold tldR
  rw [if_neg (by decide)]
  have rg := fun v q h => numR_rg (c := c) (n := n) (p := p) (v := v) (q := q) hp h
  generalize numR c n p = o at rg
  match o, rg with
  | .inl e, _ => rfl
  | .inr (v, q), rg =>
    have := rg v q rfl
    show (if v < -999999999 ∨ 999999999 < v then .inl p else .inr (v, q) : Nat ⊕ (Int × Nat)) = _
    rw [if_neg (by omega)]
theorem tld_int {c : Nat → Nat} {n p : Nat} (hc : ∀ i, c i < 256) (hp : p ≤ n) : tldR true 999999999 c n p = intR c n p := by
  unfold tldR
  rw [if_pos rfl]
  have rg := fun v q h => intR_rg (c := c) (n := n) (p := p) (v := v) (q := q) hc hp h
  generalize intR c n p = o at rg
  match o, rg with
  | .inl e, _ => rfl
  | .inr (v, q), rg =>
    have := rg v q rfl
    show (if v < -999999999 ∨ 999999999 < v then .inl p else .inr (v, q) : Nat ⊕ (Int × Nat)) = _
    rw [if_neg (by omega)]
theorem numR_e {c : Nat → Nat} {n p e : Nat} (hp : p ≤ n) (h : numR c n p = .inl e) : e ≤ n + 10 := by
  unfold numR at h
  split at h
  · split at h
    · cases h
      have := (dr_le (c := c) (n := n) (dm c n p) p (by omega)).1
      unfold dl
      omega
    · cases h
  · cases h; omega
theorem actR_e {c : Nat → Nat} {n p e : Nat} (hp : p ≤ n) (h : actR c n p = .inl e) : e ≤ n + 10 := by
  unfold actR at h
  split at h
  · cases h; omega
  · cases h
/-- what a FUNCTION reads behind its SET, and what it makes -/
def fnR (Z : x_Z) (c : Nat → Nat) (n f at_ : Nat) (V : x_V) (r : Nat) : Nat ⊕ (x_V × Nat) := if oneF f = true ∧ ¬ V.1.length = 1 then .inl at_ else match thgR Z c n (thg f) (0, 0, 0, 0) r with
  | .inl e => .inl e
  | .inr (A, r2) => if ch c n r2 = 41 then .inr (appL Z f A V, r2 + 1) else .inl r2
section
variable {E : x_E} {P : x_Pr} {d rc rs : Nat} {I : x_M Int32} {J : x_M Int64} {R : x_M (Option Nat)} {Q : x_Q} {n p : Nat} {c : Nat → Nat} {Z : x_Z} {s : Nat} {ol l : List Nat} {tm : Bool}
theorem r_fB197 (hP : x_closed E P) (hR : x_fin R) {f : Nat} (hf : f < 12) {q e : Nat} (he : e < 3000) (k : Q none (x_hp (rT I q e) J R)) : ∀ L r1 r2, x_ag L 0 [some (.ref 122), some (.int (iI f))] → P 199 (d + 4) 197 L [] (x_hp (rT I q e) J R) r1 r2 Q := by
  intro L r1 r2 hL
  refine x_re hP _ hL ?_
  first | refine x_aload_n hP rfl rfl ?_ | refine x_aload_nN hP rfl rfl ?_
  refine x_callV0 (ci := 9) hP 0 0 rfl rfl rfl (by first | assumption | rfl) rfl rfl rfl (Nat.zero_le _) (Nat.zero_le _) ?_
  refine r_badB hP (by omega) ?_
  first | refine zb_if_eq hP rfl (fun c201 => ?_) (fun c201 => ?_) | refine zl_if_eq hP rfl (fun c201 => ?_) (fun c201 => ?_) | refine z_if_eq hP rfl (by omega) (fun c201 => ?_) (fun c201 => ?_)
  · cases c201
  refine x_vret hP rfl rfl ?_
  exact k
theorem r_fB191 (hP : x_closed E P) (hR : x_fin R) {f : Nat} (hf : f < 12) {q e : Nat} (he : e < 3000) (k : Q none (x_hp (rT I q e) J R)) : ∀ L r1 r2, x_ag L 0 [some (.ref 122), some (.int (iI f))] → P 199 (d + 4) 191 L [] (x_hp (rT I q e) J R) r1 r2 Q := by
  intro L r1 r2 hL
  refine x_re hP _ hL ?_
  first | refine x_aload_n hP rfl rfl ?_ | refine x_aload_nN hP rfl rfl ?_
  refine x_bipush hP rfl ?_
  refine x_callV1 (ci := 9) hP 0 0 rfl rfl rfl (by first | assumption | rfl) rfl rfl rfl (Nat.zero_le _) (Nat.zero_le _) ?_
  refine r_needB hP (by omega) ?_
  exact r_fB197 hP hR hf he k _ _ _ ⟨rfl, rfl, trivial⟩
theorem r_fB181 (hP : x_closed E P) (hR : x_fin R) {f : Nat} (hf : f < 12) {q e : Nat} (he : e < 3000) (k : Q none (x_hp (rT I q e) J R)) : ∀ L r1 r2, x_ag L 0 [some (.ref 122), some (.int (iI f))] → P 199 (d + 4) 181 L [] (x_hp (rT I q e) J R) r1 r2 Q := by
  intro L r1 r2 hL
  refine x_re hP _ hL ?_
  first | refine x_aload_n hP rfl rfl ?_ | refine x_aload_nN hP rfl rfl ?_
  refine x_iconst hP rfl ?_
  refine x_ldcW hP rfl ?_
  refine x_callV2 (ci := 9) hP 0 0 rfl rfl rfl (by first | assumption | rfl) rfl rfl rfl (Nat.zero_le _) (Nat.zero_le _) ?_
  refine r_toldB hP (by omega) ?_
  refine x_istore hP rfl ?_
  exact r_fB191 hP hR hf he k _ _ _ ⟨rfl, rfl, trivial⟩
theorem r_fB175 (hP : x_closed E P) (hR : x_fin R) {f : Nat} (hf : f < 12) {q e : Nat} (he : e < 3000) (k : Q none (x_hp (rT I q e) J R)) : ∀ L r1 r2, x_ag L 0 [some (.ref 122), some (.int (iI f))] → P 199 (d + 4) 175 L [] (x_hp (rT I q e) J R) r1 r2 Q := by
  intro L r1 r2 hL
  refine x_re hP _ hL ?_
  first | refine x_aload_n hP rfl rfl ?_ | refine x_aload_nN hP rfl rfl ?_
  refine x_bipush hP rfl ?_
  refine x_callV1 (ci := 9) hP 0 0 rfl rfl rfl (by first | assumption | rfl) rfl rfl rfl (Nat.zero_le _) (Nat.zero_le _) ?_
  refine r_needB hP (by omega) ?_
  exact r_fB181 hP hR hf he k _ _ _ ⟨rfl, rfl, trivial⟩
theorem r_fB165 (hP : x_closed E P) (hR : x_fin R) {f : Nat} (hf : f < 12) {q e : Nat} (he : e < 3000) (k : Q none (x_hp (rT I q e) J R)) : ∀ L r1 r2, x_ag L 0 [some (.ref 122), some (.int (iI f))] → P 199 (d + 4) 165 L [] (x_hp (rT I q e) J R) r1 r2 Q := by
  intro L r1 r2 hL
  refine x_re hP _ hL ?_
  refine x_iload_n hP rfl rfl ?_
  refine x_iconst hP rfl ?_
  first | refine z_icmp_eq hP rfl (by omega) (by omega) (fun c167 => ?_) (fun c167 => ?_) | refine x_icmp_eq hP rfl (fun c167 => ?_) (fun c167 => ?_)
  · exact r_fB175 hP hR hf he k _ _ _ ⟨rfl, rfl, trivial⟩
  refine x_iload_n hP rfl rfl ?_
  refine x_iconst hP rfl ?_
  first | refine z_icmp_ne hP rfl (by omega) (by omega) (fun c172 => ?_) (fun c172 => ?_) | refine x_icmp_ne hP rfl (fun c172 => ?_) (fun c172 => ?_)
  · exact r_fB191 hP hR hf he k _ _ _ ⟨rfl, rfl, trivial⟩
  · exact r_fB175 hP hR hf he k _ _ _ ⟨rfl, rfl, trivial⟩
theorem r_fB144 (hP : x_closed E P) (hR : x_fin R) {f : Nat} (hf : f < 12) {q e : Nat} (he : e < 3000) (k : Q none (x_hp (rT I q e) J R)) : ∀ L r1 r2, x_ag L 0 [some (.ref 122), some (.int (iI f))] → P 199 (d + 4) 144 L [] (x_hp (rT I q e) J R) r1 r2 Q := by
  intro L r1 r2 hL
  refine x_re hP _ hL ?_
  refine x_iload_n hP rfl rfl ?_
  refine x_iconst hP rfl ?_
  refine z_icmp_le hP rfl (by omega) (by omega) (fun c146 => ?_) (fun c146 => ?_)
  · refine x_iconst hP rfl ?_
    refine x_istore hP rfl ?_
    exact r_fB165 hP hR hf he k _ _ _ ⟨rfl, rfl, trivial⟩
  refine x_iload_n hP rfl rfl ?_
  refine x_bipush hP rfl ?_
  refine z_icmp_ge hP rfl (by omega) (by omega) (fun c152 => ?_) (fun c152 => ?_)
  · refine x_iconst hP rfl ?_
    refine x_istore hP rfl ?_
    exact r_fB165 hP hR hf he k _ _ _ ⟨rfl, rfl, trivial⟩
  first | refine x_aload_n hP rfl rfl ?_ | refine x_aload_nN hP rfl rfl ?_
  refine x_callV0 (ci := 9) hP 0 0 rfl rfl rfl (by first | assumption | rfl) rfl rfl rfl (Nat.zero_le _) (Nat.zero_le _) ?_
  refine r_mark0B hP (by omega) ?_
  refine x_goto hP rfl ?_
  refine x_istore hP rfl ?_
  exact r_fB165 hP hR hf he k _ _ _ ⟨rfl, rfl, trivial⟩
theorem r_fB128 (hP : x_closed E P) (hR : x_fin R) {f : Nat} (hf : f < 12) {q e : Nat} (he : e < 3000) (k : Q none (x_hp (rT I q e) J R)) : ∀ L r1 r2, x_ag L 0 [some (.ref 122), some (.int (iI f))] → P 199 (d + 4) 128 L [] (x_hp (rT I q e) J R) r1 r2 Q := by
  intro L r1 r2 hL
  refine x_re hP _ hL ?_
  refine x_iload_n hP rfl rfl ?_
  refine x_bipush hP rfl ?_
  first | refine z_icmp_ne hP rfl (by omega) (by omega) (fun c131 => ?_) (fun c131 => ?_) | refine x_icmp_ne hP rfl (fun c131 => ?_) (fun c131 => ?_)
  · refine x_iconst hP rfl ?_
    refine x_istore hP rfl ?_
    exact r_fB144 hP hR hf he k _ _ _ ⟨rfl, rfl, trivial⟩
  first | refine x_aload_n hP rfl rfl ?_ | refine x_aload_nN hP rfl rfl ?_
  refine x_callV0 (ci := 9) hP 0 0 rfl rfl rfl (by first | assumption | rfl) rfl rfl rfl (Nat.zero_le _) (Nat.zero_le _) ?_
  refine r_act0B hP (by omega) ?_
  refine x_goto hP rfl ?_
  refine x_istore hP rfl ?_
  exact r_fB144 hP hR hf he k _ _ _ ⟨rfl, rfl, trivial⟩
theorem r_fB110 (hP : x_closed E P) (hR : x_fin R) {f : Nat} (hf : f < 12) {q e : Nat} (he : e < 3000) (k : Q none (x_hp (rT I q e) J R)) : ∀ L r1 r2, x_ag L 0 [some (.ref 122), some (.int (iI f))] → P 199 (d + 4) 110 L [] (x_hp (rT I q e) J R) r1 r2 Q := by
  intro L r1 r2 hL
  refine x_re hP _ hL ?_
  have nd : ∀ L r1 r2, x_ag L 0 [some (.ref 122), some (.int (iI f))] → P 199 (d + 4) 122 L [] (x_hp (rT I q e) J R) r1 r2 Q := by
    intro L r1 r2 hL
    refine x_re hP _ hL ?_
    first | refine x_aload_n hP rfl rfl ?_ | refine x_aload_nN hP rfl rfl ?_
    refine x_bipush hP rfl ?_
    refine x_callV1 (ci := 9) hP 0 0 rfl rfl rfl (by first | assumption | rfl) rfl rfl rfl (Nat.zero_le _) (Nat.zero_le _) ?_
    refine r_needB hP (by omega) ?_
    exact r_fB128 hP hR hf he k _ _ _ ⟨rfl, rfl, trivial⟩
  refine x_iload_n hP rfl rfl ?_
  refine x_bipush hP rfl ?_
  first | refine z_icmp_eq hP rfl (by omega) (by omega) (fun c113 => ?_) (fun c113 => ?_) | refine x_icmp_eq hP rfl (fun c113 => ?_) (fun c113 => ?_)
  · exact nd _ _ _ ⟨rfl, rfl, trivial⟩
  refine x_iload_n hP rfl rfl ?_
  refine x_bipush hP rfl ?_
  first | refine z_icmp_ne hP rfl (by omega) (by omega) (fun c119 => ?_) (fun c119 => ?_) | refine x_icmp_ne hP rfl (fun c119 => ?_) (fun c119 => ?_)
  · exact r_fB128 hP hR hf he k _ _ _ ⟨rfl, rfl, trivial⟩
  · exact nd _ _ _ ⟨rfl, rfl, trivial⟩
theorem r_fB79 (hP : x_closed E P) (hR : x_fin R) {f : Nat} (hf : f < 12) {q e : Nat} (he : e < 3000) (k : Q none (x_hp (rT I q e) J R)) : ∀ L r1 r2, x_ag L 0 [some (.ref 122), some (.int (iI f))] → P 199 (d + 4) 79 L [] (x_hp (rT I q e) J R) r1 r2 Q := by
  intro L r1 r2 hL
  refine x_re hP _ hL ?_
  have tl : ∀ L r1 r2, x_ag L 0 [some (.ref 122), some (.int (iI f))] → P 199 (d + 4) 96 L [] (x_hp (rT I q e) J R) r1 r2 Q := by
    intro L r1 r2 hL
    refine x_re hP _ hL ?_
    first | refine x_aload_n hP rfl rfl ?_ | refine x_aload_nN hP rfl rfl ?_
    refine x_iconst hP rfl ?_
    refine x_ldcW hP rfl ?_
    refine x_callV2 (ci := 9) hP 0 0 rfl rfl rfl (by first | assumption | rfl) rfl rfl rfl (Nat.zero_le _) (Nat.zero_le _) ?_
    refine r_toldB hP (by omega) ?_
    refine x_goto hP rfl ?_
    refine x_istore hP rfl ?_
    exact r_fB110 hP hR hf he k _ _ _ ⟨rfl, rfl, trivial⟩
  refine x_iload_n hP rfl rfl ?_
  refine x_iconst hP rfl ?_
  refine z_icmp_lt hP rfl (by omega) (by omega) (fun c81 => ?_) (fun c81 => ?_)
  · exact tl _ _ _ ⟨rfl, rfl, trivial⟩
  refine x_iload_n hP rfl rfl ?_
  refine x_bipush hP rfl ?_
  first | refine z_icmp_eq hP rfl (by omega) (by omega) (fun c87 => ?_) (fun c87 => ?_) | refine x_icmp_eq hP rfl (fun c87 => ?_) (fun c87 => ?_)
  · exact tl _ _ _ ⟨rfl, rfl, trivial⟩
  refine x_iload_n hP rfl rfl ?_
  refine x_bipush hP rfl ?_
  first | refine z_icmp_ne hP rfl (by omega) (by omega) (fun c93 => ?_) (fun c93 => ?_) | refine x_icmp_ne hP rfl (fun c93 => ?_) (fun c93 => ?_)
  · refine x_iconst hP rfl ?_
    refine x_istore hP rfl ?_
    exact r_fB110 hP hR hf he k _ _ _ ⟨rfl, rfl, trivial⟩
  · exact tl _ _ _ ⟨rfl, rfl, trivial⟩
theorem r_fB73 (hP : x_closed E P) (hR : x_fin R) {f : Nat} (hf : f < 12) {q e : Nat} (he : e < 3000) (k : Q none (x_hp (rT I q e) J R)) : ∀ L r1 r2, x_ag L 0 [some (.ref 122), some (.int (iI f))] → P 199 (d + 4) 73 L [] (x_hp (rT I q e) J R) r1 r2 Q := by
  intro L r1 r2 hL
  refine x_re hP _ hL ?_
  first | refine x_aload_n hP rfl rfl ?_ | refine x_aload_nN hP rfl rfl ?_
  refine x_bipush hP rfl ?_
  refine x_callV1 (ci := 9) hP 0 0 rfl rfl rfl (by first | assumption | rfl) rfl rfl rfl (Nat.zero_le _) (Nat.zero_le _) ?_
  refine r_needB hP (by omega) ?_
  exact r_fB79 hP hR hf he k _ _ _ ⟨rfl, rfl, trivial⟩
theorem r_fB45 (hP : x_closed E P) (hR : x_fin R) {f : Nat} (hf : f < 12) {q e : Nat} (he : e < 3000) (k : Q none (x_hp (rT I q e) J R)) : ∀ L r1 r2, x_ag L 0 [some (.ref 122), some (.int (iI f))] → P 199 (d + 4) 45 L [] (x_hp (rT I q e) J R) r1 r2 Q := by
  intro L r1 r2 hL
  refine x_re hP _ hL ?_
  first | refine x_aload_n hP rfl rfl ?_ | refine x_aload_nN hP rfl rfl ?_
  refine x_callV0 (ci := 9) hP 0 0 rfl rfl rfl (by first | assumption | rfl) rfl rfl rfl (Nat.zero_le _) (Nat.zero_le _) ?_
  refine r_badB hP (by omega) ?_
  first | refine zb_if_eq hP rfl (fun c49 => ?_) (fun c49 => ?_) | refine zl_if_eq hP rfl (fun c49 => ?_) (fun c49 => ?_) | refine z_if_eq hP rfl (by omega) (fun c49 => ?_) (fun c49 => ?_)
  · cases c49
  refine x_vret hP rfl rfl ?_
  exact k
theorem r_fB27 (hP : x_closed E P) (hR : x_fin R) {f : Nat} (hf : f < 12) {q e : Nat} (he : e < 3000) (k : Q none (x_hp (rT I q e) J R)) : ∀ L r1 r2, x_ag L 0 [some (.ref 122), some (.int (iI f))] → P 199 (d + 4) 27 L [] (x_hp (rT I q e) J R) r1 r2 Q := by
  intro L r1 r2 hL
  refine x_re hP _ hL ?_
  have n41 : ∀ L r1 r2, x_ag L 0 [some (.ref 122), some (.int (iI f))] → P 199 (d + 4) 39 L [] (x_hp (rT I q e) J R) r1 r2 Q := by
    intro L r1 r2 hL
    refine x_re hP _ hL ?_
    first | refine x_aload_n hP rfl rfl ?_ | refine x_aload_nN hP rfl rfl ?_
    refine x_bipush hP rfl ?_
    refine x_callV1 (ci := 9) hP 0 0 rfl rfl rfl (by first | assumption | rfl) rfl rfl rfl (Nat.zero_le _) (Nat.zero_le _) ?_
    refine r_needB hP (by omega) ?_
    exact r_fB45 hP hR hf he k _ _ _ ⟨rfl, rfl, trivial⟩
  refine x_iload_n hP rfl rfl ?_
  refine x_bipush hP rfl ?_
  first | refine z_icmp_eq hP rfl (by omega) (by omega) (fun c30 => ?_) (fun c30 => ?_) | refine x_icmp_eq hP rfl (fun c30 => ?_) (fun c30 => ?_)
  · exact n41 _ _ _ ⟨rfl, rfl, trivial⟩
  refine x_iload_n hP rfl rfl ?_
  refine x_bipush hP rfl ?_
  first | refine z_icmp_ne hP rfl (by omega) (by omega) (fun c36 => ?_) (fun c36 => ?_) | refine x_icmp_ne hP rfl (fun c36 => ?_) (fun c36 => ?_)
  · exact r_fB73 hP hR hf he k _ _ _ ⟨rfl, rfl, trivial⟩
  · exact n41 _ _ _ ⟨rfl, rfl, trivial⟩
theorem r_fa0 (hP : x_closed E P) (hR : x_fin R) (hs : 7 ≤ s ∧ s < 28) (hc : rTr I J (zT Z)) (hy : rLy I (zT Z)) (hn : rNu I (zN Z)) (hq : rq I s ol (l.map (rfE ol))) (hv : vV (zT Z) (ol, l)) (hf : I 1602 122 0 = bI tm) {v : Int} (hb : 0 ≤ v ∧ v < 1000000000) (k : ∀ I', rq I' s (appL Z 0 (v, 0, 0, 0) (ol, l)).1 ((appL Z 0 (v, 0, 0, 0) (ol, l)).2.map (rfE (appL Z 0 (v, 0, 0, 0) (ol, l)).1)) → I' 1602 122 0 = bI tm → frP (sFn s) (rT I p (-1)) I' → Q none (x_hp (rT I' p (-1)) J R)) : ∀ L r1 r2, x_ag L 0 [some (.ref 122), some (.int (iI (0 : Nat))), some (.int (iI s)), none, some (.int (iI v))] → P 199 (d + 4) 205 L [] (x_hp (rT I p (-1)) J R) r1 r2 Q := by
  intro L r1 r2 hL
  refine x_re hP _ hL ?_
  have hw := hc.2.2.2.2.2
  have hq' := rq_rT hq p (-1)
  have hn' : rNu (rT I p (-1)) (zN Z) := rNu_fr hn (rT_fr I p (-1)) fun k a i z => by unfold rC at z; omega
  have hf' : rT I p (-1) 1602 122 0 = bI tm := hf
  have l200 : l.length ≤ 200 := by have := hq.2.2.2.1; rw [List.length_map] at this; exact this
  have h30 : ∀ x ∈ l, ∀ e ∈ ol, pt x e < 30 := fun x hx => vt_30 hw hv.1 (hv.2 x hx)
  refine x_iload_n hP rfl rfl ?_
  refine x_tsw (tg := 256) hP rfl (by decide +kernel) ?_
  first | refine x_aload_n hP rfl rfl ?_ | refine x_aload_nN hP rfl rfl ?_
  refine x_iload_n hP rfl rfl ?_
  refine x_iconst hP rfl ?_
  refine x_iload hP rfl rfl ?_
  refine x_callV3 (ci := 9) hP 0 0 rfl rfl rfl (by first | assumption | rfl) rfl rfl rfl (Nat.zero_le _) (Nat.zero_le _) ?_
  refine r_cut (x := 0) hP hR hs.2 (by decide) (by omega) hq' (fun I1 g1 g2 => ?_)
  refine x_goto hP rfl ?_
  refine x_vret hP rfl rfl ?_
  rw [show ((l.map (rfE ol)).take v.toNat).drop (0 : Int).toNat = (l.take v.toNat).map (rfE ol) by rw [show (0 : Int).toNat = 0 from rfl, List.drop_zero, List.map_take]] at g1
  rw [← rT_of g2 fun _ _ _ => rsW_rC]
  exact k I1 g1 (tm_rsW hf' g2) (frP_mono g2 fun _ _ _ => rsW_sFn)
theorem r_fa1 (hP : x_closed E P) (hR : x_fin R) (hs : 7 ≤ s ∧ s < 28) (hc : rTr I J (zT Z)) (hy : rLy I (zT Z)) (hn : rNu I (zN Z)) (hq : rq I s ol (l.map (rfE ol))) (hv : vV (zT Z) (ol, l)) (hf : I 1602 122 0 = bI tm) {v : Int} (hb : 0 ≤ v ∧ v < 1000000000) (k : ∀ I', rq I' s (appL Z 1 (v, 0, 0, 0) (ol, l)).1 ((appL Z 1 (v, 0, 0, 0) (ol, l)).2.map (rfE (appL Z 1 (v, 0, 0, 0) (ol, l)).1)) → I' 1602 122 0 = bI tm → frP (sFn s) (rT I p (-1)) I' → Q none (x_hp (rT I' p (-1)) J R)) : ∀ L r1 r2, x_ag L 0 [some (.ref 122), some (.int (iI (1 : Nat))), some (.int (iI s)), none, some (.int (iI v))] → P 199 (d + 4) 205 L [] (x_hp (rT I p (-1)) J R) r1 r2 Q := by
  intro L r1 r2 hL
  refine x_re hP _ hL ?_
  have hw := hc.2.2.2.2.2
  have hq' := rq_rT hq p (-1)
  have hn' : rNu (rT I p (-1)) (zN Z) := rNu_fr hn (rT_fr I p (-1)) fun k a i z => by unfold rC at z; omega
  have hf' : rT I p (-1) 1602 122 0 = bI tm := hf
  have l200 : l.length ≤ 200 := by have := hq.2.2.2.1; rw [List.length_map] at this; exact this
  have h30 : ∀ x ∈ l, ∀ e ∈ ol, pt x e < 30 := fun x hx => vt_30 hw hv.1 (hv.2 x hx)
  refine x_iload_n hP rfl rfl ?_
  refine x_tsw (tg := 267) hP rfl (by decide +kernel) ?_
  have a1 : rT I p (-1) 1 140 s = iI l.length := by have := hq'.1; rw [List.length_map] at this; exact this
  first | refine x_aload_n hP rfl rfl ?_ | refine x_aload_nN hP rfl rfl ?_
  refine x_iload_n hP rfl rfl ?_
  first | refine x_aload_n hP rfl rfl ?_ | refine x_aload_nN hP rfl rfl ?_
  refine x_getR hP rfl (by first | assumption | rfl) (by first | assumption | exact hR _ _ _ _ rfl | exact hR1 _ _ _ _ rfl | exact hR2 _ _ _ _ rfl | rfl) ?_
  refine x_iload_n hP rfl rfl ?_
  refine z_iald hP rfl (by first | assumption | rfl) (by first | decide | omega) (by omega) (by first | assumption | exact hR _ _ _ _ rfl | exact hR1 _ _ _ _ rfl | exact hR2 _ _ _ _ rfl | rfl) ?_
  refine x_iload hP rfl rfl ?_
  first | refine z_isub hP rfl ?_ | refine x_isub hP rfl ?_
  first | refine x_aload_n hP rfl rfl ?_ | refine x_aload_nN hP rfl rfl ?_
  refine x_getR hP rfl (by first | assumption | rfl) (by first | assumption | exact hR _ _ _ _ rfl | exact hR1 _ _ _ _ rfl | exact hR2 _ _ _ _ rfl | rfl) ?_
  refine x_iload_n hP rfl rfl ?_
  refine z_iald hP rfl (by first | assumption | rfl) (by first | decide | omega) (by omega) (by first | assumption | exact hR _ _ _ _ rfl | exact hR1 _ _ _ _ rfl | exact hR2 _ _ _ _ rfl | rfl) ?_
  refine x_callV3 (ci := 9) hP 0 0 rfl rfl rfl (by first | assumption | rfl) rfl rfl rfl (Nat.zero_le _) (Nat.zero_le _) ?_
  refine r_cut (x := (l.length : Int) - v) (b := (l.length : Int)) hP hR hs.2 (by omega) (by omega) hq' (fun I1 g1 g2 => ?_)
  refine x_goto hP rfl ?_
  refine x_vret hP rfl rfl ?_
  rw [show ((l.map (rfE ol)).take ((l.length : Int)).toNat).drop ((l.length : Int) - v).toNat = (l.drop (l.length - v.toNat)).map (rfE ol) by rw [Int.toNat_natCast, List.take_of_length_le (by rw [List.length_map]; exact Nat.le_refl _), show ((l.length : Int) - v).toNat = l.length - v.toNat by omega, List.map_drop]] at g1
  rw [← rT_of g2 fun _ _ _ => rsW_rC]
  exact k I1 g1 (tm_rsW hf' g2) (frP_mono g2 fun _ _ _ => rsW_sFn)
theorem r_fa2 (hP : x_closed E P) (hR : x_fin R) (hs : 7 ≤ s ∧ s < 28) (hc : rTr I J (zT Z)) (hy : rLy I (zT Z)) (hn : rNu I (zN Z)) (hq : rq I s ol (l.map (rfE ol))) (hv : vV (zT Z) (ol, l)) (hf : I 1602 122 0 = bI tm) {m : Nat} (hm : m < 3) (k : ∀ I', rq I' s (appL Z 2 (0, m, 0, 0) (ol, l)).1 ((appL Z 2 (0, m, 0, 0) (ol, l)).2.map (rfE (appL Z 2 (0, m, 0, 0) (ol, l)).1)) → I' 1602 122 0 = bI tm → frP (sFn s) (rT I p (-1)) I' → Q none (x_hp (rT I' p (-1)) J R)) : ∀ L r1 r2, x_ag L 0 [some (.ref 122), some (.int (iI (2 : Nat))), some (.int (iI s)), none, none, none, some (.int (iI (m : Nat)))] → P 199 (d + 4) 205 L [] (x_hp (rT I p (-1)) J R) r1 r2 Q := by
  intro L r1 r2 hL
  refine x_re hP _ hL ?_
  have hw := hc.2.2.2.2.2
  have hq' := rq_rT hq p (-1)
  have hn' : rNu (rT I p (-1)) (zN Z) := rNu_fr hn (rT_fr I p (-1)) fun k a i z => by unfold rC at z; omega
  have hf' : rT I p (-1) 1602 122 0 = bI tm := hf
  have l200 : l.length ≤ 200 := by have := hq.2.2.2.1; rw [List.length_map] at this; exact this
  have h30 : ∀ x ∈ l, ∀ e ∈ ol, pt x e < 30 := fun x hx => vt_30 hw hv.1 (hv.2 x hx)
  refine x_iload_n hP rfl rfl ?_
  refine x_tsw (tg := 290) hP rfl (by decide +kernel) ?_
  first | refine x_aload_n hP rfl rfl ?_ | refine x_aload_nN hP rfl rfl ?_
  refine x_iload_n hP rfl rfl ?_
  refine x_iload hP rfl rfl ?_
  refine x_iconst hP rfl ?_
  refine x_iconst hP rfl ?_
  refine x_callV4 (ci := 9) hP 0 0 rfl rfl rfl (by first | assumption | rfl) rfl rfl rfl (Nat.zero_le _) (Nat.zero_le _) ?_
  refine r_filter (f := 2) (b := 0) hP hR hs.2 hm (by decide) (by omega) h30 hn' hq' (fun I1 g1 g2 => ?_)
  refine x_goto hP rfl ?_
  refine x_vret hP rfl rfl ?_
  rw [← rT_of g2 fun _ _ _ => rsW_rC]
  exact k I1 g1 (tm_rsW hf' g2) (frP_mono g2 fun _ _ _ => rsW_sFn)
theorem r_fa3 (hP : x_closed E P) (hR : x_fin R) (hs : 7 ≤ s ∧ s < 28) (hc : rTr I J (zT Z)) (hy : rLy I (zT Z)) (hn : rNu I (zN Z)) (hq : rq I s ol (l.map (rfE ol))) (hv : vV (zT Z) (ol, l)) (hf : I 1602 122 0 = bI tm) {m : Nat} (hm : m < 3) {b : Int} (hb : -1000000000 < b ∧ b < 1000000000) (k : ∀ I', rq I' s (appL Z 3 (0, m, b, 0) (ol, l)).1 ((appL Z 3 (0, m, b, 0) (ol, l)).2.map (rfE (appL Z 3 (0, m, b, 0) (ol, l)).1)) → I' 1602 122 0 = bI tm → frP (sFn s) (rT I p (-1)) I' → Q none (x_hp (rT I' p (-1)) J R)) : ∀ L r1 r2, x_ag L 0 [some (.ref 122), some (.int (iI (3 : Nat))), some (.int (iI s)), none, some (.int (iI b)), none, some (.int (iI (m : Nat)))] → P 199 (d + 4) 205 L [] (x_hp (rT I p (-1)) J R) r1 r2 Q := by
  intro L r1 r2 hL
  refine x_re hP _ hL ?_
  have hw := hc.2.2.2.2.2
  have hq' := rq_rT hq p (-1)
  have hn' : rNu (rT I p (-1)) (zN Z) := rNu_fr hn (rT_fr I p (-1)) fun k a i z => by unfold rC at z; omega
  have hf' : rT I p (-1) 1602 122 0 = bI tm := hf
  have l200 : l.length ≤ 200 := by have := hq.2.2.2.1; rw [List.length_map] at this; exact this
  have h30 : ∀ x ∈ l, ∀ e ∈ ol, pt x e < 30 := fun x hx => vt_30 hw hv.1 (hv.2 x hx)
  refine x_iload_n hP rfl rfl ?_
  refine x_tsw (tg := 302) hP rfl (by decide +kernel) ?_
  first | refine x_aload_n hP rfl rfl ?_ | refine x_aload_nN hP rfl rfl ?_
  refine x_iload_n hP rfl rfl ?_
  refine x_iload hP rfl rfl ?_
  refine x_iconst hP rfl ?_
  refine x_iload hP rfl rfl ?_
  refine x_callV4 (ci := 9) hP 0 0 rfl rfl rfl (by first | assumption | rfl) rfl rfl rfl (Nat.zero_le _) (Nat.zero_le _) ?_
  refine r_filter (f := 3) (b := b) hP hR hs.2 hm (by decide) (by omega) h30 hn' hq' (fun I1 g1 g2 => ?_)
  refine x_goto hP rfl ?_
  refine x_vret hP rfl rfl ?_
  rw [← rT_of g2 fun _ _ _ => rsW_rC]
  exact k I1 g1 (tm_rsW hf' g2) (frP_mono g2 fun _ _ _ => rsW_sFn)
theorem r_fa4 (hP : x_closed E P) (hR : x_fin R) (hs : 7 ≤ s ∧ s < 28) (hc : rTr I J (zT Z)) (hy : rLy I (zT Z)) (hn : rNu I (zN Z)) (hq : rq I s ol (l.map (rfE ol))) (hv : vV (zT Z) (ol, l)) (hf : I 1602 122 0 = bI tm) {m : Nat} (hm : m < 3) {b : Int} (hb : -1000000000 < b ∧ b < 1000000000) (k : ∀ I', rq I' s (appL Z 4 (0, m, b, 0) (ol, l)).1 ((appL Z 4 (0, m, b, 0) (ol, l)).2.map (rfE (appL Z 4 (0, m, b, 0) (ol, l)).1)) → I' 1602 122 0 = bI tm → frP (sFn s) (rT I p (-1)) I' → Q none (x_hp (rT I' p (-1)) J R)) : ∀ L r1 r2, x_ag L 0 [some (.ref 122), some (.int (iI (4 : Nat))), some (.int (iI s)), none, some (.int (iI b)), none, some (.int (iI (m : Nat)))] → P 199 (d + 4) 205 L [] (x_hp (rT I p (-1)) J R) r1 r2 Q := by
  intro L r1 r2 hL
  refine x_re hP _ hL ?_
  have hw := hc.2.2.2.2.2
  have hq' := rq_rT hq p (-1)
  have hn' : rNu (rT I p (-1)) (zN Z) := rNu_fr hn (rT_fr I p (-1)) fun k a i z => by unfold rC at z; omega
  have hf' : rT I p (-1) 1602 122 0 = bI tm := hf
  have l200 : l.length ≤ 200 := by have := hq.2.2.2.1; rw [List.length_map] at this; exact this
  have h30 : ∀ x ∈ l, ∀ e ∈ ol, pt x e < 30 := fun x hx => vt_30 hw hv.1 (hv.2 x hx)
  refine x_iload_n hP rfl rfl ?_
  refine x_tsw (tg := 315) hP rfl (by decide +kernel) ?_
  first | refine x_aload_n hP rfl rfl ?_ | refine x_aload_nN hP rfl rfl ?_
  refine x_iload_n hP rfl rfl ?_
  refine x_iload hP rfl rfl ?_
  refine x_iconst hP rfl ?_
  refine x_iload hP rfl rfl ?_
  refine x_callV4 (ci := 9) hP 0 0 rfl rfl rfl (by first | assumption | rfl) rfl rfl rfl (Nat.zero_le _) (Nat.zero_le _) ?_
  refine r_filter (f := 4) (b := b) hP hR hs.2 hm (by decide) (by omega) h30 hn' hq' (fun I1 g1 g2 => ?_)
  refine x_goto hP rfl ?_
  refine x_vret hP rfl rfl ?_
  rw [← rT_of g2 fun _ _ _ => rsW_rC]
  exact k I1 g1 (tm_rsW hf' g2) (frP_mono g2 fun _ _ _ => rsW_sFn)
theorem r_fa5 (hP : x_closed E P) (hR : x_fin R) (hs : 7 ≤ s ∧ s < 28) (hc : rTr I J (zT Z)) (hy : rLy I (zT Z)) (hn : rNu I (zN Z)) (hq : rq I s ol (l.map (rfE ol))) (hv : vV (zT Z) (ol, l)) (hf : I 1602 122 0 = bI tm) {m : Nat} (hm : m < 3) (k : ∀ I', rq I' s (appL Z 5 (0, m, 0, 0) (ol, l)).1 ((appL Z 5 (0, m, 0, 0) (ol, l)).2.map (rfE (appL Z 5 (0, m, 0, 0) (ol, l)).1)) → I' 1602 122 0 = bI tm → frP (sFn s) (rT I p (-1)) I' → Q none (x_hp (rT I' p (-1)) J R)) : ∀ L r1 r2, x_ag L 0 [some (.ref 122), some (.int (iI (5 : Nat))), some (.int (iI s)), none, none, none, some (.int (iI (m : Nat)))] → P 199 (d + 4) 205 L [] (x_hp (rT I p (-1)) J R) r1 r2 Q := by
  intro L r1 r2 hL
  refine x_re hP _ hL ?_
  have hw := hc.2.2.2.2.2
  have hq' := rq_rT hq p (-1)
  have hn' : rNu (rT I p (-1)) (zN Z) := rNu_fr hn (rT_fr I p (-1)) fun k a i z => by unfold rC at z; omega
  have hf' : rT I p (-1) 1602 122 0 = bI tm := hf
  have l200 : l.length ≤ 200 := by have := hq.2.2.2.1; rw [List.length_map] at this; exact this
  have h30 : ∀ x ∈ l, ∀ e ∈ ol, pt x e < 30 := fun x hx => vt_30 hw hv.1 (hv.2 x hx)
  refine x_iload_n hP rfl rfl ?_
  refine x_tsw (tg := 328) hP rfl (by decide +kernel) ?_
  first | refine x_aload_n hP rfl rfl ?_ | refine x_aload_nN hP rfl rfl ?_
  refine x_iload_n hP rfl rfl ?_
  refine x_iload hP rfl rfl ?_
  refine x_iconst hP rfl ?_
  refine x_callV3 (ci := 9) hP 0 0 rfl rfl rfl (by first | assumption | rfl) rfl rfl rfl (Nat.zero_le _) (Nat.zero_le _) ?_
  refine r_sort (up := true) hP hR hs.2 hm h30 hn' hq' hf' (fun I1 g1 g2 => ?_)
  refine x_goto hP rfl ?_
  refine x_vret hP rfl rfl ?_
  have ss := srO_sort (v := shw (zN Z) m ol) (up := true) (f := rfE ol) l200
  obtain ⟨g1, g3⟩ := g1
  rw [ss] at g1 g3
  have ln : ((sortL (shw (zN Z) m ol) (!true) l).map (rfE ol)).length ≤ 200 := by rw [List.length_map, sortL_len]; exact l200
  rw [List.take_of_length_le ln] at g1
  rw [decide_eq_false (by omega), Bool.or_false] at g3
  rw [← rT_of g2 fun k a i z => by rcases z with z | z; exact rsT_rC z; exact rsF_rC z]
  exact k I1 g1 g3 (frP_mono g2 fun k a i z => by unfold rsT at z; unfold sFn; rcases z with (z | z) | z; exact Or.inr (Or.inr (Or.inl z)); exact Or.inr (Or.inl z); exact Or.inr (Or.inr (Or.inr (Or.inl z))))
theorem r_fa6 (hP : x_closed E P) (hR : x_fin R) (hs : 7 ≤ s ∧ s < 28) (hc : rTr I J (zT Z)) (hy : rLy I (zT Z)) (hn : rNu I (zN Z)) (hq : rq I s ol (l.map (rfE ol))) (hv : vV (zT Z) (ol, l)) (hf : I 1602 122 0 = bI tm) {m : Nat} (hm : m < 3) (k : ∀ I', rq I' s (appL Z 6 (0, m, 0, 0) (ol, l)).1 ((appL Z 6 (0, m, 0, 0) (ol, l)).2.map (rfE (appL Z 6 (0, m, 0, 0) (ol, l)).1)) → I' 1602 122 0 = bI tm → frP (sFn s) (rT I p (-1)) I' → Q none (x_hp (rT I' p (-1)) J R)) : ∀ L r1 r2, x_ag L 0 [some (.ref 122), some (.int (iI (6 : Nat))), some (.int (iI s)), none, none, none, some (.int (iI (m : Nat)))] → P 199 (d + 4) 205 L [] (x_hp (rT I p (-1)) J R) r1 r2 Q := by
  intro L r1 r2 hL
  refine x_re hP _ hL ?_
  have hw := hc.2.2.2.2.2
  have hq' := rq_rT hq p (-1)
  have hn' : rNu (rT I p (-1)) (zN Z) := rNu_fr hn (rT_fr I p (-1)) fun k a i z => by unfold rC at z; omega
  have hf' : rT I p (-1) 1602 122 0 = bI tm := hf
  have l200 : l.length ≤ 200 := by have := hq.2.2.2.1; rw [List.length_map] at this; exact this
  have h30 : ∀ x ∈ l, ∀ e ∈ ol, pt x e < 30 := fun x hx => vt_30 hw hv.1 (hv.2 x hx)
  refine x_iload_n hP rfl rfl ?_
  refine x_tsw (tg := 339) hP rfl (by decide +kernel) ?_
  first | refine x_aload_n hP rfl rfl ?_ | refine x_aload_nN hP rfl rfl ?_
  refine x_iload_n hP rfl rfl ?_
  refine x_iload hP rfl rfl ?_
  refine x_iconst hP rfl ?_
  refine x_callV3 (ci := 9) hP 0 0 rfl rfl rfl (by first | assumption | rfl) rfl rfl rfl (Nat.zero_le _) (Nat.zero_le _) ?_
  refine r_sort (up := false) hP hR hs.2 hm h30 hn' hq' hf' (fun I1 g1 g2 => ?_)
  refine x_goto hP rfl ?_
  refine x_vret hP rfl rfl ?_
  have ss := srO_sort (v := shw (zN Z) m ol) (up := false) (f := rfE ol) l200
  obtain ⟨g1, g3⟩ := g1
  rw [ss] at g1 g3
  have ln : ((sortL (shw (zN Z) m ol) (!false) l).map (rfE ol)).length ≤ 200 := by rw [List.length_map, sortL_len]; exact l200
  rw [List.take_of_length_le ln] at g1
  rw [decide_eq_false (by omega), Bool.or_false] at g3
  rw [← rT_of g2 fun k a i z => by rcases z with z | z; exact rsT_rC z; exact rsF_rC z]
  exact k I1 g1 g3 (frP_mono g2 fun k a i z => by unfold rsT at z; unfold sFn; rcases z with (z | z) | z; exact Or.inr (Or.inr (Or.inl z)); exact Or.inr (Or.inl z); exact Or.inr (Or.inr (Or.inr (Or.inl z))))
theorem r_fa7 (hP : x_closed E P) (hR : x_fin R) (hs : 7 ≤ s ∧ s < 28) (hc : rTr I J (zT Z)) (hy : rLy I (zT Z)) (hn : rNu I (zN Z)) (hq : rq I s ol (l.map (rfE ol))) (hv : vV (zT Z) (ol, l)) (hf : I 1602 122 0 = bI tm) {v : Int} (hb : 0 ≤ v ∧ v < 1000000000) {m : Nat} (hm : m < 3) (k : ∀ I', rq I' s (appL Z 7 (v, m, 0, 0) (ol, l)).1 ((appL Z 7 (v, m, 0, 0) (ol, l)).2.map (rfE (appL Z 7 (v, m, 0, 0) (ol, l)).1)) → I' 1602 122 0 = bI tm → frP (sFn s) (rT I p (-1)) I' → Q none (x_hp (rT I' p (-1)) J R)) : ∀ L r1 r2, x_ag L 0 [some (.ref 122), some (.int (iI (7 : Nat))), some (.int (iI s)), none, some (.int (iI v)), none, some (.int (iI (m : Nat)))] → P 199 (d + 4) 205 L [] (x_hp (rT I p (-1)) J R) r1 r2 Q := by
  intro L r1 r2 hL
  refine x_re hP _ hL ?_
  have hw := hc.2.2.2.2.2
  have hq' := rq_rT hq p (-1)
  have hn' : rNu (rT I p (-1)) (zN Z) := rNu_fr hn (rT_fr I p (-1)) fun k a i z => by unfold rC at z; omega
  have hf' : rT I p (-1) 1602 122 0 = bI tm := hf
  have l200 : l.length ≤ 200 := by have := hq.2.2.2.1; rw [List.length_map] at this; exact this
  have h30 : ∀ x ∈ l, ∀ e ∈ ol, pt x e < 30 := fun x hx => vt_30 hw hv.1 (hv.2 x hx)
  refine x_iload_n hP rfl rfl ?_
  refine x_tsw (tg := 350) hP rfl (by decide +kernel) ?_
  first | refine x_aload_n hP rfl rfl ?_ | refine x_aload_nN hP rfl rfl ?_
  refine x_iload_n hP rfl rfl ?_
  refine x_iload hP rfl rfl ?_
  refine x_iconst hP rfl ?_
  refine x_iconst hP rfl ?_
  refine x_callV4 (ci := 9) hP 0 0 rfl rfl rfl (by first | assumption | rfl) rfl rfl rfl (Nat.zero_le _) (Nat.zero_le _) ?_
  refine r_filter (f := 2) (b := 0) hP hR hs.2 hm (by decide) (by omega) h30 hn' hq' (fun I1 g1 g2 => ?_)
  rw [ks2] at g1
  have hn1 : rNu I1 (zN Z) := rNu_fr hn' g2 fun k a i z => by unfold rsW rsF at z; omega
  have hf1 := tm_rsW hf' g2
  have sl : (shn (shw (zN Z) m ol) l).length ≤ 200 := Nat.le_trans (List.length_filter_le _ _) l200
  first | refine x_aload_n hP rfl rfl ?_ | refine x_aload_nN hP rfl rfl ?_
  refine x_iload_n hP rfl rfl ?_
  refine x_iload hP rfl rfl ?_
  refine x_iload_n hP rfl rfl ?_
  refine x_bipush hP rfl ?_
  first | refine z_icmp_ne hP rfl (by omega) (by omega) (fun c366 => ?_) (fun c366 => ?_) | refine x_icmp_ne hP rfl (fun c366 => ?_) (fun c366 => ?_)
  rotate_left
  · omega
  refine x_iconst hP rfl ?_
  refine x_callV3 (ci := 9) hP 0 0 rfl rfl rfl (by first | assumption | rfl) rfl rfl rfl (Nat.zero_le _) (Nat.zero_le _) ?_
  refine r_sort (up := false) (l := shn (shw (zN Z) m ol) l) hP hR hs.2 hm (fun x hx => h30 x (shn_mem hx)) hn1 g1 hf1 (fun I2 g3 g4 => ?_)
  have ss := srO_sort (v := shw (zN Z) m ol) (up := false) (f := rfE ol) sl
  obtain ⟨g3, g5⟩ := g3
  rw [ss] at g3 g5
  have ln : ((sortL (shw (zN Z) m ol) (!false) (shn (shw (zN Z) m ol) l)).map (rfE ol)).length ≤ 200 := by rw [List.length_map, sortL_len]; exact sl
  rw [List.take_of_length_le ln] at g3
  rw [decide_eq_false (by omega), Bool.or_false] at g5
  first | refine x_aload_n hP rfl rfl ?_ | refine x_aload_nN hP rfl rfl ?_
  refine x_iload_n hP rfl rfl ?_
  refine x_iconst hP rfl ?_
  refine x_iload hP rfl rfl ?_
  refine x_callV3 (ci := 9) hP 0 0 rfl rfl rfl (by first | assumption | rfl) rfl rfl rfl (Nat.zero_le _) (Nat.zero_le _) ?_
  refine r_cut (x := 0) (b := v) hP hR hs.2 (by decide) (by omega) g3 (fun I3 g6 g7 => ?_)
  refine x_goto hP rfl ?_
  refine x_vret hP rfl rfl ?_
  rw [show (((sortL (shw (zN Z) m ol) (!false) (shn (shw (zN Z) m ol) l)).map (rfE ol)).take v.toNat).drop (0 : Int).toNat = ((sortL (shw (zN Z) m ol) (!false) l).take (min v.toNat (shn (shw (zN Z) m ol) l).length)).map (rfE ol) by rw [show (0 : Int).toNat = 0 from rfl, List.drop_zero, ← List.map_take, top_eq]] at g6
  have fr : frP (fun k a i => rsT s k a i ∨ rsF 28 k a i) (rT I p (-1)) I3 := frP_trans (frP_mono g2 fun k a i z => by unfold rsW at z; unfold rsT; rcases z with z | z; exact Or.inl (Or.inl z); exact Or.inr z) (frP_trans g4 (frP_mono g7 fun k a i z => by unfold rsW at z; unfold rsT; rcases z with z | z; exact Or.inl (Or.inl z); exact Or.inr z))
  rw [← rT_of fr fun k a i z => by rcases z with z | z; exact rsT_rC z; exact rsF_rC z]
  exact k I3 g6 (tm_rsW g5 g7) (frP_mono fr fun k a i z => by unfold rsT at z; unfold sFn; rcases z with (z | z) | z; exact Or.inr (Or.inr (Or.inl z)); exact Or.inr (Or.inl z); exact Or.inr (Or.inr (Or.inr (Or.inl z))))
theorem r_fa8 (hP : x_closed E P) (hR : x_fin R) (hs : 7 ≤ s ∧ s < 28) (hc : rTr I J (zT Z)) (hy : rLy I (zT Z)) (hn : rNu I (zN Z)) (hq : rq I s ol (l.map (rfE ol))) (hv : vV (zT Z) (ol, l)) (hf : I 1602 122 0 = bI tm) {v : Int} (hb : 0 ≤ v ∧ v < 1000000000) {m : Nat} (hm : m < 3) (k : ∀ I', rq I' s (appL Z 8 (v, m, 0, 0) (ol, l)).1 ((appL Z 8 (v, m, 0, 0) (ol, l)).2.map (rfE (appL Z 8 (v, m, 0, 0) (ol, l)).1)) → I' 1602 122 0 = bI tm → frP (sFn s) (rT I p (-1)) I' → Q none (x_hp (rT I' p (-1)) J R)) : ∀ L r1 r2, x_ag L 0 [some (.ref 122), some (.int (iI (8 : Nat))), some (.int (iI s)), none, some (.int (iI v)), none, some (.int (iI (m : Nat)))] → P 199 (d + 4) 205 L [] (x_hp (rT I p (-1)) J R) r1 r2 Q := by
  intro L r1 r2 hL
  refine x_re hP _ hL ?_
  have hw := hc.2.2.2.2.2
  have hq' := rq_rT hq p (-1)
  have hn' : rNu (rT I p (-1)) (zN Z) := rNu_fr hn (rT_fr I p (-1)) fun k a i z => by unfold rC at z; omega
  have hf' : rT I p (-1) 1602 122 0 = bI tm := hf
  have l200 : l.length ≤ 200 := by have := hq.2.2.2.1; rw [List.length_map] at this; exact this
  have h30 : ∀ x ∈ l, ∀ e ∈ ol, pt x e < 30 := fun x hx => vt_30 hw hv.1 (hv.2 x hx)
  refine x_iload_n hP rfl rfl ?_
  refine x_tsw (tg := 350) hP rfl (by decide +kernel) ?_
  first | refine x_aload_n hP rfl rfl ?_ | refine x_aload_nN hP rfl rfl ?_
  refine x_iload_n hP rfl rfl ?_
  refine x_iload hP rfl rfl ?_
  refine x_iconst hP rfl ?_
  refine x_iconst hP rfl ?_
  refine x_callV4 (ci := 9) hP 0 0 rfl rfl rfl (by first | assumption | rfl) rfl rfl rfl (Nat.zero_le _) (Nat.zero_le _) ?_
  refine r_filter (f := 2) (b := 0) hP hR hs.2 hm (by decide) (by omega) h30 hn' hq' (fun I1 g1 g2 => ?_)
  rw [ks2] at g1
  have hn1 : rNu I1 (zN Z) := rNu_fr hn' g2 fun k a i z => by unfold rsW rsF at z; omega
  have hf1 := tm_rsW hf' g2
  have sl : (shn (shw (zN Z) m ol) l).length ≤ 200 := Nat.le_trans (List.length_filter_le _ _) l200
  first | refine x_aload_n hP rfl rfl ?_ | refine x_aload_nN hP rfl rfl ?_
  refine x_iload_n hP rfl rfl ?_
  refine x_iload hP rfl rfl ?_
  refine x_iload_n hP rfl rfl ?_
  refine x_bipush hP rfl ?_
  first | refine z_icmp_ne hP rfl (by omega) (by omega) (fun c366 => ?_) (fun c366 => ?_) | refine x_icmp_ne hP rfl (fun c366 => ?_) (fun c366 => ?_)
  · omega
  refine x_iconst hP rfl ?_
  refine x_goto hP rfl ?_
  refine x_callV3 (ci := 9) hP 0 0 rfl rfl rfl (by first | assumption | rfl) rfl rfl rfl (Nat.zero_le _) (Nat.zero_le _) ?_
  refine r_sort (up := true) (l := shn (shw (zN Z) m ol) l) hP hR hs.2 hm (fun x hx => h30 x (shn_mem hx)) hn1 g1 hf1 (fun I2 g3 g4 => ?_)
  have ss := srO_sort (v := shw (zN Z) m ol) (up := true) (f := rfE ol) sl
  obtain ⟨g3, g5⟩ := g3
  rw [ss] at g3 g5
  have ln : ((sortL (shw (zN Z) m ol) (!true) (shn (shw (zN Z) m ol) l)).map (rfE ol)).length ≤ 200 := by rw [List.length_map, sortL_len]; exact sl
  rw [List.take_of_length_le ln] at g3
  rw [decide_eq_false (by omega), Bool.or_false] at g5
  first | refine x_aload_n hP rfl rfl ?_ | refine x_aload_nN hP rfl rfl ?_
  refine x_iload_n hP rfl rfl ?_
  refine x_iconst hP rfl ?_
  refine x_iload hP rfl rfl ?_
  refine x_callV3 (ci := 9) hP 0 0 rfl rfl rfl (by first | assumption | rfl) rfl rfl rfl (Nat.zero_le _) (Nat.zero_le _) ?_
  refine r_cut (x := 0) (b := v) hP hR hs.2 (by decide) (by omega) g3 (fun I3 g6 g7 => ?_)
  refine x_goto hP rfl ?_
  refine x_vret hP rfl rfl ?_
  rw [show (((sortL (shw (zN Z) m ol) (!true) (shn (shw (zN Z) m ol) l)).map (rfE ol)).take v.toNat).drop (0 : Int).toNat = ((sortL (shw (zN Z) m ol) (!true) l).take (min v.toNat (shn (shw (zN Z) m ol) l).length)).map (rfE ol) by rw [show (0 : Int).toNat = 0 from rfl, List.drop_zero, ← List.map_take, top_eq]] at g6
  have fr : frP (fun k a i => rsT s k a i ∨ rsF 28 k a i) (rT I p (-1)) I3 := frP_trans (frP_mono g2 fun k a i z => by unfold rsW at z; unfold rsT; rcases z with z | z; exact Or.inl (Or.inl z); exact Or.inr z) (frP_trans g4 (frP_mono g7 fun k a i z => by unfold rsW at z; unfold rsT; rcases z with z | z; exact Or.inl (Or.inl z); exact Or.inr z))
  rw [← rT_of fr fun k a i z => by rcases z with z | z; exact rsT_rC z; exact rsF_rC z]
  exact k I3 g6 (tm_rsW g5 g7) (frP_mono fr fun k a i z => by unfold rsT at z; unfold sFn; rcases z with (z | z) | z; exact Or.inr (Or.inr (Or.inl z)); exact Or.inr (Or.inl z); exact Or.inr (Or.inr (Or.inr (Or.inl z))))
theorem r_fa11 (hP : x_closed E P) (hR : x_fin R) (hs : 7 ≤ s ∧ s < 28) (hc : rTr I J (zT Z)) (hy : rLy I (zT Z)) (hn : rNu I (zN Z)) (hq : rq I s ol (l.map (rfE ol))) (hv : vV (zT Z) (ol, l)) (hf : I 1602 122 0 = bI tm) {a : Nat} (ha : a < 9) (h1 : ol.length = 1) (k : ∀ I', rq I' s (appL Z 11 (0, 0, 0, a) (ol, l)).1 ((appL Z 11 (0, 0, 0, a) (ol, l)).2.map (rfE (appL Z 11 (0, 0, 0, a) (ol, l)).1)) → I' 1602 122 0 = bI tm → frP (sFn s) (rT I p (-1)) I' → Q none (x_hp (rT I' p (-1)) J R)) : ∀ L r1 r2, x_ag L 0 [some (.ref 122), some (.int (iI (11 : Nat))), some (.int (iI s)), none, none, some (.int (iI (a : Nat)))] → P 199 (d + 4) 205 L [] (x_hp (rT I p (-1)) J R) r1 r2 Q := by
  intro L r1 r2 hL
  refine x_re hP _ hL ?_
  have hw := hc.2.2.2.2.2
  have hq' := rq_rT hq p (-1)
  have hn' : rNu (rT I p (-1)) (zN Z) := rNu_fr hn (rT_fr I p (-1)) fun k a i z => by unfold rC at z; omega
  have hf' : rT I p (-1) 1602 122 0 = bI tm := hf
  have l200 : l.length ≤ 200 := by have := hq.2.2.2.1; rw [List.length_map] at this; exact this
  have h30 : ∀ x ∈ l, ∀ e ∈ ol, pt x e < 30 := fun x hx => vt_30 hw hv.1 (hv.2 x hx)
  refine x_iload_n hP rfl rfl ?_
  refine x_tsw (tg := 388) hP rfl (by decide +kernel) ?_
  obtain ⟨e, rfl⟩ : ∃ e, ol = [e] := by
    match ol, h1 with
    | [e], _ => exact ⟨e, rfl⟩
  have ed : e < tD (zT Z) := hv.1.2.2 e List.mem_cons_self
  have e4 : e < 4 := by have := hw.1; omega
  have wf := twf_wfp hw ed
  have s30 := (hw.2.2 e ed).2.1
  have hc' := rTr_rT hc p (-1)
  have hy' : rLy (rT I p (-1)) (zT Z) := rLy_fr hy (rT_fr I p (-1)) fun k a i z => by unfold rC at z; omega
  first | refine x_aload_n hP rfl rfl ?_ | refine x_aload_nN hP rfl rfl ?_
  refine x_iload_n hP rfl rfl ?_
  refine x_iload hP rfl rfl ?_
  refine x_callV2 (ci := 9) hP 0 0 rfl rfl rfl (by first | assumption | rfl) rfl rfl rfl (Nat.zero_le _) (Nat.zero_le _) ?_
  refine r_each hP hR ed hs.2 ha (fun t ht => ?_) hc' hy' hq' (fun I1 g0 g1 g2 => ?_)
  · obtain ⟨x, x1, rfl⟩ := List.mem_map.mp ht
    rw [rfE_1]
    exact (hv.2 x x1).2.1 e List.mem_cons_self
  refine x_vret hP rfl rfl ?_
  have ee : (l.map (rfE [e])).flatMap (refL (tP (zT Z) e) (tS (zT Z) e) (tH (zT Z) e) a) = l.flatMap fun x => actL (tP (zT Z) e) (tS (zT Z) e) (tH (zT Z) e) a (pt x e) := by
    rw [List.flatMap_map]
    exact fm_cg l fun x hx => by
      show refL _ _ _ a (rfE [e] x) = _
      rw [rfE_1]
      exact refL_eq wf (dpt_of hw ed) ((hv.2 x hx).2.1 e List.mem_cons_self) ha
  rw [ee] at g0 g1
  rw [← rT_of g2 fun k a i z => by rcases z with z | z <;> exact rsF_rC z]
  refine k I1 ?_ ((g2 _ _ _ fun z => by unfold rsF at z; omega).trans hf') (frP_mono g2 fun k a i z => by unfold sFn; rcases z with z | z; exact Or.inr (Or.inr (Or.inl z)); exact Or.inr (Or.inr (Or.inr (Or.inr z))))
  show rq I1 s [e] (((eaL (tP (zT Z) e) (tS (zT Z) e) (tH (zT Z) e) a e l).map (tp e)).map (rfE [e]))
  rw [map_tp e4 fun x hx => by have := g0.1 x hx; omega]
  exact g1
theorem r_fa9 (hP : x_closed E P) (hR : x_fin R) (hs : 7 ≤ s ∧ s < 28) (hc : rTr I J (zT Z)) (hy : rLy I (zT Z)) (hn : rNu I (zN Z)) (hq : rq I s ol (l.map (rfE ol))) (hv : vV (zT Z) (ol, l)) (hf : I 1602 122 0 = bI tm) (h1 : ol.length = 1) (k : ∀ I', rq I' s (appL Z 9 (0, 0, 0, 0) (ol, l)).1 ((appL Z 9 (0, 0, 0, 0) (ol, l)).2.map (rfE (appL Z 9 (0, 0, 0, 0) (ol, l)).1)) → I' 1602 122 0 = bI tm → frP (sFn s) (rT I p (-1)) I' → Q none (x_hp (rT I' p (-1)) J R)) : ∀ L r1 r2, x_ag L 0 [some (.ref 122), some (.int (iI (9 : Nat))), some (.int (iI s))] → P 199 (d + 4) 53 L [] (x_hp (rT I p (-1)) J R) r1 r2 Q := by
  intro L r1 r2 hL
  refine x_re hP _ hL ?_
  have hw := hc.2.2.2.2.2
  have hq' := rq_rT hq p (-1)
  have hn' : rNu (rT I p (-1)) (zN Z) := rNu_fr hn (rT_fr I p (-1)) fun k a i z => by unfold rC at z; omega
  have hf' : rT I p (-1) 1602 122 0 = bI tm := hf
  have l200 : l.length ≤ 200 := by have := hq.2.2.2.1; rw [List.length_map] at this; exact this
  have h30 : ∀ x ∈ l, ∀ e ∈ ol, pt x e < 30 := fun x hx => vt_30 hw hv.1 (hv.2 x hx)
  refine x_iload_n hP rfl rfl ?_
  refine x_bipush hP rfl ?_
  first | refine z_icmp_ne hP rfl (by omega) (by omega) (fun c56 => ?_) (fun c56 => ?_) | refine x_icmp_ne hP rfl (fun c56 => ?_) (fun c56 => ?_)
  · omega
  obtain ⟨e, rfl⟩ : ∃ e, ol = [e] := by
    match ol, h1 with
    | [e], _ => exact ⟨e, rfl⟩
  have ed : e < tD (zT Z) := hv.1.2.2 e List.mem_cons_self
  have e4 : e < 4 := by have := hw.1; omega
  have wf := twf_wfp hw ed
  have s30 := (hw.2.2 e ed).2.1
  have hc' := rTr_rT hc p (-1)
  have hy' : rLy (rT I p (-1)) (zT Z) := rLy_fr hy (rT_fr I p (-1)) fun k a i z => by unfold rC at z; omega
  first | refine x_aload_n hP rfl rfl ?_ | refine x_aload_nN hP rfl rfl ?_
  refine x_iload_n hP rfl rfl ?_
  refine x_callV1 (ci := 9) hP 0 0 rfl rfl rfl (by first | assumption | rfl) rfl rfl rfl (Nat.zero_le _) (Nat.zero_le _) ?_
  refine r_byTree hP hR hs.2 ed hc' hy' hq' (fun I1 g1 g2 => ?_)
  refine x_goto hP rfl ?_
  refine x_vret hP rfl rfl ?_
  rw [← rT_of g2 fun _ _ _ => rsW_rC]
  refine k I1 ?_ (tm_rsW hf' g2) (frP_mono g2 fun _ _ _ => rsW_sFn)
  show rq I1 s [e] ((wkL (tP (zT Z) e) (tS (zT Z) e) e l).map (rfE [e]))
  unfold wkL
  have nd : ((wl (tP (zT Z) e) (tS (zT Z) e) 0 (tS (zT Z) e)).filter fun k => decide (k ∈ l.map fun x => pt x e)).Nodup := List.Nodup.sublist List.filter_sublist (wl_nd wf)
  rw [adds_nd _ [] nd fun x _ z => absurd z List.not_mem_nil, List.nil_append, map_tp e4 fun x hx => by have := wl_mem wf (by omega) (List.mem_filter.mp hx).1; omega]
  rw [show (l.map fun x => pt x e) = l.map (rfE [e]) from List.map_congr_left fun x _ => (rfE_1 e x).symm]
  exact g1
theorem r_fa10 (hP : x_closed E P) (hR : x_fin R) (hs : 7 ≤ s ∧ s < 28) (hc : rTr I J (zT Z)) (hy : rLy I (zT Z)) (hn : rNu I (zN Z)) (hq : rq I s ol (l.map (rfE ol))) (hv : vV (zT Z) (ol, l)) (hf : I 1602 122 0 = bI tm) (k : ∀ I', rq I' s (appL Z 10 (0, 0, 0, 0) (ol, l)).1 ((appL Z 10 (0, 0, 0, 0) (ol, l)).2.map (rfE (appL Z 10 (0, 0, 0, 0) (ol, l)).1)) → I' 1602 122 0 = bI tm → frP (sFn s) (rT I p (-1)) I' → Q none (x_hp (rT I' p (-1)) J R)) : ∀ L r1 r2, x_ag L 0 [some (.ref 122), some (.int (iI (10 : Nat))), some (.int (iI s))] → P 199 (d + 4) 53 L [] (x_hp (rT I p (-1)) J R) r1 r2 Q := by
  intro L r1 r2 hL
  refine x_re hP _ hL ?_
  have hw := hc.2.2.2.2.2
  have hq' := rq_rT hq p (-1)
  have hn' : rNu (rT I p (-1)) (zN Z) := rNu_fr hn (rT_fr I p (-1)) fun k a i z => by unfold rC at z; omega
  have hf' : rT I p (-1) 1602 122 0 = bI tm := hf
  have l200 : l.length ≤ 200 := by have := hq.2.2.2.1; rw [List.length_map] at this; exact this
  have h30 : ∀ x ∈ l, ∀ e ∈ ol, pt x e < 30 := fun x hx => vt_30 hw hv.1 (hv.2 x hx)
  refine x_iload_n hP rfl rfl ?_
  refine x_bipush hP rfl ?_
  first | refine z_icmp_ne hP rfl (by omega) (by omega) (fun c56 => ?_) (fun c56 => ?_) | refine x_icmp_ne hP rfl (fun c56 => ?_) (fun c56 => ?_)
  rotate_left
  · omega
  first | refine x_aload_n hP rfl rfl ?_ | refine x_aload_nN hP rfl rfl ?_
  refine x_iload_n hP rfl rfl ?_
  refine x_callV1 (ci := 9) hP 0 0 rfl rfl rfl (by first | assumption | rfl) rfl rfl rfl (Nat.zero_le _) (Nat.zero_le _) ?_
  refine r_turned hP hR hs.2 hq' (fun I1 g1 g2 => ?_)
  refine x_vret hP rfl rfl ?_
  rw [rev_map] at g1
  rw [← rT_of g2 fun _ _ _ => rsW_rC]
  exact k I1 g1 (tm_rsW hf' g2) (frP_mono g2 fun _ _ _ => rsW_sFn)
end
