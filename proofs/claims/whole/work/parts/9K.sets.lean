/-! THE some (.ref 122)ERENCE: SETS -/
def fP (lv k a i : Nat) : Prop := (a = 122 ∧ (k = 1580 ∨ k = 1581 ∨ k = 1602)) ∨ (k = 1 ∧ (a = 139 ∧ 201 * (9 + 3 * lv) ≤ i ∨ (a = 140 ∨ a = 141 ∨ a = 142) ∧ 9 + 3 * lv ≤ i)) ∨ (145 ≤ a ∧ lv + 1 ≤ i) ∨ (a = 148 ∧ lv ≤ i)
def fI (lv k a i : Nat) : Prop := (a = 122 ∧ (k = 1580 ∨ k = 1581 ∨ k = 1602)) ∨ (k = 1 ∧ (a = 139 ∧ 201 * (8 + 3 * lv) ≤ i ∨ (a = 140 ∨ a = 141 ∨ a = 142) ∧ 8 + 3 * lv ≤ i)) ∨ (145 ≤ a ∧ lv + 1 ≤ i) ∨ ((a = 148 ∨ a = 151) ∧ lv ≤ i)
def fS (lv k a i : Nat) : Prop := (a = 122 ∧ (k = 1580 ∨ k = 1581 ∨ k = 1602)) ∨ (k = 1 ∧ (a = 139 ∧ 201 * (7 + 3 * lv) ≤ i ∨ (a = 140 ∨ a = 141 ∨ a = 142) ∧ 7 + 3 * lv ≤ i)) ∨ (145 ≤ a ∧ lv + 1 ≤ i) ∨ (146 < a ∧ lv ≤ i)
theorem fP_fI {lv k a i : Nat} (h : fP lv k a i) : fI lv k a i := by unfold fP at h; unfold fI; omega
theorem fI_fS {lv k a i : Nat} (h : fI lv k a i) : fS lv k a i := by unfold fI at h; unfold fS; omega
theorem fS_gF {lv k a i : Nat} (h : fS lv k a i) : gF k a i := by unfold fS at h; unfold gF; omega
theorem fS_fP {lv k a i : Nat} (h : fS (lv + 1) k a i) : fP lv k a i := by unfold fS at h; unfold fP; omega
theorem pF_fP {lv k a i : Nat} (h : pF lv k a i) : fP lv k a i := by unfold pF rC rsF at h; unfold fP; omega
theorem mF_fP {lv k a i : Nat} (h : mF (lv + 1) k a i) : fP lv k a i := by unfold mF at h; unfold fP; omega
theorem iF_fI {lv k a i : Nat} (hl : lv < 6) (h : iF lv k a i) : fI lv k a i := by unfold iF rC rsF at h; unfold fI; omega
theorem tF2_fS {lv k a i : Nat} (hl : lv < 6) (h : tF2 lv k a i) : fS lv k a i := by unfold tF2 rC rsF at h; unfold fS; omega
theorem sFn_fP {lv k a i : Nat} (hl : lv < 5) (h : sFn (10 + 3 * lv) k a i) : fP lv k a i := by unfold sFn rC rsF at h; unfold fP; omega
theorem fnR_two (Z : x_Z) (c : Nat → Nat) (n f at_ : Nat) (o l l2 : List Nat) (r : Nat) : (∃ e, fnR Z c n f at_ (o, l) r = .inl e ∧ fnR Z c n f at_ (o, l2) r = .inl e) ∨ ∃ A r', fnR Z c n f at_ (o, l) r = .inr (appL Z f A (o, l), r') ∧ fnR Z c n f at_ (o, l2) r = .inr (appL Z f A (o, l2), r') := by
  unfold fnR
  by_cases q : oneF f = true ∧ ¬ o.length = 1
  · exact Or.inl ⟨at_, if_pos q, if_pos q⟩
  · rw [if_neg q, if_neg q]
    generalize thgR Z c n (thg f) (0, 0, 0, 0) r = ot
    match ot with
    | .inl e => exact Or.inl ⟨e, rfl, rfl⟩
    | .inr (A, r2) =>
      show (∃ e, (if ch c n r2 = 41 then _ else _) = _ ∧ (if ch c n r2 = 41 then _ else _) = _) ∨ ∃ A r', (if ch c n r2 = 41 then _ else _) = _ ∧ (if ch c n r2 = 41 then _ else _) = _
      by_cases z : ch c n r2 = 41
      · exact Or.inr ⟨A, r2 + 1, if_pos z, if_pos z⟩
      · exact Or.inl ⟨r2, if_neg z, if_neg z⟩
theorem tg1_rg {Z : x_Z} {c : Nat → Nat} {n x p q : Nat} {A A' : x_AR} (hc : ∀ i, c i < 256) (hp : p ≤ n) (h : tg1 Z c n x A p = .inr (A', q)) : p ≤ q ∧ q ≤ n := by
  unfold tg1 at h
  split at h
  · split at h
    · cases h
    · next e => cases h; have := numR_rg hp e; omega
  · split at h
    · split at h
      · cases h
      · next e => cases h; have := mrkR_rg hc hp e; omega
    · split at h
      · split at h
        · cases h
        · next e => cases h; have := intR_rg hc hp e; omega
      · split at h
        · cases h
        · next e => cases h; have := actR_rg hp _ _ e; omega
theorem thgR_rg {Z : x_Z} {c : Nat → Nat} {n : Nat} (hc : ∀ i, c i < 256) : ∀ (xs : List Nat) (A A' : x_AR) (p q : Nat), p ≤ n → thgR Z c n xs A p = .inr (A', q) → p ≤ q ∧ q ≤ n
  | [], A, A', p, q, hp, h => by cases h; omega
  | x :: xs, A, A', p, q, hp, h => by
    rw [thgR_c] at h
    split at h
    · next e0 =>
      have hlt : p < n := by unfold ch at e0; split at e0 <;> omega
      split at h
      · cases h
      · next A1 q1 e =>
        have a := tg1_rg hc hlt e
        have b := thgR_rg hc xs A1 A' q1 q a.2 h
        omega
    · cases h
theorem fnR_rg {Z : x_Z} {c : Nat → Nat} {n f at_ r r' : Nat} {V V' : x_V} (hc : ∀ i, c i < 256) (hr : r ≤ n) (h : fnR Z c n f at_ V r = .inr (V', r')) : r < r' := by
  unfold fnR at h
  split at h
  · cases h
  · split at h
    · cases h
    · next A r2 e =>
      have := thgR_rg hc _ _ _ _ _ hr e
      split at h
      · cases h; omega
      · cases h
/-- what stands behind what opens -/
def opR (Z : x_Z) (c : Nat → Nat) (n : Nat) (g : Nat → Bool → x_RS) (f q : Nat) (tm : Bool) : x_RS := match g q tm with
  | .inl e => .inl e
  | .inr ((V, tm'), r) => if f = 1 then (if ch c n r = 125 then .inr ((V, tm'), r + 1) else .inl r) else (match fnR Z c n (f - 2) q V r with
    | .inl e => .inl e
    | .inr (V', r') => .inr ((V', tm'), r'))
def ptS (Z : x_Z) (c : Nat → Nat) (n : Nat) (sub : Option (Nat → Bool → x_RS)) (tm : Bool) (r : Nat ⊕ ((x_V × Nat) ⊕ (Nat × Nat))) : x_RS := match r with
  | .inl e => .inl e
  | .inr (.inl (V, q)) => .inr ((V, tm), q)
  | .inr (.inr (f, q)) => (match sub with | none => .inl 0 | some g => opR Z c n g f q tm)
theorem mbL_eq (Z : x_Z) (c : Nat → Nat) (n : Nat) (sub : Option (Nat → Bool → x_RS)) (tm : Bool) (e k q : Nat) : mbrR Z c n e k tm q = ptS Z c n sub tm (mbL Z c n e k q) := by
  unfold mbL mbrR
  by_cases z : ch c n q = 46
  · rw [if_pos z, if_pos z]
    cases actR c n (q + 1) with
    | inl x => rfl
    | inr y => rfl
  · rw [if_neg z, if_neg z]; rfl
theorem fnc_op (Z : x_Z) (c : Nat → Nat) (n : Nat) (g : Nat → Bool → x_RS) (f : Nat) (tm : Bool) (q : Nat) (h : ch c n q = 40) : fncR Z c n g f tm q = opR Z c n g (2 + f) (q + 1) tm := by
  unfold fncR opR
  rw [if_pos h]
  generalize g (q + 1) tm = og
  match og with
  | .inl e => rfl
  | .inr ((V, tm'), r) =>
    show (if oneF f = true ∧ ¬ V.1.length = 1 then _ else _) = if 2 + f = 1 then _ else _
    rw [if_neg (show ¬ 2 + f = 1 by omega), show 2 + f - 2 = f by omega]
    unfold fnR
    by_cases z : oneF f = true ∧ ¬ V.1.length = 1
    · rw [if_pos z, if_pos z]
    · rw [if_neg z, if_neg z]
      generalize thgR Z c n (thg f) (0, 0, 0, 0) r = ot
      match ot with
      | .inl e => rfl
      | .inr (A, r2) =>
        dsimp only
        by_cases y : ch c n r2 = 41
        · rw [if_pos y, if_pos y]
        · rw [if_neg y, if_neg y]
theorem prt_pt {Z : x_Z} {c : Nat → Nat} {n lv : Nat} {sub : Option (Nat → Bool → x_RS)} (h5 : sub = none ↔ lv = 5) (p : Nat) (tm : Bool) : prtR Z c n sub p tm = ptS Z c n sub tm (ptR Z c n lv p) := by
  unfold prtR ptR
  by_cases z1 : ch c n p = 35
  · rw [if_pos z1, if_neg (by omega), if_pos z1]
    unfold kptR
    by_cases y1 : ch c n (p + 1) < 48 ∨ 54 ≤ ch c n (p + 1)
    · rw [if_pos y1, if_pos y1]; rfl
    · rw [if_neg y1, if_neg y1]
      by_cases y2 : (zK Z (ch c n (p + 1) - 48).toNat).1 = []
      · rw [if_pos y2, if_pos y2]; rfl
      · rw [if_neg y2, if_neg y2]; rfl
  rw [if_neg z1]
  by_cases z2 : ch c n p = 123
  · rw [if_pos z2, if_pos z2]
    unfold brcR
    match sub, h5 with
    | none, h5 => rw [if_pos (h5.mp rfl)]; rfl
    | some g, h5 =>
      rw [if_neg (fun z => by cases h5.mpr z)]
      show _ = opR Z c n g 1 (p + 1) tm
      unfold opR
      dsimp only
      generalize g (p + 1) tm = og
      match og with
      | .inl e => rfl
      | .inr ((V, tm'), r) =>
        dsimp only
        rw [if_pos (show 1 = 1 from rfl)]
  rw [if_neg z2, if_neg z2, if_neg z1]
  unfold namdR ptN
  generalize namR c n p = on
  match on with
  | .inl e => rfl
  | .inr (v, q) =>
    dsimp only
    generalize fncN v = of
    generalize fMem (zT Z) v = om
    match of, om with
    | some f, none =>
      match sub, h5 with
      | none, h5 => dsimp only; rw [if_pos (h5.mp rfl)]; rfl
      | some g, h5 =>
        dsimp only
        rw [if_neg (fun z => by cases h5.mpr z)]
        by_cases y : ch c n q = 40
        · rw [if_pos y, fnc_op _ _ _ _ _ _ _ y]; rfl
        · rw [if_neg y]
          show fncR Z c n g f tm q = .inl q
          unfold fncR
          rw [if_neg y]
    | some f, some (e, k) =>
      dsimp only
      by_cases y : ch c n q = 40
      · rw [if_pos y, if_pos y]
        match sub, h5 with
        | none, h5 => rw [if_pos (h5.mp rfl)]; rfl
        | some g, h5 =>
          dsimp only
          rw [if_neg (fun z => by cases h5.mpr z), fnc_op _ _ _ _ _ _ _ y]; rfl
      · rw [if_neg y, if_neg y]
        exact mbL_eq Z c n sub tm e k q
    | none, none => rfl
    | none, some (e, k) => exact mbL_eq Z c n sub tm e k q
/-- what opens, and where -/
theorem ptR_open {Z : x_Z} {c : Nat → Nat} {n lv p f q : Nat} (h : ptR Z c n lv p = .inr (.inr (f, q))) : ¬ lv = 5 ∧ p < n ∧ (f = 1 ∧ c p = 123 ∨ ¬ c p = 123 ∧ ∃ f', f = 2 + f' ∧ f' < 12 ∧ fncN (wk c p (rl c n p)) = some f') := by
  unfold ptR at h
  by_cases z2 : ch c n p = 123
  · rw [if_pos z2] at h
    have hlt : p < n := by unfold ch at z2; split at z2 <;> omega
    have cp : c p = 123 := by unfold ch at z2; rw [if_pos hlt] at z2; omega
    by_cases z5 : lv = 5
    · rw [if_pos z5] at h; cases h
    · rw [if_neg z5] at h; cases h; exact ⟨z5, hlt, Or.inl ⟨rfl, cp⟩⟩
  rw [if_neg z2] at h
  by_cases z1 : ch c n p = 35
  · rw [if_pos z1] at h
    generalize kptR Z c n p false = ok at h
    match ok, h with
    | .inl e, h => cases h
    | .inr ((V, _), q), h => cases h
  rw [if_neg z1] at h
  unfold ptN at h
  have hv : ∀ v q, namR c n p = .inr (v, q) → isLt (ch c n p) = true ∧ v = wk c p (rl c n p) := fun v q h => by
    unfold namR at h
    split at h
    · next y =>
      split at h
      · cases h; exact ⟨y, rfl⟩
      · cases h
    · cases h
  generalize namR c n p = on at h hv
  match on, h, hv with
  | .inl e, h, _ => cases h
  | .inr (v, q'), h, hv =>
    have ⟨v1, v2⟩ := hv v q' rfl
    have v1 := of_decide_eq_true v1
    have hlt : p < n := by unfold ch at v1; split at v1 <;> omega
    have cp : ¬ c p = 123 := by unfold ch at z2; rw [if_pos hlt] at z2; omega
    dsimp only at h
    have fnl := fun a h => fncN_lt (v := v) (a := a) h
    rw [← v2]
    have mb : ∀ e k, ¬ mbL Z c n e k q' = .inr (.inr (f, q)) := fun e k z => by
      unfold mbL at z
      generalize mbrR Z c n e k false q' = ob at z
      match ob, z with
      | .inl x, z => cases z
      | .inr ((V, _), r), z => cases z
    generalize fncN v = of at h fnl ⊢
    generalize fMem (zT Z) v = om at h
    match of, om, h, fnl with
    | some f', none, h, fnl =>
      dsimp only at h
      by_cases z5 : lv = 5
      · rw [if_pos z5] at h; cases h
      · rw [if_neg z5] at h
        by_cases y : ch c n q' = 40
        · rw [if_pos y] at h; cases h; exact ⟨z5, hlt, Or.inr ⟨cp, f', rfl, fnl f' rfl, rfl⟩⟩
        · rw [if_neg y] at h; cases h
    | some f', some (e, k), h, fnl =>
      dsimp only at h
      by_cases y : ch c n q' = 40
      · rw [if_pos y] at h
        by_cases z5 : lv = 5
        · rw [if_pos z5] at h; cases h
        · rw [if_neg z5] at h; cases h; exact ⟨z5, hlt, Or.inr ⟨cp, f', rfl, fnl f' rfl, rfl⟩⟩
      · rw [if_neg y] at h; exact absurd h (mb e k)
    | none, none, h, _ => cases h
    | none, some (e, k), h, _ => exact absurd h (mb e k)
section
variable {E : x_E} {P : x_Pr} {d : Nat} {J : x_M Int64} {R : x_M (Option Nat)} {Q : x_Q} {n : Nat} {c : Nat → Nat} {Z : x_Z} {lv : Nat}
/-- from the head of the loop, level lv, to pc, with row holding what was read -/
def rdR (P : x_Pr) (Q : x_Q) (J : x_M Int64) (R : x_M (Option Nat)) (n : Nat) (c : Nat → Nat) (Z : x_Z) (D lv pc row : Nat) (Fr : Nat → Nat → Nat → Prop) (pre : x_M Int32 → Prop) (post : Nat → x_M Int32 → Prop) (F : Nat → Bool → x_RS) : Prop := ∀ (I I0 : x_M Int32) (p : Nat) (tm : Bool), eR I J n c Z → pre I → I 1602 122 0 = bI tm → frP gF I0 I → p ≤ n → (match F p tm with
    | .inl e => ∀ I' (q : Nat), e ≤ n + 10 → frP gF I0 I' → Q none (x_hp (rT I' q e) J R)
    | .inr ((V, tm'), q) => ∀ I' L r1 r2, q ≤ n → p < q → frP Fr I I' → post p I' → rA (zT Z) I' row V tm' → I' 1602 122 0 = bI tm' → x_ag L 0 [some (.ref 122), some (.int (iI lv)), some (.int (iI 1)), none, some (.int (iI 0))] → P 179 D pc L [] (x_hp (rT I' q (-1)) J R) r1 r2 Q) → ∀ L r1 r2, x_ag L 0 [some (.ref 122), some (.int (iI lv)), some (.int (iI 1))] → P 179 D 10 L [] (x_hp (rT I p (-1)) J R) r1 r2 Q
/-- bad: out, wherever it is -/
theorem r_sB10 (hP : x_closed E P) {I : x_M Int32} {q e : Nat} (he : e < 3000) {x : Value} (k : Q none (x_hp (rT I q e) J R)) : ∀ L r1 r2, x_ag L 0 [some (.ref 122), some (.int (iI lv)), some (.int (iI 1))] → P 179 (d + 5) 10 L [] (x_hp (rT I q e) J R) r1 r2 Q := by
  intro L r1 r2 hL
  refine x_re hP _ hL ?_
  refine x_iload_n hP rfl rfl ?_
  first | refine zb_if_eq hP rfl (fun c11 => ?_) (fun c11 => ?_) | refine zl_if_eq hP rfl (fun c11 => ?_) (fun c11 => ?_) | refine z_if_eq hP rfl (by omega) (fun c11 => ?_) (fun c11 => ?_)
  · omega
  first | refine x_aload_n hP rfl rfl ?_ | refine x_aload_nN hP rfl rfl ?_
  refine x_callV0 (ci := 9) hP 0 0 rfl rfl rfl (by first | assumption | rfl) rfl rfl rfl (Nat.zero_le _) (Nat.zero_le _) ?_
  refine r_badB hP (by omega) ?_
  first | refine zb_if_ne hP rfl (fun c18 => ?_) (fun c18 => ?_) | refine zl_if_ne hP rfl (fun c18 => ?_) (fun c18 => ?_) | refine z_if_ne hP rfl (by omega) (fun c18 => ?_) (fun c18 => ?_)
  rotate_left
  · cases c18
  refine x_vret hP rfl rfl ?_
  exact k
theorem r_s82 (hP : x_closed E P) {I : x_M Int32} {q : Int} {e : Int} (k : ∀ L r1 r2, x_ag L 0 [some (.ref 122), some (.int (iI lv)), some (.int (iI 1))] → P 179 (d + 5) 10 L [] (x_hp (rT I q e) J R) r1 r2 Q) : ∀ L r1 r2, x_ag L 0 [some (.ref 122), some (.int (iI lv)), some (.int (iI 1)), none, some (.int (iI 0))] → P 179 (d + 5) 82 L [] (x_hp (rT I q e) J R) r1 r2 Q := by
  intro L r1 r2 hL
  refine x_re hP _ hL ?_
  refine x_iload hP rfl rfl ?_
  first | refine zb_if_eq hP rfl (fun c84 => ?_) (fun c84 => ?_) | refine zl_if_eq hP rfl (fun c84 => ?_) (fun c84 => ?_) | refine z_if_eq hP rfl (by omega) (fun c84 => ?_) (fun c84 => ?_)
  rotate_left
  · omega
  refine x_goto hP rfl ?_
  exact k _ _ _ ⟨rfl, rfl, rfl, trivial⟩
/-- a PART is whole: on to the ITEM -/
theorem r_s79 (hP : x_closed E P) {I : x_M Int32} {q : Nat} (k : ∀ L r1 r2, x_ag L 0 [some (.ref 122), some (.int (iI lv)), some (.int (iI 1)), none, some (.int (iI 0))] → P 179 (d + 5) 97 L [] (x_hp (rT I q (-1)) J R) r1 r2 Q) : ∀ L r1 r2, x_ag L 0 [some (.ref 122), some (.int (iI lv)), some (.int (iI 1))] → P 179 (d + 5) 79 L [] (x_hp (rT I q (-1)) J R) r1 r2 Q := by
  intro L r1 r2 hL
  refine x_re hP _ hL ?_
  refine x_iconst hP rfl ?_
  refine x_istore hP rfl ?_
  refine x_iload hP rfl rfl ?_
  first | refine zb_if_eq hP rfl (fun c84 => ?_) (fun c84 => ?_) | refine zl_if_eq hP rfl (fun c84 => ?_) (fun c84 => ?_) | refine z_if_eq hP rfl (by omega) (fun c84 => ?_) (fun c84 => ?_)
  · omega
  first | refine x_aload_n hP rfl rfl ?_ | refine x_aload_nN hP rfl rfl ?_
  refine x_callV0 (ci := 9) hP 0 0 rfl rfl rfl (by first | assumption | rfl) rfl rfl rfl (Nat.zero_le _) (Nat.zero_le _) ?_
  refine r_badO hP ?_
  first | refine zb_if_ne hP rfl (fun c91 => ?_) (fun c91 => ?_) | refine zl_if_ne hP rfl (fun c91 => ?_) (fun c91 => ?_) | refine z_if_ne hP rfl (by omega) (fun c91 => ?_) (fun c91 => ?_)
  · cases c91
  refine x_iconst hP rfl ?_
  refine x_istore hP rfl ?_
  exact k _ _ _ ⟨rfl, rfl, rfl, rfl, trivial⟩
theorem r_s286 (hP : x_closed E P) {I : x_M Int32} {q : Nat} (k : ∀ L r1 r2, x_ag L 0 [some (.ref 122), some (.int (iI lv)), some (.int (iI 1)), none, some (.int (iI 0))] → P 179 (d + 5) 97 L [] (x_hp (rT I q (-1)) J R) r1 r2 Q) : ∀ L r1 r2, x_ag L 0 [some (.ref 122), some (.int (iI lv)), some (.int (iI 1))] → P 179 (d + 5) 286 L [] (x_hp (rT I q (-1)) J R) r1 r2 Q := by
  intro L r1 r2 hL
  refine x_re hP _ hL ?_
  refine x_iconst hP rfl ?_
  refine x_istore hP rfl ?_
  refine x_goto hP rfl ?_
  refine x_iload hP rfl rfl ?_
  first | refine zb_if_eq hP rfl (fun c84 => ?_) (fun c84 => ?_) | refine zl_if_eq hP rfl (fun c84 => ?_) (fun c84 => ?_) | refine z_if_eq hP rfl (by omega) (fun c84 => ?_) (fun c84 => ?_)
  · omega
  first | refine x_aload_n hP rfl rfl ?_ | refine x_aload_nN hP rfl rfl ?_
  refine x_callV0 (ci := 9) hP 0 0 rfl rfl rfl (by first | assumption | rfl) rfl rfl rfl (Nat.zero_le _) (Nat.zero_le _) ?_
  refine r_badO hP ?_
  first | refine zb_if_ne hP rfl (fun c91 => ?_) (fun c91 => ?_) | refine zl_if_ne hP rfl (fun c91 => ?_) (fun c91 => ?_) | refine z_if_ne hP rfl (by omega) (fun c91 => ?_) (fun c91 => ?_)
  · cases c91
  refine x_iconst hP rfl ?_
  refine x_istore hP rfl ?_
  exact k _ _ _ ⟨rfl, rfl, rfl, rfl, trivial⟩
def ptpost (lv p : Nat) (I : x_M Int32) : Prop := I 1 148 lv = iI p
theorem r_PT (hP : x_closed E P) (hR : x_fin R) (hl : lv < 6) {sub : Option (Nat → Bool → x_RS)} (h5 : sub = none ↔ lv = 5) (hs : ∀ g, sub = some g → rdR P Q J R n c Z (d + 5) (lv + 1) 188 (7 + 3 * (lv + 1)) (fS (lv + 1)) (fun I => I 3 150 (lv + 1) = bI false ∧ I 3 151 (lv + 1) = bI false) (fun _ _ => True) g) : rdR P Q J R n c Z (d + 5) lv 97 (9 + 3 * lv) (fP lv) (fun _ => True) (ptpost lv) (prtR Z c n sub) := by
  intro I I0 p tm he _ hf h0 hp k L r1 r2 hL
  refine x_re hP _ hL ?_
  rw [prt_pt h5] at k
  have n2 := he.1.2.1
  have c256 := he.1.2.2.1
  have s1 : rT I p (-1) 1580 122 0 = iI p := rfl
  refine x_iload_n hP rfl rfl ?_
  first | refine zb_if_eq hP rfl (fun c11 => ?_) (fun c11 => ?_) | refine zl_if_eq hP rfl (fun c11 => ?_) (fun c11 => ?_) | refine z_if_eq hP rfl (by omega) (fun c11 => ?_) (fun c11 => ?_)
  · omega
  first | refine x_aload_n hP rfl rfl ?_ | refine x_aload_nN hP rfl rfl ?_
  refine x_callV0 (ci := 9) hP 0 0 rfl rfl rfl (by first | assumption | rfl) rfl rfl rfl (Nat.zero_le _) (Nat.zero_le _) ?_
  refine r_badO hP ?_
  first | refine zb_if_ne hP rfl (fun c18 => ?_) (fun c18 => ?_) | refine zl_if_ne hP rfl (fun c18 => ?_) (fun c18 => ?_) | refine z_if_ne hP rfl (by omega) (fun c18 => ?_) (fun c18 => ?_)
  · cases c18
  first | refine x_aload_n hP rfl rfl ?_ | refine x_aload_nN hP rfl rfl ?_
  refine x_getI hP rfl (by first | assumption | rfl) (by first | assumption | exact hR _ _ _ _ rfl | exact hR1 _ _ _ _ rfl | exact hR2 _ _ _ _ rfl | rfl) ?_
  refine x_istore_n hP rfl ?_
  first | refine x_aload_n hP rfl rfl ?_ | refine x_aload_nN hP rfl rfl ?_
  refine x_iload_n hP rfl rfl ?_
  refine x_callV1 (ci := 9) hP 0 0 rfl rfl rfl (by first | assumption | rfl) rfl rfl rfl (Nat.zero_le _) (Nat.zero_le _) ?_
  refine r_part (tm := tm) hP hR hl he hp ?_
  have op := fun f q h => ptR_open (Z := Z) (c := c) (n := n) (lv := lv) (p := p) (f := f) (q := q) h
  generalize ptR Z c n lv p = opt at k op ⊢
  match opt, k, op with
  | .inl e, k, _ =>
    intro I1 b q hee g1
    have k := k I1 q hee (frP_trans h0 (frP_mono g1 fun _ _ _ => pF_gF))
    cases b with
    | true =>
      first | refine zb_if_eq hP rfl (fun c31 => ?_) (fun c31 => ?_) | refine zl_if_eq hP rfl (fun c31 => ?_) (fun c31 => ?_) | refine z_if_eq hP rfl (by omega) (fun c31 => ?_) (fun c31 => ?_)
      · cases c31
      first | refine x_aload_n hP rfl rfl ?_ | refine x_aload_nN hP rfl rfl ?_
      refine x_callV0 (ci := 9) hP 0 0 rfl rfl rfl (by first | assumption | rfl) rfl rfl rfl (Nat.zero_le _) (Nat.zero_le _) ?_
      refine r_badB hP (by omega) ?_
      first | refine zb_if_eq hP rfl (fun c38 => ?_) (fun c38 => ?_) | refine zl_if_eq hP rfl (fun c38 => ?_) (fun c38 => ?_) | refine z_if_eq hP rfl (by omega) (fun c38 => ?_) (fun c38 => ?_)
      · cases c38
      refine x_vret hP rfl rfl ?_
      exact k
    | false =>
      first | refine zb_if_eq hP rfl (fun c31 => ?_) (fun c31 => ?_) | refine zl_if_eq hP rfl (fun c31 => ?_) (fun c31 => ?_) | refine z_if_eq hP rfl (by omega) (fun c31 => ?_) (fun c31 => ?_)
      rotate_left
      · cases c31
      refine x_iconst hP rfl ?_
      refine x_istore hP rfl ?_
      refine x_iload hP rfl rfl ?_
      first | refine zb_if_eq hP rfl (fun c84 => ?_) (fun c84 => ?_) | refine zl_if_eq hP rfl (fun c84 => ?_) (fun c84 => ?_) | refine z_if_eq hP rfl (by omega) (fun c84 => ?_) (fun c84 => ?_)
      · omega
      first | refine x_aload_n hP rfl rfl ?_ | refine x_aload_nN hP rfl rfl ?_
      refine x_callV0 (ci := 9) hP 0 0 rfl rfl rfl (by first | assumption | rfl) rfl rfl rfl (Nat.zero_le _) (Nat.zero_le _) ?_
      refine r_badB hP (by omega) ?_
      first | refine zb_if_ne hP rfl (fun c91 => ?_) (fun c91 => ?_) | refine zl_if_ne hP rfl (fun c91 => ?_) (fun c91 => ?_) | refine z_if_ne hP rfl (by omega) (fun c91 => ?_) (fun c91 => ?_)
      rotate_left
      · cases c91
      refine x_goto hP rfl ?_
      exact r_sB10 (x := .null) hP (by omega) k _ _ _ ⟨rfl, rfl, rfl, trivial⟩
  | .inr (.inl (V, q)), k, _ =>
    intro I1 hq hpq g1 g2 g3
    first | refine zb_if_eq hP rfl (fun c31 => ?_) (fun c31 => ?_) | refine zl_if_eq hP rfl (fun c31 => ?_) (fun c31 => ?_) | refine z_if_eq hP rfl (by omega) (fun c31 => ?_) (fun c31 => ?_)
    rotate_left
    · cases c31
    refine r_s79 hP (fun L r1 r2 hL => ?_) _ _ _ ⟨rfl, rfl, rfl, trivial⟩
    exact k I1 L r1 r2 hq hpq (frP_mono g3 fun _ _ _ => pF_fP) g2 g1 ((g3 _ _ _ fun z => by unfold pF rC rsF at z; omega).trans hf) hL
  | .inr (.inr (f, q)), k, op =>
    have ⟨o1, o2, o3⟩ := op f q rfl
    have hl5 : lv < 5 := by omega
    intro I1 hq hpq g2 g3
    match sub, h5, hs, k with
    | none, h5, _, _ => exact absurd (h5.mp rfl) o1
    | some g, _, hs, k =>
    have hs := hs g rfl
    have k : (match opR Z c n g f q tm with
      | .inl e => ∀ I' (q : Nat), e ≤ n + 10 → frP gF I0 I' → Q none (x_hp (rT I' q e) J R)
      | .inr ((V, tm'), q) => ∀ I' L r1 r2, q ≤ n → p < q → frP (fP lv) I I' → ptpost lv p I' → rA (zT Z) I' (9 + 3 * lv) V tm' → I' 1602 122 0 = bI tm' → x_ag L 0 [some (.ref 122), some (.int (iI lv)), some (.int (iI 1)), none, some (.int (iI 0))] → P 179 (d + 5) 97 L [] (x_hp (rT I' q (-1)) J R) r1 r2 Q) := k
    have G1 : frP gF I I1 := frP_mono g3 fun _ _ _ => pF_gF
    have he1 := eR_g he G1
    have f1 : I1 1602 122 0 = bI tm := (g3 _ _ _ fun z => by unfold pF rC rsF at z; omega).trans hf
    first | refine zb_if_eq hP rfl (fun c31 => ?_) (fun c31 => ?_) | refine zl_if_eq hP rfl (fun c31 => ?_) (fun c31 => ?_) | refine z_if_eq hP rfl (by omega) (fun c31 => ?_) (fun c31 => ?_)
    · cases c31
    first | refine x_aload_n hP rfl rfl ?_ | refine x_aload_nN hP rfl rfl ?_
    refine x_callV0 (ci := 9) hP 0 0 rfl rfl rfl (by first | assumption | rfl) rfl rfl rfl (Nat.zero_le _) (Nat.zero_le _) ?_
    refine r_badO hP ?_
    first | refine zb_if_eq hP rfl (fun c38 => ?_) (fun c38 => ?_) | refine zl_if_eq hP rfl (fun c38 => ?_) (fun c38 => ?_) | refine z_if_eq hP rfl (by omega) (fun c38 => ?_) (fun c38 => ?_)
    rotate_left
    · cases c38
    have tv : rT I1 q (-1) 1 124 p = iI (c p) := he1.1.2.2.2 p o2
    have cb := c256 p
    have rest : ∀ L r1 r2, x_ag L 0 [some (.ref 122), some (.int (iI lv)), some (.int (iI 1)), none, some (.int (iI (f : Nat)))] → P 179 (d + 5) 66 L [] (x_hp (rT I1 q (-1)) J R) r1 r2 Q := by
      intro L r1 r2 hL
      refine x_re hP _ hL ?_
      refine z_iinc hP rfl rfl rfl ?_
      rw [show (lv : Int) + 1 = ((lv + 1 : Nat) : Int) by omega]
      first | refine x_aload_n hP rfl rfl ?_ | refine x_aload_nN hP rfl rfl ?_
      refine x_iload_n hP rfl rfl ?_
      refine x_iload hP rfl rfl ?_
      refine x_callV2 (ci := 9) hP 0 0 rfl rfl rfl (by first | assumption | rfl) rfl rfl rfl (Nat.zero_le _) (Nat.zero_le _) ?_
      refine r_frame (l := lv + 1) hP hR (by omega) (fun I2 y1 y2 y3 y4 y5 => ?_)
      refine x_goto hP rfl ?_
      have G2 : frP gF I I2 := frP_trans G1 (frP_mono y5 fun k a i z => by unfold mF at z; unfold gF; omega)
      have F2 : frP (fP lv) I I2 := frP_trans (frP_mono g3 fun _ _ _ => pF_fP) (frP_mono y5 fun _ _ _ => mF_fP)
      have he2 := eR_g he G2
      have f2 : I2 1602 122 0 = bI tm := (y5 _ _ _ fun z => by unfold mF at z; omega).trans f1
      have pa2 : I2 1 148 lv = iI p := (y5 _ _ _ fun z => by unfold mF at z; omega).trans g2
      refine hs I2 I0 q tm he2 ⟨y3, y4⟩ f2 (frP_trans h0 G2) hq ?_ _ _ _ ⟨rfl, rfl, rfl, trivial⟩
      unfold opR at k
      generalize g q tm = og at k ⊢
      match og, k with
      | .inl e, k => exact k
      | .inr ((V, tm'), r), k =>
      intro I3 L r1 r2 hr hqr z1 _ z2 z3 hL
      dsimp only at k
      refine x_re hP _ hL ?_
      have G3 : frP gF I I3 := frP_trans G2 (frP_mono z1 fun _ _ _ => fS_gF)
      have F3 : frP (fP lv) I I3 := frP_trans F2 (frP_mono z1 fun _ _ _ => fS_fP)
      have he3 := eR_g he G3
      have pa3 : I3 1 148 lv = iI p := (z1 _ _ _ fun z => by unfold fS at z; omega).trans pa2
      have br3 : rT I3 r (-1) 1 145 (lv + 1) = iI f := (z1 _ _ _ fun z => by unfold fS at z; omega).trans y1
      have sa3 : rT I3 r (-1) 1 146 (lv + 1) = iI q := (z1 _ _ _ fun z => by unfold fS at z; omega).trans y2
      have fb : f < 100 := by omega
      have cls : ∀ (V' : x_V) (r' : Nat) (I4 : x_M Int32), r' ≤ n → p < r' → frP (fP lv) I I4 → I4 1 148 lv = iI p → rA (zT Z) I4 (10 + 3 * lv) V' tm' → I4 1602 122 0 = bI tm' → (∀ I' L r1 r2, r' ≤ n → p < r' → frP (fP lv) I I' → ptpost lv p I' → rA (zT Z) I' (9 + 3 * lv) V' tm' → I' 1602 122 0 = bI tm' → x_ag L 0 [some (.ref 122), some (.int (iI lv)), some (.int (iI 1)), none, some (.int (iI 0))] → P 179 (d + 5) 97 L [] (x_hp (rT I' r' (-1)) J R) r1 r2 Q) → ∀ L r1 r2, x_ag L 0 [some (.ref 122), some (.int (iI (lv + 1 : Nat))), some (.int (iI 1))] → P 179 (d + 5) 259 L [] (x_hp (rT I4 r' (-1)) J R) r1 r2 Q := by
        intro V' r' I4 hr' hpr' u1 u2 u3 u4 kk L r1 r2 hL
        refine x_re hP _ hL ?_
        obtain ⟨l', a1, a2, a3⟩ := u3
        first | refine x_aload_n hP rfl rfl ?_ | refine x_aload_nN hP rfl rfl ?_
        refine x_callV0 (ci := 9) hP 0 0 rfl rfl rfl (by first | assumption | rfl) rfl rfl rfl (Nat.zero_le _) (Nat.zero_le _) ?_
        refine r_badO hP ?_
        first | refine zb_if_eq hP rfl (fun c263 => ?_) (fun c263 => ?_) | refine zl_if_eq hP rfl (fun c263 => ?_) (fun c263 => ?_) | refine z_if_eq hP rfl (by omega) (fun c263 => ?_) (fun c263 => ?_)
        rotate_left
        · cases c263
        refine z_iinc hP rfl rfl rfl ?_
        rw [show ((lv + 1 : Nat) : Int) + -1 = (lv : Int) by omega]
        first | refine x_aload_n hP rfl rfl ?_ | refine x_aload_nN hP rfl rfl ?_
        refine x_bipush hP rfl ?_
        refine x_iconst hP rfl ?_
        refine x_iload_n hP rfl rfl ?_
        first | refine z_imul hP rfl ?_ | refine x_imul hP rfl ?_
        first | refine z_iadd hP rfl ?_ | refine x_iadd hP rfl ?_
        rw [show (10 : Int) + 3 * (lv : Int) = ((10 + 3 * lv : Nat) : Int) by omega]
        refine x_bipush hP rfl ?_
        refine x_iconst hP rfl ?_
        refine x_iload_n hP rfl rfl ?_
        first | refine z_imul hP rfl ?_ | refine x_imul hP rfl ?_
        first | refine z_iadd hP rfl ?_ | refine x_iadd hP rfl ?_
        rw [show (9 : Int) + 3 * (lv : Int) = ((9 + 3 * lv : Nat) : Int) by omega]
        refine x_callV2 (ci := 9) hP 0 0 rfl rfl rfl (by first | assumption | rfl) rfl rfl rfl (Nat.zero_le _) (Nat.zero_le _) ?_
        refine r_copy hP hR (by omega) (by omega) (by omega) (rq_rT a1 r' (-1)) (fun I5 v1 v2 => ?_)
        rw [← rT_of v2 fun _ _ _ => rsF_rC]
        refine r_s286 hP (fun L r1 r2 hL => ?_) _ _ _ ⟨rfl, rfl, rfl, trivial⟩
        have F5 := fr_rT v2
        exact kk I5 L r1 r2 hr' hpr' (frP_trans u1 (frP_mono F5 fun k a i z => by unfold rsF rC at z; unfold fP; omega)) ((F5 _ _ _ fun z => by unfold rsF rC at z; omega).trans u2) ⟨l', v1, a2, a3⟩ ((F5 _ _ _ fun z => by unfold rsF rC at z; omega).trans u4) hL
      have bad : ∀ (e q' : Nat) (I4 : x_M Int32), e < 3000 → Q none (x_hp (rT I4 q' e) J R) → ∀ L r1 r2, x_ag L 0 [some (.ref 122)] → P 179 (d + 5) 259 L [] (x_hp (rT I4 q' e) J R) r1 r2 Q := by
        intro e q' I4 hee kk L r1 r2 hL
        refine x_re hP _ hL ?_
        first | refine x_aload_n hP rfl rfl ?_ | refine x_aload_nN hP rfl rfl ?_
        refine x_callV0 (ci := 9) hP 0 0 rfl rfl rfl (by first | assumption | rfl) rfl rfl rfl (Nat.zero_le _) (Nat.zero_le _) ?_
        refine r_badB hP (by omega) ?_
        first | refine zb_if_eq hP rfl (fun c263 => ?_) (fun c263 => ?_) | refine zl_if_eq hP rfl (fun c263 => ?_) (fun c263 => ?_) | refine z_if_eq hP rfl (by omega) (fun c263 => ?_) (fun c263 => ?_)
        · cases c263
        refine x_vret hP rfl rfl ?_
        exact kk
      refine x_iload_n hP rfl rfl ?_
      first | refine zb_if_ne hP rfl (fun c189 => ?_) (fun c189 => ?_) | refine zl_if_ne hP rfl (fun c189 => ?_) (fun c189 => ?_) | refine z_if_ne hP rfl (by omega) (fun c189 => ?_) (fun c189 => ?_)
      rotate_left
      · omega
      first | refine x_aload_n hP rfl rfl ?_ | refine x_aload_nN hP rfl rfl ?_
      refine x_getR hP rfl (by first | assumption | rfl) (by first | assumption | exact hR _ _ _ _ rfl | exact hR1 _ _ _ _ rfl | exact hR2 _ _ _ _ rfl | rfl) ?_
      refine x_iload_n hP rfl rfl ?_
      refine z_iald hP rfl (by first | assumption | rfl) (by first | decide | omega) (by omega) (by first | assumption | exact hR _ _ _ _ rfl | exact hR1 _ _ _ _ rfl | exact hR2 _ _ _ _ rfl | rfl) ?_
      refine x_iconst hP rfl ?_
      first | refine z_icmp_ne hP rfl (by omega) (by omega) (fun c223 => ?_) (fun c223 => ?_) | refine x_icmp_ne hP rfl (fun c223 => ?_) (fun c223 => ?_)
      rotate_left
      · have ff : f = 1 := by omega
        rw [if_pos ff] at k
        first | refine x_aload_n hP rfl rfl ?_ | refine x_aload_nN hP rfl rfl ?_
        refine x_bipush hP rfl ?_
        refine x_callV1 (ci := 9) hP 0 0 rfl rfl rfl (by first | assumption | rfl) rfl rfl rfl (Nat.zero_le _) (Nat.zero_le _) ?_
        refine r_needO hP hR he3.1 hr (by decide) (fun x1 x2 => ?_) (fun x1 => ?_)
        · rw [if_pos x1] at k
          refine x_goto hP rfl ?_
          exact cls V (r + 1) I3 x2 (by omega) F3 pa3 (by rw [show 10 + 3 * lv = 7 + 3 * (lv + 1) by omega]; exact z2) z3 k _ _ _ ⟨rfl, rfl, rfl, trivial⟩
        · rw [if_neg x1] at k
          refine x_goto hP rfl ?_
          exact bad r _ I3 (by omega) (k I3 _ (by omega) (frP_trans h0 G3)) _ _ _ ⟨rfl, trivial⟩
      have ff : ¬ f = 1 := by omega
      rw [if_neg ff] at k
      obtain ⟨f', hf', h12, _⟩ : ∃ f', f = 2 + f' ∧ f' < 12 ∧ fncN (wk c p (rl c n p)) = some f' := by
        rcases o3 with z | z
        · exact absurd z.1 ff
        · exact z.2
      rw [show f - 2 = f' by omega] at k
      obtain ⟨l', a1, a2, a3⟩ := z2
      first | refine x_aload_n hP rfl rfl ?_ | refine x_aload_nN hP rfl rfl ?_
      first | refine x_aload_n hP rfl rfl ?_ | refine x_aload_nN hP rfl rfl ?_
      refine x_getR hP rfl (by first | assumption | rfl) (by first | assumption | exact hR _ _ _ _ rfl | exact hR1 _ _ _ _ rfl | exact hR2 _ _ _ _ rfl | rfl) ?_
      refine x_iload_n hP rfl rfl ?_
      refine z_iald hP rfl (by first | assumption | rfl) (by first | decide | omega) (by omega) (by first | assumption | exact hR _ _ _ _ rfl | exact hR1 _ _ _ _ rfl | exact hR2 _ _ _ _ rfl | rfl) ?_
      refine x_iconst hP rfl ?_
      first | refine z_isub hP rfl ?_ | refine x_isub hP rfl ?_
      rw [show (f : Int) - 2 = ((f' : Nat) : Int) by omega]
      refine x_bipush hP rfl ?_
      refine x_iconst hP rfl ?_
      refine x_iload_n hP rfl rfl ?_
      first | refine z_imul hP rfl ?_ | refine x_imul hP rfl ?_
      first | refine z_iadd hP rfl ?_ | refine x_iadd hP rfl ?_
      rw [show (7 : Int) + 3 * ((lv + 1 : Nat) : Int) = ((7 + 3 * (lv + 1) : Nat) : Int) by omega]
      first | refine x_aload_n hP rfl rfl ?_ | refine x_aload_nN hP rfl rfl ?_
      refine x_getR hP rfl (by first | assumption | rfl) (by first | assumption | exact hR _ _ _ _ rfl | exact hR1 _ _ _ _ rfl | exact hR2 _ _ _ _ rfl | rfl) ?_
      refine x_iload_n hP rfl rfl ?_
      refine z_iald hP rfl (by first | assumption | rfl) (by first | decide | omega) (by omega) (by first | assumption | exact hR _ _ _ _ rfl | exact hR1 _ _ _ _ rfl | exact hR2 _ _ _ _ rfl | rfl) ?_
      refine x_callV3 (ci := 9) hP 0 0 rfl rfl rfl (by first | assumption | rfl) rfl rfl rfl (Nat.zero_le _) (Nat.zero_le _) ?_
      refine r_function (tm := tm') hP hR he3.1 hr (by omega) he3.2.1 he3.2.2.1 he3.2.2.2.1 a1 a2 z3 hq f' h12 ?_
      have l200 : l'.length ≤ 200 := by have := a1.2.2.2.1; rw [List.length_map] at this; exact this
      rcases fnR_two Z c n f' q V.1 l' V.2 r with ⟨e, x1, x2⟩ | ⟨A, r', x1, x2⟩
      · have x2 : fnR Z c n f' q V r = .inl e := x2
        rw [x2] at k
        rw [x1]
        intro q' hee
        exact bad e q' I3 (by omega) (k I3 _ (by omega) (frP_trans h0 G3)) _ _ _ ⟨rfl, trivial⟩
      · have x2 : fnR Z c n f' q V r = .inr (appL Z f' A (V.1, V.2), r') := x2
        rw [x2] at k
        rw [x1]
        dsimp only at k
        intro I4 hr' w1 w2 w3
        have F4 : frP (fP lv) I I4 := frP_trans F3 (frP_mono w3 fun k a i z => sFn_fP hl5 (by rw [show 10 + 3 * lv = 7 + 3 * (lv + 1) by omega]; exact z))
        have fst := appL_fst Z f' A V.1 l' V.2
        have rg : r < r' := fnR_rg c256 hr x1
        refine cls (appL Z f' A (V.1, V.2)) r' I4 hr' (by omega) F4 ((w3 _ _ _ fun z => by unfold sFn rC rsF at z; omega).trans pa3) ⟨(appL Z f' A (V.1, l')).2, ?_, ?_, fun hz => by rw [a3 hz]⟩ w2 k _ _ _ ⟨rfl, rfl, rfl, trivial⟩
        · rw [← fst, show 10 + 3 * lv = 7 + 3 * (lv + 1) by omega]; exact w1
        · rw [← fst]; exact appL_v he.2.1.2.2.2.2.2 a2 l200
    first | refine x_aload_n hP rfl rfl ?_ | refine x_aload_nN hP rfl rfl ?_
    refine x_getR hP rfl (by first | assumption | rfl) (by first | assumption | exact hR _ _ _ _ rfl | exact hR1 _ _ _ _ rfl | exact hR2 _ _ _ _ rfl | rfl) ?_
    refine x_iload_n hP rfl rfl ?_
    refine z_iald hP rfl (by first | assumption | rfl) (by first | decide | omega) (by omega) (by first | assumption | exact hR _ _ _ _ rfl | exact hR1 _ _ _ _ rfl | exact hR2 _ _ _ _ rfl | rfl) ?_
    refine x_bipush hP rfl ?_
    first | refine z_icmp_ne hP rfl (by omega) (by omega) (fun c50 => ?_) (fun c50 => ?_) | refine x_icmp_ne hP rfl (fun c50 => ?_) (fun c50 => ?_)
    · rcases o3 with z | z
      · omega
      · obtain ⟨f', hf', h12, hfn⟩ := z.2
        refine x_iconst hP rfl ?_
        first | refine x_aload_n hP rfl rfl ?_ | refine x_aload_nN hP rfl rfl ?_
        refine x_iload_n hP rfl rfl ?_
        refine x_callV1 (ci := 9) hP 0 0 rfl rfl rfl (by first | assumption | rfl) rfl rfl rfl (Nat.zero_le _) (Nat.zero_le _) ?_
        refine r_functionAt hP hR (txB_n he1.1 (rT_fr I1 q (-1)) fun k a i z => by unfold rC at z; omega) hp ?_
        rw [hfn]
        show P _ _ _ _ (Value.int (iI (f' : Nat)) :: _) _ _ _ _
        first | refine z_iadd hP rfl ?_ | refine x_iadd hP rfl ?_
        refine x_istore hP rfl ?_
        exact rest _ _ _ ⟨rfl, rfl, rfl, congrArg (fun q : Int => some (Value.int (iI q))) (show (2 : Int) + (f' : Int) = (f : Int) by omega), trivial⟩
    · rcases o3 with z | z
      · refine x_iconst hP rfl ?_
        refine x_goto hP rfl ?_
        refine x_istore hP rfl ?_
        exact rest _ _ _ ⟨rfl, rfl, rfl, congrArg (fun q : Int => some (Value.int (iI q))) (show (1 : Int) = (f : Int) by omega), trivial⟩
      · omega
end
