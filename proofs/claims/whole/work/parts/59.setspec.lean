/-! a SET's meaning: how a text of sets is read -/
abbrev x_V := List Nat × List Nat
abbrev x_Z := x_T × (Nat → Nat → Nat → Int) × (Nat → x_V)
def zT (Z : x_Z) : x_T := Z.1
def zN (Z : x_Z) : Nat → Nat → Nat → Int := Z.2.1
def zK (Z : x_Z) : Nat → x_V := Z.2.2
abbrev x_AR := Int × Nat × Int × Nat
abbrev x_RS := Nat ⊕ ((x_V × Bool) × Nat)
/-- what stands behind the SET of a FUNCTION -/
def thg (f : Nat) : List Nat := match f with
  | 0 => [78]
  | 1 => [78]
  | 2 => [77]
  | 3 => [77, 73]
  | 4 => [77, 73]
  | 5 => [77]
  | 6 => [77]
  | 7 => [78, 77]
  | 8 => [78, 77]
  | 9 => []
  | 10 => []
  | _ => [65]
def oneF (f : Nat) : Bool := decide (f = 9 ∨ f = 11)
section
variable (Z : x_Z) (c : Nat → Nat) (n : Nat)
def actR (p : Nat) : Nat ⊕ (Nat × Nat) := match actN (wdV c n p) with
  | none => .inl p
  | some a => .inr (a, p + rl c n p)
def tg1 (x : Nat) (A : x_AR) (p : Nat) : Nat ⊕ (x_AR × Nat) :=
  if x = 78 then (match numR c n p with | .inl e => .inl e | .inr (v, q) => .inr ((v, A.2.1, A.2.2.1, A.2.2.2), q))
  else if x = 77 then (match mrkR (zT Z) c n p with | .inl e => .inl e | .inr (v, q) => .inr ((A.1, v, A.2.2.1, A.2.2.2), q))
  else if x = 73 then (match intR c n p with | .inl e => .inl e | .inr (v, q) => .inr ((A.1, A.2.1, v, A.2.2.2), q))
  else (match actR c n p with | .inl e => .inl e | .inr (v, q) => .inr ((A.1, A.2.1, A.2.2.1, v), q))
def thgR : List Nat → x_AR → Nat → Nat ⊕ (x_AR × Nat)
  | [], A, p => .inr (A, p)
  | x :: xs, A, p => if ch c n p = 44 then (match tg1 Z c n x A (p + 1) with | .inl e => .inl e | .inr (A', q) => thgR xs A' q) else .inl p
end
def ksF (f : Nat) (v : Nat → Int) (b : Int) (x : Nat) : Bool := decide (¬ v x = -2000000000 ∧ ¬ (f = 3 ∧ v x ≤ b) ∧ ¬ (f = 4 ∧ b ≤ v x))
/-- the MEMBERS that an ACT of a row finds -/
def eaL (p : Nat → Int) (s : Nat) (H : Nat → Nat) (a e : Nat) (l : List Nat) : List Nat := adds [] (l.flatMap fun x => actL p s H a (pt x e))
/-- what a FUNCTION makes of a SET -/
def appL (Z : x_Z) (f : Nat) (A : x_AR) (V : x_V) : x_V :=
  match f with
  | 0 => (V.1, V.2.take A.1.toNat)
  | 1 => (V.1, V.2.drop (V.2.length - A.1.toNat))
  | 2 => (V.1, V.2.filter (ksF 2 (shw (zN Z) A.2.1 V.1) A.2.2.1))
  | 3 => (V.1, V.2.filter (ksF 3 (shw (zN Z) A.2.1 V.1) A.2.2.1))
  | 4 => (V.1, V.2.filter (ksF 4 (shw (zN Z) A.2.1 V.1) A.2.2.1))
  | 5 => (V.1, sortL (shw (zN Z) A.2.1 V.1) false V.2)
  | 6 => (V.1, sortL (shw (zN Z) A.2.1 V.1) true V.2)
  | 7 => (V.1, (sortL (shw (zN Z) A.2.1 V.1) true V.2).take (min A.1.toNat (shn (shw (zN Z) A.2.1 V.1) V.2).length))
  | 8 => (V.1, (sortL (shw (zN Z) A.2.1 V.1) false V.2).take (min A.1.toNat (shn (shw (zN Z) A.2.1 V.1) V.2).length))
  | 9 => ([V.1.getD 0 0], wkL (tP (zT Z) (V.1.getD 0 0)) (tS (zT Z) (V.1.getD 0 0)) (V.1.getD 0 0) V.2)
  | 10 => (V.1, rev V.2)
  | _ => ([V.1.getD 0 0], (eaL (tP (zT Z) (V.1.getD 0 0)) (tS (zT Z) (V.1.getD 0 0)) (tH (zT Z) (V.1.getD 0 0)) A.2.2.2 (V.1.getD 0 0) V.2).map (tp (V.1.getD 0 0)))
section
variable (Z : x_Z) (c : Nat → Nat) (n : Nat)
def mbrR (e k : Nat) (tm : Bool) (q : Nat) : x_RS := if ch c n q = 46 then (match actR c n (q + 1) with | .inl x => .inl x | .inr (a, r) => .inr (((([e], (adds [] (actL (tP (zT Z) e) (tS (zT Z) e) (tH (zT Z) e) a k)).map (tp e)) : x_V), tm), r)) else .inr ((([e], [tp e k]), tm), q)
def fncR (sub : Nat → Bool → x_RS) (f : Nat) (tm : Bool) (q : Nat) : x_RS := if ch c n q = 40 then (match sub (q + 1) tm with
  | .inl e => .inl e
  | .inr ((V, tm'), r) => if oneF f = true ∧ ¬ V.1.length = 1 then .inl (q + 1) else (match thgR Z c n (thg f) (0, 0, 0, 0) r with
    | .inl e => .inl e
    | .inr (A, r2) => if ch c n r2 = 41 then .inr ((appL Z f A V, tm'), r2 + 1) else .inl r2)) else .inl q
def namdR (sub : Option (Nat → Bool → x_RS)) (p : Nat) (tm : Bool) : x_RS := match namR c n p with
  | .inl e => .inl e
  | .inr (v, q) => (match fncN v, fMem (zT Z) v with
    | some f, none => (match sub with | none => .inl p | some g => fncR Z c n g f tm q)
    | some f, some (e, k) => if ch c n q = 40 then (match sub with | none => .inl p | some g => fncR Z c n g f tm q) else mbrR Z c n e k tm q
    | none, none => .inl p
    | none, some (e, k) => mbrR Z c n e k tm q)
def brcR (sub : Option (Nat → Bool → x_RS)) (p : Nat) (tm : Bool) : x_RS := match sub with
  | none => .inl p
  | some g => (match g (p + 1) tm with
    | .inl e => .inl e
    | .inr ((V, tm'), q) => if ch c n q = 125 then .inr ((V, tm'), q + 1) else .inl q)
def kptR (p : Nat) (tm : Bool) : x_RS := if ch c n (p + 1) < 48 ∨ 54 ≤ ch c n (p + 1) then .inl (p + 1) else if (zK Z (ch c n (p + 1) - 48).toNat).1 = [] then .inl p else .inr ((zK Z (ch c n (p + 1) - 48).toNat, tm), p + 2)
def prtR (sub : Option (Nat → Bool → x_RS)) (p : Nat) (tm : Bool) : x_RS := if ch c n p = 35 then kptR Z c n p tm else if ch c n p = 123 then brcR c n sub p tm else namdR Z c n sub p tm
def itmL (part : Nat → Bool → x_RS) : Nat → x_V → Bool → Nat → x_RS
  | 0, V, tm, p => .inr ((V, tm), p)
  | f + 1, V, tm, p => if ch c n p = 42 then (match part (p + 1) tm with
    | .inl e => .inl e
    | .inr ((W, tm'), q) => if (W.1.any fun y => hasI y V.1) = true then .inl (p + 1) else itmL part f (V.1 ++ W.1, prd V.2 W.2) (tm' || decide (200 < V.2.length * W.2.length)) q) else .inr ((V, tm), p)
def itmR (part : Nat → Bool → x_RS) (p : Nat) (tm : Bool) : x_RS := match part p tm with
  | .inl e => .inl e
  | .inr ((V, tm'), q) => itmL c n part 2000 V tm' q
def setL (item : Nat → Bool → x_RS) : Nat → x_V → Bool → Nat → x_RS
  | 0, V, tm, p => .inr ((V, tm), p)
  | f + 1, V, tm, p => if isSg (ch c n p) = true then (match item (p + 1) tm with
    | .inl e => .inl e
    | .inr ((W, tm'), q) => if V.1 = W.1 then setL item f (V.1, joinL (ch c n p) V.2 W.2) (tm' || decide (200 < (joinL (ch c n p) V.2 W.2).length)) q else .inl (p + 1)) else .inr ((V, tm), p)
def stR (item : Nat → Bool → x_RS) (p : Nat) (tm : Bool) : x_RS := match item p tm with
  | .inl e => .inl e
  | .inr ((V, tm'), q) => setL c n item 2000 V tm' q
/-- a SET within g levels of { and FUNCTIONS -/
def levR : Nat → Nat → Bool → x_RS
  | 0 => stR c n (itmR c n (prtR Z c n none))
  | g + 1 => stR c n (itmR c n (prtR Z c n (some (levR g))))
end
/-! what every row of TUPLES keeps -/
def vt (T : x_T) (o : List Nat) (x : Nat) : Prop := x < 1048576 ∧ (∀ e ∈ o, pt x e < tS T e) ∧ ∀ e, e < 4 → ¬ e ∈ o → pt x e = 0
def vO (T : x_T) (o : List Nat) : Prop := ¬ o = [] ∧ o.Nodup ∧ ∀ e ∈ o, e < tD T
def vV (T : x_T) (V : x_V) : Prop := vO T V.1 ∧ ∀ x ∈ V.2, vt T V.1 x
theorem vV_sub {T : x_T} {o l l' : List Nat} (h : vV T (o, l)) (hs : ∀ x ∈ l', x ∈ l) : vV T (o, l') := ⟨h.1, fun x hx => h.2 x (hs x hx)⟩
theorem nd_len {m : Nat} : ∀ (l : List Nat), l.Nodup → (∀ x ∈ l, x < m) → l.length ≤ sumS (fun k => if k ∈ l then 1 else 0) m
  | [], _, _ => Nat.zero_le _
  | a :: l, hn, hm => by
    have ⟨h1, h2⟩ := List.nodup_cons.mp hn
    have ih := nd_len l h2 fun x hx => hm x (List.mem_cons_of_mem _ hx)
    have e : sumS (fun k => if k ∈ a :: l then 1 else 0) m = sumS (fun k => (if k = a then 1 else 0) + (if k ∈ l then 1 else 0)) m := sumS_congr m fun k _ => by
      by_cases q : k = a
      · rw [if_pos q, if_pos (by rw [q]; exact List.mem_cons_self), if_neg (by rw [q]; exact h1)]
      · by_cases w : k ∈ l
        · rw [if_pos (List.mem_cons_of_mem _ w), if_neg q, if_pos w]
        · rw [if_neg (fun u => by rcases List.mem_cons.mp u with u | u; exact q u; exact w u), if_neg q, if_neg w]
    rw [e, sumS_add, sumS_one, if_pos (hm a List.mem_cons_self), List.length_cons]
    omega
theorem nd_le {m : Nat} {l : List Nat} (hn : l.Nodup) (hm : ∀ x ∈ l, x < m) : l.length ≤ m := by
  refine Nat.le_trans (nd_len l hn hm) (Nat.le_trans (sumS_mono (g := fun _ => 1) m fun k _ => by split <;> omega) ?_)
  have := sumS_ltn m m (Nat.le_refl _)
  rw [sumS_congr m (g := fun q => if q < m then 1 else 0) (fun j hj => (if_pos hj).symm), this]
  exact Nat.le_refl _
theorem vt_one {T : x_T} {e k : Nat} (he : e < 4) (hk : k < tS T e) (hs : tS T e ≤ 30) : vt T [e] (tp e k) := by
  refine ⟨tp_lt he (by omega), fun e' h => ?_, fun e' h1 h2 => ?_⟩
  · rw [List.mem_singleton.mp h, pt_tp he (by omega)]; exact hk
  · exact pt_tp_ne he h1 (by omega) fun q => h2 (List.mem_singleton.mpr q.symm)
theorem vO_one {T : x_T} {e : Nat} (he : e < tD T) : vO T [e] := ⟨List.cons_ne_nil _ _, List.nodup_cons.mpr ⟨List.not_mem_nil, List.nodup_nil⟩, fun x hx => by rw [List.mem_singleton.mp hx]; exact he⟩
theorem vV_one {T : x_T} {e : Nat} {fd : List Nat} (hw : twf T) (he : e < tD T) (hf : ∀ k ∈ fd, k < tS T e) : vV T ([e], fd.map (tp e)) := by
  refine ⟨vO_one he, fun x hx => ?_⟩
  obtain ⟨k, h1, rfl⟩ := List.mem_map.mp hx
  have := hw.2.2 e he
  have w1 := hw.1
  exact vt_one (by omega) (hf k h1) this.2.1
theorem shr_dj {o o2 : List Nat} (h : ¬ (o2.any fun y => hasI y o) = true) : ∀ e ∈ o, ¬ e ∈ o2 := fun e h1 h2 => h (List.any_eq_true.mpr ⟨e, h2, by unfold hasI; exact List.any_eq_true.mpr ⟨e, h1, decide_eq_true rfl⟩⟩)
theorem vO_app {T : x_T} {o o2 : List Nat} (h : vO T o) (h2 : vO T o2) (hd : ∀ e ∈ o, ¬ e ∈ o2) : vO T (o ++ o2) := by
  refine ⟨fun q => h.1 (List.append_eq_nil_iff.mp q).1, List.nodup_append.mpr ⟨h.2.1, h2.2.1, fun a ha b hb e => hd a ha (by rw [e]; exact hb)⟩, fun e he => ?_⟩
  rcases List.mem_append.mp he with q | q
  · exact h.2.2 e q
  · exact h2.2.2 e q
theorem vt_or {T : x_T} {o o2 : List Nat} {x y : Nat} (ho : ∀ e ∈ o, e < 4) (ho2 : ∀ e ∈ o2, e < 4) (hx : vt T o x) (hy : vt T o2 y) (hd : ∀ e ∈ o, ¬ e ∈ o2) : vt T (o ++ o2) (x ||| y) := by
  refine ⟨Nat.or_lt_two_pow (n := 20) hx.1 hy.1, fun e he => ?_, fun e h4 he => ?_⟩
  · rw [pt_or]
    rcases List.mem_append.mp he with q | q
    · rw [hy.2.2 e (ho e q) (hd e q), Nat.or_zero]; exact hx.2.1 e q
    · rw [hx.2.2 e (ho2 e q) (fun w => hd e w q), Nat.zero_or]; exact hy.2.1 e q
  · rw [pt_or, hx.2.2 e h4 (fun q => he (List.mem_append_left _ q)), hy.2.2 e h4 (fun q => he (List.mem_append_right _ q)), Nat.or_zero]
theorem vO_lt {T : x_T} {o : List Nat} (hw : twf T) (h : vO T o) : ∀ e ∈ o, e < 4 := fun e he => by have := h.2.2 e he; have := hw.1; omega
theorem vO_len {T : x_T} {o : List Nat} (hw : twf T) (h : vO T o) : o.length ≤ 4 := nd_le h.2.1 (vO_lt hw h)
theorem vV_mul {T : x_T} {o o2 l l2 : List Nat} (hw : twf T) (h : vV T (o, l)) (h2 : vV T (o2, l2)) (hd : ¬ (o2.any fun y => hasI y o) = true) : vV T (o ++ o2, prd l l2) := by
  refine ⟨vO_app h.1 h2.1 (shr_dj hd), fun x hx => ?_⟩
  unfold prd at hx
  obtain ⟨q, q1, rfl⟩ := mk_mem.mp hx
  have l0 : 0 < l2.length := by
    rcases Nat.eq_zero_or_pos l2.length with z | z
    · rw [z] at q1; omega
    · exact z
  exact vt_or (vO_lt hw h.1) (vO_lt hw h2.1) (h.2 _ (getD_mem (Nat.div_lt_of_lt_mul (by rw [Nat.mul_comm]; exact q1)))) (h2.2 _ (getD_mem (Nat.mod_lt _ l0))) (shr_dj hd)
theorem flt_me {w : Bool} {l l2 : List Nat} {x : Nat} (h : x ∈ flt w l2 l) : x ∈ l := (List.mem_filter.mp h).1
theorem joinL_mem {sg : Int} {l l2 : List Nat} {x : Nat} (h : x ∈ joinL sg l l2) : x ∈ l ∨ x ∈ l2 := by
  unfold joinL at h
  split at h
  · rcases List.mem_append.mp h with q | q
    · exact Or.inl q
    · exact Or.inr (flt_me q)
  · split at h
    · exact Or.inl (flt_me h)
    · split at h
      · exact Or.inl (flt_me h)
      · rcases List.mem_append.mp h with q | q
        · exact Or.inl (flt_me q)
        · exact Or.inr (flt_me q)
theorem vV_join {T : x_T} {o l l2 l' : List Nat} {sg : Int} (h : vV T (o, l)) (h2 : vV T (o, l2)) (hs : ∀ x ∈ l', x ∈ joinL sg l l2) : vV T (o, l') := ⟨h.1, fun x hx => by rcases joinL_mem (hs x hx) with q | q; exact h.2 x q; exact h2.2 x q⟩
theorem adL_mem {fd : List Nat} {k j : Nat} (h : j ∈ adL fd k) : j ∈ fd ∨ j = k := by
  unfold adL at h
  split at h
  · exact Or.inl h
  · rcases List.mem_append.mp h with q | q
    · exact Or.inl q
    · exact Or.inr (List.mem_singleton.mp q)
theorem adds_mem {j : Nat} : ∀ {ks fd : List Nat}, j ∈ adds fd ks → j ∈ fd ∨ j ∈ ks
  | [], fd, h => Or.inl h
  | k :: ks, fd, h => by
    rcases adds_mem (ks := ks) (fd := adL fd k) h with q | q
    · rcases adL_mem q with q | q
      · exact Or.inl q
      · exact Or.inr (by rw [q]; exact List.mem_cons_self)
    · exact Or.inr (List.mem_cons_of_mem _ q)
theorem rfi_mem {cd : Nat → Bool} {i j : Nat} (h : j ∈ rfi cd i) : j < i := List.mem_range.mp (List.mem_filter.mp h).1
theorem wl_mem {p : Nat → Int} {s F m j : Nat} (hw : wfp p s) (hF : F + m ≤ s) (h : j ∈ wl p s F m) : j < s := by
  unfold wl at h
  obtain ⟨q, q1, rfl⟩ := mk_mem.mp h
  exact (orr_ok hw (by omega)).1
theorem pth_mem {p : Nat → Int} {s : Nat} (hw : wfp p s) {j : Nat} : ∀ (f : Nat) (x : Int), x < s → j ∈ pth p f x → j < s
  | 0, _, _, h => absurd h List.not_mem_nil
  | f + 1, x, hx, h => by
    unfold pth at h
    split at h
    · exact absurd h List.not_mem_nil
    · next q =>
      rcases List.mem_cons.mp h with z | z
      · omega
      · have := wfp_rg hw (i := x.toNat) (by omega)
        exact pth_mem hw f _ (by omega) z
theorem actL_mem {p : Nat → Int} {s k a j : Nat} {H : Nat → Nat} (hw : wfp p s) (hk : k < s) (h : j ∈ actL p s H a k) : j < s := by
  have pr := wfp_rg hw hk
  have r1 := rk_lt hw hk
  unfold actL at h
  split at h
  · exact rfi_mem h
  · exact wl_mem hw r1 (List.mem_filter.mp h).1
  · exact wl_mem hw r1 (List.mem_filter.mp h).1
  · split at h
    · exact absurd h List.not_mem_nil
    · rw [List.mem_singleton.mp h]; omega
  · exact pth_mem hw 7 _ (by omega) h
  · exact rfi_mem h
  · split at h
    · exact absurd h List.not_mem_nil
    · have := nxS_rg (p := p) (x := p k) (s - (k + 1)) (k + 1)
      rw [List.mem_singleton.mp h]; omega
  · split at h
    · exact absurd h List.not_mem_nil
    · have := bkS_rg (p := p) (x := p k) k
      rw [List.mem_singleton.mp h]; omega
  · exact rfi_mem h
theorem srtL_mem {K : Nat → Int} {L : List Nat} {x : Nat} (hi : ∀ i j, i < L.length → j < L.length → K i = K j → i = j) (hx : x ∈ srtL K L) : x ∈ L := by
  unfold srtL at hx
  obtain ⟨i, h1, rfl⟩ := mk_mem.mp hx
  obtain ⟨j, h3, h4⟩ := inj_surj (g := fun j => ltc K 0 L.length (K j)) (fun j hj => by
    have a1 := ltc_eqc K (K j) L.length
    have a2 := eqc_pos (A := K) hj
    have a3 : ltc K 0 L.length (K j + 1) ≤ L.length := by
      have := sumS_mono (f := fun q => if 0 ≤ q ∧ K q < K j + 1 then 1 else 0) (g := fun _ => 1) L.length (fun q _ => by split <;> omega)
      have e2 := sumS_ltn L.length L.length (Nat.le_refl _)
      rw [sumS_congr L.length (f := fun _ => 1) (g := fun q => if q < L.length then 1 else 0) (fun j hj => (if_pos hj).symm), e2] at this
      exact this
    show ltc K 0 L.length (K j) < L.length
    omega) (fun i j hi' hj e => rank_inj hi hi' hj e) h1
  rw [ixK_eq hi h3 h4]
  exact getD_mem h3
theorem sortL_mem {v : Nat → Int} {fl : Bool} {l : List Nat} {x : Nat} (hl : l.length ≤ 200) (h : x ∈ sortL v fl l) : x ∈ l := by
  unfold sortL at h
  rcases List.mem_append.mp h with q | q
  · exact (List.mem_filter.mp (srtL_mem (kyF_inj (Nat.le_trans (List.length_filter_le _ _) hl)) q)).1
  · exact (List.mem_filter.mp q).1
theorem rev_mem {l : List Nat} {x : Nat} (h : x ∈ rev l) : x ∈ l := by
  unfold rev at h
  obtain ⟨i, h1, rfl⟩ := mk_mem.mp h
  exact getD_mem (by omega)
theorem twf_wfp' {T : x_T} {e : Nat} (hw : twf T) (he : e < tD T) : wfp (tP T e) (tS T e) := twf_wfp hw he
theorem getD0_mem {o : List Nat} (h : ¬ o = []) : o.getD 0 0 ∈ o := by
  cases o with
  | nil => exact absurd rfl h
  | cons a o => exact List.mem_cons_self
theorem appL_v {Z : x_Z} {f : Nat} {A : x_AR} {V : x_V} (hw : twf (zT Z)) (h : vV (zT Z) V) (hl : V.2.length ≤ 200) : vV (zT Z) (appL Z f A V) := by
  obtain ⟨o, l⟩ := V
  have e0 := getD0_mem h.1.1
  have e1 := h.1.2.2 _ e0
  unfold appL
  split
  · exact vV_sub h fun x hx => List.mem_of_mem_take hx
  · exact vV_sub h fun x hx => List.mem_of_mem_drop hx
  · exact vV_sub h fun x hx => (List.mem_filter.mp hx).1
  · exact vV_sub h fun x hx => (List.mem_filter.mp hx).1
  · exact vV_sub h fun x hx => (List.mem_filter.mp hx).1
  · exact vV_sub h fun x hx => sortL_mem hl hx
  · exact vV_sub h fun x hx => sortL_mem hl hx
  · exact vV_sub h fun x hx => sortL_mem hl (List.mem_of_mem_take hx)
  · exact vV_sub h fun x hx => sortL_mem hl (List.mem_of_mem_take hx)
  · refine vV_one hw e1 fun k hk => ?_
    rcases adds_mem hk with q | q
    · exact absurd q List.not_mem_nil
    · exact wl_mem (twf_wfp hw e1) (by omega) (List.mem_filter.mp q).1
  · exact vV_sub h fun x hx => rev_mem hx
  · refine vV_one hw e1 fun k hk => ?_
    unfold eaL at hk
    rcases adds_mem hk with q | q
    · exact absurd q List.not_mem_nil
    · obtain ⟨x, x1, x2⟩ := List.mem_flatMap.mp q
      exact actL_mem (twf_wfp hw e1) ((h.2 x x1).2.1 _ e0) x2
