/-! reference against class: acts, lists -/
theorem rfE_1 (e x : Nat) : rfE [e] x = pt x e := by show pt x e + 32 * 0 = pt x e; omega
theorem mk_id (s : Nat) : mk s (fun i => i) = List.range s := by unfold mk; rw [show (fun i : Nat => i) = id from rfl, List.map_id]
theorem mk_add (a : Nat) (f : Nat → Nat) : ∀ b, mk (a + b) f = mk a f ++ mk b (fun i => f (a + i))
  | 0 => by rw [show mk 0 (fun i => f (a + i)) = [] from rfl, List.append_nil]; rfl
  | b + 1 => by rw [show a + (b + 1) = a + b + 1 from rfl, mk_snoc, mk_snoc, mk_add a f b, List.append_assoc]
theorem mk_flt_none {n : Nat} {f : Nat → Nat} {g : Nat → Bool} (h : ∀ i, i < n → g (f i) = false) : (mk n f).filter g = [] := List.filter_eq_nil_iff.mpr fun x hx => by
  obtain ⟨i, h1, rfl⟩ := mk_mem.mp hx
  rw [h i h1]; decide
theorem flt_cg {l : List Nat} {f g : Nat → Bool} (h : ∀ x ∈ l, f x = g x) : l.filter f = l.filter g := List.filter_congr h
theorem rfi_one {x : Int} : ∀ s : Nat, rfi (fun j => decide ((j : Int) = x)) s = if 0 ≤ x ∧ x < s then [x.toNat] else []
  | 0 => by rw [if_neg (by omega)]; rfl
  | s + 1 => by
    rw [rfi_s, rfi_one s]
    by_cases q : (s : Int) = x
    · rw [if_neg (by omega), decide_eq_true q, if_pos rfl, if_pos (by omega), show x.toNat = s by omega]; rfl
    · rw [decide_eq_false q, if_neg (show ¬ false = true by decide), List.append_nil]
      by_cases q2 : 0 ≤ x ∧ x < s
      · rw [if_pos q2, if_pos (by omega)]
      · rw [if_neg q2, if_neg (by omega)]
theorem nxS_p {p : Nat → Int} {x : Int} : ∀ f j, 0 ≤ nxS p x f j → p (nxS p x f j).toNat = x
  | 0, j, h => by unfold nxS at h; omega
  | f + 1, j, h => by
    unfold nxS at h ⊢
    by_cases q : p j = x
    · rw [if_pos q, Int.toNat_natCast]; exact q
    · rw [if_neg q] at h ⊢; exact nxS_p f (j + 1) h
theorem bkS_p {p : Nat → Int} {x : Int} : ∀ j, 0 ≤ bkS p x j → p (bkS p x j).toNat = x
  | 0, h => by unfold bkS at h; omega
  | j + 1, h => by
    unfold bkS at h ⊢
    by_cases q : p j = x
    · rw [if_pos q, Int.toNat_natCast]; exact q
    · rw [if_neg q] at h ⊢; exact bkS_p j h
def dpt (p : Nat → Int) (s : Nat) (H : Nat → Nat) : Prop := H 0 = 0 ∧ ∀ k, k < s → H k ≤ 6 ∧ (0 < k → H k = H (p k).toNat + 1)
theorem dpt_of {T : x_T} {e : Nat} (hw : twf T) (he : e < tD T) : dpt (tP T e) (tS T e) (tH T e) := ⟨(hw.2.2 e he).2.2.2.1, fun k hk => ⟨((hw.2.2 e he).2.2.2.2 k hk).1, fun h0 => (((hw.2.2 e he).2.2.2.2 k hk).2 h0).2.2⟩⟩
theorem dpt_le {p : Nat → Int} {s : Nat} {H : Nat → Nat} (hw : wfp p s) (hd : dpt p s H) : ∀ k, k < s → H k ≤ k := by
  intro k
  induction k using Nat.strongRecOn with
  | _ k ih =>
    intro hk
    rcases Nat.eq_zero_or_pos k with z | z
    · rw [z, hd.1]; exact Nat.le_refl _
    · have := hw.2 k z hk
      have := ih (p k).toNat (by omega) (by omega)
      have := (hd.2 k hk).2 z
      omega
theorem pth_st {p : Nat → Int} {s : Nat} {H : Nat → Nat} (hw : wfp p s) (hd : dpt p s H) : ∀ (f g y : Nat), y < s → H y < f → H y < g → pth p f y = pth p g y
  | 0, _, _, _, h, _ => absurd h (Nat.not_lt_zero _)
  | _ + 1, 0, _, _, _, h => absurd h (Nat.not_lt_zero _)
  | f + 1, g + 1, y, hy, h1, h2 => by
    unfold pth
    rw [if_neg (by omega), if_neg (by omega), Int.toNat_natCast]
    rcases Nat.eq_zero_or_pos y with z | z
    · have e : ∀ q, pth p q (p y) = [] := fun q => by
        rw [z, hw.1]
        cases q with
        | zero => rfl
        | succ q => unfold pth; rw [if_pos (by omega)]
      rw [e, e]
    · have a := hw.2 y z hy
      have b := (hd.2 y hy).2 z
      have := pth_st hw hd f g (p y).toNat (by omega) (by omega) (by omega)
      rw [show ((p y).toNat : Int) = p y by omega] at this
      rw [this]
theorem kin_eq {p : Nat → Int} {s k : Nat} (hw : wfp p s) (hk : k < s) {j : Nat} (hj : j < s) : kinB p k j = decide (p j = p k) := by
  unfold kinB
  refine decide_eq_decide.mpr ⟨fun z => ?_, fun z => ?_⟩
  · rcases z with z | z
    · exact z.2
    · rw [z.2]
  · by_cases q : p k = -1
    · have a := wfp_root hw hk q
      have b := wfp_root hw hj (z.trans q)
      exact Or.inr ⟨q, by omega⟩
    · exact Or.inl ⟨q, z⟩
theorem refL_eq {p : Nat → Int} {s : Nat} {H : Nat → Nat} {a k : Nat} (hw : wfp p s) (hd : dpt p s H) (hk : k < s) (ha : a < 9) : refL p s H a k = actL p s H a k := by
  have r1 := rk_lt hw hk
  have id1 : ∀ a, ¬ (a = 1 ∨ a = 2) → mk s (jOf p s a) = List.range s := fun a h => by rw [show jOf p s a = fun i => i from funext fun i => if_neg h, mk_id]
  have win : mk s (jOf p s 1) = wl p s 0 (rk p s k) ++ (wl p s (rk p s k) (spn p s k) ++ wl p s (rk p s k + spn p s k) (s - (rk p s k + spn p s k))) := by
    have e : s = rk p s k + (spn p s k + (s - (rk p s k + spn p s k))) := by omega
    unfold wl
    rw [show jOf p s 1 = fun i => orr p s i from funext fun i => if_pos (Or.inl rfl)]
    conv => lhs; rw [e]
    rw [mk_add, mk_add]
    refine congr (congrArg _ ?_) (congr (congrArg _ ?_) ?_)
    · unfold mk; exact List.map_congr_left fun i _ => by rw [← e, Nat.zero_add]
    · unfold mk; exact List.map_congr_left fun i _ => by rw [← e]
    · unfold mk; exact List.map_congr_left fun i _ => by rw [← e, Nat.add_assoc]
  have win2 : mk s (jOf p s 2) = mk s (jOf p s 1) := by
    rw [show jOf p s 2 = jOf p s 1 from funext fun i => by unfold jOf; rw [if_pos (Or.inr rfl), if_pos (Or.inl rfl)]]
  have out1 : ∀ g : Nat → Bool, (∀ j, j < s → rk p s j < rk p s k → g j = false) → (wl p s 0 (rk p s k)).filter g = [] := fun g hg => mk_flt_none fun i hi => by
    have := orr_ok hw (show 0 + i < s by omega)
    exact hg _ this.1 (by omega)
  have out2 : ∀ g : Nat → Bool, (∀ j, j < s → rk p s k + spn p s k ≤ rk p s j → g j = false) → (wl p s (rk p s k + spn p s k) (s - (rk p s k + spn p s k))).filter g = [] := fun g hg => mk_flt_none fun i hi => by
    have := orr_ok hw (show rk p s k + spn p s k + i < s by omega)
    exact hg _ this.1 (by omega)
  have inn : ∀ j ∈ wl p s (rk p s k) (spn p s k), j < s ∧ rk p s k ≤ rk p s j ∧ rk p s j < rk p s k + spn p s k := fun j hj => by
    obtain ⟨i, i1, rfl⟩ := mk_mem.mp hj
    have := orr_ok hw (show rk p s k + i < s by omega)
    exact ⟨this.1, by omega, by omega⟩
  unfold refL
  match a, ha with
  | 0, _ => rw [if_neg (by decide), id1 0 (by decide)]; rfl
  | 1, _ =>
    rw [if_neg (by decide), win, List.filter_append, List.filter_append, out1 (isB p s H 1 k) (fun j _ h => by unfold isB; exact decide_eq_false (by omega)), out2 (isB p s H 1 k) (fun j _ h => by unfold isB; exact decide_eq_false (by omega)), List.nil_append, List.append_nil]
    show _ = (wl p s (rk p s k) (spn p s k)).filter (lf0 p s false)
    exact flt_cg fun j hj => by
      have := inn j hj
      show decide _ = (!false || _)
      rw [decide_eq_true (by omega)]; rfl
  | 2, _ =>
    rw [if_neg (by decide), win2, win, List.filter_append, List.filter_append, out1 (isB p s H 2 k) (fun j _ h => by unfold isB; exact decide_eq_false (by omega)), out2 (isB p s H 2 k) (fun j _ h => by unfold isB; exact decide_eq_false (by omega)), List.nil_append, List.append_nil]
    show _ = (wl p s (rk p s k) (spn p s k)).filter (lf0 p s true)
    exact flt_cg fun j hj => by
      have := inn j hj
      show decide _ = (!true || decide (kdn p s j = 0))
      rw [show (!true || decide (kdn p s j = 0)) = decide (kdn p s j = 0) from rfl]
      refine decide_eq_decide.mpr ⟨fun z => (spn_1 hw this.1).mp z.2.2, fun z => ⟨this.2.1, this.2.2, (spn_1 hw this.1).mpr z⟩⟩
  | 3, _ =>
    rw [if_neg (by decide), id1 3 (by decide)]
    show rfi (fun j => decide ((j : Int) = p k)) s = if p k < 0 then [] else [(p k).toNat]
    have := wfp_rg hw hk
    rw [rfi_one]
    by_cases q : p k < 0
    · rw [if_pos q, if_neg (by omega)]
    · rw [if_neg q, if_pos (by omega)]
  | 4, _ =>
    rw [if_pos rfl]
    have := dpt_le hw hd k hk
    have := (hd.2 k hk).1
    exact pth_st hw hd (k + 1) 7 k hk (by omega) (by omega)
  | 5, _ =>
    rw [if_neg (by decide), id1 5 (by decide)]
    exact flt_cg fun j hj => kin_eq hw hk (List.mem_range.mp hj)
  | 6, _ =>
    rw [if_neg (by decide), id1 6 (by decide)]
    show rfi (fun j => kinB p k j && decide ((j : Int) = nxS p (p k) (s - (k + 1)) (k + 1))) s = _
    have e : rfi (fun j => kinB p k j && decide ((j : Int) = nxS p (p k) (s - (k + 1)) (k + 1))) s = rfi (fun j => decide ((j : Int) = nxS p (p k) (s - (k + 1)) (k + 1))) s := flt_cg fun j hj => by
      have hj := List.mem_range.mp hj
      rw [kin_eq hw hk hj]
      by_cases q : (j : Int) = nxS p (p k) (s - (k + 1)) (k + 1)
      · have := nxS_p (p := p) (x := p k) (s - (k + 1)) (k + 1) (by omega)
        rw [← q, Int.toNat_natCast] at this
        rw [decide_eq_true this]; rfl
      · rw [decide_eq_false q, Bool.and_false]
    rw [e, rfi_one]
    show _ = if nxS p (p k) (s - (k + 1)) (k + 1) < 0 then [] else [(nxS p (p k) (s - (k + 1)) (k + 1)).toNat]
    have := nxS_rg (p := p) (x := p k) (s - (k + 1)) (k + 1)
    by_cases q : nxS p (p k) (s - (k + 1)) (k + 1) < 0
    · rw [if_pos q, if_neg (by omega)]
    · rw [if_neg q, if_pos (by omega)]
  | 7, _ =>
    rw [if_neg (by decide), id1 7 (by decide)]
    show rfi (fun j => kinB p k j && decide ((j : Int) = bkS p (p k) k)) s = _
    have e : rfi (fun j => kinB p k j && decide ((j : Int) = bkS p (p k) k)) s = rfi (fun j => decide ((j : Int) = bkS p (p k) k)) s := flt_cg fun j hj => by
      have hj := List.mem_range.mp hj
      rw [kin_eq hw hk hj]
      by_cases q : (j : Int) = bkS p (p k) k
      · have := bkS_p (p := p) (x := p k) k (by omega)
        rw [← q, Int.toNat_natCast] at this
        rw [decide_eq_true this]; rfl
      · rw [decide_eq_false q, Bool.and_false]
    rw [e, rfi_one]
    show _ = if bkS p (p k) k < 0 then [] else [(bkS p (p k) k).toNat]
    have := bkS_rg (p := p) (x := p k) k
    by_cases q : bkS p (p k) k < 0
    · rw [if_pos q, if_neg (by omega)]
    · rw [if_neg q, if_pos (by omega)]
  | 8, _ => rw [if_neg (by decide), id1 8 (by decide)]; rfl
  | a + 9, h => exact absurd h (by omega)
/-! lists through a map -/
theorem flt_map {f : Nat → Nat} {w : Bool} {l m : List Nat} (hi : ∀ x ∈ l, ∀ y ∈ m, f x = f y → x = y) : flt w (m.map f) (l.map f) = (flt w m l).map f := by
  unfold flt
  rw [List.filter_map]
  refine congrArg (List.map f) (flt_cg fun x hx => ?_)
  show (decide (f x ∈ m.map f) == w) = (decide (x ∈ m) == w)
  rw [show decide (f x ∈ m.map f) = decide (x ∈ m) from decide_eq_decide.mpr ⟨fun z => by obtain ⟨y, y1, y2⟩ := List.mem_map.mp z; rw [hi x hx y y1 y2.symm]; exact y1, fun z => List.mem_map.mpr ⟨x, z, rfl⟩⟩]
theorem joinL_map {f : Nat → Nat} {sg : Int} {l m : List Nat} (hi : ∀ x ∈ l, ∀ y ∈ m, f x = f y → x = y) : joinL sg (l.map f) (m.map f) = (joinL sg l m).map f := by
  have hi2 : ∀ x ∈ m, ∀ y ∈ l, f x = f y → x = y := fun x hx y hy e => (hi y hy x hx e.symm).symm
  unfold joinL
  split
  · rw [List.map_append, flt_map hi2]
  · split
    · rw [flt_map hi]
    · split
      · rw [flt_map hi]
      · rw [List.map_append, flt_map hi, flt_map hi2]
theorem tmL_map {T : x_T} {o o2 l m : List Nat} (h4 : ∀ e ∈ o, e < 4) (h42 : ∀ e ∈ o2, e < 4) (hl : ∀ x ∈ l, vt T o x) (hm : ∀ x ∈ m, vt T o2 x) (hd : ∀ e ∈ o, ¬ e ∈ o2) : tmL o.length (l.map (rfE o)) (m.map (rfE o2)) = (prd l m).map (rfE (o ++ o2)) := by
  unfold tmL prd mk
  rw [List.length_map, List.length_map, List.map_map]
  refine List.map_congr_left fun q hq => ?_
  have hq := List.mem_range.mp hq
  have l0 : 0 < m.length := by
    rcases Nat.eq_zero_or_pos m.length with z | z
    · rw [z] at hq; omega
    · exact z
  have q1 : q / m.length < l.length := Nat.div_lt_of_lt_mul (by rw [Nat.mul_comm]; exact hq)
  have q2 : q % m.length < m.length := Nat.mod_lt _ l0
  rw [map_getD q1, map_getD q2]
  have a := hl _ (getD_mem q1)
  have b := hm _ (getD_mem q2)
  refine rfE_app o o2 _ _ _ (fun e he => ?_) (fun e he => ?_)
  · rw [pt_or, b.2.2 e (h4 e he) (hd e he), Nat.or_zero]
  · rw [pt_or, a.2.2 e (h42 e he) (fun z => hd e z he), Nat.zero_or]
theorem rev_map (f : Nat → Nat) (l : List Nat) : rev (l.map f) = (rev l).map f := by
  unfold rev mk
  rw [List.length_map, List.map_map]
  exact List.map_congr_left fun i hi => map_getD (by have := List.mem_range.mp hi; omega)
theorem adds_nd : ∀ (L fd : List Nat), L.Nodup → (∀ x ∈ L, ¬ x ∈ fd) → adds fd L = fd ++ L
  | [], fd, _, _ => by rw [List.append_nil]; rfl
  | x :: L, fd, hn, hx => by
    have ⟨h1, h2⟩ := List.nodup_cons.mp hn
    show adds (adL fd x) L = _
    have e : adL fd x = fd ++ [x] := if_neg (hx x List.mem_cons_self)
    rw [e, adds_nd L (fd ++ [x]) h2 fun y hy z => by
      rcases List.mem_append.mp z with q | q
      · exact hx y (List.mem_cons_of_mem _ hy) q
      · rw [List.mem_singleton.mp q] at hy; exact h1 hy]
    rw [List.append_assoc]; rfl
theorem wl_nd {p : Nat → Int} {s : Nat} (hw : wfp p s) : (wl p s 0 s).Nodup := by
  unfold wl mk
  refine List.nodup_iff_pairwise_ne.mpr (List.pairwise_map.mpr (List.Pairwise.imp_of_mem ?_ List.nodup_range))
  intro a b ha hb hab e
  have ha := List.mem_range.mp ha
  have hb := List.mem_range.mp hb
  have a1 := orr_ok hw (show 0 + a < s by omega)
  have b1 := orr_ok hw (show 0 + b < s by omega)
  rw [e] at a1
  exact hab (by omega)
theorem map_tp {e : Nat} (he : e < 4) {L : List Nat} (h : ∀ x ∈ L, x < 32) : (L.map (tp e)).map (rfE [e]) = L := by
  rw [List.map_map]
  conv => rhs; rw [← List.map_id L]
  exact List.map_congr_left fun x hx => by show rfE [e] (tp e x) = x; rw [rfE_1, pt_tp he (h x hx)]

