/-! reference against class: order by what is shown -/
def cS (v : Nat → Int) (l : List Nat) (j : Nat) : Nat := (shn v (l.take j)).length
def cQ (v : Nat → Int) (l : List Nat) (j : Nat) : Nat := (sil v (l.take j)).length
theorem cS_s {v : Nat → Int} {l : List Nat} {j : Nat} (h : j < l.length) : cS v l (j + 1) = cS v l j + (if v (l.getD j 0) = -2000000000 then 0 else 1) := by
  unfold cS
  rw [takec h, shn_snoc, List.length_append]
  by_cases q : v (l.getD j 0) = -2000000000
  · rw [if_pos q, if_pos q]; rfl
  · rw [if_neg q, if_neg q]; rfl
theorem cQ_s {v : Nat → Int} {l : List Nat} {j : Nat} (h : j < l.length) : cQ v l (j + 1) = cQ v l j + (if v (l.getD j 0) = -2000000000 then 1 else 0) := by
  unfold cQ
  rw [takec h, sil_snoc, List.length_append]
  by_cases q : v (l.getD j 0) = -2000000000
  · rw [if_pos q, if_pos q]; rfl
  · rw [if_neg q, if_neg q]; rfl
theorem cS_all (v : Nat → Int) (l : List Nat) : cS v l l.length = (shn v l).length := by unfold cS; rw [List.take_length]
theorem cS_mono {v : Nat → Int} {l : List Nat} {i : Nat} : ∀ j, i ≤ j → j ≤ l.length → cS v l i ≤ cS v l j
  | 0, h, _ => by rw [show i = 0 by omega]; exact Nat.le_refl _
  | j + 1, h, hj => by
    by_cases q : i = j + 1
    · rw [q]; exact Nat.le_refl _
    · have := cS_mono (v := v) (l := l) (i := i) j (by omega) (by omega)
      rw [cS_s (by omega)]
      omega
theorem cQ_mono {v : Nat → Int} {l : List Nat} {i : Nat} : ∀ j, i ≤ j → j ≤ l.length → cQ v l i ≤ cQ v l j
  | 0, h, _ => by rw [show i = 0 by omega]; exact Nat.le_refl _
  | j + 1, h, hj => by
    by_cases q : i = j + 1
    · rw [q]; exact Nat.le_refl _
    · have := cQ_mono (v := v) (l := l) (i := i) j (by omega) (by omega)
      rw [cQ_s (by omega)]
      omega
theorem cS_lt {v : Nat → Int} {l : List Nat} {i j : Nat} (h : i < j) (hj : j ≤ l.length) (hs : ¬ v (l.getD i 0) = -2000000000) : cS v l i < cS v l j := by
  have := cS_mono (v := v) (l := l) (i := i + 1) j h hj
  rw [cS_s (by omega), if_neg hs] at this
  omega
theorem cQ_lt {v : Nat → Int} {l : List Nat} {i j : Nat} (h : i < j) (hj : j ≤ l.length) (hs : v (l.getD i 0) = -2000000000) : cQ v l i < cQ v l j := by
  have := cQ_mono (v := v) (l := l) (i := i + 1) j h hj
  rw [cQ_s (by omega), if_pos hs] at this
  omega
theorem shn_get {v : Nat → Int} {l : List Nat} {i : Nat} (h : i < l.length) (hs : ¬ v (l.getD i 0) = -2000000000) : (shn v l).getD (cS v l i) 0 = l.getD i 0 := by
  have e : l = l.take i ++ (l.getD i 0 :: l.drop (i + 1)) := by rw [← dropc h, List.take_append_drop]
  have e2 : shn v l = shn v (l.take i) ++ (l.getD i 0 :: shn v (l.drop (i + 1))) := by
    conv => lhs; rw [e]
    unfold shn
    rw [List.filter_append, List.filter_cons, if_pos (decide_eq_true hs)]
  rw [e2]
  unfold cS
  rw [getD_app2 (Nat.le_refl _), Nat.sub_self]
  rfl
theorem sil_get {v : Nat → Int} {l : List Nat} {i : Nat} (h : i < l.length) (hs : v (l.getD i 0) = -2000000000) : (sil v l).getD (cQ v l i) 0 = l.getD i 0 := by
  have e : l = l.take i ++ (l.getD i 0 :: l.drop (i + 1)) := by rw [← dropc h, List.take_append_drop]
  have e2 : sil v l = sil v (l.take i) ++ (l.getD i 0 :: sil v (l.drop (i + 1))) := by
    conv => lhs; rw [e]
    unfold sil
    rw [List.filter_append, List.filter_cons, if_pos (decide_eq_true hs)]
  rw [e2]
  unfold cQ
  rw [getD_app2 (Nat.le_refl _), Nat.sub_self]
  rfl
theorem sum_shn {v : Nat → Int} {l : List Nat} {G : Nat → Nat} : ∀ j, j ≤ l.length → sumS (fun i => if v (l.getD i 0) = -2000000000 then 0 else G (cS v l i)) j = sumS G (cS v l j)
  | 0, _ => by unfold cS; rfl
  | j + 1, h => by
    rw [cS_s (by omega)]
    show sumS _ j + (if v (l.getD j 0) = -2000000000 then 0 else G (cS v l j)) = _
    rw [sum_shn j (by omega)]
    by_cases q : v (l.getD j 0) = -2000000000
    · rw [if_pos q, if_pos q]; rfl
    · rw [if_neg q, if_neg q]; rfl
section
variable {v : Nat → Int} {l : List Nat} {up : Bool}
theorem rk_shown {k : Nat} (hk : k < l.length) (hl : l.length ≤ 200) (hs : ¬ v (l.getD k 0) = -2000000000) : rkc up (fun j => v (l.getD j 0)) k l.length = ltc (kyF v (!up) (shn v l)) 0 (shn v l).length (kyF v (!up) (shn v l) (cS v l k)) := by
  unfold rkc ltc
  rw [← cS_all v l, ← sum_shn l.length (Nat.le_refl _)]
  refine sumS_congr _ fun i hi => ?_
  unfold bef ahd
  dsimp only
  by_cases q : v (l.getD i 0) = -2000000000
  · rw [if_pos q, if_neg]
    intro z
    rcases z with z | z
    · exact (of_decide_eq_true z).1 q
    · exact hs (z.1.symm.trans q)
  · rw [if_neg q]
    have ck : cS v l k ≤ 200 := Nat.le_trans (Nat.le_trans (cS_mono l.length (by omega) (Nat.le_refl _)) (by rw [cS_all]; exact List.length_filter_le _ _)) hl
    have ci : cS v l i ≤ 200 := Nat.le_trans (Nat.le_trans (cS_mono l.length (by omega) (Nat.le_refl _)) (by rw [cS_all]; exact List.length_filter_le _ _)) hl
    have ord : i < k ↔ cS v l i < cS v l k := ⟨fun z => cS_lt z (by omega) q, fun z => by
      rcases Nat.lt_or_ge i k with w | w
      · exact w
      · have := cS_mono (v := v) (l := l) (i := k) i w (by omega); omega⟩
    unfold kyF
    rw [shn_get hi q, shn_get hk hs]
    cases up with
    | true =>
      rw [show ∀ a b : Int, (if (!true) = true then a else b) = b from fun a b => if_neg (by decide), show ∀ a b : Int, (if (!true) = true then a else b) = b from fun a b => if_neg (by decide)]
      by_cases c : v (l.getD i 0) < v (l.getD k 0) ∨ v (l.getD i 0) = v (l.getD k 0) ∧ i < k
      · rw [if_pos (by rcases c with c | c; exact Or.inl (decide_eq_true ⟨q, Or.inr (Or.inl ⟨rfl, c⟩)⟩); exact Or.inr c), if_pos (by omega)]
      · rw [if_neg (fun z => c (by
          rcases z with z | z
          · have := of_decide_eq_true z
            rcases this.2 with y | y | y
            · exact absurd y hs
            · exact Or.inl y.2
            · cases y.1
          · exact Or.inr z)), if_neg (by omega)]
    | false =>
      rw [show ∀ a b : Int, (if (!false) = true then a else b) = a from fun a b => if_pos rfl, show ∀ a b : Int, (if (!false) = true then a else b) = a from fun a b => if_pos rfl]
      by_cases c : v (l.getD k 0) < v (l.getD i 0) ∨ v (l.getD i 0) = v (l.getD k 0) ∧ i < k
      · rw [if_pos (by rcases c with c | c; exact Or.inl (decide_eq_true ⟨q, Or.inr (Or.inr ⟨rfl, c⟩)⟩); exact Or.inr c), if_pos (by omega)]
      · rw [if_neg (fun z => c (by
          rcases z with z | z
          · have := of_decide_eq_true z
            rcases this.2 with y | y | y
            · exact absurd y hs
            · cases y.1
            · exact Or.inl y.2
          · exact Or.inr z)), if_neg (by omega)]
theorem rk_silent {k : Nat} (hk : k < l.length) (hs : v (l.getD k 0) = -2000000000) : rkc up (fun j => v (l.getD j 0)) k l.length = (shn v l).length + cQ v l k := by
  have gen : ∀ j, j ≤ l.length → sumS (bef up (fun j => v (l.getD j 0)) k) j = cS v l j + cQ v l (min j k) := by
    intro j
    induction j with
    | zero => intro _; rw [Nat.zero_min]; rfl
    | succ j ih =>
      intro hj
      show sumS _ j + bef up (fun j => v (l.getD j 0)) k j = _
      rw [ih (by omega), cS_s (by omega)]
      unfold bef ahd
      dsimp only
      by_cases q : v (l.getD j 0) = -2000000000
      · rw [if_pos q]
        by_cases c : j < k
        · rw [if_pos (Or.inr ⟨q.trans hs.symm, c⟩), show min j k = j by omega, show min (j + 1) k = j + 1 by omega, cQ_s (by omega), if_pos q]
          omega
        · rw [if_neg (fun z => by
            rcases z with z | z
            · exact (of_decide_eq_true z).1 q
            · exact c z.2), show min j k = k by omega, show min (j + 1) k = k by omega]
          omega
      · rw [if_neg q, if_pos (Or.inl (decide_eq_true ⟨q, Or.inl hs⟩))]
        by_cases c : j < k
        · rw [show min j k = j by omega, show min (j + 1) k = j + 1 by omega, cQ_s (by omega), if_neg q]
          omega
        · rw [show min j k = k by omega, show min (j + 1) k = k by omega]
          omega
  unfold rkc
  rw [gen l.length (Nat.le_refl _), cS_all, show min l.length k = k by omega]
theorem ltc_lt {K : Nat → Int} {n j : Nat} (hj : j < n) : ltc K 0 n (K j) < n := by
  have a1 := ltc_eqc K (K j) n
  have a2 := eqc_pos (A := K) hj
  have a3 : ltc K 0 n (K j + 1) ≤ n := by
    have := sumS_mono (f := fun q => if 0 ≤ q ∧ K q < K j + 1 then 1 else 0) (g := fun _ => 1) n (fun q _ => by split <;> omega)
    have e2 := sumS_ltn n n (Nat.le_refl _)
    rw [sumS_congr n (f := fun _ => 1) (g := fun q => if q < n then 1 else 0) (fun j hj => (if_pos hj).symm), e2] at this
    exact this
  omega
theorem sortL_len (v : Nat → Int) (fl : Bool) (l : List Nat) : (sortL v fl l).length = l.length := by
  unfold sortL
  rw [List.length_append, srtL_len, shn_sil_len]
theorem cS_in {k : Nat} (hk : k < l.length) (hs : ¬ v (l.getD k 0) = -2000000000) : cS v l k < (shn v l).length := by
  have := cS_lt hk (Nat.le_refl _) hs
  rw [cS_all] at this
  exact this
theorem cQ_in {k : Nat} (hk : k < l.length) (hs : v (l.getD k 0) = -2000000000) : (shn v l).length + cQ v l k < l.length := by
  have := cQ_lt hk (Nat.le_refl _) hs
  unfold cQ at this ⊢
  rw [List.take_length] at this
  have := shn_sil_len v l
  omega
theorem sort_at {k : Nat} (hk : k < l.length) (hl : l.length ≤ 200) : rkc up (fun j => v (l.getD j 0)) k l.length < l.length ∧ (sortL v (!up) l).getD (rkc up (fun j => v (l.getD j 0)) k l.length) 0 = l.getD k 0 := by
  have sl := List.length_filter_le (fun x => decide (¬ v x = -2000000000)) l
  have sl : (shn v l).length ≤ l.length := sl
  by_cases q : v (l.getD k 0) = -2000000000
  · rw [rk_silent hk q]
    refine ⟨cQ_in hk q, ?_⟩
    unfold sortL
    rw [getD_app2 (by rw [srtL_len]; omega), srtL_len, show (shn v l).length + cQ v l k - (shn v l).length = cQ v l k by omega]
    exact sil_get hk q
  · have hc := cS_in hk q
    have lt := ltc_lt (K := kyF v (!up) (shn v l)) hc
    rw [rk_shown hk hl q]
    refine ⟨by omega, ?_⟩
    unfold sortL
    rw [getD_app1 (by rw [srtL_len]; exact lt)]
    unfold srtL
    rw [mk_get lt, ixK_eq (kyF_inj (Nat.le_trans sl hl)) hc rfl]
    exact shn_get hk q
theorem rkc_inj (hl : l.length ≤ 200) {i k : Nat} (hi : i < l.length) (hk : k < l.length) (e : rkc up (fun j => v (l.getD j 0)) i l.length = rkc up (fun j => v (l.getD j 0)) k l.length) : i = k := by
  have sl := List.length_filter_le (fun x => decide (¬ v x = -2000000000)) l
  have sl : (shn v l).length ≤ l.length := sl
  by_cases q : v (l.getD i 0) = -2000000000
  · by_cases r : v (l.getD k 0) = -2000000000
    · rw [rk_silent hi q, rk_silent hk r] at e
      rcases Nat.lt_trichotomy i k with z | z | z
      · have := cQ_lt z (by omega) q; omega
      · exact z
      · have := cQ_lt z (by omega) r; omega
    · rw [rk_silent hi q, rk_shown hk hl r] at e
      have := ltc_lt (K := kyF v (!up) (shn v l)) (cS_in hk r)
      omega
  · by_cases r : v (l.getD k 0) = -2000000000
    · rw [rk_shown hi hl q, rk_silent hk r] at e
      have := ltc_lt (K := kyF v (!up) (shn v l)) (cS_in hi q)
      omega
    · rw [rk_shown hi hl q, rk_shown hk hl r] at e
      have c := rank_inj (kyF_inj (v := v) (fl := !up) (L := shn v l) (Nat.le_trans sl hl)) (cS_in hi q) (cS_in hk r) e
      rcases Nat.lt_trichotomy i k with z | z | z
      · have := cS_lt z (by omega) q; omega
      · exact z
      · have := cS_lt z (by omega) r; omega
theorem srO_eq {g : Nat → Nat} {ts X : List Nat} (hX : X.length = ts.length) (h1 : ∀ k, k < ts.length → g k < ts.length ∧ X.getD (g k) 0 = ts.getD k 0) (h2 : ∀ i k, i < ts.length → k < ts.length → g i = g k → i = k) : srO g ts ts.length = X := by
  have step : ∀ n, n ≤ ts.length → srO g ts n = X.take n := by
    intro n
    induction n with
    | zero => intro _; rfl
    | succ n ih =>
      intro hn
      rw [srO_s, ih (by omega), takec (by omega)]
      obtain ⟨k, k1, k2⟩ := inj_surj (g := g) (fun j hj => (h1 j hj).1) h2 (show n < ts.length by omega)
      have e : (List.range ts.length).filter (fun j => decide (g j = n)) = [k] := by
        have : (List.range ts.length).filter (fun j => decide (g j = n)) = rfi (fun j => decide ((j : Int) = (k : Int))) ts.length := flt_cg fun j hj => by
          have hj := List.mem_range.mp hj
          exact decide_eq_decide.mpr ⟨fun z => by rw [h2 j k hj k1 (z.trans k2.symm)], fun z => by rw [show j = k by omega]; exact k2⟩
        rw [this, rfi_one, if_pos (by omega), Int.toNat_natCast]
      unfold srI1
      rw [e]
      show X.take n ++ [ts.getD k 0] = X.take n ++ [X.getD n 0]
      rw [← (h1 k k1).2, k2]
  rw [step _ (Nat.le_refl _), ← hX, List.take_length]
theorem srO_sort {f : Nat → Nat} (hl : l.length ≤ 200) : srO (fun k => rkc up (fun j => v (l.getD j 0)) k l.length) (l.map f) l.length = (sortL v (!up) l).map f := by
  have ml : (l.map f).length = l.length := List.length_map _
  have := srO_eq (g := fun k => rkc up (fun j => v (l.getD j 0)) k l.length) (ts := l.map f) (X := (sortL v (!up) l).map f) (by rw [List.length_map, sortL_len, ml]) (fun k hk => ?_) (fun i k hi hk e => rkc_inj hl (by rw [ml] at hi; exact hi) (by rw [ml] at hk; exact hk) e)
  · rw [ml] at this; exact this
  · rw [ml] at hk ⊢
    have a := sort_at (v := v) (up := up) hk hl
    refine ⟨a.1, ?_⟩
    rw [map_getD (by rw [sortL_len]; exact a.1), map_getD hk, a.2]
theorem shn_shn (v : Nat → Int) (l : List Nat) : shn v (shn v l) = shn v l := by
  unfold shn
  exact List.filter_eq_self.mpr fun x hx => (List.mem_filter.mp hx).2
theorem sil_shn (v : Nat → Int) (l : List Nat) : sil v (shn v l) = [] := by
  unfold sil shn
  exact List.filter_eq_nil_iff.mpr fun x hx z => of_decide_eq_true (List.mem_filter.mp hx).2 (of_decide_eq_true z)
theorem ks2 (v : Nat → Int) (b : Int) (l : List Nat) : l.filter (ksF 2 v b) = shn v l := by
  unfold shn ksF
  exact flt_cg fun x _ => decide_eq_decide.mpr ⟨fun z => z.1, fun z => ⟨z, fun y => absurd y.1 (by decide), fun y => absurd y.1 (by decide)⟩⟩
theorem top_eq (v : Nat → Int) (fl : Bool) (l : List Nat) (n : Nat) : (sortL v fl (shn v l)).take n = (sortL v fl l).take (min n (shn v l).length) := by
  unfold sortL
  rw [shn_shn, sil_shn, List.append_nil, List.take_append_of_le_length (by rw [srtL_len]; omega)]
  rcases Nat.le_total n (shn v l).length with q | q
  · rw [show min n (shn v l).length = n by omega]
  · rw [show min n (shn v l).length = (shn v l).length by omega, List.take_of_length_le (by rw [srtL_len]; exact q), List.take_of_length_le (by rw [srtL_len]; exact Nat.le_refl _)]
end
