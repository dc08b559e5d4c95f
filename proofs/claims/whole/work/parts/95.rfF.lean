/-! THE REFERENCE: what it works with; a MARK's NUMBER -/
def rW (k a i : Nat) : Prop := (a = 122 ∧ (k = 1579 ∨ k = 1580 ∨ k = 1581 ∨ k = 1602 ∨ k = 1613)) ∨ (a = 124 ∨ a = 144 ∨ a = 126 ∨ a = 128 ∨ a = 130 ∨ a = 132 ∨ a = 134 ∨ 145 ≤ a) ∨ (k = 1 ∧ (a = 139 ∧ 1407 ≤ i ∨ (a = 140 ∨ a = 141 ∨ a = 142) ∧ 7 ≤ i))
theorem rW_hh {k a i : Nat} (h : rW k a i) : hh a := by unfold rW at h; unfold hh; omega
theorem rC_rW {k a i : Nat} (h : rC k a i) : rW k a i := by unfold rC at h; unfold rW; omega
theorem rsF_rW {s k a i : Nat} (hs : 7 ≤ s) (h : rsF s k a i) : rW k a i := by unfold rsF at h; unfold rW; omega
theorem rsT_rW {s k a i : Nat} (hs : 7 ≤ s) (h : rsT s k a i) : rW k a i := by unfold rsT rsF at h; unfold rW; omega
theorem rsW_rW {s k a i : Nat} (hs : 7 ≤ s) (h : rsW s k a i) : rW k a i := by unfold rsW rsF at h; unfold rW; omega
section
variable {I I' : x_M Int32} {J J' : x_M Int64} {S : x_St}
theorem r0_w {V : x_V} (h : r0 I V) (hf : frP rW I I') : r0 I' V := by
  obtain ⟨a1, a2, a3, a4, a5⟩ := h
  exact ⟨(hf _ _ _ fun z => by unfold rW at z; omega).trans a1, (hf _ _ _ fun z => by unfold rW at z; omega).trans a2, a3, a4, fun q => rq_fr (a5 q) hf fun k a i z y => by unfold rsF at z; unfold rW at y; omega⟩
theorem rkp_w {K : Nat → x_V} (h : rkp I K) (hf : frP rW I I') : rkp I' K := fun j hj => ⟨fun q => (hf _ _ _ fun z => by unfold rW at z; omega).trans ((h j hj).1 q), fun q => rq_fr ((h j hj).2 q) hf fun k a i z y => by unfold rsF at z; unfold rW at y; omega⟩
theorem rTr_w {T : x_T} (h : rTr I J T) (hf : frP rW I I') (hg : frP rW J J') : rTr I' J' T := rTr_fr h hf hg fun k a i z => by unfold rW at z; omega
theorem rLy_w {T : x_T} (h : rLy I T) (hf : frP rW I I') : rLy I' T := rLy_fr h hf fun k a i z => by unfold rW at z; omega
theorem rNu_w {nu : Nat → Nat → Nat → Int} (h : rNu I nu) (hf : frP rW I I') : rNu I' nu := rNu_fr h hf fun k a i z => by unfold rW at z; omega
theorem rSh_w {sp : List Nat} (h : rSh I sp) (hf : frP rW I I') : rSh I' sp := ⟨(hf _ _ _ fun z => by unfold rW at z; omega).trans h.1, h.2.1, fun i hi => (hf _ _ _ fun z => by unfold rW at z; omega).trans (h.2.2 i hi)⟩
theorem tpR_w {n : Nat} {c : Nat → Nat} (h : tpR I n c) (hf : frP rW I I') : tpR I' n c := ⟨(hf _ _ _ fun z => by unfold rW at z; omega).trans h.1, h.2.1, h.2.2.1, fun i hi => (hf _ _ _ fun z => by unfold rW at z; omega).trans (h.2.2.2 i hi)⟩
theorem rfI_w (h : rfI I J S) (hf : frP rW I I') (hg : frP rW J J') : rfI I' J' S := by
  obtain ⟨b1, b2, b3, b4, b5, b6, b7⟩ := h
  exact ⟨tpR_w b1 hf, rTr_w b2 hf hg, rLy_w b3 hf, rNu_w b4 hf, r0_w b5 hf, rkp_w b6 hf, rSh_w b7 hf⟩
theorem rT_frW (I : x_M Int32) (p w : Int) : frP rW I (rT I p w) := frP_mono (rT_fr I p w) fun _ _ _ => rC_rW
theorem rfI_rT (h : rfI I J S) (p w : Int) : rfI (rT I p w) J S := rfI_w h (rT_frW I p w) (frP_refl _ _)
theorem rfI_cut (h : rfI I J S) (ht : tpR I' 0 (sC S)) (hf : frP rK I I') : rfI I' J (cutS S 0) := by
  obtain ⟨b1, b2, b3, b4, ⟨a1, a2, a3, a4, a5⟩, b6, b7⟩ := h
  have fs : ∀ {k a i}, ¬ rK k a i → I' k a i = I k a i := fun q => hf _ _ _ q
  exact ⟨ht, rTr_fr b2 hf (frP_refl _ _) fun k a i z => by unfold rK at z; omega, rLy_fr b3 hf fun k a i z => by unfold rK at z; omega, rNu_fr b4 hf fun k a i z => by unfold rK at z; omega, ⟨(fs fun z => by unfold rK at z; omega).trans a1, (fs fun z => by unfold rK at z; omega).trans a2, a3, a4, fun q => rq_fr (a5 q) hf fun k a i z y => by unfold rsF at z; unfold rK at y; omega⟩, fun j hj => ⟨fun q => (fs fun z => by unfold rK at z; omega).trans ((b6 j hj).1 q), fun q => rq_fr ((b6 j hj).2 q) hf fun k a i z y => by unfold rsF at z; unfold rK at y; omega⟩, ⟨(fs fun z => by unfold rK at z; omega).trans b7.1, b7.2.1, fun i hi => (fs fun z => by unfold rK at z; omega).trans (b7.2.2 i hi)⟩⟩
theorem rK_hh {k a i : Nat} (h : rK k a i) : hh a := by unfold rK at h; unfold hh; omega
end
theorem sumS_cut {f : Nat → Nat} {a : Nat} : ∀ b, a ≤ b → (∀ j, a ≤ j → j < b → f j = 0) → sumS f b = sumS f a
  | 0, h, _ => by rw [show a = 0 by omega]
  | b + 1, h, hz => by
    by_cases q : a = b + 1
    · rw [q]
    · show sumS f b + f b = sumS f a
      rw [hz b (by omega) (by omega), sumS_cut b (by omega) fun j h1 h2 => hz j h1 (by omega), Nat.add_zero]
theorem sumS_ap (f : Nat → Nat) (a : Nat) : ∀ b, sumS f (a + b) = sumS f a + sumS (fun z => f (a + z)) b
  | 0 => rfl
  | b + 1 => by
    show sumS f (a + b) + f (a + b) = sumS f a + (sumS (fun z => f (a + z)) b + f (a + b))
    rw [sumS_ap f a b]; omega
theorem sumS_30 (f : Nat → Nat) : ∀ e, sumS f (30 * e) = sumS (fun a => sumS (fun z => f (30 * a + z)) 30) e
  | 0 => rfl
  | e + 1 => by
    rw [show 30 * (e + 1) = 30 * e + 30 by omega, sumS_ap, sumS_30 f e]
    rfl
def nuC (nu : Nat → Nat → Nat → Int) (m : Nat) : Nat → Nat := sumS fun k => if nu m (k / 30) (k % 30) = -2000000000 then 0 else 1
theorem nuC_le (nu : Nat → Nat → Nat → Int) (m i : Nat) : nuC nu m i ≤ i := by
  have := sumS_mono (f := fun k => if nu m (k / 30) (k % 30) = -2000000000 then 0 else 1) (g := fun _ => 1) i fun j _ => by split <;> omega
  have e2 := sumS_ltn i i (Nat.le_refl _)
  rw [sumS_congr i (f := fun _ => 1) (g := fun q => if q < i then 1 else 0) (fun j hj => (if_pos hj).symm), e2] at this
  exact this
theorem nuC_cn {T : x_T} {nu : Nat → Nat → Nat → Int} {m : Nat} (hw : twf T) (hv : nuV T nu) (hm : m < 3) : nuC nu m 120 = cn T nu m (tD T) := by
  have w1 := hw.1
  unfold nuC cn cn1
  rw [show 120 = 30 * 4 from rfl, sumS_30, sumS_cut (a := tD T) 4 w1 fun e h1 h2 => sumS_z fun z hz => by rw [if_pos (hv m _ _ hm (by omega) (by omega) (by omega))]]
  refine sumS_congr _ fun e he => ?_
  have w2 := (hw.2.2 e he).2.1
  rw [sumS_cut (a := tS T e) 30 w2 fun z h1 h2 => by rw [show (30 * e + z) / 30 = e by omega, show (30 * e + z) % 30 = z by omega, if_pos (hv m e z hm (by omega) (by omega) (by omega))]]
  refine sumS_congr _ fun z hz => ?_
  rw [show (30 * e + z) / 30 = e by omega, show (30 * e + z) % 30 = z by omega]
theorem nuV_U {T : x_T} {nu : Nat → Nat → Nat → Int} {m e z : Nat} {v : Int} (hv : nuV T nu) (he : e < tD T) (hz : z < tS T e) : nuV T (nuU nu m e z v) := fun m' e' z' h1 h2 h3 h4 => by
  unfold nuU
  rw [if_neg (fun q => h4 (by rw [q.2.1, q.2.2]; exact ⟨he, hz⟩))]
  exact hv m' e' z' h1 h2 h3 h4
section
variable {E : x_E} {P : x_Pr} {d rc rs : Nat} {I : x_M Int32} {J : x_M Int64} {R : x_M (Option Nat)} {Q : x_Q} {S : x_St} {T : x_T} {n : Nat} {c : Nat → Nat}
theorem r_mk117 (hP : x_closed E P) (hR : x_fin R) {q e : Nat} (he : e < 3000) (k : Q (some (.int (iI (-1000 - e)))) (x_hp (rT I q e) J R)) : ∀ L r1 r2, x_ag L 0 [some (.ref 122)] → P 172 (d + 4) 117 L [] (x_hp (rT I q e) J R) r1 r2 Q := by
  intro L r1 r2 hL
  refine x_re hP _ hL ?_
  have g : rT I q e 1581 122 0 = iI e := rfl
  first | refine x_aload_n hP rfl rfl ?_ | refine x_aload_nN hP rfl rfl ?_
  refine x_callV0 (ci := 9) hP 0 0 rfl rfl rfl (by first | assumption | rfl) rfl rfl rfl (Nat.zero_le _) (Nat.zero_le _) ?_
  refine r_badB hP (by omega) ?_
  first | refine zb_if_eq hP rfl (fun c121 => ?_) (fun c121 => ?_) | refine zl_if_eq hP rfl (fun c121 => ?_) (fun c121 => ?_) | refine z_if_eq hP rfl (by omega) (fun c121 => ?_) (fun c121 => ?_)
  · cases c121
  refine x_sipush hP rfl ?_
  first | refine x_aload_n hP rfl rfl ?_ | refine x_aload_nN hP rfl rfl ?_
  refine x_getI hP rfl (by first | assumption | rfl) (by first | assumption | exact hR _ _ _ _ rfl | exact hR1 _ _ _ _ rfl | exact hR2 _ _ _ _ rfl | rfl) ?_
  first | refine z_isub hP rfl ?_ | refine x_isub hP rfl ?_
  refine x_iret hP rfl rfl ?_
  exact k
theorem r_mk91 (hP : x_closed E P) (hR : x_fin R) {q e : Nat} (he : e < 3000) (k : Q (some (.int (iI (-1000 - e)))) (x_hp (rT I q e) J R)) : ∀ L r1 r2, x_ag L 0 [some (.ref 122)] → P 172 (d + 4) 91 L [] (x_hp (rT I q e) J R) r1 r2 Q := by
  intro L r1 r2 hL
  refine x_re hP _ hL ?_
  first | refine x_aload_n hP rfl rfl ?_ | refine x_aload_nN hP rfl rfl ?_
  refine x_callV0 (ci := 9) hP 0 0 rfl rfl rfl (by first | assumption | rfl) rfl rfl rfl (Nat.zero_le _) (Nat.zero_le _) ?_
  refine r_badB hP (by omega) ?_
  first | refine zb_if_ne hP rfl (fun c95 => ?_) (fun c95 => ?_) | refine zl_if_ne hP rfl (fun c95 => ?_) (fun c95 => ?_) | refine z_if_ne hP rfl (by omega) (fun c95 => ?_) (fun c95 => ?_)
  rotate_left
  · cases c95
  exact r_mk117 hP hR he k _ _ _ ⟨rfl, trivial⟩
theorem r_mk26 (hP : x_closed E P) (hR : x_fin R) {q e : Nat} (he : e < 3000) (k : Q (some (.int (iI (-1000 - e)))) (x_hp (rT I q e) J R)) : ∀ L r1 r2, x_ag L 0 [some (.ref 122)] → P 172 (d + 4) 26 L [] (x_hp (rT I q e) J R) r1 r2 Q := by
  intro L r1 r2 hL
  refine x_re hP _ hL ?_
  first | refine x_aload_n hP rfl rfl ?_ | refine x_aload_nN hP rfl rfl ?_
  refine x_callV0 (ci := 9) hP 0 0 rfl rfl rfl (by first | assumption | rfl) rfl rfl rfl (Nat.zero_le _) (Nat.zero_le _) ?_
  refine r_badB hP (by omega) ?_
  first | refine zb_if_ne hP rfl (fun c30 => ?_) (fun c30 => ?_) | refine zl_if_ne hP rfl (fun c30 => ?_) (fun c30 => ?_) | refine z_if_ne hP rfl (by omega) (fun c30 => ?_) (fun c30 => ?_)
  rotate_left
  · cases c30
  refine x_iconst hP rfl ?_
  refine x_istore_n hP rfl ?_
  refine x_ldcI hP rfl ?_
  refine x_istore hP rfl ?_
  refine x_iload_n hP rfl rfl ?_
  first | refine zb_if_eq hP rfl (fun c66 => ?_) (fun c66 => ?_) | refine zl_if_eq hP rfl (fun c66 => ?_) (fun c66 => ?_) | refine z_if_eq hP rfl (by omega) (fun c66 => ?_) (fun c66 => ?_)
  rotate_left
  · exact absurd c66 (by decide)
  first | refine x_aload_n hP rfl rfl ?_ | refine x_aload_nN hP rfl rfl ?_
  refine x_iconst hP rfl ?_
  refine x_ldcI hP rfl ?_
  refine x_callV2 (ci := 9) hP 0 0 rfl rfl rfl (by first | assumption | rfl) rfl rfl rfl (Nat.zero_le _) (Nat.zero_le _) ?_
  refine r_toldB hP (by omega) ?_
  refine x_istore hP rfl ?_
  exact r_mk91 hP hR he k _ _ _ ⟨rfl, trivial⟩
theorem r_mk20 (hP : x_closed E P) (hR : x_fin R) {q e : Nat} (he : e < 3000) (k : Q (some (.int (iI (-1000 - e)))) (x_hp (rT I q e) J R)) : ∀ L r1 r2, x_ag L 0 [some (.ref 122)] → P 172 (d + 4) 20 L [] (x_hp (rT I q e) J R) r1 r2 Q := by
  intro L r1 r2 hL
  refine x_re hP _ hL ?_
  first | refine x_aload_n hP rfl rfl ?_ | refine x_aload_nN hP rfl rfl ?_
  refine x_bipush hP rfl ?_
  refine x_callV1 (ci := 9) hP 0 0 rfl rfl rfl (by first | assumption | rfl) rfl rfl rfl (Nat.zero_le _) (Nat.zero_le _) ?_
  refine r_needB hP (by omega) ?_
  exact r_mk26 hP hR he k _ _ _ ⟨rfl, trivial⟩
theorem r_mk15 (hP : x_closed E P) (hR : x_fin R) {q e : Nat} (he : e < 3000) (k : Q (some (.int (iI (-1000 - e)))) (x_hp (rT I q e) J R)) : ∀ L r1 r2, x_ag L 0 [some (.ref 122)] → P 172 (d + 4) 15 L [] (x_hp (rT I q e) J R) r1 r2 Q := by
  intro L r1 r2 hL
  refine x_re hP _ hL ?_
  first | refine x_aload_n hP rfl rfl ?_ | refine x_aload_nN hP rfl rfl ?_
  refine x_callV0 (ci := 9) hP 0 0 rfl rfl rfl (by first | assumption | rfl) rfl rfl rfl (Nat.zero_le _) (Nat.zero_le _) ?_
  refine r_mark0B hP (by omega) ?_
  refine x_istore_n hP rfl ?_
  exact r_mk20 hP hR he k _ _ _ ⟨rfl, trivial⟩
theorem r_mk9 (hP : x_closed E P) (hR : x_fin R) {q e : Nat} (he : e < 3000) (k : Q (some (.int (iI (-1000 - e)))) (x_hp (rT I q e) J R)) : ∀ L r1 r2, x_ag L 0 [some (.ref 122)] → P 172 (d + 4) 9 L [] (x_hp (rT I q e) J R) r1 r2 Q := by
  intro L r1 r2 hL
  refine x_re hP _ hL ?_
  first | refine x_aload_n hP rfl rfl ?_ | refine x_aload_nN hP rfl rfl ?_
  refine x_bipush hP rfl ?_
  refine x_callV1 (ci := 9) hP 0 0 rfl rfl rfl (by first | assumption | rfl) rfl rfl rfl (Nat.zero_le _) (Nat.zero_le _) ?_
  refine r_needB hP (by omega) ?_
  exact r_mk15 hP hR he k _ _ _ ⟨rfl, trivial⟩
theorem r_mkC (hP : x_closed E P) (hR : x_fin R) {nu : Nat → Nat → Nat → Int} (hn : rNu I nu) {m : Nat} (hm : m < 3) {va : Int} (k : Q (some (.int (iI (nuC nu m 120)))) (x_hp I J R)) : ∀ (f i : Nat), i + f = 120 → ∀ rc rs, P 172 (d + 4) 152 (x_ls [some (.ref 122), some (.int (iI va)), some (.int (iI m)), none, none, some (.int (iI (nuC nu m i))), some (.int (iI i))]) [] (x_hp I J R) rc rs Q := by
  intro f
  induction f with
  | zero =>
    intro i hi rc rs
    obtain rfl : i = 120 := by omega
    refine x_iload hP rfl rfl ?_
    refine x_bipush hP rfl ?_
    refine z_icmp_ge hP rfl (by omega) (by omega) (fun c156 => ?_) (fun c156 => ?_)
    · refine x_iload hP rfl rfl ?_
      refine x_iret hP rfl rfl ?_
      exact k
    · omega
  | succ f ih =>
    intro i hi rc rs
    have ⟨v, vr⟩ := hn m (i / 30) (i % 30) hm (by omega) (by omega)
    rw [show 120 * m + (30 * (i / 30) + i % 30) = 120 * m + i by omega] at v
    have b := nuC_le nu m i
    have st : nuC nu m (i + 1) = nuC nu m i + (if nu m (i / 30) (i % 30) = -2000000000 then 0 else 1) := rfl
    refine x_iload hP rfl rfl ?_
    refine x_bipush hP rfl ?_
    refine z_icmp_ge hP rfl (by omega) (by omega) (fun c156 => ?_) (fun c156 => ?_)
    · omega
    refine x_iload hP rfl rfl ?_
    first | refine x_aload_n hP rfl rfl ?_ | refine x_aload_nN hP rfl rfl ?_
    refine x_getR hP rfl (by first | assumption | rfl) (by first | assumption | exact hR _ _ _ _ rfl | exact hR1 _ _ _ _ rfl | exact hR2 _ _ _ _ rfl | rfl) ?_
    refine x_bipush hP rfl ?_
    refine x_iload_n hP rfl rfl ?_
    first | refine z_imul hP rfl ?_ | refine x_imul hP rfl ?_
    refine x_iload hP rfl rfl ?_
    first | refine z_iadd hP rfl ?_ | refine x_iadd hP rfl ?_
    refine z_iald hP rfl (by first | assumption | rfl) (by first | decide | omega) (by omega) (by first | assumption | exact hR _ _ _ _ rfl | exact hR1 _ _ _ _ rfl | exact hR2 _ _ _ _ rfl | rfl) ?_
    refine x_ldcI hP rfl ?_
    first | refine z_icmp_eq hP rfl (by omega) (by omega) (fun c175 => ?_) (fun c175 => ?_) | refine x_icmp_eq hP rfl (fun c175 => ?_) (fun c175 => ?_)
    · rw [if_pos c175] at st
      refine x_iconst hP rfl ?_
      first | refine z_iadd hP rfl ?_ | refine x_iadd hP rfl ?_
      refine x_istore hP rfl ?_
      refine z_iinc hP rfl rfl rfl ?_
      refine x_goto hP rfl ?_
      exact x_re hP [some (.ref 122), some (.int (iI va)), some (.int (iI m)), none, none, some (.int (iI (nuC nu m (i + 1)))), some (.int (iI (i + 1 : Nat)))] ⟨rfl, rfl, rfl, by rw [st]; rfl, rfl, trivial⟩ (ih (i + 1) (by omega) _ _)
    · rw [if_neg c175] at st
      refine x_iconst hP rfl ?_
      refine x_goto hP rfl ?_
      first | refine z_iadd hP rfl ?_ | refine x_iadd hP rfl ?_
      refine x_istore hP rfl ?_
      refine z_iinc hP rfl rfl rfl ?_
      refine x_goto hP rfl ?_
      exact x_re hP [some (.ref 122), some (.int (iI va)), some (.int (iI m)), none, none, some (.int (iI (nuC nu m (i + 1)))), some (.int (iI (i + 1 : Nat)))] ⟨rfl, rfl, rfl, by rw [st]; rfl, rfl, trivial⟩ (ih (i + 1) (by omega) _ _)
theorem rNu_U {nu : Nat → Nat → Nat → Int} (hn : rNu I nu) {m e z : Nat} {v : Int} (hz : z < 30) (he : e < 4) (hv : v = -2000000000 ∨ -1000000 ≤ v ∧ v ≤ 1000000) : rNu (x_at I 1 138 (120 * m + (30 * e + z)) (iI v)) (nuU nu m e z v) := fun m' e' z' h1 h2 h3 => by
  unfold nuU
  by_cases q : m' = m ∧ e' = e ∧ z' = z
  · rw [if_pos q, q.1, q.2.1, q.2.2, x_at_eq, if_pos ⟨rfl, rfl, rfl⟩]
    exact ⟨rfl, hv⟩
  · rw [if_neg q, x_at_eq, if_neg (by omega)]
    exact hn m' e' z' h1 h2 h3
theorem rfI_nu (h : rfI I J S) {m e z : Nat} {v : Int} (hz : z < 30) (he : e < 4) (hv : v = -2000000000 ∨ -1000000 ≤ v ∧ v ≤ 1000000) : rfI (x_at I 1 138 (120 * m + (30 * e + z)) (iI v)) J (sN S, sC S, (zT (sZ S), nuU (zN (sZ S)) m e z v, zK (sZ S)), sV S, sP S) := by
  obtain ⟨⟨a1, a2, a3, a4⟩, b2, b3, b4, ⟨e1, e2, e3, e4, e5⟩, b6, b7⟩ := h
  have hf : frP (fun _ a _ => a = 138) I (x_at I 1 138 (120 * m + (30 * e + z)) (iI v)) := frP_at (frP_refl _ _) rfl
  have fs : ∀ {k a i}, ¬ a = 138 → (x_at I 1 138 (120 * m + (30 * e + z)) (iI v)) k a i = I k a i := fun q => hf _ _ _ q
  exact ⟨⟨(fs (by decide)).trans a1, a2, a3, fun i hi => (fs (by decide)).trans (a4 i hi)⟩, rTr_fr b2 hf (frP_refl _ _) fun k a i z => by omega, rLy_fr b3 hf fun k a i z => by omega, rNu_U b4 hz he hv, ⟨(fs (by decide)).trans e1, (fs (by decide)).trans e2, e3, e4, fun q => rq_fr (e5 q) hf fun k a i z y => by unfold rsF at z; omega⟩, fun j hj => ⟨fun q => (fs (by decide)).trans ((b6 j hj).1 q), fun q => rq_fr ((b6 j hj).2 q) hf fun k a i z y => by unfold rsF at z; omega⟩, ⟨(fs (by decide)).trans b7.1, b7.2.1, fun i hi => (fs (by decide)).trans (b7.2.2 i hi)⟩⟩
/-- the last part of mark -/
theorem r_mk133 (hP : x_closed E P) (hR : x_fin R) (hg : nuV (zT (sZ S)) (zN (sZ S))) (hc : rfI I J S) {m e z : Nat} {v : Int} (hm : m < tM (zT (sZ S))) (he : e < tD (zT (sZ S))) (hz : z < tS (zT (sZ S)) e) (hv : v = -2000000000 ∨ -1000000 ≤ v ∧ v ≤ 1000000) (k : ∀ I', rfI I' J (sN S, sC S, (zT (sZ S), nuU (zN (sZ S)) m e z v, zK (sZ S)), sV S, sP S) → frP (fun _ a _ => hh a) I I' → Q (some (.int (iI (cn (zT (sZ S)) (nuU (zN (sZ S)) m e z v) m (tD (zT (sZ S)))))) ) (x_hp I' J R)) : ∀ L r1 r2, x_ag L 0 [some (.ref 122), some (.int (iI (30 * e + z : Nat))), some (.int (iI m)), none, some (.int (iI v))] → P 172 (d + 4) 133 L [] (x_hp I J R) r1 r2 Q := by
  intro L r1 r2 hL
  refine x_re hP _ hL ?_
  have hw := hc.2.1.2.2.2.2.2
  have w1 := hw.1
  have w2 := hw.2.1
  have w3 := (hw.2.2 e he).2.1
  have hm3 : m < 3 := by omega
  first | refine x_aload_n hP rfl rfl ?_ | refine x_aload_nN hP rfl rfl ?_
  refine x_getR hP rfl (by first | assumption | rfl) (by first | assumption | exact hR _ _ _ _ rfl | exact hR1 _ _ _ _ rfl | exact hR2 _ _ _ _ rfl | rfl) ?_
  refine x_bipush hP rfl ?_
  refine x_iload_n hP rfl rfl ?_
  first | refine z_imul hP rfl ?_ | refine x_imul hP rfl ?_
  refine x_iload_n hP rfl rfl ?_
  first | refine z_iadd hP rfl ?_ | refine x_iadd hP rfl ?_
  refine x_iload hP rfl rfl ?_
  refine z_iast hP rfl (by first | assumption | rfl) (by first | decide | omega) (by omega) ?_
  first | refine w_nI ?_ | refine w_nL ?_ | refine w_nR ?_ | refine w_mI ?_ | refine w_mL ?_ | refine w_mR ?_ | skip
  rw [show (120 * (m : Int) + ((30 * e + z : Nat) : Int)).toNat = 120 * m + (30 * e + z) by omega]
  have fin := rfI_nu (m := m) hc (show z < 30 by omega) (show e < 4 by omega) hv
  refine x_iconst hP rfl ?_
  refine x_istore hP rfl ?_
  refine x_iconst hP rfl ?_
  refine x_istore hP rfl ?_
  refine x_re hP [some (.ref 122), some (.int (iI (30 * e + z : Nat))), some (.int (iI m)), none, none, some (.int (iI (nuC (nuU (zN (sZ S)) m e z v) m 0))), some (.int (iI (0 : Nat)))] ⟨rfl, rfl, rfl, rfl, rfl, trivial⟩ (r_mkC hP hR fin.2.2.2.1 hm3 ?_ 120 0 rfl _ _)
  show Q (some (.int (iI (nuC (nuU (zN (sZ S)) m e z v) m 120)))) _
  rw [nuC_cn hw (nuV_U (m := m) (v := v) hg he hz) hm3]
  exact k _ fin (frP_at (frP_refl _ _) (by unfold hh; decide))
theorem intR_e {p e : Nat} (hp : p ≤ n) (h : intR c n p = .inl e) : e ≤ n + 10 := by
  have nm : ∀ p e, p ≤ n + 1 → numR c n p = .inl e → e ≤ n + 10 := by
    intro p e hp h
    unfold numR at h
    split at h
    · next q =>
      have := isDg_lt q
      split at h
      · cases h
        have := (dr_le (c := c) (n := n) (dm c n p) p (by omega)).1
        unfold dl
        omega
      · cases h
    · cases h; omega
  unfold intR at h
  split at h
  · split at h
    · cases h; omega
    · split at h
      · next q => cases h; exact nm _ _ (by omega) q
      · cases h
  · exact nm _ _ (by omega) h
theorem mrkR_e {p e : Nat} (hp : p ≤ n) (h : mrkR T c n p = .inl e) : e ≤ n + 8 := by
  unfold mrkR at h
  split at h
  · next q => cases h; exact namR_e hp q
  · split at h
    · cases h; omega
    · cases h
theorem memR_e {p e : Nat} (hp : p ≤ n) (h : memR T c n p = .inl e) : e ≤ n + 8 := by
  unfold memR at h
  split at h
  · next q => cases h; exact namR_e hp q
  · split at h
    · cases h; omega
    · cases h
theorem r_mark (hP : x_closed E P) (hR : x_fin R) (hg : gS S) (hc : rfI I J S) (k : ∀ I', rfI I' J (spMark S).2 → frP (fun _ a _ => hh a) I I' → Q (some (.int (iI (spMark S).1))) (x_hp I' J R)) : P 172 (d + 4) 0 (x_la 0 [.ref 122]) [] (x_hp I J R) rc rs Q := by
  have hn := hc.1.2.1
  first | refine x_aload_n hP rfl rfl ?_ | refine x_aload_nN hP rfl rfl ?_
  refine x_callV0 (ci := 9) hP 0 0 rfl rfl rfl (by first | assumption | rfl) rfl rfl rfl (Nat.zero_le _) (Nat.zero_le _) ?_
  refine r_take hP hR hc.1 (fun I1 t1 t2 t3 t4 t5 => ?_)
  have hc1 : rfI I1 J (cutS S 0) := rfI_cut hc t2 t5
  have hf1 : frP (fun _ a _ => hh a) I I1 := frP_mono t5 fun _ _ _ => rK_hh
  unfold spMark mkR at k
  generalize hnn : sN S = n at k t1 hn
  generalize hcc : sC S = c at k t1
  have hr := hc1.2.1
  have hr : rTr I1 J (zT (sZ S)) := hr
  have w2 := hr.2.2.2.2.2.2.1
  have w1 := hr.2.2.2.2.2.1
  have c256 := t1.2.2.1
  have bd : ∀ q e : Nat, e < 3000 → (∀ I', rfI I' J (cutS S 0) → frP (fun _ a _ => hh a) I I' → Q (some (.int (iI (-1000 - e)))) (x_hp I' J R)) → Q (some (.int (iI (-1000 - e)))) (x_hp (rT I1 q e) J R) := fun q e he kk => kk _ (rfI_rT hc1 _ _) (frP_trans hf1 (frP_mono (rT_frW I1 q e) fun _ _ _ => rW_hh))
  rw [← t4]
  first | refine x_aload_n hP rfl rfl ?_ | refine x_aload_nN hP rfl rfl ?_
  refine x_callV0 (ci := 9) hP 0 0 rfl rfl rfl (by first | assumption | rfl) rfl rfl rfl (Nat.zero_le _) (Nat.zero_le _) ?_
  refine r_member0 (p := 0) hP hR t1 hr (Nat.zero_le _) ?_
  have eb := fun e h => memR_e (T := zT (sZ S)) (c := c) (n := n) (p := 0) (e := e) (Nat.zero_le _) h
  have rg := fun a b q h => memR_rg (T := zT (sZ S)) (c := c) (n := n) (p := 0) (a := a) (b := b) (q := q) c256 (Nat.zero_le _) h
  generalize memR (zT (sZ S)) c n 0 = om at k eb rg ⊢
  match om, k, eb, rg with
  | .inl e, k, eb, _ =>
    have eb := eb e rfl
    intro q v ⟨z, hz⟩
    rw [hz]
    refine x_istore_n hP rfl ?_
    exact r_mk9 hP hR (by omega) (bd _ _ (by omega) k) _ _ _ ⟨rfl, trivial⟩
  | .inr ((e, z), q), k, _, rg =>
    have ⟨g1, g2, g3, g4⟩ := rg e z q rfl
    have w3 := (hr.2.2.2.2.2.2.2 e g3).2.1
    dsimp only at k
    show P _ _ _ _ (Value.int (iI (30 * e + z : Nat)) :: _) _ _ _ _
    refine x_istore_n hP rfl ?_
    first | refine x_aload_n hP rfl rfl ?_ | refine x_aload_nN hP rfl rfl ?_
    refine x_bipush hP rfl ?_
    refine x_callV1 (ci := 9) hP 0 0 rfl rfl rfl (by first | assumption | rfl) rfl rfl rfl (Nat.zero_le _) (Nat.zero_le _) ?_
    refine r_needO hP hR t1 g2 (by decide) (fun z1 z2 => ?_) (fun z1 => ?_)
    rotate_left
    · rw [if_neg z1] at k
      exact r_mk15 hP hR (by omega) (bd _ _ (by omega) k) _ _ _ ⟨rfl, trivial⟩
    rw [if_pos z1] at k
    first | refine x_aload_n hP rfl rfl ?_ | refine x_aload_nN hP rfl rfl ?_
    refine x_callV0 (ci := 9) hP 0 0 rfl rfl rfl (by first | assumption | rfl) rfl rfl rfl (Nat.zero_le _) (Nat.zero_le _) ?_
    refine r_mark0 (p := q + 1) hP hR t1 hr (by omega) ?_
    have eb := fun e h => mrkR_e (T := zT (sZ S)) (c := c) (n := n) (p := q + 1) (e := e) (by omega) h
    have rg := fun a q2 h => mrkR_rg (T := zT (sZ S)) (c := c) (n := n) (p := q + 1) (a := a) (q := q2) c256 (by omega) h
    generalize mrkR (zT (sZ S)) c n (q + 1) = ok at k eb rg ⊢
    match ok, k, eb, rg with
    | .inl e2, k, eb, _ =>
      have eb := eb e2 rfl
      intro q v ⟨z, hz⟩
      rw [hz]
      refine x_istore_n hP rfl ?_
      exact r_mk20 hP hR (by omega) (bd _ _ (by omega) k) _ _ _ ⟨rfl, trivial⟩
    | .inr (m, r), k, _, rg =>
      have ⟨f1, f2, f3⟩ := rg m r rfl
      dsimp only at k
      show P _ _ _ _ (Value.int (iI (m : Nat)) :: _) _ _ _ _
      refine x_istore_n hP rfl ?_
      first | refine x_aload_n hP rfl rfl ?_ | refine x_aload_nN hP rfl rfl ?_
      refine x_bipush hP rfl ?_
      refine x_callV1 (ci := 9) hP 0 0 rfl rfl rfl (by first | assumption | rfl) rfl rfl rfl (Nat.zero_le _) (Nat.zero_le _) ?_
      refine r_needO hP hR t1 f2 (by decide) (fun y1 y2 => ?_) (fun y1 => ?_)
      rotate_left
      · rw [if_neg y1] at k
        exact r_mk26 hP hR (by omega) (bd _ _ (by omega) k) _ _ _ ⟨rfl, trivial⟩
      rw [if_pos y1] at k
      have fin : ∀ (u : Nat) (v : Int), (v = -2000000000 ∨ -1000000 ≤ v ∧ v ≤ 1000000) → (∀ I', rfI I' J (0, c, (zT (sZ S), nuU (zN (sZ S)) m e z v, zK (sZ S)), sV S, sP S) → frP (fun _ a _ => hh a) I I' → Q (some (.int (iI (cn (zT (sZ S)) (nuU (zN (sZ S)) m e z v) m (tD (zT (sZ S)))))) ) (x_hp I' J R)) → u = n → ∀ L r1 r2, x_ag L 0 [some (.ref 122), some (.int (iI (30 * e + z : Nat))), some (.int (iI m)), none, some (.int (iI v))] → P 172 (d + 4) 91 L [] (x_hp (rT I1 u (-1)) J R) r1 r2 Q := by
        intro u v hv kk hu L r1 r2 hL
        refine x_re hP _ hL ?_
        have s1 : rT I1 u (-1) 1580 122 0 = iI u := rfl
        have s2 : rT I1 u (-1) 1579 122 0 = iI n := t1.1
        first | refine x_aload_n hP rfl rfl ?_ | refine x_aload_nN hP rfl rfl ?_
        refine x_callV0 (ci := 9) hP 0 0 rfl rfl rfl (by first | assumption | rfl) rfl rfl rfl (Nat.zero_le _) (Nat.zero_le _) ?_
        refine r_badO hP ?_
        first | refine zb_if_ne hP rfl (fun c95 => ?_) (fun c95 => ?_) | refine zl_if_ne hP rfl (fun c95 => ?_) (fun c95 => ?_) | refine z_if_ne hP rfl (by omega) (fun c95 => ?_) (fun c95 => ?_)
        · cases c95
        first | refine x_aload_n hP rfl rfl ?_ | refine x_aload_nN hP rfl rfl ?_
        refine x_getI hP rfl (by first | assumption | rfl) (by first | assumption | exact hR _ _ _ _ rfl | exact hR1 _ _ _ _ rfl | exact hR2 _ _ _ _ rfl | rfl) ?_
        first | refine x_aload_n hP rfl rfl ?_ | refine x_aload_nN hP rfl rfl ?_
        refine x_getI hP rfl (by first | assumption | rfl) (by first | assumption | exact hR _ _ _ _ rfl | exact hR1 _ _ _ _ rfl | exact hR2 _ _ _ _ rfl | rfl) ?_
        refine z_icmp_ge hP rfl (by omega) (by omega) (fun c106 => ?_) (fun c106 => ?_)
        rotate_left
        · omega
        first | refine x_aload_n hP rfl rfl ?_ | refine x_aload_nN hP rfl rfl ?_
        refine x_callV0 (ci := 9) hP 0 0 rfl rfl rfl (by first | assumption | rfl) rfl rfl rfl (Nat.zero_le _) (Nat.zero_le _) ?_
        refine r_badO hP ?_
        first | refine zb_if_eq hP rfl (fun c121 => ?_) (fun c121 => ?_) | refine zl_if_eq hP rfl (fun c121 => ?_) (fun c121 => ?_) | refine z_if_eq hP rfl (by omega) (fun c121 => ?_) (fun c121 => ?_)
        rotate_left
        · cases c121
        refine r_mk133 (S := cutS S 0) hP hR hg.2.2.2.1 (rfI_rT hc1 u (-1)) f3 g3 g4 hv (fun I' i1 i2 => ?_) _ _ _ ⟨rfl, rfl, rfl, rfl, trivial⟩
        exact kk I' (by rw [← hcc]; exact i1) (frP_trans hf1 (frP_trans (frP_mono (rT_frW I1 u (-1)) fun _ _ _ => rW_hh) i2))
      have bdE : ∀ (u : Nat), u < n → (∀ I', rfI I' J (cutS S 0) → frP (fun _ a _ => hh a) I I' → Q (some (.int (iI (-1000 - u)))) (x_hp I' J R)) → ∀ L r1 r2, x_ag L 0 [some (.ref 122)] → P 172 (d + 4) 91 L [] (x_hp (rT I1 u (-1)) J R) r1 r2 Q := by
        intro u hu kk L r1 r2 hL
        refine x_re hP _ hL ?_
        have s1 : rT I1 u (-1) 1580 122 0 = iI u := rfl
        have s2 : rT I1 u (-1) 1579 122 0 = iI n := t1.1
        first | refine x_aload_n hP rfl rfl ?_ | refine x_aload_nN hP rfl rfl ?_
        refine x_callV0 (ci := 9) hP 0 0 rfl rfl rfl (by first | assumption | rfl) rfl rfl rfl (Nat.zero_le _) (Nat.zero_le _) ?_
        refine r_badO hP ?_
        first | refine zb_if_ne hP rfl (fun c95 => ?_) (fun c95 => ?_) | refine zl_if_ne hP rfl (fun c95 => ?_) (fun c95 => ?_) | refine z_if_ne hP rfl (by omega) (fun c95 => ?_) (fun c95 => ?_)
        · cases c95
        first | refine x_aload_n hP rfl rfl ?_ | refine x_aload_nN hP rfl rfl ?_
        refine x_getI hP rfl (by first | assumption | rfl) (by first | assumption | exact hR _ _ _ _ rfl | exact hR1 _ _ _ _ rfl | exact hR2 _ _ _ _ rfl | rfl) ?_
        first | refine x_aload_n hP rfl rfl ?_ | refine x_aload_nN hP rfl rfl ?_
        refine x_getI hP rfl (by first | assumption | rfl) (by first | assumption | exact hR _ _ _ _ rfl | exact hR1 _ _ _ _ rfl | exact hR2 _ _ _ _ rfl | rfl) ?_
        refine z_icmp_ge hP rfl (by omega) (by omega) (fun c106 => ?_) (fun c106 => ?_)
        · omega
        first | refine x_aload_n hP rfl rfl ?_ | refine x_aload_nN hP rfl rfl ?_
        first | refine x_aload_n hP rfl rfl ?_ | refine x_aload_nN hP rfl rfl ?_
        refine x_getI hP rfl (by first | assumption | rfl) (by first | assumption | exact hR _ _ _ _ rfl | exact hR1 _ _ _ _ rfl | exact hR2 _ _ _ _ rfl | rfl) ?_
        refine x_callV1 (ci := 9) hP 0 0 rfl rfl rfl (by first | assumption | rfl) rfl rfl rfl (Nat.zero_le _) (Nat.zero_le _) ?_
        refine r_failO hP ?_
        exact r_mk117 hP hR (by omega) (bd _ _ (by omega) kk) _ _ _ ⟨rfl, trivial⟩
      have toldP : ¬ (ch c n (r + 1) = 45 ∧ r + 1 + 1 = n) → ∀ L r1 r2, x_ag L 0 [some (.ref 122), some (.int (iI (30 * e + z : Nat))), some (.int (iI m))] → P 172 (d + 4) 59 L [] (x_hp (rT I1 (r + 1 : Nat) (-1)) J R) r1 r2 Q := by
        intro hno L r1 r2 hL
        refine x_re hP _ hL ?_
        rw [if_neg hno] at k
        refine x_iconst hP rfl ?_
        refine x_istore_n hP rfl ?_
        refine x_ldcI hP rfl ?_
        refine x_istore hP rfl ?_
        refine x_iload_n hP rfl rfl ?_
        first | refine zb_if_eq hP rfl (fun c66 => ?_) (fun c66 => ?_) | refine zl_if_eq hP rfl (fun c66 => ?_) (fun c66 => ?_) | refine z_if_eq hP rfl (by omega) (fun c66 => ?_) (fun c66 => ?_)
        rotate_left
        · exact absurd c66 (by decide)
        first | refine x_aload_n hP rfl rfl ?_ | refine x_aload_nN hP rfl rfl ?_
        refine x_iconst hP rfl ?_
        refine x_ldcI hP rfl ?_
        refine x_callV2 (ci := 9) hP 0 0 rfl rfl rfl (by first | assumption | rfl) rfl rfl rfl (Nat.zero_le _) (Nat.zero_le _) ?_
        refine r_toldO (p := r + 1) (may := true) (mo := 1000000) hP hR t1 (by omega) (by decide) ?_
        unfold tldR
        rw [if_pos rfl]
        have eb := fun e h => intR_e (c := c) (n := n) (p := r + 1) (e := e) (by omega) h
        have rg := fun v u h => intR_rg (c := c) (n := n) (p := r + 1) (v := v) (q := u) c256 (by omega) h
        generalize intR c n (r + 1) = oi at k eb rg ⊢
        match oi, k, eb, rg with
        | .inl e2, k, eb, _ =>
          have eb := eb e2 rfl
          intro q v ⟨z, hz⟩
          rw [hz]
          refine x_istore hP rfl ?_
          exact r_mk91 hP hR (by omega) (bd _ _ (by omega) k) _ _ _ ⟨rfl, trivial⟩
        | .inr (v, u), k, _, rg =>
          have rg := rg v u rfl
          dsimp only at k
          by_cases q1 : v < -1000000 ∨ 1000000 < v
          · rw [if_pos q1] at k
            dsimp only
            rw [if_pos q1]
            intro q v ⟨z, hz⟩
            rw [hz]
            refine x_istore hP rfl ?_
            exact r_mk91 hP hR (by omega) (bd _ _ (by omega) k) _ _ _ ⟨rfl, trivial⟩
          · rw [if_neg q1] at k
            dsimp only
            rw [if_neg q1]
            show P _ _ _ _ (Value.int (iI v) :: _) _ _ _ _
            refine x_istore hP rfl ?_
            by_cases q2 : u = n
            · rw [if_pos q2] at k
              exact fin u v (Or.inr ⟨by omega, by omega⟩) k q2 _ _ _ ⟨rfl, rfl, rfl, rfl, trivial⟩
            · rw [if_neg q2] at k
              exact bdE u (by omega) k _ _ _ ⟨rfl, trivial⟩
      have s1 : rT I1 (r + 1 : Nat) (-1) 1580 122 0 = iI (r + 1 : Nat) := rfl
      have s2 : rT I1 (r + 1 : Nat) (-1) 1579 122 0 = iI n := t1.1
      first | refine x_aload_n hP rfl rfl ?_ | refine x_aload_nN hP rfl rfl ?_
      refine x_callV0 (ci := 9) hP 0 0 rfl rfl rfl (by first | assumption | rfl) rfl rfl rfl (Nat.zero_le _) (Nat.zero_le _) ?_
      refine r_badO hP ?_
      first | refine zb_if_ne hP rfl (fun c30 => ?_) (fun c30 => ?_) | refine zl_if_ne hP rfl (fun c30 => ?_) (fun c30 => ?_) | refine z_if_ne hP rfl (by omega) (fun c30 => ?_) (fun c30 => ?_)
      · cases c30
      first | refine x_aload_n hP rfl rfl ?_ | refine x_aload_nN hP rfl rfl ?_
      refine x_callV0 (ci := 9) hP 0 0 rfl rfl rfl (by first | assumption | rfl) rfl rfl rfl (Nat.zero_le _) (Nat.zero_le _) ?_
      refine r_here hP hR t1 (by omega) ?_
      have chr := ch_rg (n := n) c256 (r + 1)
      refine x_bipush hP rfl ?_
      first | refine z_icmp_ne hP rfl (by omega) (by omega) (fun c39 => ?_) (fun c39 => ?_) | refine x_icmp_ne hP rfl (fun c39 => ?_) (fun c39 => ?_)
      · exact toldP (fun z => c39 z.1) _ _ _ ⟨rfl, rfl, rfl, trivial⟩
      first | refine x_aload_n hP rfl rfl ?_ | refine x_aload_nN hP rfl rfl ?_
      refine x_getI hP rfl (by first | assumption | rfl) (by first | assumption | exact hR _ _ _ _ rfl | exact hR1 _ _ _ _ rfl | exact hR2 _ _ _ _ rfl | rfl) ?_
      refine x_iconst hP rfl ?_
      first | refine z_iadd hP rfl ?_ | refine x_iadd hP rfl ?_
      first | refine x_aload_n hP rfl rfl ?_ | refine x_aload_nN hP rfl rfl ?_
      refine x_getI hP rfl (by first | assumption | rfl) (by first | assumption | exact hR _ _ _ _ rfl | exact hR1 _ _ _ _ rfl | exact hR2 _ _ _ _ rfl | rfl) ?_
      first | refine z_icmp_ne hP rfl (by omega) (by omega) (fun c52 => ?_) (fun c52 => ?_) | refine x_icmp_ne hP rfl (fun c52 => ?_) (fun c52 => ?_)
      · exact toldP (fun z => by omega) _ _ _ ⟨rfl, rfl, rfl, trivial⟩
      rw [if_pos ⟨c39, by omega⟩] at k
      refine x_iconst hP rfl ?_
      refine x_goto hP rfl ?_
      refine x_istore_n hP rfl ?_
      refine x_ldcI hP rfl ?_
      refine x_istore hP rfl ?_
      refine x_iload_n hP rfl rfl ?_
      first | refine zb_if_eq hP rfl (fun c66 => ?_) (fun c66 => ?_) | refine zl_if_eq hP rfl (fun c66 => ?_) (fun c66 => ?_) | refine z_if_eq hP rfl (by omega) (fun c66 => ?_) (fun c66 => ?_)
      · exact absurd c66 (by decide)
      first | refine x_aload_n hP rfl rfl ?_ | refine x_aload_nN hP rfl rfl ?_
      refine x_dup hP rfl rfl ?_
      refine x_getI hP rfl (by first | assumption | rfl) (by first | assumption | exact hR _ _ _ _ rfl | exact hR1 _ _ _ _ rfl | exact hR2 _ _ _ _ rfl | rfl) ?_
      refine x_iconst hP rfl ?_
      first | refine z_iadd hP rfl ?_ | refine x_iadd hP rfl ?_
      refine x_putI hP rfl (by first | assumption | rfl) ?_
      first | refine w_nI ?_ | refine w_nL ?_ | refine w_nR ?_ | refine w_mI ?_ | refine w_mL ?_ | refine w_mR ?_ | skip
      rw [rT_at]
      refine x_goto hP rfl ?_
      exact fin (r + 1 + 1) _ (Or.inl rfl) k (by omega) _ _ _ ⟨rfl, rfl, rfl, rfl, trivial⟩
end
