/-! Sorter.sort -/
theorem shn_snoc {v : Nat → Int} {l : List Nat} {x : Nat} : shn v (l ++ [x]) = shn v l ++ (if v x = -2000000000 then [] else [x]) := by
  unfold shn
  rw [List.filter_append, List.filter_cons, List.filter_nil]
  by_cases h : v x = -2000000000
  · rw [if_pos h, if_neg (by rw [decide_eq_true_iff]; exact fun q => q h)]
  · rw [if_neg h, if_pos (decide_eq_true h)]
theorem sil_snoc {v : Nat → Int} {l : List Nat} {x : Nat} : sil v (l ++ [x]) = sil v l ++ (if v x = -2000000000 then [x] else []) := by
  unfold sil
  rw [List.filter_append, List.filter_cons, List.filter_nil]
  by_cases h : v x = -2000000000
  · rw [if_pos h, if_pos (decide_eq_true h)]
  · rw [if_neg h, if_neg (by rw [decide_eq_true_iff]; exact h)]
theorem shn_sil_len (v : Nat → Int) : ∀ l : List Nat, (shn v l).length + (sil v l).length = l.length
  | [] => rfl
  | x :: l => by
    have ih := shn_sil_len v l
    unfold shn sil at *
    by_cases h : v x = -2000000000
    · rw [List.filter_cons, if_neg (by rw [decide_eq_true_iff]; exact fun q => q h), List.filter_cons, if_pos (decide_eq_true h), List.length_cons, List.length_cons]; omega
    · rw [List.filter_cons, if_pos (decide_eq_true h), List.filter_cons, if_neg (by rw [decide_eq_true_iff]; exact h), List.length_cons, List.length_cons]; omega
theorem shn_mem {v : Nat → Int} {l : List Nat} {x : Nat} (h : x ∈ shn v l) : x ∈ l := (List.mem_filter.mp h).1
theorem sil_mem {v : Nat → Int} {l : List Nat} {x : Nat} (h : x ∈ sil v l) : x ∈ l := (List.mem_filter.mp h).1
theorem srtL_len (K : Nat → Int) (L : List Nat) : (srtL K L).length = L.length := mk_len _ _
theorem kyF_app {v : Nat → Int} {fl : Bool} {L M : List Nat} {q : Nat} (h : q < L.length) : kyF v fl (L ++ M) q = kyF v fl L q := by
  unfold kyF
  rw [getD_app1 h]
/-- the sorter's places -/
def sA (a : Nat) : Prop := 90 ≤ a ∧ a ≤ 94
section
variable {E : x_E} {P : x_Pr} {d rc rs : Nat} {I : x_M Int32} {J : x_M Int64} {R : x_M (Option Nat)} {Q : x_Q} {t r m : Nat} {o l : List Nat} {nu : Nat → Nat → Nat → Int}
theorem c_sort1 (hP : x_closed E P) (hR : x_fin R) (hta : isTa t) (hm : m < 3) (hr : r ∈ x_rows) {a b : Nat} (hso : soR R a b) {fl : Bool} {v : Nat → Int} (hv : v = shw nu m o) : ∀ (f i : Nat) (I : x_M Int32) (J : x_M Int64), i + f = l.length → nuP I t nu → rw I r o l → ar I 93 (shn v (l.take i)) → ar I 94 (sil v (l.take i)) → lf J a 0 (shn v (l.take i)).length (kyF v fl (shn v (l.take i))) → (∀ I' J' L, x_ag L 0 [some (.ref 90), some (.ref r), some (.ref t), some (.int (iI m)), some (.int (bI fl)), some (.int (iI (shn v l).length)), some (.int (iI (sil v l).length))] → rw I' r o l → ar I' 93 (shn v l) → ar I' 94 (sil v l) → lf J' a 0 (shn v l).length (kyF v fl (shn v l)) → frP (fun _ c _ => c = 93 ∨ c = 94) I I' → frP (fun _ c _ => c = 91 ∨ c = 92) J J' → P 97 (d + 2) 108 L [] (x_hp I' J' R) (rc - 0) (rs - 0) Q) →
    P 97 (d + 2) 9 (x_ls [some (.ref 90), some (.ref r), some (.ref t), some (.int (iI m)), some (.int (bI fl)), some (.int (iI (shn v (l.take i)).length)), some (.int (iI (sil v (l.take i)).length)), some (.int (iI i)), none]) [] (x_hp I J R) rc rs Q := by
  have q1 := isRw_of hR hr
  have ht := isTr_of hR hta
  have t0 := ht.1
  obtain ⟨s1, s2, s3⟩ := hso
  obtain ⟨ka, kb, hne⟩ := soA_k s1
  obtain ⟨g1, g2, g3, g4, g5⟩ := q1
  have ks := (rows_rg hr).2.2.2.1
  intro f
  induction f with
  | zero =>
    intro i I J hi hn hw h1 h2 h3 k
    have a1 := hw.1
    have a3 := hw.2.2.1
    rw [List.take_of_length_le (by omega)] at h1 h2 h3 ⊢
    refine x_iload hP rfl rfl ?_
    first | refine x_aload_n hP rfl rfl ?_ | refine x_aload_nN hP rfl rfl ?_
    refine x_getI hP rfl (by first | assumption | rfl) (by first | assumption | exact hR _ _ _ _ rfl | exact hR1 _ _ _ _ rfl | exact hR2 _ _ _ _ rfl | rfl) ?_
    refine z_icmp_ge hP rfl (by omega) (by omega) (fun c15 => ?_) (fun c15 => ?_)
    · exact k I J _ ⟨rfl, rfl, rfl, rfl, rfl, rfl, rfl, trivial⟩ hw h1 h2 h3 (frP_refl _ _) (frP_refl _ _)
    · omega
  | succ f ih =>
    intro i I J hi hn hw h1 h2 h3 k
    have hw' := hw
    obtain ⟨a1, a2, a3, a4, a5, a6, a7, a8⟩ := hw
    have v1 := a6 i (by omega)
    have v2 := a7 _ (getD_mem (l := l) (i := i) (by omega))
    have hlen := shn_sil_len v (l.take i)
    rw [List.length_take] at hlen
    have et1 : shn v (l.take (i + 1)) = shn v (l.take i) ++ (if v (l.getD i 0) = -2000000000 then [] else [l.getD i 0]) := by rw [takec (by omega), shn_snoc]
    have et2 : sil v (l.take (i + 1)) = sil v (l.take i) ++ (if v (l.getD i 0) = -2000000000 then [l.getD i 0] else []) := by rw [takec (by omega), sil_snoc]
    have hrg := shw_rg (x := l.getD i 0) hn hw' hm
    rw [← hv] at hrg
    refine x_iload hP rfl rfl ?_
    first | refine x_aload_n hP rfl rfl ?_ | refine x_aload_nN hP rfl rfl ?_
    refine x_getI hP rfl (by first | assumption | rfl) (by first | assumption | exact hR _ _ _ _ rfl | exact hR1 _ _ _ _ rfl | exact hR2 _ _ _ _ rfl | rfl) ?_
    refine z_icmp_ge hP rfl (by omega) (by omega) (fun c15 => ?_) (fun c15 => ?_)
    · omega
    first | refine x_aload_n hP rfl rfl ?_ | refine x_aload_nN hP rfl rfl ?_
    first | refine x_aload_n hP rfl rfl ?_ | refine x_aload_nN hP rfl rfl ?_
    refine x_iload hP rfl rfl ?_
    refine x_iload_n hP rfl rfl ?_
    refine x_callV3 (ci := 8) hP 0 0 rfl rfl rfl (by first | assumption | rfl) rfl rfl rfl (Nat.zero_le _) (Nat.zero_le _) ?_
    refine c_sumOf hP ht hn (isRw_of hR hr) hw' (by omega) hm ?_
    rw [← hv]
    refine x_istore hP rfl ?_
    refine x_iload hP rfl rfl ?_
    refine x_ldcI hP rfl ?_
    first | refine z_icmp_ne hP rfl (by omega) (by omega) (fun c32 => ?_) (fun c32 => ?_) | refine x_icmp_ne hP rfl (fun c32 => ?_) (fun c32 => ?_)
    · rw [if_neg c32] at et1 et2
      rw [List.append_nil] at et2
      have fin : ∀ (z : Int) L, z = kyF v fl (shn v (l.take i) ++ [l.getD i 0]) (shn v (l.take i)).length → x_ag L 0 [some (.ref 90), some (.ref r), some (.ref t), some (.int (iI m)), some (.int (bI fl)), some (.int (iI (shn v (l.take i)).length)), some (.int (iI (sil v (l.take i)).length)), some (.int (iI i))] → P 97 (d + 2) 85 L [] (x_hp I (x_at J 6 a (shn v (l.take i)).length (lI z)) R) (rc - 0) (rs - 0) Q := by
        intro z L hz hL
        refine x_re hP _ hL ?_
        first | refine x_aload_n hP rfl rfl ?_ | refine x_aload_nN hP rfl rfl ?_
        refine x_getR hP rfl (by first | assumption | rfl) (by first | assumption | exact hR _ _ _ _ rfl | exact hR1 _ _ _ _ rfl | exact hR2 _ _ _ _ rfl | rfl) ?_
        refine x_iload hP rfl rfl ?_
        first | refine x_aload_n hP rfl rfl ?_ | refine x_aload_nN hP rfl rfl ?_
        refine x_getR hP rfl (by first | assumption | rfl) (by first | assumption | exact hR _ _ _ _ rfl | exact hR1 _ _ _ _ rfl | exact hR2 _ _ _ _ rfl | rfl) ?_
        refine x_iload hP rfl rfl ?_
        refine z_iald hP rfl (by first | assumption | rfl) (by first | decide | omega) (by omega) (by first | assumption | exact hR _ _ _ _ rfl | exact hR1 _ _ _ _ rfl | exact hR2 _ _ _ _ rfl | rfl) ?_
        refine z_iast hP rfl (by first | assumption | rfl) (by first | decide | omega) (by omega) ?_
        first | refine w_nI ?_ | refine w_nL ?_ | refine w_nR ?_ | refine w_mI ?_ | refine w_mL ?_ | refine w_mR ?_ | skip
        refine z_iinc hP rfl rfl rfl ?_
        refine z_iinc hP rfl rfl rfl ?_
        refine x_goto hP rfl ?_
        have hf : frP (fun _ c _ => c = 93 ∨ c = 94) I (x_at I 1 93 (shn v (l.take i)).length (iI (l.getD i 0))) := frP_at (frP_refl _ _) (Or.inl rfl)
        have hg : frP (fun _ c _ => c = 91 ∨ c = 92) J (x_at J 6 a (shn v (l.take i)).length (lI z)) := frP_at (frP_refl _ _) (by rcases s1 with s | s <;> omega)
        refine x_re hP [some (.ref 90), some (.ref r), some (.ref t), some (.int (iI m)), some (.int (bI fl)), some (.int (iI (shn v (l.take (i + 1))).length)), some (.int (iI (sil v (l.take (i + 1))).length)), some (.int (iI (i + 1 : Nat))), none] ⟨rfl, rfl, rfl, rfl, rfl, ?_, ?_, rfl, trivial⟩ (ih (i + 1) _ _ (by omega) (nuP_fr hn hf (fun k c i h => by have := isTa_rg hta; omega)) (rw_fr hw' hf (fun k c i h => by have := rg_a h; omega)) ?_ ?_ ?_ (fun I' J' L q0 q1 q2 q3 q4 q5 q6 => k I' J' L q0 q1 q2 q3 q4 (frP_trans hf q5) (frP_trans hg q6)))
        · rw [et1, List.length_append]; rfl
        · rw [et2]; rfl
        · rw [et1]; exact ar_snoc h1
        · rw [et2]; exact ar_at h2 (by omega)
        · rw [et1, List.length_append]
          intro q _ q2
          have q2 : q < (shn v (l.take i)).length + 1 := q2
          show x_at J 6 a (shn v (l.take i)).length (lI z) 6 a q = _
          rw [x_at_eq]
          by_cases e : q = (shn v (l.take i)).length
          · rw [if_pos ⟨rfl, rfl, e⟩, e, hz]
          · rw [if_neg (fun w => e w.2.2), kyF_app (by omega)]
            exact h3 q (Nat.zero_le _) (by omega)
      have hk : kyF v fl (shn v (l.take i) ++ [l.getD i 0]) (shn v (l.take i)).length = (if fl = true then -(v (l.getD i 0)) else v (l.getD i 0)) * 256 + ((shn v (l.take i)).length : Int) := by
        unfold kyF
        rw [getD_app2 (Nat.le_refl _), Nat.sub_self]
        rfl
      first | refine x_aload_n hP rfl rfl ?_ | refine x_aload_nN hP rfl rfl ?_
      refine x_getR hP rfl (by first | assumption | rfl) (by first | assumption | exact hR _ _ _ _ rfl | exact hR1 _ _ _ _ rfl | exact hR2 _ _ _ _ rfl | rfl) ?_
      refine x_iload hP rfl rfl ?_
      refine x_iload hP rfl rfl ?_
      first | refine zb_if_eq hP rfl (fun c63 => ?_) (fun c63 => ?_) | refine zl_if_eq hP rfl (fun c63 => ?_) (fun c63 => ?_) | refine z_if_eq hP rfl (by omega) (fun c63 => ?_) (fun c63 => ?_)
      · refine x_iload hP rfl rfl ?_
        refine z_i2l hP rfl (by omega) ?_
        refine x_ldcL hP rfl ?_
        first | refine z_lmul hP rfl ?_ | refine x_lmul hP rfl ?_
        refine x_iload hP rfl rfl ?_
        refine z_i2l hP rfl (by omega) ?_
        first | refine z_ladd hP rfl ?_ | refine x_ladd hP rfl ?_
        refine z_last hP rfl (by first | assumption | rfl) (by first | decide | omega) (by omega) ?_
        first | refine w_nI ?_ | refine w_nL ?_ | refine w_nR ?_ | refine w_mI ?_ | refine w_mL ?_ | refine w_mR ?_ | skip
        refine fin _ _ ?_ ⟨rfl, rfl, rfl, rfl, rfl, rfl, rfl, rfl, trivial⟩
        rw [hk, c63, if_neg (by decide)]
      · refine x_iload hP rfl rfl ?_
        refine z_i2l hP rfl (by omega) ?_
        refine z_lneg hP rfl ?_
        refine x_goto hP rfl ?_
        refine x_ldcL hP rfl ?_
        first | refine z_lmul hP rfl ?_ | refine x_lmul hP rfl ?_
        refine x_iload hP rfl rfl ?_
        refine z_i2l hP rfl (by omega) ?_
        first | refine z_ladd hP rfl ?_ | refine x_ladd hP rfl ?_
        refine z_last hP rfl (by first | assumption | rfl) (by first | decide | omega) (by omega) ?_
        first | refine w_nI ?_ | refine w_nL ?_ | refine w_nR ?_ | refine w_mI ?_ | refine w_mL ?_ | refine w_mR ?_ | skip
        refine fin _ _ ?_ ⟨rfl, rfl, rfl, rfl, rfl, rfl, rfl, rfl, trivial⟩
        rw [hk, c63, if_pos rfl]
    · rw [if_pos c32] at et1 et2
      rw [List.append_nil] at et1
      first | refine x_aload_n hP rfl rfl ?_ | refine x_aload_nN hP rfl rfl ?_
      refine x_getR hP rfl (by first | assumption | rfl) (by first | assumption | exact hR _ _ _ _ rfl | exact hR1 _ _ _ _ rfl | exact hR2 _ _ _ _ rfl | rfl) ?_
      refine x_iload hP rfl rfl ?_
      first | refine x_aload_n hP rfl rfl ?_ | refine x_aload_nN hP rfl rfl ?_
      refine x_getR hP rfl (by first | assumption | rfl) (by first | assumption | exact hR _ _ _ _ rfl | exact hR1 _ _ _ _ rfl | exact hR2 _ _ _ _ rfl | rfl) ?_
      refine x_iload hP rfl rfl ?_
      refine z_iald hP rfl (by first | assumption | rfl) (by first | decide | omega) (by omega) (by first | assumption | exact hR _ _ _ _ rfl | exact hR1 _ _ _ _ rfl | exact hR2 _ _ _ _ rfl | rfl) ?_
      refine z_iast hP rfl (by first | assumption | rfl) (by first | decide | omega) (by omega) ?_
      first | refine w_nI ?_ | refine w_nL ?_ | refine w_nR ?_ | refine w_mI ?_ | refine w_mL ?_ | refine w_mR ?_ | skip
      refine z_iinc hP rfl rfl rfl ?_
      refine x_goto hP rfl ?_
      refine z_iinc hP rfl rfl rfl ?_
      refine x_goto hP rfl ?_
      have hf : frP (fun _ c _ => c = 93 ∨ c = 94) I (x_at I 1 94 (sil v (l.take i)).length (iI (l.getD i 0))) := frP_at (frP_refl _ _) (Or.inr rfl)
      refine x_re hP [some (.ref 90), some (.ref r), some (.ref t), some (.int (iI m)), some (.int (bI fl)), some (.int (iI (shn v (l.take (i + 1))).length)), some (.int (iI (sil v (l.take (i + 1))).length)), some (.int (iI (i + 1 : Nat))), none] ⟨rfl, rfl, rfl, rfl, rfl, ?_, ?_, rfl, trivial⟩ (ih (i + 1) _ _ (by omega) (nuP_fr hn hf (fun k c i h => by have := isTa_rg hta; omega)) (rw_fr hw' hf (fun k c i h => by have := rg_a h; omega)) ?_ ?_ ?_ (fun I' J' L q0 q1 q2 q3 q4 q5 q6 => k I' J' L q0 q1 q2 q3 q4 (frP_trans hf q5) q6))
      · rw [et1]; rfl
      · rw [et2, List.length_append]; rfl
      · rw [et1]; exact ar_at h1 (by omega)
      · rw [et2]; exact ar_snoc h2
      · rw [et1]; exact h3
theorem c_sort3 (hP : x_closed E P) (hR : x_fin R) (hr : r ∈ x_rows) {a b n : Nat} (hso : soR R a b) {L1 : List Nat} {S : Nat → Int} (hn : n = L1.length) (hn2 : n ≤ 200) {G : List Nat} (hG : ∀ i, i < n → ∃ j, j < n ∧ (S i - j) % 256 = 0 ∧ G.getD i 0 = L1.getD j 0) (hl : lf J a 0 n S) {z : Int} : ∀ (f i : Nat) (I : x_M Int32), i + f = n → ar I 93 L1 → (∀ q, q < i → I 1 (r + 1) q = iI (G.getD q 0)) → (∀ I' L, x_ag L 0 [some (.ref 90), some (.ref r), none, none, none, some (.int (iI n)), some (.int (iI z))] → (∀ q, q < n → I' 1 (r + 1) q = iI (G.getD q 0)) → frP (fun k c i => k = 1 ∧ c = r + 1 ∧ i < n) I I' → P 97 d 154 L [] (x_hp I' J R) rc rs Q) →
    P 97 d 117 (x_ls [some (.ref 90), some (.ref r), none, none, none, some (.int (iI n)), some (.int (iI z)), some (.int (iI i))]) [] (x_hp I J R) rc rs Q := by
  have q1 := isRw_of hR hr
  obtain ⟨s1, s2, s3⟩ := hso
  obtain ⟨ka, kb, hne⟩ := soA_k s1
  obtain ⟨g1, g2, g3, g4, g5⟩ := q1
  have ks := (rows_rg hr).2.2.2.1
  intro f
  induction f with
  | zero =>
    intro i I hi h1 h2 k
    refine x_iload hP rfl rfl ?_
    refine x_iload hP rfl rfl ?_
    refine z_icmp_ge hP rfl (by omega) (by omega) (fun c121 => ?_) (fun c121 => ?_)
    · exact k I _ ⟨rfl, rfl, rfl, rfl, trivial⟩ (fun q hq => h2 q (by omega)) (frP_refl _ _)
    · omega
  | succ f ih =>
    intro i I hi h1 h2 k
    have v1 := hl i (Nat.zero_le _) (by omega)
    obtain ⟨j, j1, j2, j3⟩ := hG i (by omega)
    have v2 := h1 j (by omega)
    refine x_iload hP rfl rfl ?_
    refine x_iload hP rfl rfl ?_
    refine z_icmp_ge hP rfl (by omega) (by omega) (fun c121 => ?_) (fun c121 => ?_)
    · omega
    first | refine x_aload_n hP rfl rfl ?_ | refine x_aload_nN hP rfl rfl ?_
    refine x_getR hP rfl (by first | assumption | rfl) (by first | assumption | exact hR _ _ _ _ rfl | exact hR1 _ _ _ _ rfl | exact hR2 _ _ _ _ rfl | rfl) ?_
    refine x_iload hP rfl rfl ?_
    first | refine x_aload_n hP rfl rfl ?_ | refine x_aload_nN hP rfl rfl ?_
    refine x_getR hP rfl (by first | assumption | rfl) (by first | assumption | exact hR _ _ _ _ rfl | exact hR1 _ _ _ _ rfl | exact hR2 _ _ _ _ rfl | rfl) ?_
    first | refine x_aload_n hP rfl rfl ?_ | refine x_aload_nN hP rfl rfl ?_
    refine x_getR hP rfl (by first | assumption | rfl) (by first | assumption | exact hR _ _ _ _ rfl | exact hR1 _ _ _ _ rfl | exact hR2 _ _ _ _ rfl | rfl) ?_
    refine x_iload hP rfl rfl ?_
    refine z_lald hP rfl (by first | assumption | rfl) (by first | decide | omega) (by omega) (by first | assumption | exact hR _ _ _ _ rfl | exact hR1 _ _ _ _ rfl | exact hR2 _ _ _ _ rfl | rfl) ?_
    refine x_ldcL hP rfl ?_
    refine x_land hP rfl ?_
    refine x_l2i hP rfl ?_
    rw [land255 (S i) j (by omega) j2]
    refine z_iald hP rfl (by first | assumption | rfl) (by first | decide | omega) (by omega) (by first | assumption | exact hR _ _ _ _ rfl | exact hR1 _ _ _ _ rfl | exact hR2 _ _ _ _ rfl | rfl) ?_
    refine z_iast hP rfl (by first | assumption | rfl) (by first | decide | omega) (by omega) ?_
    first | refine w_nI ?_ | refine w_nL ?_ | refine w_nR ?_ | refine w_mI ?_ | refine w_mL ?_ | refine w_mR ?_ | skip
    refine z_iinc hP rfl rfl rfl ?_
    refine x_goto hP rfl ?_
    have hf : frP (fun k c i => k = 1 ∧ c = r + 1 ∧ i < n) I (x_at I 1 (r + 1) i (iI (L1.getD j 0))) := frP_at (frP_refl _ _) ⟨rfl, rfl, by omega⟩
    refine x_re hP [some (.ref 90), some (.ref r), none, none, none, some (.int (iI n)), some (.int (iI z)), some (.int (iI (i + 1 : Nat)))] ⟨rfl, rfl, rfl, rfl, rfl, trivial⟩ (ih (i + 1) _ (by omega) (ar_at h1 (by omega)) (fun q hq => ?_) (fun I' L q0 q1 q2 => k I' L q0 q1 (frP_trans hf q2)))
    show x_at I 1 (r + 1) i (iI (L1.getD j 0)) 1 (r + 1) q = _
    rw [x_at_eq]
    by_cases e : q = i
    · rw [if_pos ⟨rfl, rfl, e⟩, e, j3]
    · rw [if_neg (fun w => e w.2.2)]; exact h2 q (by omega)
theorem c_sort (hP : x_closed E P) (hR : x_fin R) (hta : isTa t) (hm : m < 3) (hr : r ∈ x_rows) {a b : Nat} (hso : soR R a b) {fl : Bool} {v : Nat → Int} (hv : v = shw nu m o) (hn : nuP I t nu) (hw : rw I r o l) (k : ∀ I' J' R' a' b', rw I' r o (sortL v fl l) → soR R' a' b' → x_fin R' → frP (fun _ c _ => c = 90) R R' → frP (fun _ c _ => sA c ∨ r ≤ c ∧ c ≤ r + 2) I I' → frP (fun _ c _ => sA c) J J' → Q (some (.int (iI (shn v l).length))) (x_hp I' J' R')) : P 97 (d + 2) 0 (x_la 0 [.ref 90, .ref r, .ref t, .int (iI m), .int (bI fl)]) [] (x_hp I J R) rc rs Q := by
  have ks := (rows_rg hr).2.2.2.1
  refine x_iconst hP rfl ?_
  refine x_istore hP rfl ?_
  refine x_iconst hP rfl ?_
  refine x_istore hP rfl ?_
  refine x_iconst hP rfl ?_
  refine x_istore hP rfl ?_
  refine x_re hP [some (.ref 90), some (.ref r), some (.ref t), some (.int (iI m)), some (.int (bI fl)), some (.int (iI (shn v (l.take 0)).length)), some (.int (iI (sil v (l.take 0)).length)), some (.int (iI (0 : Nat))), none] ⟨rfl, rfl, rfl, rfl, rfl, rfl, rfl, rfl, trivial⟩ (c_sort1 hP hR hta hm hr hso hv l.length 0 I J (by omega) hn hw (ar_nil _ _) (ar_nil _ _) (fun q _ h => absurd h (Nat.not_lt_zero _)) (fun I1 J1 L hL hw1 h1 h2 h3 f1 f2 => ?_))
  obtain ⟨a1, a2, a3, a4, a5, a6, a7, a8⟩ := hw1
  have hlen := shn_sil_len v l
  have hvb : bnd (kyF v fl (shn v l)) 0 (shn v l).length := fun i _ hi => by
    have hrg := shw_rg (x := (shn v l).getD i 0) hn hw hm
    rw [← hv] at hrg
    have hx := (List.mem_filter.mp (getD_mem hi)).2
    have hx := of_decide_eq_true hx
    unfold kyF
    split <;> omega
  refine x_re hP _ hL ?_
  first | refine x_aload_n hP rfl rfl ?_ | refine x_aload_nN hP rfl rfl ?_
  refine x_iload hP rfl rfl ?_
  refine x_callV1 (ci := 6) hP 0 0 rfl rfl rfl (by first | assumption | rfl) rfl rfl rfl (Nat.zero_le _) (Nat.zero_le _) ?_
  refine c_sortKeys hP (by omega) hR hso h3 hvb (fun J2 R2 a2' b2' S w1 w2 w3 w4 w5 w6 w7 w8 => ?_)
  have hR := w2
  have q1 := isRw_of w2 hr
  obtain ⟨g1, g2, g3, g4, g5⟩ := q1
  have inj := kyF_inj (v := v) (fl := fl) (L := shn v l) (n := (shn v l).length) (by omega)
  have hG : ∀ i, i < (shn v l).length → ∃ j, j < (shn v l).length ∧ (S i - j) % 256 = 0 ∧ (srtL (kyF v fl (shn v l)) (shn v l)).getD i 0 = (shn v l).getD j 0 := fun i hi => by
    obtain ⟨j, j1, j2, j3⟩ := sort_ix inj w5 w7 hi
    refine ⟨j, j1, ?_, ?_⟩
    · rw [j2]; unfold kyF; omega
    · rw [srtL, mk_get hi, ixK_eq inj j1 j3]
  refine x_iconst hP rfl ?_
  refine x_istore hP rfl ?_
  refine x_re hP [some (.ref 90), some (.ref r), none, none, none, some (.int (iI (shn v l).length)), some (.int (iI ((sil v l).length : Nat))), some (.int (iI (0 : Nat)))] ⟨rfl, rfl, rfl, rfl, rfl, trivial⟩ (c_sort3 hP w2 hr w1 rfl (by omega) hG w4 (shn v l).length 0 I1 (by omega) h1 (fun q hq => by omega) (fun I3 L hL h4 f4 => ?_))
  have h2' : ar I3 94 (sil v l) := ar_fr h2 f4 (by omega)
  refine x_re hP _ hL ?_
  first | refine x_aload_n hP rfl rfl ?_ | refine x_aload_nN hP rfl rfl ?_
  refine x_getR hP rfl (by first | assumption | rfl) (by first | assumption | exact hR _ _ _ _ rfl | exact hR1 _ _ _ _ rfl | exact hR2 _ _ _ _ rfl | rfl) ?_
  refine x_iconst hP rfl ?_
  first | refine x_aload_n hP rfl rfl ?_ | refine x_aload_nN hP rfl rfl ?_
  refine x_getR hP rfl (by first | assumption | rfl) (by first | assumption | exact hR _ _ _ _ rfl | exact hR1 _ _ _ _ rfl | exact hR2 _ _ _ _ rfl | rfl) ?_
  refine x_iload hP rfl rfl ?_
  refine x_iload hP rfl rfl ?_
  refine z_copy hP rfl rfl (by first | assumption | rfl) (by first | assumption | rfl) (by omega) ?_
  refine x_iload hP rfl rfl ?_
  refine x_iret hP rfl rfl ?_
  have hG2 : ∀ x ∈ sortL v fl l, x < 1048576 := fun x hx => by
    rcases List.mem_append.mp hx with q | q
    · obtain ⟨i, hi, e⟩ := mk_mem.mp q
      obtain ⟨j, j1, _, j3⟩ := hG i hi
      rw [srtL, mk_get hi] at j3
      rw [← e, j3]
      exact a7 _ (shn_mem (getD_mem j1))
    · exact a7 _ (sil_mem q)
  refine k _ J2 R2 a2' b2' ⟨?_, ?_, ?_, a4, ?_, ?_, hG2, a8⟩ w1 w2 w3 ?_ (frP_tr f2 w8 (fun k c i h => by unfold sA; omega) (fun k c i h => by unfold sA; omega))
  · rw [x_cp_eq, if_neg (by omega), f4 _ _ _ (by omega), a1, sortL, List.length_append, srtL_len, hlen]
  · rw [x_cp_eq, if_neg (by omega), f4 _ _ _ (by omega), a2]
  · rw [sortL, List.length_append, srtL_len, hlen]; exact a3
  · exact ar_cpo (ar_fr a5 f4 (by omega)) (by omega)
  · intro q hq
    rw [sortL, List.length_append, srtL_len] at hq
    show x_cp I3 1 94 0 (r + 1) (shn v l).length (sil v l).length 1 (r + 1) q = _
    rw [x_cp_eq, sortL]
    by_cases c : q < (shn v l).length
    · rw [if_neg (by omega), getD_app1 (by rw [srtL_len]; exact c)]
      exact h4 q c
    · rw [if_pos ⟨rfl, rfl, by omega, by omega⟩, getD_app2 (by rw [srtL_len]; omega), srtL_len, Nat.zero_add]
      exact h2' _ (by omega)
  · refine frP_tr f1 (frP_cp (frP_mono f4 (T := fun k c i => k = 1 ∧ c = r + 1) (fun k c i h => ⟨h.1, h.2.1⟩)) (fun _ => ⟨rfl, rfl⟩)) (fun k c i h => ?_) (fun k c i h => ?_)
    · unfold sA; omega
    · omega
end
