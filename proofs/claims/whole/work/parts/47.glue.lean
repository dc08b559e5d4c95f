/-! what a step leaves as it was -/
theorem tI_self {I : x_M Int32} {p w : Int} (h1 : I 1066 1 0 = iI p) (h2 : I 1067 1 0 = iI w) : tI I p w = I := by
  unfold tI
  rw [x_at_id _ _ _ _ h1, x_at_id _ _ _ _ h2]
theorem tI_fr (I : x_M Int32) (p w : Int) : frP (fun _ a _ => a = 1) I (tI I p w) := frP_at (frP_at (frP_refl _ _) rfl) rfl
theorem tI_tI (I : x_M Int32) (p w q v : Int) : tI (tI I p w) q v = tI I q v := by
  unfold tI
  rw [x_at_sw _ _ _ _ _ _ _ _ _ (by decide), x_at_at, x_at_sw _ _ _ _ _ _ _ _ _ (by decide), x_at_at]
theorem tpB_tI {I : x_M Int32} {n : Nat} {c : Nat → Nat} (h : tpB I n c) (p w : Int) : tpB (tI I p w) n c := h
theorem tp_fr {S : Nat → Nat → Nat → Prop} {I I' : x_M Int32} {n : Nat} {c : Nat → Nat} {p w : Int} (ht : tpB I n c) (hf : frP S (tI I p w) I') (hs : ∀ k a i, S k a i → 3 ≤ a) : tI I' p w = I' ∧ tpB I' n c := by
  have hf' : ∀ k a i, a < 3 → I' k a i = tI I p w k a i := fun k a i ha => hf k a i (fun q => by have := hs k a i q; omega)
  refine ⟨tI_self (hf' _ _ _ (by decide)) (hf' _ _ _ (by decide)), ?_⟩
  obtain ⟨h1, h2, h3, h4⟩ := ht
  exact ⟨(hf' _ _ _ (by decide)).trans h1, h2, h3, fun i hi => (hf' _ _ _ (by decide)).trans (h4 i hi)⟩
theorem ct_fr {S : Nat → Nat → Nat → Prop} {I I' : x_M Int32} {J J' : x_M Int64} {t : Nat} {T : x_T} (hc : ct I J t T) (hf : frP S I I') (hg : frP S J J') (hs : ∀ k a i, S k a i → ¬ (t ≤ a ∧ a ≤ t + 11)) : ct I' J' t T := by
  obtain ⟨h1, h2, h3, h4, h5, hw⟩ := hc
  have f : ∀ k a i, t ≤ a ∧ a ≤ t + 11 → I' k a i = I k a i := fun k a i ha => hf k a i (fun q => hs k a i q ha)
  have g : ∀ k a i, t ≤ a ∧ a ≤ t + 11 → J' k a i = J k a i := fun k a i ha => hg k a i (fun q => hs k a i q ha)
  exact ⟨(f _ _ _ (by omega)).trans h1, (f _ _ _ (by omega)).trans h2, fun d hd => (f _ _ _ (by omega)).trans (h3 d hd), fun d hd k hk => ⟨(g _ _ _ (by omega)).trans (h4 d hd k hk).1, (f _ _ _ (by omega)).trans (h4 d hd k hk).2.1, (f _ _ _ (by omega)).trans (h4 d hd k hk).2.2⟩, fun m hm => (g _ _ _ (by omega)).trans (h5 m hm), hw⟩
theorem nuP_fr {S : Nat → Nat → Nat → Prop} {I I' : x_M Int32} {t : Nat} {nu : Nat → Nat → Nat → Int} (h : nuP I t nu) (hf : frP S I I') (hs : ∀ k a i, S k a i → ¬ a = t + 11) : nuP I' t nu := fun m d k h1 h2 h3 => ⟨(hf _ _ _ (fun q => hs _ _ _ q rfl)).trans (h m d k h1 h2 h3).1, (h m d k h1 h2 h3).2⟩
theorem stP_fr {S : Nat → Nat → Nat → Prop} {I I' : x_M Int32} {t m : Nat} {T : x_T} (h : stP I t T m) (hf : frP S I I') (hs : ∀ k a i, S k a i → ¬ (t ≤ a ∧ a ≤ t + 11)) : stP I' t T m := fun e he => by
  have f : ∀ k a i, t ≤ a ∧ a ≤ t + 11 → I' k a i = I k a i := fun k a i ha => hf k a i (fun q => hs k a i q ha)
  obtain ⟨⟨h1, h2, h3⟩, h4, h5⟩ := h e he
  exact ⟨⟨fun k hk => (f _ _ _ (by omega)).trans (h1 k hk), fun k hk => (f _ _ _ (by omega)).trans (h2 k hk), fun k hk => (f _ _ _ (by omega)).trans (h3 k hk)⟩, fun k hk => (f _ _ _ (by omega)).trans (h4 k hk), fun k hk => (f _ _ _ (by omega)).trans (h5 k hk)⟩
theorem ct_tI {I : x_M Int32} {J : x_M Int64} {t : Nat} {T : x_T} (hc : ct I J t T) (h3 : 3 ≤ t) (p w : Int) : ct (tI I p w) J t T := ct_fr hc (tI_fr I p w) (frP_refl _ J) (fun k a i h => by omega)
theorem isTa_rg {t : Nat} (h : isTa t) : 98 ≤ t ∧ t ≤ 110 := by rcases h with rfl | rfl <;> decide
/-- a tree's addresses, and the tape's cursors -/
def tA (t a : Nat) : Prop := a = 1 ∨ t ≤ a ∧ a ≤ t + 10
theorem gT_tA {t k a i : Nat} (h : gT t k a i) : tA t a := by unfold gT at h; unfold tA; omega
