/-! THE LAW -/
def sc (E : x_E) (j : Nat) : Int := (E.2.1 j).toInt
theorem sc_rg (E : x_E) (j : Nat) : -2147483648 ≤ sc E j ∧ sc E j < 2147483648 := by
  have a := Int32.le_toInt (E.2.1 j)
  have b := Int32.toInt_lt (E.2.1 j)
  unfold sc
  omega
section
variable {E : x_E} {P : x_Pr} {y d pc : Nat} {L : x_L} {st : List Value} {h : x_H} {rc rs : Nat} {Q : x_Q} {nx t a b g : Nat} {v : Int32} {l : Int64}
theorem z_ialdE (hP : x_closed E P) {p : Int} (h0 : x_ins y pc = some (.iaload, nx, t, a, b, g, v, l)) (hp : 0 ≤ p ∧ p < E.1) (hE : E.1 < 2147483648) (k : P y d nx L (.int (iI (sc E p.toNat)) :: st) h rc rs Q) : P y d pc L (.int (iI p) :: .ref 1000000 :: st) h rc rs Q := by
  refine x_ialdS (k := 0) (iz := 0) hP h0 rfl (iI_in (n := E.1) hp hE) (x := .int (iI (sc E p.toNat))) ?_ k
  rw [iI_clamp (by omega)]
  show Value.int (E.2.1 p.toNat) = _
  unfold sc
  rw [iI_self]
end
theorem and15 (x : Int32) : ∃ k : Nat, k < 16 ∧ x &&& iI 15 = iI (k : Nat) := by
  refine ⟨x.toBitVec.toNat % 16, Nat.mod_lt _ (by decide), ?_⟩
  rw [← Int32.toBitVec_inj]
  apply BitVec.eq_of_toNat_eq
  rw [Int32.toBitVec_and, BitVec.toNat_and]
  show x.toBitVec.toNat &&& (2 ^ 4 - 1) = _
  rw [Nat.and_two_pow_sub_one_eq_mod, ← nI_iI]
  show _ = (BitVec.ofNat 32 (x.toBitVec.toNat % 16)).toNat
  rw [BitVec.toNat_ofNat]
  omega
section
variable {E : x_E} {P : x_Pr} {Q : x_Q}
theorem law_loop (hP : x_closed E P) (hE : x_is2 (some E.2.2) = false) (h3 : E.1 ≤ 3072) (k : ∀ h, Q (some (.int (iI 1))) h) : ∀ (f i : Nat) (S : x_St) (I : x_M Int32) (J : x_M Int64) (R : x_M (Option Nat)) (F : Int), E.1 ≤ i + f → i ≤ 4000 → F + 40 * (f : Int) ≤ 1000000 → clI I J R S F → rfI I J S → kpS S → ∀ rc rs, P 221 1000 18 (x_ls [some (.ref 1000000), some (.ref 0), some (.ref 122), some (.int (iI i))]) [] (x_hp I J R) rc rs Q := by
  have hE3 : E.1 < 2147483648 := by omega
  intro f
  induction f with
  | zero =>
    intro i S I J R F hf hi hF hc hr hk rc rs
    refine x_iload_n hP rfl rfl ?_
    first | refine x_aload_n hP rfl rfl ?_ | refine x_aload_nN hP rfl rfl ?_
    refine x_alenS (k := 0) (iz := 0) hP rfl rfl ?_
    rw [nI_iI]
    show P _ _ _ _ (Value.int (iI (E.1 : Nat)) :: _) _ _ _ _
    refine x_bipush hP rfl ?_
    first | refine z_isub hP rfl ?_ | refine x_isub hP rfl ?_
    refine z_icmp_gt hP rfl (by omega) (by omega) (fun c24 => ?_) (fun c24 => ?_)
    · refine x_iconst hP rfl ?_
      refine x_zret hP rfl rfl (by first | exact Or.inl iI_0 | exact Or.inr iI_1 | exact bI_or _ | assumption) ?_
      exact k _
    · omega
  | succ f ih =>
    intro i S I J R F hf hi hF hc hr hk rc rs
    have nx : ∀ (S' : x_St) (I' : x_M Int32) (J' : x_M Int64) (R' : x_M (Option Nat)) (L : x_L) (r1 r2 : Nat), clI I' J' R' S' (F + 40) → rfI I' J' S' → kpS S' → i < E.1 → x_ag L 0 [some (.ref 1000000), some (.ref 0), some (.ref 122), some (.int (iI i))] → P 221 1000 503 L [] (x_hp I' J' R') r1 r2 Q := by
      intro S' I' J' R' L r1 r2 n1 n2 n3 n4 hL
      refine x_re hP _ hL ?_
      refine z_iinc hP rfl rfl rfl ?_
      refine x_goto hP rfl ?_
      exact x_re hP [some (.ref 1000000), some (.ref 0), some (.ref 122), some (.int (iI (i + 6 : Nat)))] ⟨rfl, rfl, rfl, rfl, trivial⟩ (ih (i + 6) S' I' J' R' (F + 40) (by omega) (by omega) (by omega) n1 n2 n3 _ _)
    have gs : gS S := gS_of hc hk.1 hk.2.1
    refine x_iload_n hP rfl rfl ?_
    first | refine x_aload_n hP rfl rfl ?_ | refine x_aload_nN hP rfl rfl ?_
    refine x_alenS (k := 0) (iz := 0) hP rfl rfl ?_
    rw [nI_iI]
    show P _ _ _ _ (Value.int (iI (E.1 : Nat)) :: _) _ _ _ _
    refine x_bipush hP rfl ?_
    first | refine z_isub hP rfl ?_ | refine x_isub hP rfl ?_
    refine z_icmp_gt hP rfl (by omega) (by omega) (fun c24 => ?_) (fun c24 => ?_)
    · refine x_iconst hP rfl ?_
      refine x_zret hP rfl rfl (by first | exact Or.inl iI_0 | exact Or.inr iI_1 | exact bI_or _ | assumption) ?_
      exact k _
    have hi6 : i + 6 ≤ E.1 := by omega
    first | refine x_aload_n hP rfl rfl ?_ | refine x_aload_nN hP rfl rfl ?_
    refine x_iload_n hP rfl rfl ?_
    refine z_ialdE hP rfl (by omega) hE3 ?_
    refine x_bipush hP rfl ?_
    refine x_iand hP rfl ?_
    obtain ⟨c, c1, c2⟩ := and15 (iI (sc E (i : Int).toNat))
    rw [c2]
    match c, c1 with
    | 0, _ =>
      refine x_tsw (tg := 108) hP rfl (by decide +kernel) ?_
      first | refine x_aload_n hP rfl rfl ?_ | refine x_aload_nN hP rfl rfl ?_
      first | refine x_aload_n hP rfl rfl ?_ | refine x_aload_nN hP rfl rfl ?_
      refine x_iload_n hP rfl rfl ?_
      refine x_iconst hP rfl ?_
      first | refine z_iadd hP rfl ?_ | refine x_iadd hP rfl ?_
      refine z_ialdE hP rfl (by omega) hE3 ?_
      first | refine x_aload_n hP rfl rfl ?_ | refine x_aload_nN hP rfl rfl ?_
      refine x_iload_n hP rfl rfl ?_
      refine x_iconst hP rfl ?_
      first | refine z_iadd hP rfl ?_ | refine x_iadd hP rfl ?_
      refine z_ialdE hP rfl (by omega) hE3 ?_
      first | refine x_aload_n hP rfl rfl ?_ | refine x_aload_nN hP rfl rfl ?_
      refine x_iload_n hP rfl rfl ?_
      refine x_iconst hP rfl ?_
      first | refine z_iadd hP rfl ?_ | refine x_iadd hP rfl ?_
      refine z_ialdE hP rfl (by omega) hE3 ?_
      first | refine x_aload_n hP rfl rfl ?_ | refine x_aload_nN hP rfl rfl ?_
      refine x_iload_n hP rfl rfl ?_
      refine x_iconst hP rfl ?_
      first | refine z_iadd hP rfl ?_ | refine x_iadd hP rfl ?_
      refine z_ialdE hP rfl (by omega) hE3 ?_
      first | refine x_aload_n hP rfl rfl ?_ | refine x_aload_nN hP rfl rfl ?_
      refine x_iload_n hP rfl rfl ?_
      refine x_iconst hP rfl ?_
      first | refine z_iadd hP rfl ?_ | refine x_iadd hP rfl ?_
      refine z_ialdE hP rfl (by omega) hE3 ?_
      refine x_callV5 (ci := 0) hP 0 0 rfl rfl rfl (by first | assumption | rfl) rfl rfl rfl (Nat.zero_le _) (Nat.zero_le _) ?_
      refine m_feed hP  hc (fun I1 J1 R1 g1 g2 g3 => ?_)
      have r1 := rfI_lo hr g2 g3
      have hR1 := clI_fin g1
      first | refine x_aload_n hP rfl rfl ?_ | refine x_aload_nN hP rfl rfl ?_
      first | refine x_aload_n hP rfl rfl ?_ | refine x_aload_nN hP rfl rfl ?_
      refine x_iload_n hP rfl rfl ?_
      refine x_iconst hP rfl ?_
      first | refine z_iadd hP rfl ?_ | refine x_iadd hP rfl ?_
      refine z_ialdE hP rfl (by omega) hE3 ?_
      first | refine x_aload_n hP rfl rfl ?_ | refine x_aload_nN hP rfl rfl ?_
      refine x_iload_n hP rfl rfl ?_
      refine x_iconst hP rfl ?_
      first | refine z_iadd hP rfl ?_ | refine x_iadd hP rfl ?_
      refine z_ialdE hP rfl (by omega) hE3 ?_
      first | refine x_aload_n hP rfl rfl ?_ | refine x_aload_nN hP rfl rfl ?_
      refine x_iload_n hP rfl rfl ?_
      refine x_iconst hP rfl ?_
      first | refine z_iadd hP rfl ?_ | refine x_iadd hP rfl ?_
      refine z_ialdE hP rfl (by omega) hE3 ?_
      first | refine x_aload_n hP rfl rfl ?_ | refine x_aload_nN hP rfl rfl ?_
      refine x_iload_n hP rfl rfl ?_
      refine x_iconst hP rfl ?_
      first | refine z_iadd hP rfl ?_ | refine x_iadd hP rfl ?_
      refine z_ialdE hP rfl (by omega) hE3 ?_
      first | refine x_aload_n hP rfl rfl ?_ | refine x_aload_nN hP rfl rfl ?_
      refine x_iload_n hP rfl rfl ?_
      refine x_iconst hP rfl ?_
      first | refine z_iadd hP rfl ?_ | refine x_iadd hP rfl ?_
      refine z_ialdE hP rfl (by omega) hE3 ?_
      refine x_callV5 (ci := 9) hP 0 0 rfl rfl rfl (by first | assumption | rfl) rfl rfl rfl (Nat.zero_le _) (Nat.zero_le _) ?_
      refine r_feedS hP hR1   r1 (fun I2 u1 u2 => ?_)
      refine x_icmp_eq hP rfl (fun _ => ?_) (fun cc => absurd rfl cc)
      exact nx _ I2 J1 R1 _ _ _ (clI_hh g1 u2 (frP_refl _ _)) u1 (kp_feed hk) (by omega) ⟨rfl, rfl, rfl, rfl, trivial⟩
    | 1, _ =>
      refine x_tsw (tg := 171) hP rfl (by decide +kernel) ?_
      first | refine x_aload_n hP rfl rfl ?_ | refine x_aload_nN hP rfl rfl ?_
      first | refine x_aload_n hP rfl rfl ?_ | refine x_aload_nN hP rfl rfl ?_
      refine x_iload_n hP rfl rfl ?_
      refine x_iconst hP rfl ?_
      first | refine z_iadd hP rfl ?_ | refine x_iadd hP rfl ?_
      refine z_ialdE hP rfl (by omega) hE3 ?_
      refine x_callV1 (ci := 0) hP 0 0 rfl rfl rfl (by first | assumption | rfl) rfl rfl rfl (Nat.zero_le _) (Nat.zero_le _) ?_
      refine m_end hP (sc_rg _ _) hc (fun I1 J1 R1 g1 g2 g3 => ?_)
      have r1 := rfI_lo hr g2 g3
      have hR1 := clI_fin g1
      first | refine x_aload_n hP rfl rfl ?_ | refine x_aload_nN hP rfl rfl ?_
      first | refine x_aload_n hP rfl rfl ?_ | refine x_aload_nN hP rfl rfl ?_
      refine x_iload_n hP rfl rfl ?_
      refine x_iconst hP rfl ?_
      first | refine z_iadd hP rfl ?_ | refine x_iadd hP rfl ?_
      refine z_ialdE hP rfl (by omega) hE3 ?_
      refine x_callV1 (ci := 9) hP 0 0 rfl rfl rfl (by first | assumption | rfl) rfl rfl rfl (Nat.zero_le _) (Nat.zero_le _) ?_
      refine r_endS hP hR1 (sc_rg _ _)  r1 (fun I2 u1 u2 => ?_)
      refine x_icmp_eq hP rfl (fun _ => ?_) (fun cc => absurd rfl cc)
      exact nx _ I2 J1 R1 _ _ _ (clI_hh g1 u2 (frP_refl _ _)) u1 (kp_end hk) (by omega) ⟨rfl, rfl, rfl, rfl, trivial⟩
    | 2, _ =>
      refine x_tsw (tg := 194) hP rfl (by decide +kernel) ?_
      first | refine x_aload_n hP rfl rfl ?_ | refine x_aload_nN hP rfl rfl ?_
      refine x_callV0 (ci := 0) hP 0 0 rfl rfl rfl (by first | assumption | rfl) rfl rfl rfl (Nat.zero_le _) (Nat.zero_le _) ?_
      refine m_tree hP  hc (fun I1 J1 R1 g1 g2 g3 => ?_)
      have r1 := rfI_lo hr g2 g3
      have hR1 := clI_fin g1
      first | refine x_aload_n hP rfl rfl ?_ | refine x_aload_nN hP rfl rfl ?_
      refine x_callV0 (ci := 9) hP 0 0 rfl rfl rfl (by first | assumption | rfl) rfl rfl rfl (Nat.zero_le _) (Nat.zero_le _) ?_
      refine r_tree hP hR1   r1 (fun I2 J2 u1 u2 u3 => ?_)
      refine x_icmp_eq hP rfl (fun _ => ?_) (fun cc => absurd rfl cc)
      exact nx _ I2 J2 R1 _ _ _ (clI_hh g1 u2 u3) u1 (kp_tree hk) (by omega) ⟨rfl, rfl, rfl, rfl, trivial⟩
    | 3, _ =>
      refine x_tsw (tg := 207) hP rfl (by decide +kernel) ?_
      first | refine x_aload_n hP rfl rfl ?_ | refine x_aload_nN hP rfl rfl ?_
      refine x_callV0 (ci := 0) hP 0 0 rfl rfl rfl (by first | assumption | rfl) rfl rfl rfl (Nat.zero_le _) (Nat.zero_le _) ?_
      refine m_mark hP  hc (fun I1 J1 R1 g1 g2 g3 => ?_)
      have r1 := rfI_lo hr g2 g3
      have hR1 := clI_fin g1
      first | refine x_aload_n hP rfl rfl ?_ | refine x_aload_nN hP rfl rfl ?_
      refine x_callV0 (ci := 9) hP 0 0 rfl rfl rfl (by first | assumption | rfl) rfl rfl rfl (Nat.zero_le _) (Nat.zero_le _) ?_
      refine r_mark hP hR1  gs r1 (fun I2 u1 u2 => ?_)
      refine x_icmp_eq hP rfl (fun _ => ?_) (fun cc => absurd rfl cc)
      exact nx _ I2 J1 R1 _ _ _ (clI_hh g1 u2 (frP_refl _ _)) u1 (kp_mark hk) (by omega) ⟨rfl, rfl, rfl, rfl, trivial⟩
    | 4, _ =>
      refine x_tsw (tg := 220) hP rfl (by decide +kernel) ?_
      first | refine x_aload_n hP rfl rfl ?_ | refine x_aload_nN hP rfl rfl ?_
      refine x_callV0 (ci := 0) hP 0 0 rfl rfl rfl (by first | assumption | rfl) rfl rfl rfl (Nat.zero_le _) (Nat.zero_le _) ?_
      refine m_set (d := 964) hP hE (by omega)  hc (fun I1 J1 R1 g1 g2 g3 => ?_)
      have r1 := rfI_lo hr g2 g3
      have hR1 := clI_fin g1
      first | refine x_aload_n hP rfl rfl ?_ | refine x_aload_nN hP rfl rfl ?_
      refine x_callV0 (ci := 9) hP 0 0 rfl rfl rfl (by first | assumption | rfl) rfl rfl rfl (Nat.zero_le _) (Nat.zero_le _) ?_
      refine r_set hP hR1  gs r1 (fun I2 u1 u2 => ?_)
      refine x_icmp_eq hP rfl (fun _ => ?_) (fun cc => absurd rfl cc)
      exact nx _ I2 J1 R1 _ _ _ (clI_hh g1 u2 (frP_refl _ _)) u1 (kp_set hk) (by omega) ⟨rfl, rfl, rfl, rfl, trivial⟩
    | 5, _ =>
      refine x_tsw (tg := 233) hP rfl (by decide +kernel) ?_
      first | refine x_aload_n hP rfl rfl ?_ | refine x_aload_nN hP rfl rfl ?_
      first | refine x_aload_n hP rfl rfl ?_ | refine x_aload_nN hP rfl rfl ?_
      refine x_iload_n hP rfl rfl ?_
      refine x_iconst hP rfl ?_
      first | refine z_iadd hP rfl ?_ | refine x_iadd hP rfl ?_
      refine z_ialdE hP rfl (by omega) hE3 ?_
      refine x_callV1 (ci := 0) hP 0 0 rfl rfl rfl (by first | assumption | rfl) rfl rfl rfl (Nat.zero_le _) (Nat.zero_le _) ?_
      refine m_keep hP (sc_rg _ _) hc (fun I1 J1 R1 g1 g2 g3 => ?_)
      have r1 := rfI_lo hr g2 g3
      have hR1 := clI_fin g1
      first | refine x_aload_n hP rfl rfl ?_ | refine x_aload_nN hP rfl rfl ?_
      first | refine x_aload_n hP rfl rfl ?_ | refine x_aload_nN hP rfl rfl ?_
      refine x_iload_n hP rfl rfl ?_
      refine x_iconst hP rfl ?_
      first | refine z_iadd hP rfl ?_ | refine x_iadd hP rfl ?_
      refine z_ialdE hP rfl (by omega) hE3 ?_
      refine x_callV1 (ci := 9) hP 0 0 rfl rfl rfl (by first | assumption | rfl) rfl rfl rfl (Nat.zero_le _) (Nat.zero_le _) ?_
      refine r_keep hP hR1 (sc_rg _ _)  r1 (fun I2 u1 u2 => ?_)
      refine x_icmp_eq hP rfl (fun _ => ?_) (fun cc => absurd rfl cc)
      exact nx _ I2 J1 R1 _ _ _ (clI_hh g1 u2 (frP_refl _ _)) u1 (kp_keep hk) (by omega) ⟨rfl, rfl, rfl, rfl, trivial⟩
    | 6, _ =>
      refine x_tsw (tg := 256) hP rfl (by decide +kernel) ?_
      first | refine x_aload_n hP rfl rfl ?_ | refine x_aload_nN hP rfl rfl ?_
      first | refine x_aload_n hP rfl rfl ?_ | refine x_aload_nN hP rfl rfl ?_
      refine x_iload_n hP rfl rfl ?_
      refine x_iconst hP rfl ?_
      first | refine z_iadd hP rfl ?_ | refine x_iadd hP rfl ?_
      refine z_ialdE hP rfl (by omega) hE3 ?_
      refine x_callV1 (ci := 0) hP 0 0 rfl rfl rfl (by first | assumption | rfl) rfl rfl rfl (Nat.zero_le _) (Nat.zero_le _) ?_
      refine m_drop hP (sc_rg _ _) hc (fun I1 J1 R1 g1 g2 g3 => ?_)
      have r1 := rfI_lo hr g2 g3
      have hR1 := clI_fin g1
      first | refine x_aload_n hP rfl rfl ?_ | refine x_aload_nN hP rfl rfl ?_
      first | refine x_aload_n hP rfl rfl ?_ | refine x_aload_nN hP rfl rfl ?_
      refine x_iload_n hP rfl rfl ?_
      refine x_iconst hP rfl ?_
      first | refine z_iadd hP rfl ?_ | refine x_iadd hP rfl ?_
      refine z_ialdE hP rfl (by omega) hE3 ?_
      refine x_callV1 (ci := 9) hP 0 0 rfl rfl rfl (by first | assumption | rfl) rfl rfl rfl (Nat.zero_le _) (Nat.zero_le _) ?_
      refine r_drop hP hR1 (sc_rg _ _)  r1 (fun I2 u1 u2 => ?_)
      refine x_icmp_eq hP rfl (fun _ => ?_) (fun cc => absurd rfl cc)
      exact nx _ I2 J1 R1 _ _ _ (clI_hh g1 u2 (frP_refl _ _)) u1 (kp_drop hk) (by omega) ⟨rfl, rfl, rfl, rfl, trivial⟩
    | 7, _ =>
      refine x_tsw (tg := 279) hP rfl (by decide +kernel) ?_
      first | refine x_aload_n hP rfl rfl ?_ | refine x_aload_nN hP rfl rfl ?_
      first | refine x_aload_n hP rfl rfl ?_ | refine x_aload_nN hP rfl rfl ?_
      refine x_iload_n hP rfl rfl ?_
      refine x_iconst hP rfl ?_
      first | refine z_iadd hP rfl ?_ | refine x_iadd hP rfl ?_
      refine z_ialdE hP rfl (by omega) hE3 ?_
      first | refine x_aload_n hP rfl rfl ?_ | refine x_aload_nN hP rfl rfl ?_
      refine x_iload_n hP rfl rfl ?_
      refine x_iconst hP rfl ?_
      first | refine z_iadd hP rfl ?_ | refine x_iadd hP rfl ?_
      refine z_ialdE hP rfl (by omega) hE3 ?_
      refine x_callV2 (ci := 0) hP 0 0 rfl rfl rfl (by first | assumption | rfl) rfl rfl rfl (Nat.zero_le _) (Nat.zero_le _) ?_
      refine m_tuple hP (sc_rg _ _) (sc_rg _ _) hc ?_
      have hR1 := clI_fin hc
      first | refine x_aload_n hP rfl rfl ?_ | refine x_aload_nN hP rfl rfl ?_
      first | refine x_aload_n hP rfl rfl ?_ | refine x_aload_nN hP rfl rfl ?_
      refine x_iload_n hP rfl rfl ?_
      refine x_iconst hP rfl ?_
      first | refine z_iadd hP rfl ?_ | refine x_iadd hP rfl ?_
      refine z_ialdE hP rfl (by omega) hE3 ?_
      first | refine x_aload_n hP rfl rfl ?_ | refine x_aload_nN hP rfl rfl ?_
      refine x_iload_n hP rfl rfl ?_
      refine x_iconst hP rfl ?_
      first | refine z_iadd hP rfl ?_ | refine x_iadd hP rfl ?_
      refine z_ialdE hP rfl (by omega) hE3 ?_
      refine x_callV2 (ci := 9) hP 0 0 rfl rfl rfl (by first | assumption | rfl) rfl rfl rfl (Nat.zero_le _) (Nat.zero_le _) ?_
      refine r_tuple hP hR1 (sc_rg _ _) (sc_rg _ _) gs hr ?_
      refine x_icmp_eq hP rfl (fun _ => ?_) (fun cc => absurd rfl cc)
      exact nx S I J R _ _ _ (clI_mono hc (by omega)) hr hk (by omega) ⟨rfl, rfl, rfl, rfl, trivial⟩
    | 8, _ =>
      refine x_tsw (tg := 312) hP rfl (by decide +kernel) ?_
      first | refine x_aload_n hP rfl rfl ?_ | refine x_aload_nN hP rfl rfl ?_
      first | refine x_aload_n hP rfl rfl ?_ | refine x_aload_nN hP rfl rfl ?_
      refine x_iload_n hP rfl rfl ?_
      refine x_iconst hP rfl ?_
      first | refine z_iadd hP rfl ?_ | refine x_iadd hP rfl ?_
      refine z_ialdE hP rfl (by omega) hE3 ?_
      first | refine x_aload_n hP rfl rfl ?_ | refine x_aload_nN hP rfl rfl ?_
      refine x_iload_n hP rfl rfl ?_
      refine x_iconst hP rfl ?_
      first | refine z_iadd hP rfl ?_ | refine x_iadd hP rfl ?_
      refine z_ialdE hP rfl (by omega) hE3 ?_
      refine x_callV2 (ci := 0) hP 0 0 rfl rfl rfl (by first | assumption | rfl) rfl rfl rfl (Nat.zero_le _) (Nat.zero_le _) ?_
      refine m_shows hP (sc_rg _ _) (sc_rg _ _) hc ?_
      have hR1 := clI_fin hc
      first | refine x_aload_n hP rfl rfl ?_ | refine x_aload_nN hP rfl rfl ?_
      first | refine x_aload_n hP rfl rfl ?_ | refine x_aload_nN hP rfl rfl ?_
      refine x_iload_n hP rfl rfl ?_
      refine x_iconst hP rfl ?_
      first | refine z_iadd hP rfl ?_ | refine x_iadd hP rfl ?_
      refine z_ialdE hP rfl (by omega) hE3 ?_
      first | refine x_aload_n hP rfl rfl ?_ | refine x_aload_nN hP rfl rfl ?_
      refine x_iload_n hP rfl rfl ?_
      refine x_iconst hP rfl ?_
      first | refine z_iadd hP rfl ?_ | refine x_iadd hP rfl ?_
      refine z_ialdE hP rfl (by omega) hE3 ?_
      refine x_callV2 (ci := 9) hP 0 0 rfl rfl rfl (by first | assumption | rfl) rfl rfl rfl (Nat.zero_le _) (Nat.zero_le _) ?_
      refine r_shows hP hR1 (sc_rg _ _) (sc_rg _ _) gs hr ?_
      refine x_icmp_eq hP rfl (fun _ => ?_) (fun cc => absurd rfl cc)
      exact nx S I J R _ _ _ (clI_mono hc (by omega)) hr hk (by omega) ⟨rfl, rfl, rfl, rfl, trivial⟩
    | 9, _ =>
      refine x_tsw (tg := 345) hP rfl (by decide +kernel) ?_
      first | refine x_aload_n hP rfl rfl ?_ | refine x_aload_nN hP rfl rfl ?_
      refine x_callV0 (ci := 0) hP 0 0 rfl rfl rfl (by first | assumption | rfl) rfl rfl rfl (Nat.zero_le _) (Nat.zero_le _) ?_
      refine m_place hP  hc (fun I1 J1 R1 g1 g2 g3 => ?_)
      have r1 := rfI_lo hr g2 g3
      have hR1 := clI_fin g1
      first | refine x_aload_n hP rfl rfl ?_ | refine x_aload_nN hP rfl rfl ?_
      refine x_callV0 (ci := 9) hP 0 0 rfl rfl rfl (by first | assumption | rfl) rfl rfl rfl (Nat.zero_le _) (Nat.zero_le _) ?_
      refine r_place hP hR1  gs r1 (fun I2 u1 u2 => ?_)
      refine x_icmp_eq hP rfl (fun _ => ?_) (fun cc => absurd rfl cc)
      exact nx _ I2 J1 R1 _ _ _ (clI_hh g1 u2 (frP_refl _ _)) u1 (kp_place hk) (by omega) ⟨rfl, rfl, rfl, rfl, trivial⟩
    | 10, _ =>
      refine x_tsw (tg := 358) hP rfl (by decide +kernel) ?_
      first | refine x_aload_n hP rfl rfl ?_ | refine x_aload_nN hP rfl rfl ?_
      refine x_callV0 (ci := 0) hP 0 0 rfl rfl rfl (by first | assumption | rfl) rfl rfl rfl (Nat.zero_le _) (Nat.zero_le _) ?_
      refine m_print hP hk.2.1  hc (fun I1 J1 R1 g1 g2 g3 => ?_)
      have r1 := rfI_lo hr g2 g3
      have hR1 := clI_fin g1
      first | refine x_aload_n hP rfl rfl ?_ | refine x_aload_nN hP rfl rfl ?_
      refine x_callV0 (ci := 9) hP 0 0 rfl rfl rfl (by first | assumption | rfl) rfl rfl rfl (Nat.zero_le _) (Nat.zero_le _) ?_
      refine r_print hP hR1  gs r1 (fun I2 u1 u2 => ?_)
      refine x_icmp_eq hP rfl (fun _ => ?_) (fun cc => absurd rfl cc)
      exact nx _ I2 J1 R1 _ _ _ (clI_hh g1 u2 (frP_refl _ _)) u1 (kp_print hk) (by omega) ⟨rfl, rfl, rfl, rfl, trivial⟩
    | 11, _ =>
      refine x_tsw (tg := 371) hP rfl (by decide +kernel) ?_
      first | refine x_aload_n hP rfl rfl ?_ | refine x_aload_nN hP rfl rfl ?_
      first | refine x_aload_n hP rfl rfl ?_ | refine x_aload_nN hP rfl rfl ?_
      refine x_iload_n hP rfl rfl ?_
      refine x_iconst hP rfl ?_
      first | refine z_iadd hP rfl ?_ | refine x_iadd hP rfl ?_
      refine z_ialdE hP rfl (by omega) hE3 ?_
      refine x_callV1 (ci := 0) hP 0 0 rfl rfl rfl (by first | assumption | rfl) rfl rfl rfl (Nat.zero_le _) (Nat.zero_le _) ?_
      refine m_printed hP (sc_rg _ _) hc ?_
      have hR1 := clI_fin hc
      first | refine x_aload_n hP rfl rfl ?_ | refine x_aload_nN hP rfl rfl ?_
      first | refine x_aload_n hP rfl rfl ?_ | refine x_aload_nN hP rfl rfl ?_
      refine x_iload_n hP rfl rfl ?_
      refine x_iconst hP rfl ?_
      first | refine z_iadd hP rfl ?_ | refine x_iadd hP rfl ?_
      refine z_ialdE hP rfl (by omega) hE3 ?_
      refine x_callV1 (ci := 9) hP 0 0 rfl rfl rfl (by first | assumption | rfl) rfl rfl rfl (Nat.zero_le _) (Nat.zero_le _) ?_
      refine r_printed hP hR1 (sc_rg _ _)  hr.2.2.2.2.2.2 ?_
      refine x_icmp_eq hP rfl (fun _ => ?_) (fun cc => absurd rfl cc)
      exact nx S I J R _ _ _ (clI_mono hc (by omega)) hr hk (by omega) ⟨rfl, rfl, rfl, rfl, trivial⟩
    | 12, _ =>
      refine x_tsw (tg := 394) hP rfl (by decide +kernel) ?_
      first | refine x_aload_n hP rfl rfl ?_ | refine x_aload_nN hP rfl rfl ?_
      first | refine x_aload_n hP rfl rfl ?_ | refine x_aload_nN hP rfl rfl ?_
      refine x_iload_n hP rfl rfl ?_
      refine x_iconst hP rfl ?_
      first | refine z_iadd hP rfl ?_ | refine x_iadd hP rfl ?_
      refine z_ialdE hP rfl (by omega) hE3 ?_
      first | refine x_aload_n hP rfl rfl ?_ | refine x_aload_nN hP rfl rfl ?_
      refine x_iload_n hP rfl rfl ?_
      refine x_iconst hP rfl ?_
      first | refine z_iadd hP rfl ?_ | refine x_iadd hP rfl ?_
      refine z_ialdE hP rfl (by omega) hE3 ?_
      first | refine x_aload_n hP rfl rfl ?_ | refine x_aload_nN hP rfl rfl ?_
      refine x_iload_n hP rfl rfl ?_
      refine x_iconst hP rfl ?_
      first | refine z_iadd hP rfl ?_ | refine x_iadd hP rfl ?_
      refine z_ialdE hP rfl (by omega) hE3 ?_
      refine x_callV3 (ci := 0) hP 0 0 rfl rfl rfl (by first | assumption | rfl) rfl rfl rfl (Nat.zero_le _) (Nat.zero_le _) ?_
      refine m_member hP (sc_rg _ _) (sc_rg _ _) (sc_rg _ _) hc ?_
      have hR1 := clI_fin hc
      first | refine x_aload_n hP rfl rfl ?_ | refine x_aload_nN hP rfl rfl ?_
      first | refine x_aload_n hP rfl rfl ?_ | refine x_aload_nN hP rfl rfl ?_
      refine x_iload_n hP rfl rfl ?_
      refine x_iconst hP rfl ?_
      first | refine z_iadd hP rfl ?_ | refine x_iadd hP rfl ?_
      refine z_ialdE hP rfl (by omega) hE3 ?_
      first | refine x_aload_n hP rfl rfl ?_ | refine x_aload_nN hP rfl rfl ?_
      refine x_iload_n hP rfl rfl ?_
      refine x_iconst hP rfl ?_
      first | refine z_iadd hP rfl ?_ | refine x_iadd hP rfl ?_
      refine z_ialdE hP rfl (by omega) hE3 ?_
      first | refine x_aload_n hP rfl rfl ?_ | refine x_aload_nN hP rfl rfl ?_
      refine x_iload_n hP rfl rfl ?_
      refine x_iconst hP rfl ?_
      first | refine z_iadd hP rfl ?_ | refine x_iadd hP rfl ?_
      refine z_ialdE hP rfl (by omega) hE3 ?_
      refine x_callV3 (ci := 9) hP 0 0 rfl rfl rfl (by first | assumption | rfl) rfl rfl rfl (Nat.zero_le _) (Nat.zero_le _) ?_
      refine r_member hP hR1 (sc_rg _ _) (sc_rg _ _) (sc_rg _ _)  hr ?_
      refine x_icmp_eq hP rfl (fun _ => ?_) (fun cc => absurd rfl cc)
      exact nx S I J R _ _ _ (clI_mono hc (by omega)) hr hk (by omega) ⟨rfl, rfl, rfl, rfl, trivial⟩
    | 13, _ =>
      refine x_tsw (tg := 437) hP rfl (by decide +kernel) ?_
      first | refine x_aload_n hP rfl rfl ?_ | refine x_aload_nN hP rfl rfl ?_
      first | refine x_aload_n hP rfl rfl ?_ | refine x_aload_nN hP rfl rfl ?_
      refine x_iload_n hP rfl rfl ?_
      refine x_iconst hP rfl ?_
      first | refine z_iadd hP rfl ?_ | refine x_iadd hP rfl ?_
      refine z_ialdE hP rfl (by omega) hE3 ?_
      first | refine x_aload_n hP rfl rfl ?_ | refine x_aload_nN hP rfl rfl ?_
      refine x_iload_n hP rfl rfl ?_
      refine x_iconst hP rfl ?_
      first | refine z_iadd hP rfl ?_ | refine x_iadd hP rfl ?_
      refine z_ialdE hP rfl (by omega) hE3 ?_
      first | refine x_aload_n hP rfl rfl ?_ | refine x_aload_nN hP rfl rfl ?_
      refine x_iload_n hP rfl rfl ?_
      refine x_iconst hP rfl ?_
      first | refine z_iadd hP rfl ?_ | refine x_iadd hP rfl ?_
      refine z_ialdE hP rfl (by omega) hE3 ?_
      refine x_callV3 (ci := 0) hP 0 0 rfl rfl rfl (by first | assumption | rfl) rfl rfl rfl (Nat.zero_le _) (Nat.zero_le _) ?_
      refine m_number hP (sc_rg _ _) (sc_rg _ _) (sc_rg _ _) hc ?_
      have hR1 := clI_fin hc
      first | refine x_aload_n hP rfl rfl ?_ | refine x_aload_nN hP rfl rfl ?_
      first | refine x_aload_n hP rfl rfl ?_ | refine x_aload_nN hP rfl rfl ?_
      refine x_iload_n hP rfl rfl ?_
      refine x_iconst hP rfl ?_
      first | refine z_iadd hP rfl ?_ | refine x_iadd hP rfl ?_
      refine z_ialdE hP rfl (by omega) hE3 ?_
      first | refine x_aload_n hP rfl rfl ?_ | refine x_aload_nN hP rfl rfl ?_
      refine x_iload_n hP rfl rfl ?_
      refine x_iconst hP rfl ?_
      first | refine z_iadd hP rfl ?_ | refine x_iadd hP rfl ?_
      refine z_ialdE hP rfl (by omega) hE3 ?_
      first | refine x_aload_n hP rfl rfl ?_ | refine x_aload_nN hP rfl rfl ?_
      refine x_iload_n hP rfl rfl ?_
      refine x_iconst hP rfl ?_
      first | refine z_iadd hP rfl ?_ | refine x_iadd hP rfl ?_
      refine z_ialdE hP rfl (by omega) hE3 ?_
      refine x_callV3 (ci := 9) hP 0 0 rfl rfl rfl (by first | assumption | rfl) rfl rfl rfl (Nat.zero_le _) (Nat.zero_le _) ?_
      refine r_number hP hR1 (sc_rg _ _) (sc_rg _ _) (sc_rg _ _)  hr ?_
      refine x_icmp_eq hP rfl (fun _ => ?_) (fun cc => absurd rfl cc)
      exact nx S I J R _ _ _ (clI_mono hc (by omega)) hr hk (by omega) ⟨rfl, rfl, rfl, rfl, trivial⟩
    | 14, _ =>
      refine x_tsw (tg := 480) hP rfl (by decide +kernel) ?_
      first | refine x_aload_n hP rfl rfl ?_ | refine x_aload_nN hP rfl rfl ?_
      first | refine x_aload_n hP rfl rfl ?_ | refine x_aload_nN hP rfl rfl ?_
      refine x_iload_n hP rfl rfl ?_
      refine x_iconst hP rfl ?_
      first | refine z_iadd hP rfl ?_ | refine x_iadd hP rfl ?_
      refine z_ialdE hP rfl (by omega) hE3 ?_
      refine x_callV1 (ci := 0) hP 0 0 rfl rfl rfl (by first | assumption | rfl) rfl rfl rfl (Nat.zero_le _) (Nat.zero_le _) ?_
      refine m_count hP (sc_rg _ _) hc ?_
      have hR1 := clI_fin hc
      first | refine x_aload_n hP rfl rfl ?_ | refine x_aload_nN hP rfl rfl ?_
      first | refine x_aload_n hP rfl rfl ?_ | refine x_aload_nN hP rfl rfl ?_
      refine x_iload_n hP rfl rfl ?_
      refine x_iconst hP rfl ?_
      first | refine z_iadd hP rfl ?_ | refine x_iadd hP rfl ?_
      refine z_ialdE hP rfl (by omega) hE3 ?_
      refine x_callV1 (ci := 9) hP 0 0 rfl rfl rfl (by first | assumption | rfl) rfl rfl rfl (Nat.zero_le _) (Nat.zero_le _) ?_
      refine r_count hP hR1 (sc_rg _ _)  hr ?_
      refine x_icmp_eq hP rfl (fun _ => ?_) (fun cc => absurd rfl cc)
      exact nx S I J R _ _ _ (clI_mono hc (by omega)) hr hk (by omega) ⟨rfl, rfl, rfl, rfl, trivial⟩
    | 15, _ =>
      refine x_tsw (tg := 503) hP rfl (by decide +kernel) ?_
      exact nx S I J R _ _ _ (clI_mono hc (by omega)) hr hk (by omega) ⟨rfl, rfl, rfl, rfl, trivial⟩
    | c + 16, h => exact absurd h (by omega)
/-- the heap at the start -/
def x_h0 : x_H := x_hk 0 (kpn 0) x_I0 x_J0 x_R0
theorem law_all (hP : x_closed E P) (hE : x_is2 (some E.2.2) = false) (h3 : E.1 ≤ 3072) (k : ∀ h, Q (some (.int (iI 1))) h) : P 221 1000 0 (x_la 0 [.ref 1000000]) [] x_h0 600000 7302250 Q := by
  show P _ _ _ _ _ (x_hk 0 (kpn 0) x_I0 x_J0 x_R0) _ _ _
  refine x_newc (q := 0) (N := 9) hP rfl rfl rfl (by decide) (by omega) (by omega) ?_
  refine w_new (m := 1) rfl rfl ?_
  refine x_dup hP rfl rfl ?_
  refine x_callI0 hP 121 15174 rfl rfl rfl rfl rfl (by omega) (by omega) ?_
  refine n_book (d := 995) hP (fun I1 J1 R1 hb => ?_)
  first | refine x_astore_n hP rfl ?_ | refine x_astore_nN hP rfl ?_
  refine x_newc (q := 122) (N := 38) hP rfl rfl rfl (by decide) (by omega) (by omega) ?_
  refine w_new (m := 123) rfl rfl ?_
  refine x_dup hP rfl rfl ?_
  refine x_callI0 hP 29 17624 rfl rfl rfl rfl rfl (by omega) (by omega) ?_
  refine n_model (d := 998) hP hb (fun I2 J2 R2 g1 g2 g3 g4 g5 => ?_)
  first | refine x_astore_n hP rfl ?_ | refine x_astore_nN hP rfl ?_
  refine x_iconst hP rfl ?_
  refine x_istore_n hP rfl ?_
  exact x_re hP [some (.ref 1000000), some (.ref 0), some (.ref 122), some (.int (iI (0 : Nat)))] ⟨rfl, rfl, rfl, rfl, trivial⟩ (law_loop hP hE h3 k 3072 0 S0 I2 J2 R2 0 (by omega) (by omega) (by omega) (cl_start hb g2 g3 g4 g1) g5 kp_0 _ _)
end
