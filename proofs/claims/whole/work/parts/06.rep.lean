/-! THE PLAIN HEAP AND THE MACHINE'S: what stands at an address, and the context in which a method runs -/
def x_tcode : FieldType → Nat
  | .int => 0
  | .long => 1
  | .object _ => 2
  | .array _ => 2
  | .boolean => 4
  | .byte => 5
  | .char => 6
  | .short => 7
  | _ => 9
def x_vI (n : Nat) (i : Int32) (l : Int64) (r : Option Nat) : Value := match n with
  | 1 => .long l
  | 2 => va_rf r
  | _ => .int i
def x_fv (G : x_G) (base : Nat) (h : x_H) (c a j : Nat) : Value := x_vI (x_tcode (x_fty c j)) (h.2.2.1 (1000 + 64 * c + j) a 0) (h.2.2.2.1 (1000 + 64 * c + j) a 0) ((h.2.2.2.2 (1000 + 64 * c + j) a 0).map (x_ta G base))
def x_cv (n : Nat) (i : Nat → Int32) (l : Nat → Int64) (r : Nat → Option Nat) : (Nat → Int32) ⊕ (Nat → Int64) ⊕ (Nat → UInt32) ⊕ (Nat → UInt64) ⊕ (Nat → Option Nat) := match n with
  | 1 => .inr (.inl l)
  | 2 => .inr (.inr (.inr (.inr r)))
  | _ => .inl i
def x_con (G : x_G) (base : Nat) (h : x_H) (k a : Nat) : (Nat → Int32) ⊕ (Nat → Int64) ⊕ (Nat → UInt32) ⊕ (Nat → UInt64) ⊕ (Nat → Option Nat) := x_cv (x_tcode (x_aty k)) (h.2.2.1 k a) (h.2.2.2.1 k a) (fun i => (h.2.2.2.2 k a i).map (x_ta G base))
def x_fn (c : Nat) : Nat := match x_cls[c]? with
  | some q => q.2.2
  | none => 0
def x_obj (G : x_G) (base : Nat) (h : x_H) (c a : Nat) : List Value := (List.range (x_fn c)).map (x_fv G base h c a)
def x_e (G : x_G) (base : Nat) (h : x_H) (a : Nat) : va_E := if 1000 ≤ (h.2.1 a).1 then .inr ((h.2.1 a).1 - 1000, x_obj G base h ((h.2.1 a).1 - 1000) a) else .inl (G.2.1 (h.2.1 a).1, (h.2.1 a).2, x_con G base h (h.2.1 a).1 a)
def x_A (base : Nat) : Nat → Prop := fun q => base ≤ q
def x_W (G : x_G) (base : Nat) (h : x_H) : va_W := (List.range h.1).map (fun a => (base + a, x_e G base h a))
def x_Rep (G : x_G) (base : Nat) (h : x_H) (H : Heap) : Prop := H.size = base + h.1 ∧ va_P G.1 x_cls (x_W G base h) H ∧ h.1 ≤ 1000000 ∧ (∀ a, h.1 ≤ a → h.2.1 a = (0, 0)) ∧ ∀ k a i, h.1 ≤ a → h.2.2.1 k a i = 0 ∧ h.2.2.2.1 k a i = 0 ∧ h.2.2.2.2 k a i = none
theorem x_W_get (G : x_G) (base : Nat) {h : x_H} {a : Nat} (ha : a < h.1) : (x_W G base h)[a]? = some (base + a, x_e G base h a) := by
  unfold x_W
  rw [List.getElem?_map, List.getElem?_range ha]
  rfl
theorem x_W_of {G : x_G} {base : Nat} {h : x_H} {k : Nat} {q : Nat × va_E} (hk : (x_W G base h)[k]? = some q) : k < h.1 ∧ q = (base + k, x_e G base h k) := by
  have hl : k < h.1 := by
    have := (List.getElem?_eq_some_iff.mp hk).1
    simpa [x_W] using this
  rw [x_W_get G base hl] at hk
  exact ⟨hl, (Option.some.inj hk).symm⟩
theorem x_D (G : x_G) (base : Nat) (h : x_H) : va_D (x_A base) (x_W G base h) := by
  refine ⟨fun i j p q hi hj e => ?_, fun k q hk => ?_⟩
  · obtain ⟨-, rfl⟩ := x_W_of hi
    obtain ⟨-, rfl⟩ := x_W_of hj
    have e : base + i = base + j := e
    omega
  · obtain ⟨-, rfl⟩ := x_W_of hk
    show base ≤ base + k
    omega
theorem x_e_obj {G : x_G} {base : Nat} {h : x_H} {a c n : Nat} (hk : h.2.1 a = (1000 + c, n)) : x_e G base h a = .inr (c, x_obj G base h c a) := by
  unfold x_e
  rw [hk, if_pos (by show 1000 ≤ 1000 + c; omega)]
  show Sum.inr (1000 + c - 1000, x_obj G base h (1000 + c - 1000) a) = _
  rw [Nat.add_sub_cancel_left]
theorem x_e_arr {G : x_G} {base : Nat} {h : x_H} {a k n : Nat} (hk : h.2.1 a = (k, n)) (hlt : k < 1000) : x_e G base h a = .inl (G.2.1 k, n, x_con G base h k a) := by
  unfold x_e
  rw [hk, if_neg (by show ¬ 1000 ≤ k; omega)]
theorem x_obj_get {G : x_G} {base : Nat} {h : x_H} {c a j : Nat} (hj : j < x_fn c) : (x_obj G base h c a)[j]? = some (x_fv G base h c a j) := by
  unfold x_obj
  rw [List.getElem?_map, List.getElem?_range hj]
  rfl
theorem x_obj_len {G : x_G} {base : Nat} {h : x_H} {c a : Nat} : (x_obj G base h c a).length = x_fn c := by simp [x_obj]
theorem x_lv_lt {G : x_G} {base : Nat} {h : x_H} {H : Heap} (hR : x_Rep G base h H) {a g n : Nat} (hk : h.2.1 a = (g, n)) (hg : g ≠ 0) : a < h.1 ∧ x_ta G base a = base + a := by
  have h1 : a < h.1 := by
    rcases Nat.lt_or_ge a h.1 with q | q
    · exact q
    · have := hR.2.2.2.1 a q
      rw [hk] at this
      exact absurd (congrArg Prod.fst this) hg
  exact ⟨h1, if_pos (Nat.lt_of_lt_of_le h1 hR.2.2.1)⟩
/-- after a write at one address -/
theorem x_bk {G : x_G} {base : Nat} {h h' : x_H} {H H1 : Heap} {a : Nat} {e' : va_E} (hR : x_Rep G base h H) (ha : a < h.1) (hz : H1.size = H.size) (oq : ∀ q : Nat, q ≠ base + a → H1[q]? = H[q]?) (he : va_at G.1 x_cls (base + a, e') H1) (h1 : h'.1 = h.1) (h2 : h'.2.1 = h.2.1) (hs : x_e G base h' a = e')
    (k1 : ∀ k b i, b ≠ a → h'.2.2.1 k b i = h.2.2.1 k b i) (k2 : ∀ k b i, b ≠ a → h'.2.2.2.1 k b i = h.2.2.2.1 k b i) (k3 : ∀ k b i, b ≠ a → h'.2.2.2.2 k b i = h.2.2.2.2 k b i) : x_Rep G base h' H1 := by
  obtain ⟨r1, r2, r3, r4, r5⟩ := hR
  have ho : ∀ b, b ≠ a → x_e G base h' b = x_e G base h b := by
    intro b hb
    have e1 : ∀ c, x_obj G base h' c b = x_obj G base h c b := by
      intro c
      unfold x_obj
      apply List.map_congr_left
      intro j _
      unfold x_fv
      rw [k1 _ _ _ hb, k2 _ _ _ hb, k3 _ _ _ hb]
    have e2 : ∀ k, x_con G base h' k b = x_con G base h k b := by
      intro k
      unfold x_con
      rw [show h'.2.2.1 k b = h.2.2.1 k b from funext fun i => k1 k b i hb, show h'.2.2.2.1 k b = h.2.2.2.1 k b from funext fun i => k2 k b i hb, show h'.2.2.2.2 k b = h.2.2.2.2 k b from funext fun i => k3 k b i hb]
    unfold x_e
    rw [h2, e1, e2]
  refine ⟨by rw [hz, h1]; exact r1, fun k q hk => ?_, by rw [h1]; exact r3, fun b hb => by rw [h2]; exact r4 b (by rw [← h1]; exact hb), fun k b i hb => ?_⟩
  · obtain ⟨hl, rfl⟩ := x_W_of hk
    by_cases hka : k = a
    · subst hka
      rw [hs]
      exact he
    · rw [ho k hka]
      refine (r2 k _ (x_W_get G base (by rw [← h1]; exact hl))).kept ?_
      exact oq (base + k) (by omega)
  · rw [h1] at hb
    have hba : b ≠ a := by omega
    rw [k1 k b i hba, k2 k b i hba, k3 k b i hba]
    exact r5 k b i hb
theorem x_bkI {G : x_G} {base : Nat} {h : x_H} {H H1 : Heap} {k a i : Nat} {v : Int32} {e' : va_E} (hR : x_Rep G base h H) (ha : a < h.1) (hz : H1.size = H.size) (oq : ∀ q : Nat, q ≠ base + a → H1[q]? = H[q]?) (he : va_at G.1 x_cls (base + a, e') H1) (hs : x_e G base (x_uI h k a i v) a = e') : x_Rep G base (x_uI h k a i v) H1 :=
  x_bk hR ha hz oq he rfl rfl hs (fun k' b i' hb => (x_at_eq ..).trans (if_neg fun q => hb q.2.1)) (fun _ _ _ _ => rfl) (fun _ _ _ _ => rfl)
theorem x_bkL {G : x_G} {base : Nat} {h : x_H} {H H1 : Heap} {k a i : Nat} {v : Int64} {e' : va_E} (hR : x_Rep G base h H) (ha : a < h.1) (hz : H1.size = H.size) (oq : ∀ q : Nat, q ≠ base + a → H1[q]? = H[q]?) (he : va_at G.1 x_cls (base + a, e') H1) (hs : x_e G base (x_uL h k a i v) a = e') : x_Rep G base (x_uL h k a i v) H1 :=
  x_bk hR ha hz oq he rfl rfl hs (fun _ _ _ _ => rfl) (fun k' b i' hb => (x_at_eq ..).trans (if_neg fun q => hb q.2.1)) (fun _ _ _ _ => rfl)
theorem x_bkR {G : x_G} {base : Nat} {h : x_H} {H H1 : Heap} {k a i : Nat} {v : Option Nat} {e' : va_E} (hR : x_Rep G base h H) (ha : a < h.1) (hz : H1.size = H.size) (oq : ∀ q : Nat, q ≠ base + a → H1[q]? = H[q]?) (he : va_at G.1 x_cls (base + a, e') H1) (hs : x_e G base (x_uR h k a i v) a = e') : x_Rep G base (x_uR h k a i v) H1 :=
  x_bk hR ha hz oq he rfl rfl hs (fun _ _ _ _ => rfl) (fun _ _ _ _ => rfl) (fun k' b i' hb => (x_at_eq ..).trans (if_neg fun q => hb q.2.1))
theorem x_bkC {G : x_G} {base : Nat} {h : x_H} {H H1 : Heap} {k sa sp a dp n : Nat} {e' : va_E} (hR : x_Rep G base h H) (ha : a < h.1) (hz : H1.size = H.size) (oq : ∀ q : Nat, q ≠ base + a → H1[q]? = H[q]?) (he : va_at G.1 x_cls (base + a, e') H1) (hs : x_e G base (x_cI h k sa sp a dp n) a = e') : x_Rep G base (x_cI h k sa sp a dp n) H1 :=
  x_bk hR ha hz oq he rfl rfl hs (fun k' b i' hb => (x_cp_eq ..).trans (if_neg fun q => hb q.2.1)) (fun _ _ _ _ => rfl) (fun _ _ _ _ => rfl)
/-! what a write does at its own address -/
theorem x_objs {G : x_G} {base : Nat} {h h' : x_H} {c a j : Nat} {w : Value} (hn : ∀ j', j' ≠ j → x_fv G base h' c a j' = x_fv G base h c a j') (hj : x_fv G base h' c a j = w) : x_obj G base h' c a = (x_obj G base h c a).set j w := by
  apply List.ext_getElem?
  intro i
  by_cases hi : i < x_fn c
  · rw [x_obj_get hi]
    by_cases hij : i = j
    · subst hij
      rw [List.getElem?_set_self (by rw [x_obj_len]; exact hi), hj]
    · rw [List.getElem?_set_ne (Ne.symm hij), x_obj_get hi, hn i hij]
  · rw [List.getElem?_eq_none (by rw [x_obj_len]; omega), List.getElem?_eq_none (by rw [List.length_set, x_obj_len]; omega)]
theorem x_vI_int {n : Nat} {i : Int32} {l : Int64} {r : Option Nat} (h : n ≠ 1 ∧ n ≠ 2) : x_vI n i l r = .int i := by
  unfold x_vI
  split
  · exact absurd rfl h.1
  · exact absurd rfl h.2
  · rfl
theorem x_fk {c j j' : Nat} (h : j' ≠ j) : ¬ 1000 + 64 * c + j' = 1000 + 64 * c + j := by omega
theorem x_f_uI {G : x_G} {base : Nat} {h : x_H} {a c j n : Nat} {v : Int32} (hk : h.2.1 a = (1000 + c, n)) (ht : x_tcode (x_fty c j) ≠ 1 ∧ x_tcode (x_fty c j) ≠ 2) : x_e G base (x_uI h (1000 + 64 * c + j) a 0 v) a = .inr (c, (x_obj G base h c a).set j (.int v)) := by
  refine (x_e_obj (show (x_uI h (1000 + 64 * c + j) a 0 v).2.1 a = (1000 + c, n) from hk)).trans (congrArg (fun z => Sum.inr (c, z)) (x_objs (h := h) (j := j) (w := .int v) (fun j' hj' => ?_) ?_))
  · unfold x_fv
    rw [show (x_uI h (1000 + 64 * c + j) a 0 v).2.2.1 (1000 + 64 * c + j') a 0 = h.2.2.1 (1000 + 64 * c + j') a 0 from (x_at_eq ..).trans (if_neg fun q => x_fk hj' q.1)]
    rfl
  · exact (x_vI_int ht).trans (congrArg Value.int ((x_at_eq ..).trans (if_pos ⟨rfl, rfl, rfl⟩)))
theorem x_f_uL {G : x_G} {base : Nat} {h : x_H} {a c j n : Nat} {v : Int64} (hk : h.2.1 a = (1000 + c, n)) (ht : x_tcode (x_fty c j) = 1) : x_e G base (x_uL h (1000 + 64 * c + j) a 0 v) a = .inr (c, (x_obj G base h c a).set j (.long v)) := by
  refine (x_e_obj (show (x_uL h (1000 + 64 * c + j) a 0 v).2.1 a = (1000 + c, n) from hk)).trans (congrArg (fun z => Sum.inr (c, z)) (x_objs (h := h) (j := j) (w := .long v) (fun j' hj' => ?_) ?_))
  · unfold x_fv
    rw [show (x_uL h (1000 + 64 * c + j) a 0 v).2.2.2.1 (1000 + 64 * c + j') a 0 = h.2.2.2.1 (1000 + 64 * c + j') a 0 from (x_at_eq ..).trans (if_neg fun q => x_fk hj' q.1)]
    rfl
  · unfold x_fv
    rw [ht, show (x_uL h (1000 + 64 * c + j) a 0 v).2.2.2.1 (1000 + 64 * c + j) a 0 = v from (x_at_eq ..).trans (if_pos ⟨rfl, rfl, rfl⟩)]
    rfl
theorem x_f_uR {G : x_G} {base : Nat} {h : x_H} {a c j n : Nat} {v : Option Nat} (hk : h.2.1 a = (1000 + c, n)) (ht : x_tcode (x_fty c j) = 2) : x_e G base (x_uR h (1000 + 64 * c + j) a 0 v) a = .inr (c, (x_obj G base h c a).set j (va_rf (v.map (x_ta G base)))) := by
  refine (x_e_obj (show (x_uR h (1000 + 64 * c + j) a 0 v).2.1 a = (1000 + c, n) from hk)).trans (congrArg (fun z => Sum.inr (c, z)) (x_objs (h := h) (j := j) (w := va_rf (v.map (x_ta G base))) (fun j' hj' => ?_) ?_))
  · unfold x_fv
    rw [show (x_uR h (1000 + 64 * c + j) a 0 v).2.2.2.2 (1000 + 64 * c + j') a 0 = h.2.2.2.2 (1000 + 64 * c + j') a 0 from (x_at_eq ..).trans (if_neg fun q => x_fk hj' q.1)]
    rfl
  · unfold x_fv
    rw [ht, show (x_uR h (1000 + 64 * c + j) a 0 v).2.2.2.2 (1000 + 64 * c + j) a 0 = v from (x_at_eq ..).trans (if_pos ⟨rfl, rfl, rfl⟩)]
    rfl
theorem x_cvI {n : Nat} {i : Nat → Int32} {l : Nat → Int64} {r : Nat → Option Nat} (h : n ≠ 1 ∧ n ≠ 2) : x_cv n i l r = .inl i := by
  unfold x_cv
  split
  · exact absurd rfl h.1
  · exact absurd rfl h.2
  · rfl
theorem x_conI {G : x_G} {base : Nat} {h : x_H} {k a : Nat} (ht : x_tcode (x_aty k) ≠ 1 ∧ x_tcode (x_aty k) ≠ 2) : x_con G base h k a = .inl (h.2.2.1 k a) := x_cvI ht
theorem x_conL {G : x_G} {base : Nat} {h : x_H} {k a : Nat} (ht : x_tcode (x_aty k) = 1) : x_con G base h k a = .inr (.inl (h.2.2.2.1 k a)) := by
  unfold x_con
  rw [ht]
  rfl
theorem x_conR {G : x_G} {base : Nat} {h : x_H} {k a : Nat} (ht : x_tcode (x_aty k) = 2) : x_con G base h k a = .inr (.inr (.inr (.inr (fun i => (h.2.2.2.2 k a i).map (x_ta G base))))) := by
  unfold x_con
  rw [ht]
  rfl
theorem x_a_uI {G : x_G} {base : Nat} {h : x_H} {a k n i : Nat} {v : Int32} (hk : h.2.1 a = (k, n)) (hlt : k < 1000) (ht : x_tcode (x_aty k) ≠ 1 ∧ x_tcode (x_aty k) ≠ 2) : x_e G base (x_uI h k a i v) a = .inl (G.2.1 k, n, .inl (upd (h.2.2.1 k a) i v)) := by
  rw [x_e_arr (show (x_uI h k a i v).2.1 a = (k, n) from hk) hlt, x_conI ht]
  congr 4
  funext q
  refine (x_at_eq ..).trans ?_
  by_cases hq : q = i <;> simp [upd, hq]
theorem x_a_uL {G : x_G} {base : Nat} {h : x_H} {a k n i : Nat} {v : Int64} (hk : h.2.1 a = (k, n)) (hlt : k < 1000) (ht : x_tcode (x_aty k) = 1) : x_e G base (x_uL h k a i v) a = .inl (G.2.1 k, n, .inr (.inl (vp_updL (h.2.2.2.1 k a) i v))) := by
  rw [x_e_arr (show (x_uL h k a i v).2.1 a = (k, n) from hk) hlt, x_conL ht]
  congr 5
  funext q
  refine (x_at_eq ..).trans ?_
  by_cases hq : q = i <;> simp [vp_updL, hq]
theorem x_a_uR {G : x_G} {base : Nat} {h : x_H} {a k n i : Nat} {v : Option Nat} (hk : h.2.1 a = (k, n)) (hlt : k < 1000) (ht : x_tcode (x_aty k) = 2) : x_e G base (x_uR h k a i v) a = .inl (G.2.1 k, n, .inr (.inr (.inr (.inr (va_up (fun j => (h.2.2.2.2 k a j).map (x_ta G base)) i (v.map (x_ta G base))))))) := by
  rw [x_e_arr (show (x_uR h k a i v).2.1 a = (k, n) from hk) hlt, x_conR ht]
  congr 7
  funext q
  rw [show (x_uR h k a i v).2.2.2.2 k a q = if k = k ∧ a = a ∧ q = i then v else h.2.2.2.2 k a q from x_at_eq ..]
  by_cases hq : q = i <;> simp [va_up, hq]
theorem x_a_cI {G : x_G} {base : Nat} {h : x_H} {sa sp a dp k n m : Nat} (hk : h.2.1 a = (k, n)) (hlt : k < 1000) (ht : x_tcode (x_aty k) ≠ 1 ∧ x_tcode (x_aty k) ≠ 2) : x_e G base (x_cI h k sa sp a dp m) a = .inl (G.2.1 k, n, .inl (va_cpy (h.2.2.1 k sa) (h.2.2.1 k a) sp dp m)) := by
  rw [x_e_arr (show (x_cI h k sa sp a dp m).2.1 a = (k, n) from hk) hlt, x_conI ht]
  congr 4
  funext q
  refine (x_cp_eq ..).trans ?_
  by_cases hq : dp ≤ q ∧ q < dp + m <;> simp [va_cpy, hq]
/-- a new cell -/
theorem x_bkN {G : x_G} {base : Nat} {h : x_H} {H H1 : Heap} {kind len : Nat} {e' : va_E} (hR : x_Rep G base h H) (hlt : h.1 < 1000000) (hz : H1.size = H.size + 1) (oq : ∀ q : Nat, q < H.size → H1[q]? = H[q]?) (he : va_at G.1 x_cls (base + h.1, e') H1) (hs : x_e G base (x_new h kind len) h.1 = e') : x_Rep G base (x_new h kind len) H1 := by
  obtain ⟨r1, r2, r3, r4, r5⟩ := hR
  have ho : ∀ b, b ≠ h.1 → x_e G base (x_new h kind len) b = x_e G base h b := by
    intro b hb
    have e0 : (x_new h kind len).2.1 b = h.2.1 b := (x_new_kd ..).trans (if_neg hb)
    unfold x_e
    rw [e0]
    rfl
  refine ⟨by rw [hz, r1]; show base + h.1 + 1 = base + (h.1 + 1); omega, fun k q hk => ?_, hlt, fun b hb => ?_, fun k b i hb => r5 k b i (Nat.le_of_succ_le hb)⟩
  · obtain ⟨hl, rfl⟩ := x_W_of hk
    have hl : k < h.1 + 1 := hl
    by_cases hka : k = h.1
    · subst hka
      rw [hs]
      exact he
    · rw [ho k hka]
      refine (r2 k _ (x_W_get G base (by omega))).kept ?_
      exact oq (base + k) (by omega)
  · have hb : h.1 + 1 ≤ b := hb
    rw [x_new_kd, if_neg (by omega)]
    exact r4 b (by omega)
/-! the context -/
def x_isN : Cond → Bool
  | .fieldLinkNest .. => true
  | .methodLinkNest .. => true
  | _ => false
theorem x_isN_warm {w : Cond} (h : x_isN w = true) {s U : State} (hW : s.WarmedH U.vm) (hZ : va_Nw w s) : va_Nw w U := by
  cases w <;> first | exact va_Nw.warmF hW hZ | exact va_Nw.warmM hW hZ | exact absurd h (by simp [x_isN])
theorem x_isN_tab {w : Cond} (h : x_isN w = true) : w.onTables = true := by
  cases w <;> first | rfl | exact absurd h (by simp [x_isN])
def x_tys (G : x_G) : List (ClassId × FieldType) := x_aks.map (fun k => (G.2.1 k, x_aty k))
theorem x_tys_get (G : x_G) {k : Nat} (hk : k ∈ x_aks) : ∃ t : Nat, (x_tys G)[t]? = some (G.2.1 k, x_aty k) := List.getElem?_of_mem (List.mem_map.mpr ⟨k, hk, rfl⟩)
/-- what stands from the start: statics, constant objects, their fields, arrays, strings (plain values) -/
def x_Stat (E : x_E) (G : x_G) (base : Nat) (U : State) : Prop :=
  (∀ (k : Nat) (q : String × String × String), x_zs[k]? = some q → va_Z q.1 q.2.1 q.2.2 (x_tv G base (x_zv E k)) (x_A base) U U.heap) ∧
  (∀ (k : Nat) (q : Nat × String), x_os[k]? = some q → va_O q.2 (G.2.2 q.1) (x_A base) U U.heap) ∧
  (∀ (k : Nat) (q : Nat × String × String × String), x_of[k]? = some q → va_OF q.2.1 q.2.2.1 q.2.2.2 (x_tv G base (x_ofv k)) (G.2.2 q.1) (x_A base) U U.heap) ∧
  (∀ (k : Nat) (q : Nat × FieldType), x_ar[k]? = some q → va_T q.2 (G.2.2 q.1) (x_arn E k) (fun j => x_tv G base (x_arv E k j)) (x_A base) U U.heap) ∧
  (∀ (k : Nat) (q : String × Nat × String × Nat), x_ks[k]? = some q → vk_R q.1 q.2.1 q.2.2.1 (G.2.2 q.2.2.2) U)
def x_Sd (E : x_E) (G : x_G) (base : Nat) (U : State) : Prop :=
  va_K G.1 x_cls (x_tys G) U ∧ x_Stat E G base U ∧ (∀ w ∈ lw_tbl, x_isN w = true → va_Nw w U) ∧ (∀ C ∈ x_aos, va_AO C U) ∧ base ≤ U.heap.size ∧ ∀ i j, x_sep i j = true → G.2.2 i = G.2.2 j → i = j
theorem x_Sd.moved {E : x_E} {G : x_G} {base : Nat} {s U : State} (h : x_Sd E G base s) (hW : s.WarmedH U.vm) (hz : s.heap.size ≤ U.heap.size) (hh : ∀ a : Nat, a < s.heap.size → ¬ x_A base a → U.heap[a]? = s.heap[a]?) : x_Sd E G base U := by
  obtain ⟨h1, ⟨z1, z2, z3, z4, z5⟩, h3, h4, h5, h6⟩ := h
  exact ⟨h1.moved hW.alike, ⟨fun k q hq => ((z1 k q hq).moved hW.alike).kept hh, fun k q hq => ((z2 k q hq).moved hW.alike).kept hh, fun k q hq => ((z3 k q hq).moved hW.alike).kept hh, fun k q hq => ((z4 k q hq).moved hW.alike).kept hh, fun k q hq => (z5 k q hq).warm hW⟩,
    fun w hw hn => x_isN_warm hn hW (h3 w hw hn), fun C hC => (h4 C hC).moved hW.alike, Nat.le_trans h5 hz, h6⟩
theorem x_Sd.same {E : x_E} {G : x_G} {base : Nat} {s U : State} (h : x_Sd E G base s) (hv : s.vm = U.vm) (hh : U.heap = s.heap) : x_Sd E G base U := by
  obtain ⟨h1, ⟨z1, z2, z3, z4, z5⟩, h3, h4, h5, h6⟩ := h
  have al : s.vm.Alike U.vm := by rw [← hv]; exact Vm.Alike.refl s.vm
  have hk : ∀ a : Nat, a < s.heap.size → ¬ x_A base a → U.heap[a]? = s.heap[a]? := fun a _ _ => by rw [hh]
  exact ⟨h1.moved al, ⟨fun k q hq => ((z1 k q hq).moved al).kept hk, fun k q hq => ((z2 k q hq).moved al).kept hk, fun k q hq => ((z3 k q hq).moved al).kept hk, fun k q hq => ((z4 k q hq).moved al).kept hk, fun k q hq => (z5 k q hq).same hv.symm⟩,
    fun w hw hn => va_Nw.same (x_isN_tab hn) hv (h3 w hw hn), fun C hC => (h4 C hC).moved al, by rw [hh]; exact h5, h6⟩
def x_U : List Cond := lw_tbl.filter goodWord
theorem x_inU {i : Nat} {w : Cond} (h : lw_tbl[i]? = some w) (hg : goodWord w = true) : w ∈ x_U := List.mem_filter.mpr ⟨List.mem_of_getElem? h, hg⟩
def x_ws (y : Nat) : List Cond := Cond.code (x_nm y) (x_by y) (x_ml y) (x_rt y) :: x_U
def x_In (E : x_E) (G : x_G) (base y d : Nat) (p : Program) (R : Room) (s : State) (m : MethodId) (args : Array Value) (meth : Method) (c : Code) : Prop :=
  p.tables.exec = Jvm.exec ∧ c.code = x_by y ∧ c.maxLocals = x_ml y ∧ meth.sig.returnType = x_rt y ∧ meth.locks = false ∧ meth.name = (x_nm y).name ∧ s.vm.findClass (x_nm y).cls = some m.cls ∧ (∀ w ∈ x_U, w.before args s = true) ∧ d ≤ R.frames ∧ 64 * d ≤ R.locals ∧ x_Sd E G base s
def x_Cx (E : x_E) (G : x_G) (base y d : Nat) (L : x_L) (h : x_H) (rc rs : Nat) (p : Program) (R : Room) (s : State) (m : MethodId) (args : Array Value) (meth : Method) (c : Code) (H : Heap) (locs : List Loc) (cells slots mc ms : Nat) (ls : Array Slot) : Prop :=
  x_In E G base y d p R s m args meth c ∧ x_Rep G base h H ∧ va_S (x_A base) s.heap H locs ∧ lv_has ls (x_ml y) (x_lv (x_ml y) (x_tL G base L)) ∧ cells + rc ≤ mc ∧ slots + rs ≤ ms ∧ mc ≤ R.cells ∧ ms ≤ R.slots
def x_Qc (E : x_E) (G : x_G) (base : Nat) (Q : x_Q) : Array Value → State → Outcome → State → Prop := fun _ st oc t => (∃ (v : Option Value) (h' : x_H), oc = .returned (v.map (x_tv G base)) ∧ Q v h' ∧ x_Rep G base h' t.heap) ∧ va_F (x_A base) st t
def x_P0 (l0 : Launch) (E : x_E) (G : x_G) (base : Nat) : x_Pr := fun y d pc L st h rc rs Q =>
  ∀ (p : Program) (e : Env) (R : Room) (s : State) (m : MethodId) (args : Array Value) (below : List Frame) (meth : Method) (c : Code) (H : Heap) (locs : List Loc) (cells slots mc ms : Nat) (ls : Array Slot),
    x_Cx E G base y d L h rc rs p R s m args meth c H locs cells slots mc ms ls → W p l0 e R s m args below meth c H locs cells slots (MQ below (x_Qc E G base Q) args s mc ms (x_A base)) (F0 m pc ls (st.map (x_tv G base)))
/-- two plain references that the machine's tell apart as we do -/
def x_far (u w : Nat) : Bool := (Nat.blt u 1000000 && Nat.blt w 1000000) || (Nat.ble 1000000 u && (Nat.ble 1000000 w && x_sep (u - 1000000) (w - 1000000)))
theorem x_inj {E : x_E} {G : x_G} {base y d : Nat} {p : Program} {R : Room} {s : State} {m : MethodId} {args : Array Value} {meth : Method} {c : Code} (hI : x_In E G base y d p R s m args meth c) {rx ry : Option Nat} (hf : ∀ u w, rx = some u → ry = some w → x_far u w = true) : rx.map (x_ta G base) = ry.map (x_ta G base) ↔ rx = ry := by
  refine ⟨fun h => ?_, fun h => by rw [h]⟩
  cases rx with
  | none => cases ry with
    | none => rfl
    | some w => cases h
  | some u => cases ry with
    | none => cases h
    | some w =>
      have h : x_ta G base u = x_ta G base w := Option.some.inj h
      have hfar := hf u w rfl rfl
      unfold x_ta at h
      rcases x_or hfar with q | q
      · obtain ⟨q1, q2⟩ := x_and q
        rw [if_pos (x_blt q1), if_pos (x_blt q2)] at h
        exact congrArg some (by omega)
      · obtain ⟨q1, q2⟩ := x_and q
        obtain ⟨q2, q3⟩ := x_and q2
        have q1 := Nat.le_of_ble_eq_true q1
        have q2 := Nat.le_of_ble_eq_true q2
        rw [if_neg (by omega), if_neg (by omega)] at h
        obtain ⟨-, -, -, -, -, -, -, -, -, -, hSd⟩ := hI
        have := hSd.2.2.2.2.2 _ _ q3 h
        exact congrArg some (by omega)
theorem x_m1 {G : x_G} {base o : Nat} {st : List Value} (h : x_ta G base o = base + o) : (Value.ref o :: st).map (x_tv G base) = .ref (base + o) :: st.map (x_tv G base) := by rw [← h]; rfl
theorem x_m2 {G : x_G} {base o : Nat} {u : Value} {st : List Value} (h : x_ta G base o = base + o) : (u :: Value.ref o :: st).map (x_tv G base) = x_tv G base u :: .ref (base + o) :: st.map (x_tv G base) := by rw [← h]; rfl
theorem x_m3 {G : x_G} {base o : Nat} {u w : Value} {st : List Value} (h : x_ta G base o = base + o) : (u :: w :: Value.ref o :: st).map (x_tv G base) = x_tv G base u :: x_tv G base w :: .ref (base + o) :: st.map (x_tv G base) := by rw [← h]; rfl
theorem x_Ao {base o : Nat} : x_A base (base + o) := Nat.le_add_right ..
/-- arrays: a store in the kit's cells -/
theorem x_stI {cA : ClassId} {n k : Nat} {f : Nat → Int32} {x : Int32} : (vp_cell cA (n, .inl f)).setSlot k (.int x) = vp_cell cA (n, .inl (upd f k x)) := by
  rw [vp_cell_i, vp_cell_i, arrV_store]
  congr 1
  funext q
  by_cases hq : q = k <;> simp [updV, upd, hq]
theorem x_stL {cA : ClassId} {n k : Nat} {f : Nat → Int64} {x : Int64} : (vp_cell cA (n, .inr (.inl f))).setSlot k (.long x) = vp_cell cA (n, .inr (.inl (vp_updL f k x))) := by
  rw [vp_cell_l, vp_cell_l, arrV_store]
  congr 1
  funext q
  by_cases hq : q = k <;> simp [updV, vp_updL, hq]
theorem x_stR {cA : ClassId} {n k : Nat} {f : Nat → Option Nat} {r : Option Nat} : (vp_cell cA (n, .inr (.inr (.inr (.inr f))))).setSlot k (va_rf r) = vp_cell cA (n, .inr (.inr (.inr (.inr (va_up f k r))))) := by
  rw [vp_cell_q, vp_cell_q, arrV_store]
  congr 1
  funext q
  by_cases hq : q = k <;> simp [updV, va_up, hq]
theorem x_inI {cA : ClassId} {n : Nat} {f : Nat → Value} {i : Int32} (h : vp_in i n) : ¬ (i < 0 ∨ (arrV cA n f).slots.size ≤ i.toNatClampNeg) := by rw [arrV_size]; exact h
