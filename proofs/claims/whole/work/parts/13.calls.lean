/-! CALLS -/
def x_Pc (E : x_E) (G : x_G) (base : Nat) (vs : List Value) (h : x_H) : Array Value → State → Prop := fun av U => av = (vs.map (x_tv G base)).toArray ∧ x_Rep G base h U.heap ∧ x_Sd E G base U
theorem x_blind (E : x_E) (G : x_G) (base : Nat) (vs : List Value) (h : x_H) : FrameBlind (x_Pc E G base vs h) := fun a U g mk q => ⟨q.1, q.2.1, q.2.2.same (U := U.calling g mk a) rfl rfl⟩
def x_rm (d mc ms : Nat) : Room := { frames := d, cells := mc, slots := ms, locals := 64 * d }
set_option maxHeartbeats 1000000 in
theorem x_met {l0 : Launch} {E : x_E} {G : x_G} {base y d mc ms : Nat} {vs : List Value} {h : x_H} {Q : x_Q} (hm : x_okm y) (hs4 : x_sk2 y ≠ 4) (hw : x_wd vs ≤ x_ml y) (k : x_P0 l0 E G base y d 0 (x_la 0 vs) [] h mc ms Q) : Met l0 (x_nm y) (x_ws y) (x_rm d mc ms) (x_Pc E G base vs h) (x_Qc E G base Q) mc ms (x_A base) := by
  refine Met.ofW (cc := x_by y) (maxL := x_ml y) (ret := x_rt y) (hm.2.2.1 hs4) rfl ?_
  intro p e s m args below meth c s₁ B hml hv
  obtain ⟨rfl, hRp, hSd⟩ := hv
  rw [lg_entry_eq]
  refine k p e _ s m _ below meth c s.heap [] 0 0 mc ms _ ⟨⟨B.exec, B.bytes, hml, B.returns, B.notSynchronized, (name_of_methodNamed B.named B.method).1, findClass_of_methodNamed B.named, fun w hw => atoms_spec (ws := x_ws y) B.pre w (List.mem_cons_of_mem _ hw), Nat.le_refl _, Nat.le_refl _, hSd⟩, hRp, va_S.rf, (by rw [x_tL_la]; exact x_lv_entry _ (by rw [x_wd_t]; exact hw)), ?_, ?_, Nat.le_refl _, Nat.le_refl _⟩
  · omega
  · omega
set_option maxHeartbeats 1000000 in
theorem x_after {l0 : Launch} {E : x_E} {G : x_G} {base : Nat} {p : Program} {e : Env} {R : Room} {s : State} {m : MethodId} {args : Array Value} {below : List Frame} {meth : Method} {c : Code} {H : Heap} {locs : List Loc} {cells slots mc ms pc : Nat} {ls : Array Slot} {st0 rest : List Value} {av : Array Value} {Qk : x_Q} {Q0 : State → Prop}
    (hr : va_Run p l0 e R s m args below meth c H locs cells slots mc ms (F0 m pc ls st0) rest (x_Qc E G base Qk av) (x_A base)) (hS : va_S (x_A base) s.heap H locs)
    (kk : ∀ (w : Option Value) (h' : x_H) (H' : Heap) (locs' : List Loc), Qk w h' → x_Rep G base h' H' → va_S (x_A base) s.heap H' locs' → W p l0 e R s m args below meth c H' locs' (cells + mc) (slots + ms) Q0 (F0 m (pc + 3) ls ((w.map (x_tv G base)).toList ++ rest))) : W p l0 e R s m args below meth c H locs cells slots Q0 (F0 m pc ls st0) := by
  intro T hT X
  obtain ⟨v, st₀, t, T', L, h0, X', hL, e1, e2, ⟨⟨w, h', hv, hq, hrp⟩, hz, hk⟩, st⟩ := hr T hT X
  cases hv
  rw [h0] at hz hk
  rw [← e1] at hrp hz hk
  obtain ⟨t2, a1, b1⟩ := kk w h' T'.heap (locs ++ L) hq hrp ⟨Nat.le_trans hS.1 hz, fun q h1 h2 => by
      rw [hk q (Nat.lt_of_lt_of_le h1 hS.1) h2]
      exact hS.2.1 q h1 h2, fun q hq => by
      rcases List.mem_append.mp hq with h | h
      · exact hS.2.2 q h
      · exact hL q h⟩ T' rfl X'
  exact ⟨t2, st t2 a1, b1⟩
theorem x_room {y d mc ms : Nat} {R : Room} (hml : x_ml y ≤ 45) (h1 : d + 1 ≤ R.frames) (h2 : 64 * (d + 1) ≤ R.locals) : (x_rm d mc ms).frames + 1 ≤ R.frames ∧ 8 + (x_ml y + 11) + (x_rm d mc ms).locals ≤ R.locals := by
  refine ⟨h1, ?_⟩
  show 8 + (x_ml y + 11) + 64 * d ≤ R.locals
  omega
/-- what holds of the callee's start -/
theorem x_pre {E : x_E} {G : x_G} {base : Nat} {s : State} {H : Heap} {locs : List Loc} {h : x_H} (vs : List Value) (hSd : x_Sd E G base s) (hRp : x_Rep G base h H) (hS : va_S (x_A base) s.heap H locs) : ∀ U : State, U.heap = H → s.WarmedH U.vm → x_Pc E G base vs h (vs.map (x_tv G base)).toArray U := fun U hU hW => by
  subst hU
  exact ⟨rfl, hRp, hSd.moved hW hS.1 hS.2.1⟩
theorem x_ckV_spec {y pc i nx a b g : Nat} {v : Int32} {l : Int64} (h : x_chk y pc (.invokevirtual i) nx 0 a b g v l = true) : x_ckM y i a b = true := by
  have h : (x_ckM y i a b || false) = true := h
  rcases x_or h with h | h
  · exact h
  · cases h
theorem x_ckT_spec {y pc i nx a b g : Nat} {v : Int32} {l : Int64} (h : x_chk y pc (.invokestatic i) nx 0 a b g v l = true) : x_ckM y i a b = true := by
  have h : (x_ckM y i a b || false) = true := h
  rcases x_or h with h | h
  · exact h
  · cases h
theorem x_ckJ_spec {y pc i nx a b g : Nat} {v : Int32} {l : Int64} (h : x_chk y pc (.invokespecial i) nx 0 a b g v l = true) : x_ckM y i a b = true := by
  have h : (x_ckM y i a b || false) = true := h
  rcases x_or h with h | h
  · exact h
  · cases h
theorem x_ckB_spec {y pc i nx a b g : Nat} {v : Int32} {l : Int64} (h : x_chk y pc (.invokespecial i) nx 1 a b g v l = true) : lw_tbl[b]? = some (.methodLink (x_nm y).cls i Lib.objectInit) := by
  have h : (false || decide (lw_tbl[b]? = some (.methodLink (x_nm y).cls i Lib.objectInit))) = true := h
  rcases x_or h with h | h
  · cases h
  · exact of_decide_eq_true h
theorem x_ckA_spec {y pc i nx a b g : Nat} {v : Int32} {l : Int64} (h : x_chk y pc (.invokestatic i) nx 5 a b g v l = true) : lw_tbl[b]? = some (.methodLink (x_nm y).cls i arraycopyName) := by
  have h : (false || decide (lw_tbl[b]? = some (.methodLink (x_nm y).cls i arraycopyName))) = true := h
  rcases x_or h with h | h
  · cases h
  · exact of_decide_eq_true h
theorem x_acw : nativeFrameWords "java/lang/System" "arraycopy" 5 ≤ 45 := by decide +kernel
set_option maxHeartbeats 1000000 in
/-- System.arraycopy of ints: the cell, the heap's size, the other cells -/
theorem x_copyc {p : Program} {l0 : Launch} {e : Env} {R : Room} {s : State} {m : MethodId} {args : Array Value} {below : List Frame} {meth : Method} {c : Code} {H : Heap} {locs : List Loc} {cells slots : Nat} {Q : State → Prop} {cc : ByteArray} {pc : Nat} {ls : Array Slot} {rest : List Value} {G : x_G} {cA : ClassId}
    (hexec : p.tables.exec = Jvm.exec) (hb : c.code = cc) (hml : c.maxLocals = ls.size) {own : String} {index : Nat} (hown : s.vm.findClass own = some m.cls) (hlink : (Cond.methodLink own index arraycopyName).before args s = true) (hnat : (Cond.native arraycopyName).before args s = true) (hstat : (Cond.static arraycopyName).before args s = true) (hini : (Cond.initialized "java/lang/System").before args s = true)
    (hAr : ArrOfT s cA .int) {a0 a n0 n1 : Nat} {f g : Nat → Int32} (hc0 : va_at G.1 x_cls (a0, .inl (cA, n0, .inl f)) H) (hc1 : va_at G.1 x_cls (a, .inl (cA, n1, .inl g)) H)
    {sp dp n : Int32} (h1 : ¬ sp < 0) (h2 : ¬ dp < 0) (h3 : ¬ n < 0) (h4 : sp.toNatClampNeg + n.toNatClampNeg ≤ n0) (h5 : dp.toNatClampNeg + n.toNatClampNeg ≤ n1)
    (hframes : 1 ≤ R.frames) (hlocals : (rest.map fun v => v.category).sum + (nativeFrameWords "java/lang/System" "arraycopy" 5 + 11) ≤ R.locals) (hdg : decode cc pc = .ok (.invokestatic index, 3))
    (kk : ∀ (H1 : Heap) (L1 : List Loc), va_at G.1 x_cls (a, .inl (cA, n1, .inl (va_cpy f g sp.toNatClampNeg dp.toNatClampNeg n.toNatClampNeg))) H1 → H1.size = H.size → (∀ q : Nat, q ≠ a → H1[q]? = H[q]?) → (∀ q ∈ L1, q.base = a) → W p l0 e R s m args below meth c H1 (locs ++ L1) cells slots Q (F0 m (pc + 3) ls rest)) : W p l0 e R s m args below meth c H locs cells slots Q (F0 m pc ls (.int n :: .int dp :: .ref a :: .int sp :: .ref a0 :: rest)) := by
  have nn : ∀ z : Int32, ¬ z < 0 → z.toInt = (z.toNatClampNeg : Int) := by
    intro z hz
    have hz0 : (0 : Int) ≤ z.toInt := by simpa using Int32.le_iff_toInt_le.mp (Int32.not_lt.mp hz)
    show z.toInt = ((z.toInt.toNat : Nat) : Int)
    omega
  intro T hT X
  have hc0 : H[a0]? = some (vp_cell cA (n0, .inl f)) := hc0
  have hc1 : H[a]? = some (vp_cell cA (n1, .inl g)) := hc1
  obtain ⟨-, k0, hk0, cm0, hkk0⟩ := hAr n0 (fun j => .int (f j))
  obtain ⟨vm', X', step⟩ := X.arraycopy hexec hown hlink hnat hstat hini (src := a0) (dst := a) (cs := vp_cell cA (n0, .inl f)) (cd := vp_cell cA (n1, .inl g)) (srcPos := sp) (destPos := dp) (n := n) (by rw [hT]; exact hc0) (by rw [hT]; exact hc1)
    (fun _ h => by cases h) (fun _ h => by cases h) (fun h => by cases h) (fun h => by cases h) hk0 hk0 hkk0 hkk0 (by simp [refKind]) h1 h2 h3
    (by rw [nn sp h1, nn n h3]; show ¬ _ > ((arrV cA n0 (fun j => .int (f j))).slots.size : Int); rw [arrV_size]; omega)
    (by rw [nn dp h2, nn n h3]; show ¬ _ > ((arrV cA n1 (fun j => .int (g j))).slots.size : Int); rw [arrV_size]; omega)
    (fun vm₁ _ i hi => by
      have e : (vp_cell cA (n0, .inl f)).slots.getD (sp.toNatClampNeg + i) .null = .int (f (sp.toNatClampNeg + i)) := by
        show (arrV cA n0 (fun j => .int (f j))).slots.getD _ _ = _
        rw [Array.getD_eq_getD_getElem?, arrV_read _ _ (by omega)]
        rfl
      exact ⟨by rw [e]; rfl, by rw [e]; exact trivial⟩)
    (g := F0 m pc ls (.int n :: .int dp :: .ref a :: .int sp :: .ref a0 :: rest)) rfl (by rw [hml]) (rest := rest) rfl (by rw [hb]; exact hdg) hframes (by show 2 * 0 + _ + _ ≤ _; omega)
  have e1 : copied (vp_cell cA (n0, .inl f)) (vp_cell cA (n1, .inl g)) sp dp n = vp_cell cA (n1, .inl (va_cpy f g sp.toNatClampNeg dp.toNatClampNeg n.toNatClampNeg)) := va_copied (fun z => .int z) cA cA f g h4
  rw [e1] at X' step
  have hlt : a < H.size := (Array.getElem?_eq_some_iff.mp hc1).1
  obtain ⟨t, a1, b1⟩ := kk (H.setIfInBounds a (vp_cell cA (n1, .inl (va_cpy f g sp.toNatClampNeg dp.toNatClampNeg n.toNatClampNeg)))) _ (show (H.setIfInBounds a _)[a]? = some _ by simp [Array.getElem?_setIfInBounds, hlt]) (by simp) (fun q hq => by simp [Array.getElem?_setIfInBounds, Ne.symm hq]) (fun q hq => by
      obtain ⟨z, -, hz⟩ := List.mem_map.mp hq
      rw [← hz]) _ (by rw [← hT]; rfl) X'
  exact ⟨t, step t a1, b1⟩
theorem x_ckU_spec {y pc i nx a b g : Nat} {v : Int32} {l : Int64} (h : x_chk y pc (.invokevirtual i) nx 1 a b g v l = true) : a < x_nM ∧ lw_tbl[b]? = some (.methodLink (x_nm y).cls i ⟨x_ecl g, (x_nm a).name, (x_nm a).desc⟩) ∧ lw_tbl[x_esm g]? = some (.sameMethod (x_ecl g) (x_nm a).cls (x_nm a).name (x_nm a).desc) ∧ lw_tbl[x_ese g]? = some (.selects (x_ecl g) ⟨x_ecl g, (x_nm a).name, (x_nm a).desc⟩ (x_nm a)) := by
  have h : (false || (decide (lw_tbl[b]? = some (.methodLink (x_nm y).cls i ⟨x_ecl g, (x_nm a).name, (x_nm a).desc⟩) ∧ lw_tbl[x_esm g]? = some (.sameMethod (x_ecl g) (x_nm a).cls (x_nm a).name (x_nm a).desc) ∧ lw_tbl[x_ese g]? = some (.selects (x_ecl g) ⟨x_ecl g, (x_nm a).name, (x_nm a).desc⟩ (x_nm a))) && Nat.blt a x_nM)) = true := h
  rcases x_or h with h | h
  · cases h
  · obtain ⟨k1, k2⟩ := x_and h
    exact ⟨x_blt k2, of_decide_eq_true k1⟩
