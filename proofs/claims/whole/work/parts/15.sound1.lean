theorem x_s_iconst (l0 : Launch) (E : x_E) (G : x_G) (base : Nat) : x_r_iconst (x_P0 l0 E G base) := by
  intro y d pc L st h rc rs Q nx t a b g v l n hi  k1
  obtain ⟨hd, rfl⟩ := x_decn 1 hi rfl (by decide)
  have hk := x_ck hi
  intro p e R s m args below meth c H locs cells slots mc ms ls C
  obtain ⟨hx, hb, -⟩ := id C.1
  refine lv_iconst hx hb hd (of_decide_eq_true hk) ?_
  exact k1 _ _ _ _ _ _ _ _ _ _ _ _ _ _ _ _  C
theorem x_s_bipush (l0 : Launch) (E : x_E) (G : x_G) (base : Nat) : x_r_bipush (x_P0 l0 E G base) := by
  intro y d pc L st h rc rs Q nx t a b g v l n hi  k1
  obtain ⟨hd, rfl⟩ := x_decn 2 hi rfl (by decide)
  have hk := x_ck hi
  intro p e R s m args below meth c H locs cells slots mc ms ls C
  obtain ⟨hx, hb, -⟩ := id C.1
  refine lv_bipush hx hb hd (of_decide_eq_true hk) ?_
  exact k1 _ _ _ _ _ _ _ _ _ _ _ _ _ _ _ _  C
theorem x_s_sipush (l0 : Launch) (E : x_E) (G : x_G) (base : Nat) : x_r_sipush (x_P0 l0 E G base) := by
  intro y d pc L st h rc rs Q nx t a b g v l n hi  k1
  obtain ⟨hd, rfl⟩ := x_decn 3 hi rfl (by decide)
  have hk := x_ck hi
  intro p e R s m args below meth c H locs cells slots mc ms ls C
  obtain ⟨hx, hb, -⟩ := id C.1
  refine lv_sipush hx hb hd (of_decide_eq_true hk) ?_
  exact k1 _ _ _ _ _ _ _ _ _ _ _ _ _ _ _ _  C
theorem x_s_lconst (l0 : Launch) (E : x_E) (G : x_G) (base : Nat) : x_r_lconst (x_P0 l0 E G base) := by
  intro y d pc L st h rc rs Q nx t a b g v l n hi  k1
  obtain ⟨hd, rfl⟩ := x_decn 1 hi rfl (by decide)
  have hk := x_ck hi
  intro p e R s m args below meth c H locs cells slots mc ms ls C
  obtain ⟨hx, hb, -⟩ := id C.1
  refine lv_lconst hx hb hd (of_decide_eq_true hk) ?_
  exact k1 _ _ _ _ _ _ _ _ _ _ _ _ _ _ _ _  C
theorem x_s_null (l0 : Launch) (E : x_E) (G : x_G) (base : Nat) : x_r_null (x_P0 l0 E G base) := by
  intro y d pc L st h rc rs Q nx t a b g v l  hi  k1
  obtain ⟨hd, rfl⟩ := x_decn 1 hi rfl (by decide)
  intro p e R s m args below meth c H locs cells slots mc ms ls C
  obtain ⟨hx, hb, -⟩ := id C.1
  refine lv_null hx hb hd ?_
  exact k1 _ _ _ _ _ _ _ _ _ _ _ _ _ _ _ _  C
theorem x_s_iload_n (l0 : Launch) (E : x_E) (G : x_G) (base : Nat) : x_r_iload_n (x_P0 l0 E G base) := by
  intro y d pc L st h rc rs Q nx t a b g v l n x hi hv k1
  obtain ⟨hd, rfl⟩ := x_decn 1 hi rfl (by decide)
  have hk := x_ck hi
  intro p e R s m args below meth c H locs cells slots mc ms ls C
  obtain ⟨hx, hb, -⟩ := id C.1
  obtain ⟨hI, hRp, hS, hl, hc1, hc2, hc3, hc4⟩ := id C
  refine lv_iload_n hx hb hd rfl (x_lv_at hl (x_blt hk) (x_tLs hv)) ?_
  exact k1 _ _ _ _ _ _ _ _ _ _ _ _ _ _ _ _  C
theorem x_s_iload (l0 : Launch) (E : x_E) (G : x_G) (base : Nat) : x_r_iload (x_P0 l0 E G base) := by
  intro y d pc L st h rc rs Q nx t a b g v l n x hi hv k1
  obtain ⟨hd, rfl⟩ := x_decn 2 hi rfl (by decide)
  have hk := x_ck hi
  intro p e R s m args below meth c H locs cells slots mc ms ls C
  obtain ⟨hx, hb, -⟩ := id C.1
  obtain ⟨hI, hRp, hS, hl, hc1, hc2, hc3, hc4⟩ := id C
  refine lv_iload hx hb hd (x_lv_at hl (x_blt hk) (x_tLs hv)) ?_
  exact k1 _ _ _ _ _ _ _ _ _ _ _ _ _ _ _ _  C
theorem x_s_lload_n (l0 : Launch) (E : x_E) (G : x_G) (base : Nat) : x_r_lload_n (x_P0 l0 E G base) := by
  intro y d pc L st h rc rs Q nx t a b g v l n x hi hv k1
  obtain ⟨hd, rfl⟩ := x_decn 1 hi rfl (by decide)
  have hk := x_ck hi
  intro p e R s m args below meth c H locs cells slots mc ms ls C
  obtain ⟨hx, hb, -⟩ := id C.1
  obtain ⟨hI, hRp, hS, hl, hc1, hc2, hc3, hc4⟩ := id C
  refine lv_lload_n hx hb hd rfl (x_lv_at hl (x_blt hk) (x_tLs hv)) ?_
  exact k1 _ _ _ _ _ _ _ _ _ _ _ _ _ _ _ _  C
theorem x_s_lload (l0 : Launch) (E : x_E) (G : x_G) (base : Nat) : x_r_lload (x_P0 l0 E G base) := by
  intro y d pc L st h rc rs Q nx t a b g v l n x hi hv k1
  obtain ⟨hd, rfl⟩ := x_decn 2 hi rfl (by decide)
  have hk := x_ck hi
  intro p e R s m args below meth c H locs cells slots mc ms ls C
  obtain ⟨hx, hb, -⟩ := id C.1
  obtain ⟨hI, hRp, hS, hl, hc1, hc2, hc3, hc4⟩ := id C
  refine lv_lload hx hb hd (x_lv_at hl (x_blt hk) (x_tLs hv)) ?_
  exact k1 _ _ _ _ _ _ _ _ _ _ _ _ _ _ _ _  C
theorem x_s_aload_n (l0 : Launch) (E : x_E) (G : x_G) (base : Nat) : x_r_aload_n (x_P0 l0 E G base) := by
  intro y d pc L st h rc rs Q nx t a b g v l n x hi hv k1
  obtain ⟨hd, rfl⟩ := x_decn 1 hi rfl (by decide)
  have hk := x_ck hi
  intro p e R s m args below meth c H locs cells slots mc ms ls C
  obtain ⟨hx, hb, -⟩ := id C.1
  obtain ⟨hI, hRp, hS, hl, hc1, hc2, hc3, hc4⟩ := id C
  refine lv_aload_n hx hb hd rfl (x_lv_at hl (x_blt hk) (x_tLs hv)) ?_
  exact k1 _ _ _ _ _ _ _ _ _ _ _ _ _ _ _ _  C
theorem x_s_aload (l0 : Launch) (E : x_E) (G : x_G) (base : Nat) : x_r_aload (x_P0 l0 E G base) := by
  intro y d pc L st h rc rs Q nx t a b g v l n x hi hv k1
  obtain ⟨hd, rfl⟩ := x_decn 2 hi rfl (by decide)
  have hk := x_ck hi
  intro p e R s m args below meth c H locs cells slots mc ms ls C
  obtain ⟨hx, hb, -⟩ := id C.1
  obtain ⟨hI, hRp, hS, hl, hc1, hc2, hc3, hc4⟩ := id C
  refine lv_aload hx hb hd (x_lv_at hl (x_blt hk) (x_tLs hv)) ?_
  exact k1 _ _ _ _ _ _ _ _ _ _ _ _ _ _ _ _  C
theorem x_s_aload_nN (l0 : Launch) (E : x_E) (G : x_G) (base : Nat) : x_r_aload_nN (x_P0 l0 E G base) := by
  intro y d pc L st h rc rs Q nx t a b g v l n hi hv k1
  obtain ⟨hd, rfl⟩ := x_decn 1 hi rfl (by decide)
  have hk := x_ck hi
  intro p e R s m args below meth c H locs cells slots mc ms ls C
  obtain ⟨hx, hb, -⟩ := id C.1
  obtain ⟨hI, hRp, hS, hl, hc1, hc2, hc3, hc4⟩ := id C
  refine lv_aload_nN hx hb hd rfl (x_lv_at hl (x_blt hk) (x_tLs hv)) ?_
  exact k1 _ _ _ _ _ _ _ _ _ _ _ _ _ _ _ _  C
theorem x_s_aloadN (l0 : Launch) (E : x_E) (G : x_G) (base : Nat) : x_r_aloadN (x_P0 l0 E G base) := by
  intro y d pc L st h rc rs Q nx t a b g v l n hi hv k1
  obtain ⟨hd, rfl⟩ := x_decn 2 hi rfl (by decide)
  have hk := x_ck hi
  intro p e R s m args below meth c H locs cells slots mc ms ls C
  obtain ⟨hx, hb, -⟩ := id C.1
  obtain ⟨hI, hRp, hS, hl, hc1, hc2, hc3, hc4⟩ := id C
  refine lv_aloadN hx hb hd (x_lv_at hl (x_blt hk) (x_tLs hv)) ?_
  exact k1 _ _ _ _ _ _ _ _ _ _ _ _ _ _ _ _  C
theorem x_s_istore_n (l0 : Launch) (E : x_E) (G : x_G) (base : Nat) : x_r_istore_n (x_P0 l0 E G base) := by
  intro y d pc L st h rc rs Q nx t a b g v l n x hi  k1
  obtain ⟨hd, rfl⟩ := x_decn 1 hi rfl (by decide)
  have hk := x_ck hi
  intro p e R s m args below meth c H locs cells slots mc ms ls C
  obtain ⟨hx, hb, -⟩ := id C.1
  obtain ⟨hI, hRp, hS, hl, hc1, hc2, hc3, hc4⟩ := id C
  refine lv_istore_n hx hb hd rfl hl (x_blt hk) rfl (fun ls1 hl1 => ?_)
  exact k1 _ _ _ _ _ _ _ _ _ _ _ _ _ _ _ _  ⟨hI, hRp, hS, x_lv_s1 (.int x) hl1, hc1, hc2, hc3, hc4⟩
theorem x_s_istore (l0 : Launch) (E : x_E) (G : x_G) (base : Nat) : x_r_istore (x_P0 l0 E G base) := by
  intro y d pc L st h rc rs Q nx t a b g v l n x hi  k1
  obtain ⟨hd, rfl⟩ := x_decn 2 hi rfl (by decide)
  have hk := x_ck hi
  intro p e R s m args below meth c H locs cells slots mc ms ls C
  obtain ⟨hx, hb, -⟩ := id C.1
  obtain ⟨hI, hRp, hS, hl, hc1, hc2, hc3, hc4⟩ := id C
  refine lv_istore hx hb hd hl (x_blt hk) rfl (fun ls1 hl1 => ?_)
  exact k1 _ _ _ _ _ _ _ _ _ _ _ _ _ _ _ _  ⟨hI, hRp, hS, x_lv_s1 (.int x) hl1, hc1, hc2, hc3, hc4⟩
theorem x_s_lstore_n (l0 : Launch) (E : x_E) (G : x_G) (base : Nat) : x_r_lstore_n (x_P0 l0 E G base) := by
  intro y d pc L st h rc rs Q nx t a b g v l n x hi  k1
  obtain ⟨hd, rfl⟩ := x_decn 1 hi rfl (by decide)
  have hk := x_ck hi
  intro p e R s m args below meth c H locs cells slots mc ms ls C
  obtain ⟨hx, hb, -⟩ := id C.1
  obtain ⟨hI, hRp, hS, hl, hc1, hc2, hc3, hc4⟩ := id C
  refine lv_lstore_n hx hb hd rfl hl (x_blt hk) rfl (fun ls1 hl1 => ?_)
  exact k1 _ _ _ _ _ _ _ _ _ _ _ _ _ _ _ _  ⟨hI, hRp, hS, x_lv_s2 (.long x) hl1, hc1, hc2, hc3, hc4⟩
theorem x_s_lstore (l0 : Launch) (E : x_E) (G : x_G) (base : Nat) : x_r_lstore (x_P0 l0 E G base) := by
  intro y d pc L st h rc rs Q nx t a b g v l n x hi  k1
  obtain ⟨hd, rfl⟩ := x_decn 2 hi rfl (by decide)
  have hk := x_ck hi
  intro p e R s m args below meth c H locs cells slots mc ms ls C
  obtain ⟨hx, hb, -⟩ := id C.1
  obtain ⟨hI, hRp, hS, hl, hc1, hc2, hc3, hc4⟩ := id C
  refine lv_lstore hx hb hd hl (x_blt hk) rfl (fun ls1 hl1 => ?_)
  exact k1 _ _ _ _ _ _ _ _ _ _ _ _ _ _ _ _  ⟨hI, hRp, hS, x_lv_s2 (.long x) hl1, hc1, hc2, hc3, hc4⟩
theorem x_s_astore_n (l0 : Launch) (E : x_E) (G : x_G) (base : Nat) : x_r_astore_n (x_P0 l0 E G base) := by
  intro y d pc L st h rc rs Q nx t a b g v l n x hi  k1
  obtain ⟨hd, rfl⟩ := x_decn 1 hi rfl (by decide)
  have hk := x_ck hi
  intro p e R s m args below meth c H locs cells slots mc ms ls C
  obtain ⟨hx, hb, -⟩ := id C.1
  obtain ⟨hI, hRp, hS, hl, hc1, hc2, hc3, hc4⟩ := id C
  refine lv_astore_n hx hb hd rfl hl (x_blt hk) rfl (fun ls1 hl1 => ?_)
  exact k1 _ _ _ _ _ _ _ _ _ _ _ _ _ _ _ _  ⟨hI, hRp, hS, x_lv_s1 (.ref x) hl1, hc1, hc2, hc3, hc4⟩
theorem x_s_astore (l0 : Launch) (E : x_E) (G : x_G) (base : Nat) : x_r_astore (x_P0 l0 E G base) := by
  intro y d pc L st h rc rs Q nx t a b g v l n x hi  k1
  obtain ⟨hd, rfl⟩ := x_decn 2 hi rfl (by decide)
  have hk := x_ck hi
  intro p e R s m args below meth c H locs cells slots mc ms ls C
  obtain ⟨hx, hb, -⟩ := id C.1
  obtain ⟨hI, hRp, hS, hl, hc1, hc2, hc3, hc4⟩ := id C
  refine lv_astore hx hb hd hl (x_blt hk) rfl (fun ls1 hl1 => ?_)
  exact k1 _ _ _ _ _ _ _ _ _ _ _ _ _ _ _ _  ⟨hI, hRp, hS, x_lv_s1 (.ref x) hl1, hc1, hc2, hc3, hc4⟩
theorem x_s_astore_nN (l0 : Launch) (E : x_E) (G : x_G) (base : Nat) : x_r_astore_nN (x_P0 l0 E G base) := by
  intro y d pc L st h rc rs Q nx t a b g v l n hi  k1
  obtain ⟨hd, rfl⟩ := x_decn 1 hi rfl (by decide)
  have hk := x_ck hi
  intro p e R s m args below meth c H locs cells slots mc ms ls C
  obtain ⟨hx, hb, -⟩ := id C.1
  obtain ⟨hI, hRp, hS, hl, hc1, hc2, hc3, hc4⟩ := id C
  refine lv_astore_nN hx hb hd rfl hl (x_blt hk) rfl (fun ls1 hl1 => ?_)
  exact k1 _ _ _ _ _ _ _ _ _ _ _ _ _ _ _ _  ⟨hI, hRp, hS, x_lv_s1 (.null) hl1, hc1, hc2, hc3, hc4⟩
theorem x_s_astoreN (l0 : Launch) (E : x_E) (G : x_G) (base : Nat) : x_r_astoreN (x_P0 l0 E G base) := by
  intro y d pc L st h rc rs Q nx t a b g v l n hi  k1
  obtain ⟨hd, rfl⟩ := x_decn 2 hi rfl (by decide)
  have hk := x_ck hi
  intro p e R s m args below meth c H locs cells slots mc ms ls C
  obtain ⟨hx, hb, -⟩ := id C.1
  obtain ⟨hI, hRp, hS, hl, hc1, hc2, hc3, hc4⟩ := id C
  refine lv_astoreN hx hb hd hl (x_blt hk) rfl (fun ls1 hl1 => ?_)
  exact k1 _ _ _ _ _ _ _ _ _ _ _ _ _ _ _ _  ⟨hI, hRp, hS, x_lv_s1 (.null) hl1, hc1, hc2, hc3, hc4⟩
theorem x_s_iadd (l0 : Launch) (E : x_E) (G : x_G) (base : Nat) : x_r_iadd (x_P0 l0 E G base) := by
  intro y d pc L st h rc rs Q nx t a b g v l x z hi  k1
  obtain ⟨hd, rfl⟩ := x_decn 1 hi rfl (by decide)
  intro p e R s m args below meth c H locs cells slots mc ms ls C
  obtain ⟨hx, hb, -⟩ := id C.1
  refine lv_iadd hx hb hd ?_
  exact k1 _ _ _ _ _ _ _ _ _ _ _ _ _ _ _ _  C
theorem x_s_isub (l0 : Launch) (E : x_E) (G : x_G) (base : Nat) : x_r_isub (x_P0 l0 E G base) := by
  intro y d pc L st h rc rs Q nx t a b g v l x z hi  k1
  obtain ⟨hd, rfl⟩ := x_decn 1 hi rfl (by decide)
  intro p e R s m args below meth c H locs cells slots mc ms ls C
  obtain ⟨hx, hb, -⟩ := id C.1
  refine lv_isub hx hb hd ?_
  exact k1 _ _ _ _ _ _ _ _ _ _ _ _ _ _ _ _  C
theorem x_s_imul (l0 : Launch) (E : x_E) (G : x_G) (base : Nat) : x_r_imul (x_P0 l0 E G base) := by
  intro y d pc L st h rc rs Q nx t a b g v l x z hi  k1
  obtain ⟨hd, rfl⟩ := x_decn 1 hi rfl (by decide)
  intro p e R s m args below meth c H locs cells slots mc ms ls C
  obtain ⟨hx, hb, -⟩ := id C.1
  refine lv_imul hx hb hd ?_
  exact k1 _ _ _ _ _ _ _ _ _ _ _ _ _ _ _ _  C
theorem x_s_iand (l0 : Launch) (E : x_E) (G : x_G) (base : Nat) : x_r_iand (x_P0 l0 E G base) := by
  intro y d pc L st h rc rs Q nx t a b g v l x z hi  k1
  obtain ⟨hd, rfl⟩ := x_decn 1 hi rfl (by decide)
  intro p e R s m args below meth c H locs cells slots mc ms ls C
  obtain ⟨hx, hb, -⟩ := id C.1
  refine lv_iand hx hb hd ?_
  exact k1 _ _ _ _ _ _ _ _ _ _ _ _ _ _ _ _  C
theorem x_s_ior (l0 : Launch) (E : x_E) (G : x_G) (base : Nat) : x_r_ior (x_P0 l0 E G base) := by
  intro y d pc L st h rc rs Q nx t a b g v l x z hi  k1
  obtain ⟨hd, rfl⟩ := x_decn 1 hi rfl (by decide)
  intro p e R s m args below meth c H locs cells slots mc ms ls C
  obtain ⟨hx, hb, -⟩ := id C.1
  refine lv_ior hx hb hd ?_
  exact k1 _ _ _ _ _ _ _ _ _ _ _ _ _ _ _ _  C
theorem x_s_ixor (l0 : Launch) (E : x_E) (G : x_G) (base : Nat) : x_r_ixor (x_P0 l0 E G base) := by
  intro y d pc L st h rc rs Q nx t a b g v l x z hi  k1
  obtain ⟨hd, rfl⟩ := x_decn 1 hi rfl (by decide)
  intro p e R s m args below meth c H locs cells slots mc ms ls C
  obtain ⟨hx, hb, -⟩ := id C.1
  refine lv_ixor hx hb hd ?_
  exact k1 _ _ _ _ _ _ _ _ _ _ _ _ _ _ _ _  C
theorem x_s_ishl (l0 : Launch) (E : x_E) (G : x_G) (base : Nat) : x_r_ishl (x_P0 l0 E G base) := by
  intro y d pc L st h rc rs Q nx t a b g v l x z hi  k1
  obtain ⟨hd, rfl⟩ := x_decn 1 hi rfl (by decide)
  intro p e R s m args below meth c H locs cells slots mc ms ls C
  obtain ⟨hx, hb, -⟩ := id C.1
  obtain ⟨hI, hRp, hS, hl, hc1, hc2, hc3, hc4⟩ := id C
  refine lv_ishl hx hb hd ?_
  exact k1 _ _ _ _ _ _ _ _ _ _ _ _ _ _ _ _  C
theorem x_s_ishr (l0 : Launch) (E : x_E) (G : x_G) (base : Nat) : x_r_ishr (x_P0 l0 E G base) := by
  intro y d pc L st h rc rs Q nx t a b g v l x z hi  k1
  obtain ⟨hd, rfl⟩ := x_decn 1 hi rfl (by decide)
  intro p e R s m args below meth c H locs cells slots mc ms ls C
  obtain ⟨hx, hb, -⟩ := id C.1
  refine lv_ishr hx hb hd ?_
  exact k1 _ _ _ _ _ _ _ _ _ _ _ _ _ _ _ _  C
theorem x_s_idiv (l0 : Launch) (E : x_E) (G : x_G) (base : Nat) : x_r_idiv (x_P0 l0 E G base) := by
  intro y d pc L st h rc rs Q nx t a b g v l x z hi hz k1
  obtain ⟨hd, rfl⟩ := x_decn 1 hi rfl (by decide)
  intro p e R s m args below meth c H locs cells slots mc ms ls C
  obtain ⟨hx, hb, -⟩ := id C.1
  refine lv_idiv hx hb hd hz ?_
  exact k1 _ _ _ _ _ _ _ _ _ _ _ _ _ _ _ _  C
theorem x_s_irem (l0 : Launch) (E : x_E) (G : x_G) (base : Nat) : x_r_irem (x_P0 l0 E G base) := by
  intro y d pc L st h rc rs Q nx t a b g v l x z hi hz k1
  obtain ⟨hd, rfl⟩ := x_decn 1 hi rfl (by decide)
  intro p e R s m args below meth c H locs cells slots mc ms ls C
  obtain ⟨hx, hb, -⟩ := id C.1
  refine lv_irem hx hb hd hz ?_
  exact k1 _ _ _ _ _ _ _ _ _ _ _ _ _ _ _ _  C
theorem x_s_iushr (l0 : Launch) (E : x_E) (G : x_G) (base : Nat) : x_r_iushr (x_P0 l0 E G base) := by
  intro y d pc L st h rc rs Q nx t a b g v l x z hi  k1
  obtain ⟨hd, rfl⟩ := x_decn 1 hi rfl (by decide)
  intro p e R s m args below meth c H locs cells slots mc ms ls C
  obtain ⟨hx, hb, -⟩ := id C.1
  refine lv_iushr hx hb hd rfl ?_
  exact k1 _ _ _ _ _ _ _ _ _ _ _ _ _ _ _ _  C
theorem x_s_ineg (l0 : Launch) (E : x_E) (G : x_G) (base : Nat) : x_r_ineg (x_P0 l0 E G base) := by
  intro y d pc L st h rc rs Q nx t a b g v l x hi  k1
  obtain ⟨hd, rfl⟩ := x_decn 1 hi rfl (by decide)
  intro p e R s m args below meth c H locs cells slots mc ms ls C
  obtain ⟨hx, hb, -⟩ := id C.1
  refine lv_ineg hx hb hd ?_
  exact k1 _ _ _ _ _ _ _ _ _ _ _ _ _ _ _ _  C
theorem x_s_ladd (l0 : Launch) (E : x_E) (G : x_G) (base : Nat) : x_r_ladd (x_P0 l0 E G base) := by
  intro y d pc L st h rc rs Q nx t a b g v l x z hi  k1
  obtain ⟨hd, rfl⟩ := x_decn 1 hi rfl (by decide)
  intro p e R s m args below meth c H locs cells slots mc ms ls C
  obtain ⟨hx, hb, -⟩ := id C.1
  refine lv_ladd hx hb hd ?_
  exact k1 _ _ _ _ _ _ _ _ _ _ _ _ _ _ _ _  C
theorem x_s_lsub (l0 : Launch) (E : x_E) (G : x_G) (base : Nat) : x_r_lsub (x_P0 l0 E G base) := by
  intro y d pc L st h rc rs Q nx t a b g v l x z hi  k1
  obtain ⟨hd, rfl⟩ := x_decn 1 hi rfl (by decide)
  intro p e R s m args below meth c H locs cells slots mc ms ls C
  obtain ⟨hx, hb, -⟩ := id C.1
  refine lv_lsub hx hb hd ?_
  exact k1 _ _ _ _ _ _ _ _ _ _ _ _ _ _ _ _  C
theorem x_s_lmul (l0 : Launch) (E : x_E) (G : x_G) (base : Nat) : x_r_lmul (x_P0 l0 E G base) := by
  intro y d pc L st h rc rs Q nx t a b g v l x z hi  k1
  obtain ⟨hd, rfl⟩ := x_decn 1 hi rfl (by decide)
  intro p e R s m args below meth c H locs cells slots mc ms ls C
  obtain ⟨hx, hb, -⟩ := id C.1
  refine lv_lmul hx hb hd ?_
  exact k1 _ _ _ _ _ _ _ _ _ _ _ _ _ _ _ _  C
theorem x_s_land (l0 : Launch) (E : x_E) (G : x_G) (base : Nat) : x_r_land (x_P0 l0 E G base) := by
  intro y d pc L st h rc rs Q nx t a b g v l x z hi  k1
  obtain ⟨hd, rfl⟩ := x_decn 1 hi rfl (by decide)
  intro p e R s m args below meth c H locs cells slots mc ms ls C
  obtain ⟨hx, hb, -⟩ := id C.1
  refine lv_land hx hb hd ?_
  exact k1 _ _ _ _ _ _ _ _ _ _ _ _ _ _ _ _  C
theorem x_s_lor (l0 : Launch) (E : x_E) (G : x_G) (base : Nat) : x_r_lor (x_P0 l0 E G base) := by
  intro y d pc L st h rc rs Q nx t a b g v l x z hi  k1
  obtain ⟨hd, rfl⟩ := x_decn 1 hi rfl (by decide)
  intro p e R s m args below meth c H locs cells slots mc ms ls C
  obtain ⟨hx, hb, -⟩ := id C.1
  refine lv_lor hx hb hd ?_
  exact k1 _ _ _ _ _ _ _ _ _ _ _ _ _ _ _ _  C
theorem x_s_lxor (l0 : Launch) (E : x_E) (G : x_G) (base : Nat) : x_r_lxor (x_P0 l0 E G base) := by
  intro y d pc L st h rc rs Q nx t a b g v l x z hi  k1
  obtain ⟨hd, rfl⟩ := x_decn 1 hi rfl (by decide)
  intro p e R s m args below meth c H locs cells slots mc ms ls C
  obtain ⟨hx, hb, -⟩ := id C.1
  refine lv_lxor hx hb hd ?_
  exact k1 _ _ _ _ _ _ _ _ _ _ _ _ _ _ _ _  C
theorem x_s_ldiv (l0 : Launch) (E : x_E) (G : x_G) (base : Nat) : x_r_ldiv (x_P0 l0 E G base) := by
  intro y d pc L st h rc rs Q nx t a b g v l x z hi hz k1
  obtain ⟨hd, rfl⟩ := x_decn 1 hi rfl (by decide)
  intro p e R s m args below meth c H locs cells slots mc ms ls C
  obtain ⟨hx, hb, -⟩ := id C.1
  refine lv_ldiv hx hb hd hz ?_
  exact k1 _ _ _ _ _ _ _ _ _ _ _ _ _ _ _ _  C
theorem x_s_lrem (l0 : Launch) (E : x_E) (G : x_G) (base : Nat) : x_r_lrem (x_P0 l0 E G base) := by
  intro y d pc L st h rc rs Q nx t a b g v l x z hi hz k1
  obtain ⟨hd, rfl⟩ := x_decn 1 hi rfl (by decide)
  intro p e R s m args below meth c H locs cells slots mc ms ls C
  obtain ⟨hx, hb, -⟩ := id C.1
  refine lv_lrem hx hb hd hz ?_
  exact k1 _ _ _ _ _ _ _ _ _ _ _ _ _ _ _ _  C
theorem x_s_lneg (l0 : Launch) (E : x_E) (G : x_G) (base : Nat) : x_r_lneg (x_P0 l0 E G base) := by
  intro y d pc L st h rc rs Q nx t a b g v l x hi  k1
  obtain ⟨hd, rfl⟩ := x_decn 1 hi rfl (by decide)
  intro p e R s m args below meth c H locs cells slots mc ms ls C
  obtain ⟨hx, hb, -⟩ := id C.1
  refine lv_lneg hx hb hd ?_
  exact k1 _ _ _ _ _ _ _ _ _ _ _ _ _ _ _ _  C
theorem x_s_lushr (l0 : Launch) (E : x_E) (G : x_G) (base : Nat) : x_r_lushr (x_P0 l0 E G base) := by
  intro y d pc L st h rc rs Q nx t a b g v l x z hi  k1
  obtain ⟨hd, rfl⟩ := x_decn 1 hi rfl (by decide)
  intro p e R s m args below meth c H locs cells slots mc ms ls C
  obtain ⟨hx, hb, -⟩ := id C.1
  refine lv_lushr hx hb hd rfl ?_
  exact k1 _ _ _ _ _ _ _ _ _ _ _ _ _ _ _ _  C
theorem x_s_lshl (l0 : Launch) (E : x_E) (G : x_G) (base : Nat) : x_r_lshl (x_P0 l0 E G base) := by
  intro y d pc L st h rc rs Q nx t a b g v l x z hi  k1
  obtain ⟨hd, rfl⟩ := x_decn 1 hi rfl (by decide)
  intro p e R s m args below meth c H locs cells slots mc ms ls C
  obtain ⟨hx, hb, -⟩ := id C.1
  obtain ⟨hI, hRp, hS, hl, hc1, hc2, hc3, hc4⟩ := id C
  refine lv_lshl hx hb hd rfl ?_
  exact k1 _ _ _ _ _ _ _ _ _ _ _ _ _ _ _ _  C
theorem x_s_lshr (l0 : Launch) (E : x_E) (G : x_G) (base : Nat) : x_r_lshr (x_P0 l0 E G base) := by
  intro y d pc L st h rc rs Q nx t a b g v l x z hi  k1
  obtain ⟨hd, rfl⟩ := x_decn 1 hi rfl (by decide)
  intro p e R s m args below meth c H locs cells slots mc ms ls C
  obtain ⟨hx, hb, -⟩ := id C.1
  refine lv_lshr hx hb hd rfl ?_
  exact k1 _ _ _ _ _ _ _ _ _ _ _ _ _ _ _ _  C
theorem x_s_lcmp (l0 : Launch) (E : x_E) (G : x_G) (base : Nat) : x_r_lcmp (x_P0 l0 E G base) := by
  intro y d pc L st h rc rs Q nx t a b g v l x z hi  k1
  obtain ⟨hd, rfl⟩ := x_decn 1 hi rfl (by decide)
  intro p e R s m args below meth c H locs cells slots mc ms ls C
  obtain ⟨hx, hb, -⟩ := id C.1
  refine W.lcmp hx hb hd ?_
  exact k1 _ _ _ _ _ _ _ _ _ _ _ _ _ _ _ _  C
theorem x_s_i2l (l0 : Launch) (E : x_E) (G : x_G) (base : Nat) : x_r_i2l (x_P0 l0 E G base) := by
  intro y d pc L st h rc rs Q nx t a b g v l x hi  k1
  obtain ⟨hd, rfl⟩ := x_decn 1 hi rfl (by decide)
  intro p e R s m args below meth c H locs cells slots mc ms ls C
  obtain ⟨hx, hb, -⟩ := id C.1
  refine lv_i2l hx hb hd rfl ?_
  exact k1 _ _ _ _ _ _ _ _ _ _ _ _ _ _ _ _  C
theorem x_s_l2i (l0 : Launch) (E : x_E) (G : x_G) (base : Nat) : x_r_l2i (x_P0 l0 E G base) := by
  intro y d pc L st h rc rs Q nx t a b g v l x hi  k1
  obtain ⟨hd, rfl⟩ := x_decn 1 hi rfl (by decide)
  intro p e R s m args below meth c H locs cells slots mc ms ls C
  obtain ⟨hx, hb, -⟩ := id C.1
  refine lv_l2i hx hb hd rfl ?_
  exact k1 _ _ _ _ _ _ _ _ _ _ _ _ _ _ _ _  C
theorem x_s_i2b (l0 : Launch) (E : x_E) (G : x_G) (base : Nat) : x_r_i2b (x_P0 l0 E G base) := by
  intro y d pc L st h rc rs Q nx t a b g v l x hi  k1
  obtain ⟨hd, rfl⟩ := x_decn 1 hi rfl (by decide)
  intro p e R s m args below meth c H locs cells slots mc ms ls C
  obtain ⟨hx, hb, -⟩ := id C.1
  refine lv_i2b hx hb hd rfl ?_
  exact k1 _ _ _ _ _ _ _ _ _ _ _ _ _ _ _ _  C
theorem x_s_i2s (l0 : Launch) (E : x_E) (G : x_G) (base : Nat) : x_r_i2s (x_P0 l0 E G base) := by
  intro y d pc L st h rc rs Q nx t a b g v l x hi  k1
  obtain ⟨hd, rfl⟩ := x_decn 1 hi rfl (by decide)
  intro p e R s m args below meth c H locs cells slots mc ms ls C
  obtain ⟨hx, hb, -⟩ := id C.1
  refine lv_i2s hx hb hd rfl ?_
  exact k1 _ _ _ _ _ _ _ _ _ _ _ _ _ _ _ _  C
theorem x_s_i2c (l0 : Launch) (E : x_E) (G : x_G) (base : Nat) : x_r_i2c (x_P0 l0 E G base) := by
  intro y d pc L st h rc rs Q nx t a b g v l x hi  k1
  obtain ⟨hd, rfl⟩ := x_decn 1 hi rfl (by decide)
  intro p e R s m args below meth c H locs cells slots mc ms ls C
  obtain ⟨hx, hb, -⟩ := id C.1
  refine lv_i2c hx hb hd rfl ?_
  exact k1 _ _ _ _ _ _ _ _ _ _ _ _ _ _ _ _  C
theorem x_s_dup (l0 : Launch) (E : x_E) (G : x_G) (base : Nat) : x_r_dup (x_P0 l0 E G base) := by
  intro y d pc L st h rc rs Q nx t a b g v l u hi h1 k1
  obtain ⟨hd, rfl⟩ := x_decn 1 hi rfl (by decide)
  intro p e R s m args below meth c H locs cells slots mc ms ls C
  obtain ⟨hx, hb, -⟩ := id C.1
  refine lv_dup hx hb hd (x_tvc.trans h1) ?_
  exact k1 _ _ _ _ _ _ _ _ _ _ _ _ _ _ _ _  C
theorem x_s_pop (l0 : Launch) (E : x_E) (G : x_G) (base : Nat) : x_r_pop (x_P0 l0 E G base) := by
  intro y d pc L st h rc rs Q nx t a b g v l u hi h1 k1
  obtain ⟨hd, rfl⟩ := x_decn 1 hi rfl (by decide)
  intro p e R s m args below meth c H locs cells slots mc ms ls C
  obtain ⟨hx, hb, -⟩ := id C.1
  refine lv_pop hx hb hd (x_tvc.trans h1) ?_
  exact k1 _ _ _ _ _ _ _ _ _ _ _ _ _ _ _ _  C
theorem x_s_dup_x1 (l0 : Launch) (E : x_E) (G : x_G) (base : Nat) : x_r_dup_x1 (x_P0 l0 E G base) := by
  intro y d pc L st h rc rs Q nx t a b g v l u w hi h1 h2 k1
  obtain ⟨hd, rfl⟩ := x_decn 1 hi rfl (by decide)
  intro p e R s m args below meth c H locs cells slots mc ms ls C
  obtain ⟨hx, hb, -⟩ := id C.1
  refine lv_dup_x1 hx hb hd (x_tvc.trans h1) (x_tvc.trans h2) ?_
  exact k1 _ _ _ _ _ _ _ _ _ _ _ _ _ _ _ _  C
theorem x_s_dup_x2 (l0 : Launch) (E : x_E) (G : x_G) (base : Nat) : x_r_dup_x2 (x_P0 l0 E G base) := by
  intro y d pc L st h rc rs Q nx t a b g v l u w z hi h1 h2 h3 k1
  obtain ⟨hd, rfl⟩ := x_decn 1 hi rfl (by decide)
  intro p e R s m args below meth c H locs cells slots mc ms ls C
  obtain ⟨hx, hb, -⟩ := id C.1
  refine lv_dup_x2 hx hb hd (x_tvc.trans h1) (x_tvc.trans h2) (x_tvc.trans h3) ?_
  exact k1 _ _ _ _ _ _ _ _ _ _ _ _ _ _ _ _  C
theorem x_s_dup2 (l0 : Launch) (E : x_E) (G : x_G) (base : Nat) : x_r_dup2 (x_P0 l0 E G base) := by
  intro y d pc L st h rc rs Q nx t a b g v l u w hi h1 h2 k1
  obtain ⟨hd, rfl⟩ := x_decn 1 hi rfl (by decide)
  intro p e R s m args below meth c H locs cells slots mc ms ls C
  obtain ⟨hx, hb, -⟩ := id C.1
  refine lv_dup2_11 hx hb hd (x_tvc.trans h1) (x_tvc.trans h2) ?_
  exact k1 _ _ _ _ _ _ _ _ _ _ _ _ _ _ _ _  C
theorem x_s_dup2L (l0 : Launch) (E : x_E) (G : x_G) (base : Nat) : x_r_dup2L (x_P0 l0 E G base) := by
  intro y d pc L st h rc rs Q nx t a b g v l u hi h1 k1
  obtain ⟨hd, rfl⟩ := x_decn 1 hi rfl (by decide)
  intro p e R s m args below meth c H locs cells slots mc ms ls C
  obtain ⟨hx, hb, -⟩ := id C.1
  refine lv_dup2_2 hx hb hd (x_tvc.trans h1) ?_
  exact k1 _ _ _ _ _ _ _ _ _ _ _ _ _ _ _ _  C
theorem x_s_pop2 (l0 : Launch) (E : x_E) (G : x_G) (base : Nat) : x_r_pop2 (x_P0 l0 E G base) := by
  intro y d pc L st h rc rs Q nx t a b g v l u w hi h1 h2 k1
  obtain ⟨hd, rfl⟩ := x_decn 1 hi rfl (by decide)
  intro p e R s m args below meth c H locs cells slots mc ms ls C
  obtain ⟨hx, hb, -⟩ := id C.1
  refine lv_pop2_11 hx hb hd (x_tvc.trans h1) (x_tvc.trans h2) ?_
  exact k1 _ _ _ _ _ _ _ _ _ _ _ _ _ _ _ _  C
theorem x_s_pop2L (l0 : Launch) (E : x_E) (G : x_G) (base : Nat) : x_r_pop2L (x_P0 l0 E G base) := by
  intro y d pc L st h rc rs Q nx t a b g v l u hi h1 k1
  obtain ⟨hd, rfl⟩ := x_decn 1 hi rfl (by decide)
  intro p e R s m args below meth c H locs cells slots mc ms ls C
  obtain ⟨hx, hb, -⟩ := id C.1
  refine lv_pop2_2 hx hb hd (x_tvc.trans h1) ?_
  exact k1 _ _ _ _ _ _ _ _ _ _ _ _ _ _ _ _  C
theorem x_s_dup2_x1L (l0 : Launch) (E : x_E) (G : x_G) (base : Nat) : x_r_dup2_x1L (x_P0 l0 E G base) := by
  intro y d pc L st h rc rs Q nx t a b g v l u w hi h1 h2 k1
  obtain ⟨hd, rfl⟩ := x_decn 1 hi rfl (by decide)
  intro p e R s m args below meth c H locs cells slots mc ms ls C
  obtain ⟨hx, hb, -⟩ := id C.1
  refine lv_dup2_x1_2 hx hb hd (x_tvc.trans h1) (x_tvc.trans h2) ?_
  exact k1 _ _ _ _ _ _ _ _ _ _ _ _ _ _ _ _  C
theorem x_s_dup2_x2L (l0 : Launch) (E : x_E) (G : x_G) (base : Nat) : x_r_dup2_x2L (x_P0 l0 E G base) := by
  intro y d pc L st h rc rs Q nx t a b g v l u w z hi h1 h2 h3 k1
  obtain ⟨hd, rfl⟩ := x_decn 1 hi rfl (by decide)
  intro p e R s m args below meth c H locs cells slots mc ms ls C
  obtain ⟨hx, hb, -⟩ := id C.1
  refine lv_dup2_x2_2 hx hb hd (x_tvc.trans h1) (x_tvc.trans h2) (x_tvc.trans h3) ?_
  exact k1 _ _ _ _ _ _ _ _ _ _ _ _ _ _ _ _  C
theorem x_s_if_eq (l0 : Launch) (E : x_E) (G : x_G) (base : Nat) : x_r_if_eq (x_P0 l0 E G base) := by
  intro y d pc L st h rc rs Q nx t a b g v l x o hi k1 k2
  obtain ⟨hd, rfl⟩ := x_decn 3 hi rfl (by decide)
  have hk := x_ck hi
  intro p e R s m args below meth c H locs cells slots mc ms ls C
  obtain ⟨hx, hb, -⟩ := id C.1
  exact lv_if_eq hx hb hd (of_decide_eq_true hk) (fun q => k1 q _ _ _ _ _ _ _ _ _ _ _ _ _ _ _ _ C) (fun q => k2 q _ _ _ _ _ _ _ _ _ _ _ _ _ _ _ _ C)
theorem x_s_if_ne (l0 : Launch) (E : x_E) (G : x_G) (base : Nat) : x_r_if_ne (x_P0 l0 E G base) := by
  intro y d pc L st h rc rs Q nx t a b g v l x o hi k1 k2
  obtain ⟨hd, rfl⟩ := x_decn 3 hi rfl (by decide)
  have hk := x_ck hi
  intro p e R s m args below meth c H locs cells slots mc ms ls C
  obtain ⟨hx, hb, -⟩ := id C.1
  exact lv_if_ne hx hb hd (of_decide_eq_true hk) (fun q => k1 q _ _ _ _ _ _ _ _ _ _ _ _ _ _ _ _ C) (fun q => k2 q _ _ _ _ _ _ _ _ _ _ _ _ _ _ _ _ C)
theorem x_s_if_lt (l0 : Launch) (E : x_E) (G : x_G) (base : Nat) : x_r_if_lt (x_P0 l0 E G base) := by
  intro y d pc L st h rc rs Q nx t a b g v l x o hi k1 k2
  obtain ⟨hd, rfl⟩ := x_decn 3 hi rfl (by decide)
  have hk := x_ck hi
  intro p e R s m args below meth c H locs cells slots mc ms ls C
  obtain ⟨hx, hb, -⟩ := id C.1
  exact lv_if_lt hx hb hd (of_decide_eq_true hk) (fun q => k1 q _ _ _ _ _ _ _ _ _ _ _ _ _ _ _ _ C) (fun q => k2 q _ _ _ _ _ _ _ _ _ _ _ _ _ _ _ _ C)
theorem x_s_if_ge (l0 : Launch) (E : x_E) (G : x_G) (base : Nat) : x_r_if_ge (x_P0 l0 E G base) := by
  intro y d pc L st h rc rs Q nx t a b g v l x o hi k1 k2
  obtain ⟨hd, rfl⟩ := x_decn 3 hi rfl (by decide)
  have hk := x_ck hi
  intro p e R s m args below meth c H locs cells slots mc ms ls C
  obtain ⟨hx, hb, -⟩ := id C.1
  exact lv_if_ge hx hb hd (of_decide_eq_true hk) (fun q => k1 q _ _ _ _ _ _ _ _ _ _ _ _ _ _ _ _ C) (fun q => k2 q _ _ _ _ _ _ _ _ _ _ _ _ _ _ _ _ C)
theorem x_s_if_gt (l0 : Launch) (E : x_E) (G : x_G) (base : Nat) : x_r_if_gt (x_P0 l0 E G base) := by
  intro y d pc L st h rc rs Q nx t a b g v l x o hi k1 k2
  obtain ⟨hd, rfl⟩ := x_decn 3 hi rfl (by decide)
  have hk := x_ck hi
  intro p e R s m args below meth c H locs cells slots mc ms ls C
  obtain ⟨hx, hb, -⟩ := id C.1
  exact lv_if_gt hx hb hd (of_decide_eq_true hk) (fun q => k1 q _ _ _ _ _ _ _ _ _ _ _ _ _ _ _ _ C) (fun q => k2 q _ _ _ _ _ _ _ _ _ _ _ _ _ _ _ _ C)
theorem x_s_if_le (l0 : Launch) (E : x_E) (G : x_G) (base : Nat) : x_r_if_le (x_P0 l0 E G base) := by
  intro y d pc L st h rc rs Q nx t a b g v l x o hi k1 k2
  obtain ⟨hd, rfl⟩ := x_decn 3 hi rfl (by decide)
  have hk := x_ck hi
  intro p e R s m args below meth c H locs cells slots mc ms ls C
  obtain ⟨hx, hb, -⟩ := id C.1
  exact lv_if_le hx hb hd (of_decide_eq_true hk) (fun q => k1 q _ _ _ _ _ _ _ _ _ _ _ _ _ _ _ _ C) (fun q => k2 q _ _ _ _ _ _ _ _ _ _ _ _ _ _ _ _ C)
theorem x_s_icmp_eq (l0 : Launch) (E : x_E) (G : x_G) (base : Nat) : x_r_icmp_eq (x_P0 l0 E G base) := by
  intro y d pc L st h rc rs Q nx t a b g v l x z o hi k1 k2
  obtain ⟨hd, rfl⟩ := x_decn 3 hi rfl (by decide)
  have hk := x_ck hi
  intro p e R s m args below meth c H locs cells slots mc ms ls C
  obtain ⟨hx, hb, -⟩ := id C.1
  exact lv_icmp_eq hx hb hd (of_decide_eq_true hk) (fun q => k1 q _ _ _ _ _ _ _ _ _ _ _ _ _ _ _ _ C) (fun q => k2 q _ _ _ _ _ _ _ _ _ _ _ _ _ _ _ _ C)
theorem x_s_icmp_ne (l0 : Launch) (E : x_E) (G : x_G) (base : Nat) : x_r_icmp_ne (x_P0 l0 E G base) := by
  intro y d pc L st h rc rs Q nx t a b g v l x z o hi k1 k2
  obtain ⟨hd, rfl⟩ := x_decn 3 hi rfl (by decide)
  have hk := x_ck hi
  intro p e R s m args below meth c H locs cells slots mc ms ls C
  obtain ⟨hx, hb, -⟩ := id C.1
  exact lv_icmp_ne hx hb hd (of_decide_eq_true hk) (fun q => k1 q _ _ _ _ _ _ _ _ _ _ _ _ _ _ _ _ C) (fun q => k2 q _ _ _ _ _ _ _ _ _ _ _ _ _ _ _ _ C)
theorem x_s_icmp_lt (l0 : Launch) (E : x_E) (G : x_G) (base : Nat) : x_r_icmp_lt (x_P0 l0 E G base) := by
  intro y d pc L st h rc rs Q nx t a b g v l x z o hi k1 k2
  obtain ⟨hd, rfl⟩ := x_decn 3 hi rfl (by decide)
  have hk := x_ck hi
  intro p e R s m args below meth c H locs cells slots mc ms ls C
  obtain ⟨hx, hb, -⟩ := id C.1
  exact lv_icmp_lt hx hb hd (of_decide_eq_true hk) (fun q => k1 q _ _ _ _ _ _ _ _ _ _ _ _ _ _ _ _ C) (fun q => k2 q _ _ _ _ _ _ _ _ _ _ _ _ _ _ _ _ C)
theorem x_s_icmp_ge (l0 : Launch) (E : x_E) (G : x_G) (base : Nat) : x_r_icmp_ge (x_P0 l0 E G base) := by
  intro y d pc L st h rc rs Q nx t a b g v l x z o hi k1 k2
  obtain ⟨hd, rfl⟩ := x_decn 3 hi rfl (by decide)
  have hk := x_ck hi
  intro p e R s m args below meth c H locs cells slots mc ms ls C
  obtain ⟨hx, hb, -⟩ := id C.1
  exact lv_icmp_ge hx hb hd (of_decide_eq_true hk) (fun q => k1 q _ _ _ _ _ _ _ _ _ _ _ _ _ _ _ _ C) (fun q => k2 q _ _ _ _ _ _ _ _ _ _ _ _ _ _ _ _ C)
theorem x_s_icmp_gt (l0 : Launch) (E : x_E) (G : x_G) (base : Nat) : x_r_icmp_gt (x_P0 l0 E G base) := by
  intro y d pc L st h rc rs Q nx t a b g v l x z o hi k1 k2
  obtain ⟨hd, rfl⟩ := x_decn 3 hi rfl (by decide)
  have hk := x_ck hi
  intro p e R s m args below meth c H locs cells slots mc ms ls C
  obtain ⟨hx, hb, -⟩ := id C.1
  exact lv_icmp_gt hx hb hd (of_decide_eq_true hk) (fun q => k1 q _ _ _ _ _ _ _ _ _ _ _ _ _ _ _ _ C) (fun q => k2 q _ _ _ _ _ _ _ _ _ _ _ _ _ _ _ _ C)
theorem x_s_icmp_le (l0 : Launch) (E : x_E) (G : x_G) (base : Nat) : x_r_icmp_le (x_P0 l0 E G base) := by
  intro y d pc L st h rc rs Q nx t a b g v l x z o hi k1 k2
  obtain ⟨hd, rfl⟩ := x_decn 3 hi rfl (by decide)
  have hk := x_ck hi
  intro p e R s m args below meth c H locs cells slots mc ms ls C
  obtain ⟨hx, hb, -⟩ := id C.1
  exact lv_icmp_le hx hb hd (of_decide_eq_true hk) (fun q => k1 q _ _ _ _ _ _ _ _ _ _ _ _ _ _ _ _ C) (fun q => k2 q _ _ _ _ _ _ _ _ _ _ _ _ _ _ _ _ C)
theorem x_s_goto (l0 : Launch) (E : x_E) (G : x_G) (base : Nat) : x_r_goto (x_P0 l0 E G base) := by
  intro y d pc L st h rc rs Q nx t a b g v l o hi k1
  obtain ⟨hd, rfl⟩ := x_decn 3 hi rfl (by decide)
  have hk := x_ck hi
  intro p e R s m args below meth c H locs cells slots mc ms ls C
  obtain ⟨hx, hb, -⟩ := id C.1
  exact lv_goto hx hb hd (of_decide_eq_true hk) (k1 _ _ _ _ _ _ _ _ _ _ _ _ _ _ _ _ C)
theorem x_s_ifnull (l0 : Launch) (E : x_E) (G : x_G) (base : Nat) : x_r_ifnull (x_P0 l0 E G base) := by
  intro y d pc L st h rc rs Q nx t a b g v l x o hi k1
  obtain ⟨hd, rfl⟩ := x_decn 3 hi rfl (by decide)
  have hk := x_ck hi
  intro p e R s m args below meth c H locs cells slots mc ms ls C
  obtain ⟨hx, hb, -⟩ := id C.1
  exact lv_ifnull hx hb hd (k1 _ _ _ _ _ _ _ _ _ _ _ _ _ _ _ _ C)
theorem x_s_ifnullN (l0 : Launch) (E : x_E) (G : x_G) (base : Nat) : x_r_ifnullN (x_P0 l0 E G base) := by
  intro y d pc L st h rc rs Q nx t a b g v l o hi k1
  obtain ⟨hd, rfl⟩ := x_decn 3 hi rfl (by decide)
  have hk := x_ck hi
  intro p e R s m args below meth c H locs cells slots mc ms ls C
  obtain ⟨hx, hb, -⟩ := id C.1
  exact lv_ifnullN hx hb hd (of_decide_eq_true hk) (k1 _ _ _ _ _ _ _ _ _ _ _ _ _ _ _ _ C)
theorem x_s_ifnonnull (l0 : Launch) (E : x_E) (G : x_G) (base : Nat) : x_r_ifnonnull (x_P0 l0 E G base) := by
  intro y d pc L st h rc rs Q nx t a b g v l x o hi k1
  obtain ⟨hd, rfl⟩ := x_decn 3 hi rfl (by decide)
  have hk := x_ck hi
  intro p e R s m args below meth c H locs cells slots mc ms ls C
  obtain ⟨hx, hb, -⟩ := id C.1
  exact lv_ifnonnull hx hb hd (of_decide_eq_true hk) (k1 _ _ _ _ _ _ _ _ _ _ _ _ _ _ _ _ C)
theorem x_s_ifnonnullN (l0 : Launch) (E : x_E) (G : x_G) (base : Nat) : x_r_ifnonnullN (x_P0 l0 E G base) := by
  intro y d pc L st h rc rs Q nx t a b g v l o hi k1
  obtain ⟨hd, rfl⟩ := x_decn 3 hi rfl (by decide)
  have hk := x_ck hi
  intro p e R s m args below meth c H locs cells slots mc ms ls C
  obtain ⟨hx, hb, -⟩ := id C.1
  exact lv_ifnonnullN hx hb hd (k1 _ _ _ _ _ _ _ _ _ _ _ _ _ _ _ _ C)
theorem x_s_acmp_eq (l0 : Launch) (E : x_E) (G : x_G) (base : Nat) : x_r_acmp_eq (x_P0 l0 E G base) := by
  intro y d pc L st h rc rs Q nx t a b g v l rx ry o hfar hi k1 k2
  obtain ⟨hd, rfl⟩ := x_decn 3 hi rfl (by decide)
  have hk := x_ck hi
  intro p e R s m args below meth c H locs cells slots mc ms ls C
  obtain ⟨hx, hb, -⟩ := id C.1
  have e : ((va_rf ry :: va_rf rx :: st).map (x_tv G base)) = va_rf (ry.map (x_ta G base)) :: va_rf (rx.map (x_ta G base)) :: st.map (x_tv G base) := by cases rx <;> cases ry <;> rfl
  rw [e]
  have hinj := x_inj C.1 hfar
  exact lv_acmp_eq hx hb hd (of_decide_eq_true hk) (fun q => k1 (hinj.mp q) _ _ _ _ _ _ _ _ _ _ _ _ _ _ _ _ C) (fun q => k2 (fun z => q (hinj.mpr z)) _ _ _ _ _ _ _ _ _ _ _ _ _ _ _ _ C)
theorem x_s_acmp_ne (l0 : Launch) (E : x_E) (G : x_G) (base : Nat) : x_r_acmp_ne (x_P0 l0 E G base) := by
  intro y d pc L st h rc rs Q nx t a b g v l rx ry o hfar hi k1 k2
  obtain ⟨hd, rfl⟩ := x_decn 3 hi rfl (by decide)
  have hk := x_ck hi
  intro p e R s m args below meth c H locs cells slots mc ms ls C
  obtain ⟨hx, hb, -⟩ := id C.1
  have e : ((va_rf ry :: va_rf rx :: st).map (x_tv G base)) = va_rf (ry.map (x_ta G base)) :: va_rf (rx.map (x_ta G base)) :: st.map (x_tv G base) := by cases rx <;> cases ry <;> rfl
  rw [e]
  have hinj := x_inj C.1 hfar
  exact lv_acmp_ne hx hb hd (of_decide_eq_true hk) (fun q => k1 (fun z => q (hinj.mpr z)) _ _ _ _ _ _ _ _ _ _ _ _ _ _ _ _ C) (fun q => k2 (hinj.mp q) _ _ _ _ _ _ _ _ _ _ _ _ _ _ _ _ C)
theorem x_s_iinc (l0 : Launch) (E : x_E) (G : x_G) (base : Nat) : x_r_iinc (x_P0 l0 E G base) := by
  intro y d pc L st h rc rs Q nx t a b g v l i n x hi hv k1
  obtain ⟨hd, rfl⟩ := x_decn 3 hi rfl (by decide)
  have hk : (Nat.blt i (x_ml y) && decide (Int32.ofInt n = v)) = true := x_ck hi
  obtain ⟨hk1, hk2⟩ := x_and hk
  have hk2 : Int32.ofInt n = v := of_decide_eq_true hk2
  intro p e R s m args below meth c H locs cells slots mc ms ls C
  obtain ⟨hx, hb, -⟩ := id C.1
  obtain ⟨hI, hRp, hS, hl, hc1, hc2, hc3, hc4⟩ := C
  obtain ⟨k0, hk0⟩ := List.getElem?_of_mem (x_lv_mem.mpr ⟨x_blt hk1, x_tLs hv⟩ : (i, Value.int x) ∈ x_lv (x_ml y) (x_tL G base L))
  refine lv_iinc hx hb hd hl hk0 (by rw [hk2]) (x_blt hk1) rfl (fun ls1 hl1 => ?_)
  exact k1 _ _ _ _ _ _ _ _ _ _ _ _ _ _ _ _  ⟨hI, hRp, hS, x_lv_s1 (.int (x + v)) hl1, hc1, hc2, hc3, hc4⟩
