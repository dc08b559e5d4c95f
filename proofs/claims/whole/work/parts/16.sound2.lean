set_option maxHeartbeats 1000000 in
theorem x_s_getI (l0 : Launch) (E : x_E) (G : x_G) (base : Nat) : x_r_getI (x_P0 l0 E G base) := by
  intro y d pc L st h rc rs Q nx a b g v l i o n x hi hkd hv k1
  obtain ⟨hd, rfl⟩ := x_decn 3 hi rfl (by decide)
  obtain ⟨cc, j, CC, TT, NN, hq, hj, rfl, rfl, ht, hlink⟩ := x_ckF_spec (x_ckG_spec (t := 0) (x_ck hi) rfl)
  intro p e R s m args below meth c H locs cells slots mc ms ls C
  obtain ⟨hI, hRp, hS, hl, hc1, hc2, hc3, hc4⟩ := id C
  obtain ⟨hx, hb, hml, hrt, hlk, hnm, hown, hts, hfr, hlo, hSd⟩ := id hI
  obtain ⟨hlt, hta⟩ := x_lv_lt hRp hkd (by omega)
  have hP := hRp.2.1
  have hke := x_W_get G base hlt
  rw [x_e_obj hkd] at hke
  have hfv : (x_obj G base h cc o)[j]? = some (x_tv G base (.int x)) := by
    rw [x_obj_get (by rw [x_fn_eq hq]; exact hj), x_fvI (x_ckt0 ht), hv]
    rfl
  rw [x_m1 hta]
  rcases hlink with hw | hw
  · exact va_get hx hb hts (fun w hw => x_inW (x_lays _ _ hq w hw)) hown hSd.1 hP o hke hq j hj (hts _ (x_inW (x_inU hw rfl))) (fun _ z => z) hfv hd (k1 _ _ _ _ _ _ _ _ _ _ _ _ _ _ _ _  C)
  · exact va_getN hx hb hts (fun w hw => x_inW (x_lays _ _ hq w hw)) hown hSd.1 hP o hke hq j hj (va_Nw.use rfl (hSd.2.2.1 _ (List.mem_of_getElem? hw) rfl)) (fun _ z => z) hfv hd (k1 _ _ _ _ _ _ _ _ _ _ _ _ _ _ _ _  C)
set_option maxHeartbeats 1000000 in
theorem x_s_getZ (l0 : Launch) (E : x_E) (G : x_G) (base : Nat) : x_r_getZ (x_P0 l0 E G base) := by
  intro y d pc L st h rc rs Q nx a b g v l i o n x hi hkd hv k1
  obtain ⟨hd, rfl⟩ := x_decn 3 hi rfl (by decide)
  obtain ⟨cc, j, CC, TT, NN, hq, hj, rfl, rfl, ht, hlink⟩ := x_ckF_spec (x_ckG_spec (t := 4) (x_ck hi) rfl)
  intro p e R s m args below meth c H locs cells slots mc ms ls C
  obtain ⟨hI, hRp, hS, hl, hc1, hc2, hc3, hc4⟩ := id C
  obtain ⟨hx, hb, hml, hrt, hlk, hnm, hown, hts, hfr, hlo, hSd⟩ := id hI
  obtain ⟨hlt, hta⟩ := x_lv_lt hRp hkd (by omega)
  have hP := hRp.2.1
  have hke := x_W_get G base hlt
  rw [x_e_obj hkd] at hke
  have hfv : (x_obj G base h cc o)[j]? = some (x_tv G base (.int x)) := by
    rw [x_obj_get (by rw [x_fn_eq hq]; exact hj), x_fvZ (x_ckt4 ht), hv]
    rfl
  rw [x_m1 hta]
  rcases hlink with hw | hw
  · exact va_get hx hb hts (fun w hw => x_inW (x_lays _ _ hq w hw)) hown hSd.1 hP o hke hq j hj (hts _ (x_inW (x_inU hw rfl))) (fun _ z => z) hfv hd (k1 _ _ _ _ _ _ _ _ _ _ _ _ _ _ _ _  C)
  · exact va_getN hx hb hts (fun w hw => x_inW (x_lays _ _ hq w hw)) hown hSd.1 hP o hke hq j hj (va_Nw.use rfl (hSd.2.2.1 _ (List.mem_of_getElem? hw) rfl)) (fun _ z => z) hfv hd (k1 _ _ _ _ _ _ _ _ _ _ _ _ _ _ _ _  C)
set_option maxHeartbeats 1000000 in
theorem x_s_getL (l0 : Launch) (E : x_E) (G : x_G) (base : Nat) : x_r_getL (x_P0 l0 E G base) := by
  intro y d pc L st h rc rs Q nx a b g v l i o n x hi hkd hv k1
  obtain ⟨hd, rfl⟩ := x_decn 3 hi rfl (by decide)
  obtain ⟨cc, j, CC, TT, NN, hq, hj, rfl, rfl, ht, hlink⟩ := x_ckF_spec (x_ckG_spec (t := 1) (x_ck hi) rfl)
  intro p e R s m args below meth c H locs cells slots mc ms ls C
  obtain ⟨hI, hRp, hS, hl, hc1, hc2, hc3, hc4⟩ := id C
  obtain ⟨hx, hb, hml, hrt, hlk, hnm, hown, hts, hfr, hlo, hSd⟩ := id hI
  obtain ⟨hlt, hta⟩ := x_lv_lt hRp hkd (by omega)
  have hP := hRp.2.1
  have hke := x_W_get G base hlt
  rw [x_e_obj hkd] at hke
  have hfv : (x_obj G base h cc o)[j]? = some (x_tv G base (.long x)) := by
    rw [x_obj_get (by rw [x_fn_eq hq]; exact hj), x_fvL (x_ckt1 ht), hv]
    rfl
  rw [x_m1 hta]
  rcases hlink with hw | hw
  · exact va_get hx hb hts (fun w hw => x_inW (x_lays _ _ hq w hw)) hown hSd.1 hP o hke hq j hj (hts _ (x_inW (x_inU hw rfl))) (fun _ z => z) hfv hd (k1 _ _ _ _ _ _ _ _ _ _ _ _ _ _ _ _  C)
  · exact va_getN hx hb hts (fun w hw => x_inW (x_lays _ _ hq w hw)) hown hSd.1 hP o hke hq j hj (va_Nw.use rfl (hSd.2.2.1 _ (List.mem_of_getElem? hw) rfl)) (fun _ z => z) hfv hd (k1 _ _ _ _ _ _ _ _ _ _ _ _ _ _ _ _  C)
set_option maxHeartbeats 1000000 in
theorem x_s_getR (l0 : Launch) (E : x_E) (G : x_G) (base : Nat) : x_r_getR (x_P0 l0 E G base) := by
  intro y d pc L st h rc rs Q nx a b g v l i o n x hi hkd hv k1
  obtain ⟨hd, rfl⟩ := x_decn 3 hi rfl (by decide)
  obtain ⟨cc, j, CC, TT, NN, hq, hj, rfl, rfl, ht, hlink⟩ := x_ckF_spec (x_ckG_spec (t := 2) (x_ck hi) rfl)
  intro p e R s m args below meth c H locs cells slots mc ms ls C
  obtain ⟨hI, hRp, hS, hl, hc1, hc2, hc3, hc4⟩ := id C
  obtain ⟨hx, hb, hml, hrt, hlk, hnm, hown, hts, hfr, hlo, hSd⟩ := id hI
  obtain ⟨hlt, hta⟩ := x_lv_lt hRp hkd (by omega)
  have hP := hRp.2.1
  have hke := x_W_get G base hlt
  rw [x_e_obj hkd] at hke
  have hfv : (x_obj G base h cc o)[j]? = some (x_tv G base (.ref x)) := by
    rw [x_obj_get (by rw [x_fn_eq hq]; exact hj), x_fvR (x_ckt2 ht), hv]
    rfl
  rw [x_m1 hta]
  rcases hlink with hw | hw
  · exact va_get hx hb hts (fun w hw => x_inW (x_lays _ _ hq w hw)) hown hSd.1 hP o hke hq j hj (hts _ (x_inW (x_inU hw rfl))) (fun _ z => z) hfv hd (k1 _ _ _ _ _ _ _ _ _ _ _ _ _ _ _ _  C)
  · exact va_getN hx hb hts (fun w hw => x_inW (x_lays _ _ hq w hw)) hown hSd.1 hP o hke hq j hj (va_Nw.use rfl (hSd.2.2.1 _ (List.mem_of_getElem? hw) rfl)) (fun _ z => z) hfv hd (k1 _ _ _ _ _ _ _ _ _ _ _ _ _ _ _ _  C)
set_option maxHeartbeats 1000000 in
theorem x_s_getN (l0 : Launch) (E : x_E) (G : x_G) (base : Nat) : x_r_getN (x_P0 l0 E G base) := by
  intro y d pc L st h rc rs Q nx a b g v l i o n hi hkd hv k1
  obtain ⟨hd, rfl⟩ := x_decn 3 hi rfl (by decide)
  obtain ⟨cc, j, CC, TT, NN, hq, hj, rfl, rfl, ht, hlink⟩ := x_ckF_spec (x_ckG_spec (t := 2) (x_ck hi) rfl)
  intro p e R s m args below meth c H locs cells slots mc ms ls C
  obtain ⟨hI, hRp, hS, hl, hc1, hc2, hc3, hc4⟩ := id C
  obtain ⟨hx, hb, hml, hrt, hlk, hnm, hown, hts, hfr, hlo, hSd⟩ := id hI
  obtain ⟨hlt, hta⟩ := x_lv_lt hRp hkd (by omega)
  have hP := hRp.2.1
  have hke := x_W_get G base hlt
  rw [x_e_obj hkd] at hke
  have hfv : (x_obj G base h cc o)[j]? = some (x_tv G base (.null)) := by
    rw [x_obj_get (by rw [x_fn_eq hq]; exact hj), x_fvR (x_ckt2 ht), hv]
    rfl
  rw [x_m1 hta]
  rcases hlink with hw | hw
  · exact va_get hx hb hts (fun w hw => x_inW (x_lays _ _ hq w hw)) hown hSd.1 hP o hke hq j hj (hts _ (x_inW (x_inU hw rfl))) (fun _ z => z) hfv hd (k1 _ _ _ _ _ _ _ _ _ _ _ _ _ _ _ _  C)
  · exact va_getN hx hb hts (fun w hw => x_inW (x_lays _ _ hq w hw)) hown hSd.1 hP o hke hq j hj (va_Nw.use rfl (hSd.2.2.1 _ (List.mem_of_getElem? hw) rfl)) (fun _ z => z) hfv hd (k1 _ _ _ _ _ _ _ _ _ _ _ _ _ _ _ _  C)
set_option maxHeartbeats 1000000 in
theorem x_s_putI (l0 : Launch) (E : x_E) (G : x_G) (base : Nat) : x_r_putI (x_P0 l0 E G base) := by
  intro y d pc L st h rc rs Q nx a b g v l i o n x hi hkd k1
  obtain ⟨hd, rfl⟩ := x_decn 3 hi rfl (by decide)
  obtain ⟨hk1, hk2⟩ := x_ckW_spec (t := 0) (x_ck hi)
  obtain ⟨cc, j, CC, TT, NN, hq, hj, rfl, rfl, ht, hlink⟩ := x_ckF_spec hk1
  have hfin := x_ckP_spec hq hk2
  have hft : x_fty cc j = .int := x_tc0 (x_ckt0' ht)
  intro p e R s m args below meth c H locs cells slots mc ms ls C
  obtain ⟨hI, hRp, hS, hl, hc1, hc2, hc3, hc4⟩ := id C
  obtain ⟨hx, hb, hml, hrt, hlk, hnm, hown, hts, hfr, hlo, hSd⟩ := id hI
  obtain ⟨hlt, hta⟩ := x_lv_lt hRp hkd (by omega)
  have hke := hRp.2.1 o _ (x_W_get G base hlt)
  rw [x_e_obj hkd] at hke
  rw [x_m2 hta]
  have hlk2 : x_lk args s (x_nm y) i b (x_host y) TT j meth := by
    rcases hlink with hw | hw
    · rcases hfin with hf | ⟨hf, hf1, hf2, hf3⟩
      · exact Or.inl ⟨hf, hts _ (x_inW (x_inU hw rfl))⟩
      · exact Or.inr (Or.inl ⟨hf, hts _ (x_inW (x_inU hw rfl)), hnm.trans hf1, hf2⟩)
    · rcases hfin with hf | ⟨hf, hf1, hf2, hf3⟩
      · exact Or.inr (Or.inr ⟨hf, va_Nw.use rfl (hSd.2.2.1 _ (List.mem_of_getElem? hw) rfl)⟩)
      · have z : true = false := hf3 _ hw
        cases z
  exact x_putc hx hb hts hown hSd.1 hq hj (v := x_tv G base (.int x)) (ty := x_fty cc j) (x_ftys _ _ hq j hj) (by rw [hft]; rfl) (by rw [hft]; rfl) hke (by rw [x_obj_len, x_fn_eq hq]; exact hj) hlk2 hd (fun H1 sl he hz oq =>
    k1 _ _ _ _ _ _ _ _ _ _ _ _ _ _ _ _  ⟨hI, x_bkI hRp hlt hz oq he (x_f_uI hkd (x_ckt0 ht)), hS.put hz oq x_Ao, hl, hc1, hc2, hc3, hc4⟩)
set_option maxHeartbeats 1000000 in
theorem x_s_putZ (l0 : Launch) (E : x_E) (G : x_G) (base : Nat) : x_r_putZ (x_P0 l0 E G base) := by
  intro y d pc L st h rc rs Q nx a b g v l i o n x hi hkd hz k1
  obtain ⟨hd, rfl⟩ := x_decn 3 hi rfl (by decide)
  obtain ⟨hk1, hk2⟩ := x_ckW_spec (t := 4) (x_ck hi)
  obtain ⟨cc, j, CC, TT, NN, hq, hj, rfl, rfl, ht, hlink⟩ := x_ckF_spec hk1
  have hfin := x_ckP_spec hq hk2
  have hft : x_fty cc j = .boolean := x_tc4 (x_ckt4' ht)
  intro p e R s m args below meth c H locs cells slots mc ms ls C
  obtain ⟨hI, hRp, hS, hl, hc1, hc2, hc3, hc4⟩ := id C
  obtain ⟨hx, hb, hml, hrt, hlk, hnm, hown, hts, hfr, hlo, hSd⟩ := id hI
  obtain ⟨hlt, hta⟩ := x_lv_lt hRp hkd (by omega)
  have hke := hRp.2.1 o _ (x_W_get G base hlt)
  rw [x_e_obj hkd] at hke
  rw [x_m2 hta]
  have hlk2 : x_lk args s (x_nm y) i b (x_host y) TT j meth := by
    rcases hlink with hw | hw
    · rcases hfin with hf | ⟨hf, hf1, hf2, hf3⟩
      · exact Or.inl ⟨hf, hts _ (x_inW (x_inU hw rfl))⟩
      · exact Or.inr (Or.inl ⟨hf, hts _ (x_inW (x_inU hw rfl)), hnm.trans hf1, hf2⟩)
    · rcases hfin with hf | ⟨hf, hf1, hf2, hf3⟩
      · exact Or.inr (Or.inr ⟨hf, va_Nw.use rfl (hSd.2.2.1 _ (List.mem_of_getElem? hw) rfl)⟩)
      · have z : true = false := hf3 _ hw
        cases z
  exact x_putc hx hb hts hown hSd.1 hq hj (v := x_tv G base (.int x)) (ty := x_fty cc j) (x_ftys _ _ hq j hj) (by rw [hft]; exact x_nz hz) (by rw [hft]; exact x_fz hz) hke (by rw [x_obj_len, x_fn_eq hq]; exact hj) hlk2 hd (fun H1 sl he hz oq =>
    k1 _ _ _ _ _ _ _ _ _ _ _ _ _ _ _ _  ⟨hI, x_bkI hRp hlt hz oq he (x_f_uI hkd (x_ckt4 ht)), hS.put hz oq x_Ao, hl, hc1, hc2, hc3, hc4⟩)
set_option maxHeartbeats 1000000 in
theorem x_s_putL (l0 : Launch) (E : x_E) (G : x_G) (base : Nat) : x_r_putL (x_P0 l0 E G base) := by
  intro y d pc L st h rc rs Q nx a b g v l i o n x hi hkd k1
  obtain ⟨hd, rfl⟩ := x_decn 3 hi rfl (by decide)
  obtain ⟨hk1, hk2⟩ := x_ckW_spec (t := 1) (x_ck hi)
  obtain ⟨cc, j, CC, TT, NN, hq, hj, rfl, rfl, ht, hlink⟩ := x_ckF_spec hk1
  have hfin := x_ckP_spec hq hk2
  have hft : x_fty cc j = .long := x_tc1 (x_ckt1' ht)
  intro p e R s m args below meth c H locs cells slots mc ms ls C
  obtain ⟨hI, hRp, hS, hl, hc1, hc2, hc3, hc4⟩ := id C
  obtain ⟨hx, hb, hml, hrt, hlk, hnm, hown, hts, hfr, hlo, hSd⟩ := id hI
  obtain ⟨hlt, hta⟩ := x_lv_lt hRp hkd (by omega)
  have hke := hRp.2.1 o _ (x_W_get G base hlt)
  rw [x_e_obj hkd] at hke
  rw [x_m2 hta]
  have hlk2 : x_lk args s (x_nm y) i b (x_host y) TT j meth := by
    rcases hlink with hw | hw
    · rcases hfin with hf | ⟨hf, hf1, hf2, hf3⟩
      · exact Or.inl ⟨hf, hts _ (x_inW (x_inU hw rfl))⟩
      · exact Or.inr (Or.inl ⟨hf, hts _ (x_inW (x_inU hw rfl)), hnm.trans hf1, hf2⟩)
    · rcases hfin with hf | ⟨hf, hf1, hf2, hf3⟩
      · exact Or.inr (Or.inr ⟨hf, va_Nw.use rfl (hSd.2.2.1 _ (List.mem_of_getElem? hw) rfl)⟩)
      · have z : true = false := hf3 _ hw
        cases z
  exact x_putc hx hb hts hown hSd.1 hq hj (v := x_tv G base (.long x)) (ty := x_fty cc j) (x_ftys _ _ hq j hj) (by rw [hft]; rfl) (by rw [hft]; rfl) hke (by rw [x_obj_len, x_fn_eq hq]; exact hj) hlk2 hd (fun H1 sl he hz oq =>
    k1 _ _ _ _ _ _ _ _ _ _ _ _ _ _ _ _  ⟨hI, x_bkL hRp hlt hz oq he (x_f_uL hkd (x_ckt1 ht)), hS.put hz oq x_Ao, hl, hc1, hc2, hc3, hc4⟩)
set_option maxHeartbeats 1000000 in
theorem x_s_putR (l0 : Launch) (E : x_E) (G : x_G) (base : Nat) : x_r_putR (x_P0 l0 E G base) := by
  intro y d pc L st h rc rs Q nx a b g v l i o n x hi hkd k1
  obtain ⟨hd, rfl⟩ := x_decn 3 hi rfl (by decide)
  obtain ⟨hk1, hk2⟩ := x_ckW_spec (t := 2) (x_ck hi)
  obtain ⟨cc, j, CC, TT, NN, hq, hj, rfl, rfl, ht, hlink⟩ := x_ckF_spec hk1
  have hfin := x_ckP_spec hq hk2
  have hft := x_ckt2 ht
  intro p e R s m args below meth c H locs cells slots mc ms ls C
  obtain ⟨hI, hRp, hS, hl, hc1, hc2, hc3, hc4⟩ := id C
  obtain ⟨hx, hb, hml, hrt, hlk, hnm, hown, hts, hfr, hlo, hSd⟩ := id hI
  obtain ⟨hlt, hta⟩ := x_lv_lt hRp hkd (by omega)
  have hke := hRp.2.1 o _ (x_W_get G base hlt)
  rw [x_e_obj hkd] at hke
  rw [x_m2 hta]
  have hlk2 : x_lk args s (x_nm y) i b (x_host y) TT j meth := by
    rcases hlink with hw | hw
    · rcases hfin with hf | ⟨hf, hf1, hf2, hf3⟩
      · exact Or.inl ⟨hf, hts _ (x_inW (x_inU hw rfl))⟩
      · exact Or.inr (Or.inl ⟨hf, hts _ (x_inW (x_inU hw rfl)), hnm.trans hf1, hf2⟩)
    · rcases hfin with hf | ⟨hf, hf1, hf2, hf3⟩
      · exact Or.inr (Or.inr ⟨hf, va_Nw.use rfl (hSd.2.2.1 _ (List.mem_of_getElem? hw) rfl)⟩)
      · have z : true = false := hf3 _ hw
        cases z
  exact x_putc hx hb hts hown hSd.1 hq hj (v := x_tv G base (.ref x)) (ty := x_fty cc j) (x_ftys _ _ hq j hj) (x_nR hft) (x_fR hft) hke (by rw [x_obj_len, x_fn_eq hq]; exact hj) hlk2 hd (fun H1 sl he hz oq =>
    k1 _ _ _ _ _ _ _ _ _ _ _ _ _ _ _ _  ⟨hI, x_bkR hRp hlt hz oq he (x_f_uR hkd (x_ckt2 ht)), hS.put hz oq x_Ao, hl, hc1, hc2, hc3, hc4⟩)
set_option maxHeartbeats 1000000 in
theorem x_s_putN (l0 : Launch) (E : x_E) (G : x_G) (base : Nat) : x_r_putN (x_P0 l0 E G base) := by
  intro y d pc L st h rc rs Q nx a b g v l i o n hi hkd k1
  obtain ⟨hd, rfl⟩ := x_decn 3 hi rfl (by decide)
  obtain ⟨hk1, hk2⟩ := x_ckW_spec (t := 2) (x_ck hi)
  obtain ⟨cc, j, CC, TT, NN, hq, hj, rfl, rfl, ht, hlink⟩ := x_ckF_spec hk1
  have hfin := x_ckP_spec hq hk2
  have hft := x_ckt2 ht
  intro p e R s m args below meth c H locs cells slots mc ms ls C
  obtain ⟨hI, hRp, hS, hl, hc1, hc2, hc3, hc4⟩ := id C
  obtain ⟨hx, hb, hml, hrt, hlk, hnm, hown, hts, hfr, hlo, hSd⟩ := id hI
  obtain ⟨hlt, hta⟩ := x_lv_lt hRp hkd (by omega)
  have hke := hRp.2.1 o _ (x_W_get G base hlt)
  rw [x_e_obj hkd] at hke
  rw [x_m2 hta]
  have hlk2 : x_lk args s (x_nm y) i b (x_host y) TT j meth := by
    rcases hlink with hw | hw
    · rcases hfin with hf | ⟨hf, hf1, hf2, hf3⟩
      · exact Or.inl ⟨hf, hts _ (x_inW (x_inU hw rfl))⟩
      · exact Or.inr (Or.inl ⟨hf, hts _ (x_inW (x_inU hw rfl)), hnm.trans hf1, hf2⟩)
    · rcases hfin with hf | ⟨hf, hf1, hf2, hf3⟩
      · exact Or.inr (Or.inr ⟨hf, va_Nw.use rfl (hSd.2.2.1 _ (List.mem_of_getElem? hw) rfl)⟩)
      · have z : true = false := hf3 _ hw
        cases z
  exact x_putc hx hb hts hown hSd.1 hq hj (v := x_tv G base (.null)) (ty := x_fty cc j) (x_ftys _ _ hq j hj) (x_nN hft) (x_fN hft) hke (by rw [x_obj_len, x_fn_eq hq]; exact hj) hlk2 hd (fun H1 sl he hz oq =>
    k1 _ _ _ _ _ _ _ _ _ _ _ _ _ _ _ _  ⟨hI, x_bkR hRp hlt hz oq he (x_f_uR hkd (x_ckt2 ht)), hS.put hz oq x_Ao, hl, hc1, hc2, hc3, hc4⟩)
set_option maxHeartbeats 1000000 in
theorem x_s_gets (l0 : Launch) (E : x_E) (G : x_G) (base : Nat) : x_r_gets E (x_P0 l0 E G base) := by
  intro y d pc L st h rc rs Q nx t a b g v l i hi k1
  obtain ⟨hd, rfl⟩ := x_decn 3 hi rfl (by decide)
  obtain ⟨q, hq, hlink⟩ := x_ckS_spec (x_ckZ_spec (x_ck hi))
  intro p e R s m args below meth c H locs cells slots mc ms ls C
  obtain ⟨hI, hRp, hS, hl, hc1, hc2, hc3, hc4⟩ := id C
  obtain ⟨hx, hb, hml, hrt, hlk, hnm, hown, hts, hfr, hlo, hSd⟩ := id hI
  rcases hlink with hw | hw
  · exact va_gets hx hb (hSd.2.1.1 _ _ hq) hS hown (hts _ (x_inW (x_inU hw rfl))) (fun _ z => z) hd (k1 _ _ _ _ _ _ _ _ _ _ _ _ _ _ _ _  C)
  · exact va_getsN hx hb (hSd.2.1.1 _ _ hq) hS hown (va_Nw.use rfl (hSd.2.2.1 _ (List.mem_of_getElem? hw) rfl)) (fun _ z => z) hd (k1 _ _ _ _ _ _ _ _ _ _ _ _ _ _ _ _  C)
set_option maxHeartbeats 1000000 in
theorem x_s_getO (l0 : Launch) (E : x_E) (G : x_G) (base : Nat) : x_r_getO E (x_P0 l0 E G base) := by
  intro y d pc L st h rc rs Q nx a b g v l i k iz q hi hq1 hq2 k1
  obtain ⟨hd, rfl⟩ := x_decn 3 hi rfl (by decide)
  have hlink := x_ckO_spec (y := y) (i := i) (a := a) (b := b) hq1 (x_ck hi)
  intro p e R s m args below meth c H locs cells slots mc ms ls C
  obtain ⟨hI, hRp, hS, hl, hc1, hc2, hc3, hc4⟩ := id C
  obtain ⟨hx, hb, hml, hrt, hlk, hnm, hown, hts, hfr, hlo, hSd⟩ := id hI
  rw [x_s1]
  rcases hlink with hw | hw
  · exact vk_getf hx hb (hSd.2.1.2.2.1 _ _ hq2) hS hown (hts _ (x_inW (x_inU hw rfl))) (fun _ z => z) hd (k1 _ _ _ _ _ _ _ _ _ _ _ _ _ _ _ _  C)
  · obtain ⟨cf, kf, fi, f, cell, z1, z2, z3, z4, z5, z6⟩ := (hSd.2.1.2.2.1 _ _ hq2).kept hS.2.1
    exact va_Wgetf hx hb hown (va_Nw.use rfl (hSd.2.2.1 _ (List.mem_of_getElem? hw) rfl)) z1 z2 z3 z4 z5 rfl rfl hd (k1 _ _ _ _ _ _ _ _ _ _ _ _ _ _ _ _  C)
set_option maxHeartbeats 1000000 in
theorem x_s_ldcI (l0 : Launch) (E : x_E) (G : x_G) (base : Nat) : x_r_ldcI (x_P0 l0 E G base) := by
  intro y d pc L st h rc rs Q nx a b g v l i hi k1
  obtain ⟨hd, rfl⟩ := x_decn 2 hi rfl (by decide)
  have hw := x_ckI_spec (x_ck hi)
  intro p e R s m args below meth c H locs cells slots mc ms ls C
  obtain ⟨hI, hRp, hS, hl, hc1, hc2, hc3, hc4⟩ := id C
  obtain ⟨hx, hb, hml, hrt, hlk, hnm, hown, hts, hfr, hlo, hSd⟩ := id hI
  exact lv_ldc hx hb hown (hts _ (x_inW (x_inU hw rfl))) hd (k1 _ _ _ _ _ _ _ _ _ _ _ _ _ _ _ _  C)
set_option maxHeartbeats 1000000 in
theorem x_s_ldcL (l0 : Launch) (E : x_E) (G : x_G) (base : Nat) : x_r_ldcL (x_P0 l0 E G base) := by
  intro y d pc L st h rc rs Q nx t a b g v l i hi k1
  obtain ⟨hd, rfl⟩ := x_decn 3 hi rfl (by decide)
  have hw : lw_tbl[b]? = some (.constantLong (x_nm y).cls i l) := of_decide_eq_true (x_ck hi)
  intro p e R s m args below meth c H locs cells slots mc ms ls C
  obtain ⟨hI, hRp, hS, hl, hc1, hc2, hc3, hc4⟩ := id C
  obtain ⟨hx, hb, hml, hrt, hlk, hnm, hown, hts, hfr, hlo, hSd⟩ := id hI
  exact lv_ldc2 hx hb hown (hts _ (x_inW (x_inU hw rfl))) hd (k1 _ _ _ _ _ _ _ _ _ _ _ _ _ _ _ _  C)
set_option maxHeartbeats 1000000 in
theorem x_s_ldcW (l0 : Launch) (E : x_E) (G : x_G) (base : Nat) : x_r_ldcW (x_P0 l0 E G base) := by
  intro y d pc L st h rc rs Q nx t a b g v l i hi k1
  obtain ⟨hd, rfl⟩ := x_decn 3 hi rfl (by decide)
  have hw : lw_tbl[b]? = some (.constant (x_nm y).cls i v) := of_decide_eq_true (x_ck hi)
  intro p e R s m args below meth c H locs cells slots mc ms ls C
  obtain ⟨hI, hRp, hS, hl, hc1, hc2, hc3, hc4⟩ := id C
  obtain ⟨hx, hb, hml, hrt, hlk, hnm, hown, hts, hfr, hlo, hSd⟩ := id hI
  exact lv_ldcw hx hb hown (hts _ (x_inW (x_inU hw rfl))) hd (k1 _ _ _ _ _ _ _ _ _ _ _ _ _ _ _ _  C)
set_option maxHeartbeats 1000000 in
theorem x_s_iald (l0 : Launch) (E : x_E) (G : x_G) (base : Nat) : x_r_iald (x_P0 l0 E G base) := by
  intro y d pc L st h rc rs Q nx t a b g v l i o n x hi hkd hin hv k1
  obtain ⟨hd, rfl⟩ := x_decn 1 hi rfl (by decide)
  intro p e R s m args below meth c H locs cells slots mc ms ls C
  obtain ⟨hI, hRp, hS, hl, hc1, hc2, hc3, hc4⟩ := id C
  obtain ⟨hx, hb, hml, hrt, hlk, hnm, hown, hts, hfr, hlo, hSd⟩ := id hI
  obtain ⟨t0, ht0⟩ := x_tys_get G (k := 1) (by decide)
  obtain ⟨hlt, hta⟩ := x_lv_lt hRp hkd (by decide)
  have hke := x_W_get G base hlt
  rw [x_e_arr hkd (by decide), x_conI (by decide)] at hke
  rw [x_m2 hta]
  refine va_iald hx hb hSd.1 hRp.2.1 o t0 hke ht0 hin hd ?_
  rw [hv]
  exact k1 _ _ _ _ _ _ _ _ _ _ _ _ _ _ _ _  C
set_option maxHeartbeats 1000000 in
theorem x_s_bald (l0 : Launch) (E : x_E) (G : x_G) (base : Nat) : x_r_bald (x_P0 l0 E G base) := by
  intro y d pc L st h rc rs Q nx t a b g v l i o n x hi hkd hin hv k1
  obtain ⟨hd, rfl⟩ := x_decn 1 hi rfl (by decide)
  intro p e R s m args below meth c H locs cells slots mc ms ls C
  obtain ⟨hI, hRp, hS, hl, hc1, hc2, hc3, hc4⟩ := id C
  obtain ⟨hx, hb, hml, hrt, hlk, hnm, hown, hts, hfr, hlo, hSd⟩ := id hI
  obtain ⟨t0, ht0⟩ := x_tys_get G (k := 2) (by decide)
  obtain ⟨hlt, hta⟩ := x_lv_lt hRp hkd (by decide)
  have hke := x_W_get G base hlt
  rw [x_e_arr hkd (by decide), x_conI (by decide)] at hke
  rw [x_m2 hta]
  refine va_bald hx hb hSd.1 hRp.2.1 o t0 hke ht0 hin hd ?_
  rw [hv]
  exact k1 _ _ _ _ _ _ _ _ _ _ _ _ _ _ _ _  C
set_option maxHeartbeats 1000000 in
theorem x_s_zald (l0 : Launch) (E : x_E) (G : x_G) (base : Nat) : x_r_zald (x_P0 l0 E G base) := by
  intro y d pc L st h rc rs Q nx t a b g v l i o n x hi hkd hin hv k1
  obtain ⟨hd, rfl⟩ := x_decn 1 hi rfl (by decide)
  intro p e R s m args below meth c H locs cells slots mc ms ls C
  obtain ⟨hI, hRp, hS, hl, hc1, hc2, hc3, hc4⟩ := id C
  obtain ⟨hx, hb, hml, hrt, hlk, hnm, hown, hts, hfr, hlo, hSd⟩ := id hI
  obtain ⟨t0, ht0⟩ := x_tys_get G (k := 3) (by decide)
  obtain ⟨hlt, hta⟩ := x_lv_lt hRp hkd (by decide)
  have hke := x_W_get G base hlt
  rw [x_e_arr hkd (by decide), x_conI (by decide)] at hke
  rw [x_m2 hta]
  refine va_zald hx hb hSd.1 hRp.2.1 o t0 hke ht0 hin hd ?_
  rw [hv]
  exact k1 _ _ _ _ _ _ _ _ _ _ _ _ _ _ _ _  C
set_option maxHeartbeats 1000000 in
theorem x_s_lald (l0 : Launch) (E : x_E) (G : x_G) (base : Nat) : x_r_lald (x_P0 l0 E G base) := by
  intro y d pc L st h rc rs Q nx t a b g v l i o n x hi hkd hin hv k1
  obtain ⟨hd, rfl⟩ := x_decn 1 hi rfl (by decide)
  intro p e R s m args below meth c H locs cells slots mc ms ls C
  obtain ⟨hI, hRp, hS, hl, hc1, hc2, hc3, hc4⟩ := id C
  obtain ⟨hx, hb, hml, hrt, hlk, hnm, hown, hts, hfr, hlo, hSd⟩ := id hI
  obtain ⟨t0, ht0⟩ := x_tys_get G (k := 6) (by decide)
  obtain ⟨hlt, hta⟩ := x_lv_lt hRp hkd (by decide)
  have hke := x_W_get G base hlt
  rw [x_e_arr hkd (by decide), x_conL (by decide)] at hke
  rw [x_m2 hta]
  refine va_lald hx hb hSd.1 hRp.2.1 o t0 hke ht0 hin hd ?_
  rw [hv]
  exact k1 _ _ _ _ _ _ _ _ _ _ _ _ _ _ _ _  C
set_option maxHeartbeats 1000000 in
theorem x_s_iast (l0 : Launch) (E : x_E) (G : x_G) (base : Nat) : x_r_iast (x_P0 l0 E G base) := by
  intro y d pc L st h rc rs Q nx t a b g v l i o n x hi hkd hin k1
  obtain ⟨hd, rfl⟩ := x_decn 1 hi rfl (by decide)
  intro p e R s m args below meth c H locs cells slots mc ms ls C
  obtain ⟨hI, hRp, hS, hl, hc1, hc2, hc3, hc4⟩ := id C
  obtain ⟨hx, hb, hml, hrt, hlk, hnm, hown, hts, hfr, hlo, hSd⟩ := id hI
  obtain ⟨t0, ht0⟩ := x_tys_get G (k := 1) (by decide)
  obtain ⟨hlt, hta⟩ := x_lv_lt hRp hkd (by decide)
  have hke := x_W_get G base hlt
  rw [x_e_arr hkd (by decide), x_conI (by decide)] at hke
  rw [x_m3 hta]
  exact W.iast hx hb (hRp.2.1 o _ hke) ((hSd.1.2 t0 _ ht0).1 n (fun j => .int (h.2.2.1 1 o j))) (fun q => by cases q) (x_inI hin) rfl rfl hd (fun H1 e1 hz oq => k1 _ _ _ _ _ _ _ _ _ _ _ _ _ _ _ _  ⟨hI, x_bkI hRp hlt hz oq (by exact e1.trans (congrArg some x_stI)) (x_a_uI hkd (by decide) (by decide)), hS.put hz oq x_Ao, hl, hc1, hc2, hc3, hc4⟩)
set_option maxHeartbeats 1000000 in
theorem x_s_bast (l0 : Launch) (E : x_E) (G : x_G) (base : Nat) : x_r_bast (x_P0 l0 E G base) := by
  intro y d pc L st h rc rs Q nx t a b g v l i o n x hi hkd hin k1
  obtain ⟨hd, rfl⟩ := x_decn 1 hi rfl (by decide)
  intro p e R s m args below meth c H locs cells slots mc ms ls C
  obtain ⟨hI, hRp, hS, hl, hc1, hc2, hc3, hc4⟩ := id C
  obtain ⟨hx, hb, hml, hrt, hlk, hnm, hown, hts, hfr, hlo, hSd⟩ := id hI
  obtain ⟨t0, ht0⟩ := x_tys_get G (k := 2) (by decide)
  obtain ⟨hlt, hta⟩ := x_lv_lt hRp hkd (by decide)
  have hke := x_W_get G base hlt
  rw [x_e_arr hkd (by decide), x_conI (by decide)] at hke
  rw [x_m3 hta]
  exact W.bast hx hb (hRp.2.1 o _ hke) ((hSd.1.2 t0 _ ht0).1 n (fun j => .int (h.2.2.1 2 o j))) (fun q => by cases q) (x_inI hin) rfl rfl hd (fun H1 e1 hz oq => k1 _ _ _ _ _ _ _ _ _ _ _ _ _ _ _ _  ⟨hI, x_bkI hRp hlt hz oq (by exact e1.trans (congrArg some x_stI)) (x_a_uI hkd (by decide) (by decide)), hS.put hz oq x_Ao, hl, hc1, hc2, hc3, hc4⟩)
set_option maxHeartbeats 1000000 in
theorem x_s_zast (l0 : Launch) (E : x_E) (G : x_G) (base : Nat) : x_r_zast (x_P0 l0 E G base) := by
  intro y d pc L st h rc rs Q nx t a b g v l i o n x hi hkd hin k1
  obtain ⟨hd, rfl⟩ := x_decn 1 hi rfl (by decide)
  intro p e R s m args below meth c H locs cells slots mc ms ls C
  obtain ⟨hI, hRp, hS, hl, hc1, hc2, hc3, hc4⟩ := id C
  obtain ⟨hx, hb, hml, hrt, hlk, hnm, hown, hts, hfr, hlo, hSd⟩ := id hI
  obtain ⟨t0, ht0⟩ := x_tys_get G (k := 3) (by decide)
  obtain ⟨hlt, hta⟩ := x_lv_lt hRp hkd (by decide)
  have hke := x_W_get G base hlt
  rw [x_e_arr hkd (by decide), x_conI (by decide)] at hke
  rw [x_m3 hta]
  exact W.zast hx hb (hRp.2.1 o _ hke) ((hSd.1.2 t0 _ ht0).1 n (fun j => .int (h.2.2.1 3 o j))) (fun q => by cases q) (x_inI hin) rfl rfl hd (fun H1 e1 hz oq => k1 _ _ _ _ _ _ _ _ _ _ _ _ _ _ _ _  ⟨hI, x_bkI hRp hlt hz oq (by exact e1.trans (congrArg some x_stI)) (x_a_uI hkd (by decide) (by decide)), hS.put hz oq x_Ao, hl, hc1, hc2, hc3, hc4⟩)
set_option maxHeartbeats 1000000 in
theorem x_s_last (l0 : Launch) (E : x_E) (G : x_G) (base : Nat) : x_r_last (x_P0 l0 E G base) := by
  intro y d pc L st h rc rs Q nx t a b g v l i o n x hi hkd hin k1
  obtain ⟨hd, rfl⟩ := x_decn 1 hi rfl (by decide)
  intro p e R s m args below meth c H locs cells slots mc ms ls C
  obtain ⟨hI, hRp, hS, hl, hc1, hc2, hc3, hc4⟩ := id C
  obtain ⟨hx, hb, hml, hrt, hlk, hnm, hown, hts, hfr, hlo, hSd⟩ := id hI
  obtain ⟨t0, ht0⟩ := x_tys_get G (k := 6) (by decide)
  obtain ⟨hlt, hta⟩ := x_lv_lt hRp hkd (by decide)
  have hke := x_W_get G base hlt
  rw [x_e_arr hkd (by decide), x_conL (by decide)] at hke
  rw [x_m3 hta]
  exact W.last hx hb (hRp.2.1 o _ hke) ((hSd.1.2 t0 _ ht0).1 n (fun j => .long (h.2.2.2.1 6 o j))) (fun q => by cases q) (x_inI hin) rfl rfl hd (fun H1 e1 hz oq => k1 _ _ _ _ _ _ _ _ _ _ _ _ _ _ _ _  ⟨hI, x_bkL hRp hlt hz oq (by exact e1.trans (congrArg some x_stL)) (x_a_uL hkd (by decide) (by decide)), hS.put hz oq x_Ao, hl, hc1, hc2, hc3, hc4⟩)
set_option maxHeartbeats 1000000 in
theorem x_s_aald (l0 : Launch) (E : x_E) (G : x_G) (base : Nat) : x_r_aald (x_P0 l0 E G base) := by
  intro y d pc L st h rc rs Q nx t a b g v l i o n k x CC hi hkd hlk0 hka hty hin hv k1
  obtain ⟨hd, rfl⟩ := x_decn 1 hi rfl (by decide)
  intro p e R s m args below meth c H locs cells slots mc ms ls C
  obtain ⟨hI, hRp, hS, hl, hc1, hc2, hc3, hc4⟩ := id C
  obtain ⟨hx, hb, hml, hrt, hlk, hnm, hown, hts, hfr, hlo, hSd⟩ := id hI
  obtain ⟨t0, ht0⟩ := x_tys_get G hka
  rw [hty] at ht0
  obtain ⟨hlt, hta⟩ := x_lv_lt hRp hkd (fun z => absurd (z ▸ hka) (by decide))
  have hke := x_W_get G base hlt
  rw [x_e_arr hkd hlk0, x_conR (by rw [hty]; rfl)] at hke
  rw [x_m2 hta]
  refine va_aldq hx hb hSd.1 hRp.2.1 o t0 hke ht0 hin hd ?_
  rw [hv]
  exact k1 _ _ _ _ _ _ _ _ _ _ _ _ _ _ _ _  C
set_option maxHeartbeats 1000000 in
theorem x_s_aast (l0 : Launch) (E : x_E) (G : x_G) (base : Nat) : x_r_aast (x_P0 l0 E G base) := by
  intro y d pc L st h rc rs Q nx t a b g v l i o n k x ci nn CC TT NN hi hkd hlk0 hka hty hcl hkx hin k1
  obtain ⟨hd, rfl⟩ := x_decn 1 hi rfl (by decide)
  intro p e R s m args below meth c H locs cells slots mc ms ls C
  obtain ⟨hI, hRp, hS, hl, hc1, hc2, hc3, hc4⟩ := id C
  obtain ⟨hx, hb, hml, hrt, hlk, hnm, hown, hts, hfr, hlo, hSd⟩ := id hI
  obtain ⟨t0, ht0⟩ := x_tys_get G hka
  rw [hty] at ht0
  obtain ⟨hlt, hta⟩ := x_lv_lt hRp hkd (fun z => absurd (z ▸ hka) (by decide))
  have hke := x_W_get G base hlt
  rw [x_e_arr hkd hlk0, x_conR (by rw [hty]; rfl)] at hke
  obtain ⟨hlx, htx⟩ := x_lv_lt hRp hkx (by omega)
  have hkx2 := hRp.2.1 x _ (x_W_get G base hlx)
  rw [x_e_obj hkx] at hkx2
  obtain ⟨r', hr', cellV, g1, g2, g3, -⟩ := hkx2
  cases hcl.symm.trans hr'
  have hcls := (hSd.1.1 ci _ hcl).2
  obtain ⟨kA, comp, q1, q2, q3, -⟩ := (hSd.1.2 t0 _ ht0).2
  have hcomp : comp = G.1.1 ci := Option.some.inj (q3.symm.trans hcls.1)
  subst hcomp
  obtain ⟨kC, hkC, -⟩ := hcls.2
  have hin2 : i.toNatClampNeg < n := Nat.not_le.mp fun q => hin (Or.inr q)
  rw [x_m3 hta]
  have ev : x_tv G base (.ref x) = .ref (base + x) := by rw [← htx]; rfl
  rw [ev]
  have hs := x_a_uR (G := G) (base := base) (i := i.toNatClampNeg) (v := some x) hkd hlk0 (by rw [hty]; rfl)
  rw [show (some x).map (x_ta G base) = some (base + x) from congrArg some htx] at hs
  exact W.aast hx hb (hRp.2.1 o _ hke) (fun q h => by cases h) (fun h => by cases h) q1 q2 rfl hkC ⟨fun q => hin (Or.inl q), by show _ < (arrV _ _ _).slots.size; rw [arrV_size]; exact hin2⟩ g1 (fun q h => by rw [g3] at h; cases h) (by rw [g2]; exact hkC) (by rw [g2]; exact va_assign hcls) rfl rfl hd (fun H1 e1 hz oq => k1 _ _ _ _ _ _ _ _ _ _ _ _ _ _ _ _  ⟨hI, x_bkR hRp hlt hz oq (by exact e1.trans (congrArg some (x_stR (r := some (base + x))))) hs, hS.put hz oq x_Ao, hl, hc1, hc2, hc3, hc4⟩)
set_option maxHeartbeats 1000000 in
theorem x_s_alen (l0 : Launch) (E : x_E) (G : x_G) (base : Nat) : x_r_alen (x_P0 l0 E G base) := by
  intro y d pc L st h rc rs Q nx t a b g v l o n k hi hkd hlk0 hka k1
  obtain ⟨hd, rfl⟩ := x_decn 1 hi rfl (by decide)
  intro p e R s m args below meth c H locs cells slots mc ms ls C
  obtain ⟨hI, hRp, hS, hl, hc1, hc2, hc3, hc4⟩ := id C
  obtain ⟨hx, hb, hml, hrt, hlk, hnm, hown, hts, hfr, hlo, hSd⟩ := id hI
  obtain ⟨t0, ht0⟩ := x_tys_get G hka
  obtain ⟨hlt, hta⟩ := x_lv_lt hRp hkd (fun z => absurd (z ▸ hka) (by decide))
  have hke := x_W_get G base hlt
  rw [x_e_arr hkd hlk0] at hke
  rw [x_m1 hta]
  exact va_alen hx hb hSd.1 hRp.2.1 o t0 hke ht0 rfl hd (k1 _ _ _ _ _ _ _ _ _ _ _ _ _ _ _ _  C)
set_option maxHeartbeats 1000000 in
theorem x_s_alenS (l0 : Launch) (E : x_E) (G : x_G) (base : Nat) : x_r_alenS E (x_P0 l0 E G base) := by
  intro y d pc L st h rc rs Q nx t a b g v l k iz ty hi hq k1
  obtain ⟨hd, rfl⟩ := x_decn 1 hi rfl (by decide)
  intro p e R s m args below meth c H locs cells slots mc ms ls C
  obtain ⟨hI, hRp, hS, hl, hc1, hc2, hc3, hc4⟩ := id C
  obtain ⟨hx, hb, hml, hrt, hlk, hnm, hown, hts, hfr, hlo, hSd⟩ := id hI
  rw [x_s1]
  exact va_tlen hx hb (hSd.2.1.2.2.2.1 _ _ hq) hS rfl hd (k1 _ _ _ _ _ _ _ _ _ _ _ _ _ _ _ _  C)
set_option maxHeartbeats 1000000 in
theorem x_s_ialdS (l0 : Launch) (E : x_E) (G : x_G) (base : Nat) : x_r_ialdS E (x_P0 l0 E G base) := by
  intro y d pc L st h rc rs Q nx t a b g v l i k iz x hi hq hin hv k1
  obtain ⟨hd, rfl⟩ := x_decn 1 hi rfl (by decide)
  intro p e R s m args below meth c H locs cells slots mc ms ls C
  obtain ⟨hI, hRp, hS, hl, hc1, hc2, hc3, hc4⟩ := id C
  obtain ⟨hx, hb, hml, hrt, hlk, hnm, hown, hts, hfr, hlo, hSd⟩ := id hI
  rw [x_s2]
  exact va_ti hx hb (hSd.2.1.2.2.2.1 _ _ hq) hS hin (congrArg (x_tv G base) hv) hd (k1 _ _ _ _ _ _ _ _ _ _ _ _ _ _ _ _  C)
set_option maxHeartbeats 1000000 in
theorem x_s_baldS (l0 : Launch) (E : x_E) (G : x_G) (base : Nat) : x_r_baldS E (x_P0 l0 E G base) := by
  intro y d pc L st h rc rs Q nx t a b g v l i k iz x hi hq hin hv k1
  obtain ⟨hd, rfl⟩ := x_decn 1 hi rfl (by decide)
  intro p e R s m args below meth c H locs cells slots mc ms ls C
  obtain ⟨hI, hRp, hS, hl, hc1, hc2, hc3, hc4⟩ := id C
  obtain ⟨hx, hb, hml, hrt, hlk, hnm, hown, hts, hfr, hlo, hSd⟩ := id hI
  rw [x_s2]
  exact va_tb hx hb (hSd.2.1.2.2.2.1 _ _ hq) hS hin (congrArg (x_tv G base) hv) hd (k1 _ _ _ _ _ _ _ _ _ _ _ _ _ _ _ _  C)
set_option maxHeartbeats 1000000 in
theorem x_s_aaldS (l0 : Launch) (E : x_E) (G : x_G) (base : Nat) : x_r_aaldS E (x_P0 l0 E G base) := by
  intro y d pc L st h rc rs Q nx t a b g v l i k iz x CC hi hq hin hv k1
  obtain ⟨hd, rfl⟩ := x_decn 1 hi rfl (by decide)
  intro p e R s m args below meth c H locs cells slots mc ms ls C
  obtain ⟨hI, hRp, hS, hl, hc1, hc2, hc3, hc4⟩ := id C
  obtain ⟨hx, hb, hml, hrt, hlk, hnm, hown, hts, hfr, hlo, hSd⟩ := id hI
  rw [x_s2]
  obtain ⟨cell, h1, h2, h3, h4, h5, h6, h7⟩ := hSd.2.1.2.2.2.1 _ _ hq
  have hlt : i.toNatClampNeg < x_arn E k := Nat.not_le.mp fun q => hin (Or.inr q)
  have hin' : ¬ (i < 0 ∨ cell.slots.size ≤ i.toNatClampNeg) := by
    intro q
    rcases q with q | q
    · exact hin (Or.inl q)
    · omega
  exact W.aald (v := x_tv G base x) (ty := .object CC) hx hb (by rw [hS.2.1 _ (Array.getElem?_eq_some_iff.mp h1).1 h7]; exact h1) h2 rfl h3 hin' (by rw [h6 _ hlt]; exact congrArg (fun z => some (x_tv G base z)) hv) rfl rfl hd (k1 _ _ _ _ _ _ _ _ _ _ _ _ _ _ _ _  C)
set_option maxHeartbeats 1000000 in
theorem x_s_newa (l0 : Launch) (E : x_E) (G : x_G) (base : Nat) : x_r_newa (x_P0 l0 E G base) := by
  intro y d pc L st h rc rs Q nx t a b g v l at_ n N q hi hn hN hby hq hq6 hr1 hr2 k1
  subst hq
  obtain ⟨hd, rfl⟩ := x_decn 2 hi rfl (by decide)
  have hk : (decide (newarray.typeOf at_ = x_aty a) && (decide (a ∈ x_aks) && decide (lw_tbl[b]? = some (.arrayClass (x_aty a))))) = true := x_ck hi
  obtain ⟨k2, k3⟩ := x_and hk
  obtain ⟨k3, k4⟩ := x_and k3
  have k2 : newarray.typeOf at_ = x_aty a := of_decide_eq_true k2
  have k3 : a ∈ x_aks := of_decide_eq_true k3
  have k4 : lw_tbl[b]? = some (.arrayClass (x_aty a)) := of_decide_eq_true k4
  intro p e R s m args below meth c H locs cells slots mc ms ls C
  obtain ⟨hI, hRp, hS, hl, hc1, hc2, hc3, hc4⟩ := id C
  obtain ⟨hx, hb, hml, hrt, hlk, hnm, hown, hts, hfr, hlo, hSd⟩ := id hI
  have hnr : x_tcode (x_aty a) ≠ 2 := by rw [← k2]; exact x_tyq at_
  obtain ⟨t0, ht0⟩ := x_tys_get G k3
  refine va_newaK hx hb (atype := at_) (N := N) (by rw [k2]; exact hts _ (x_inW (x_inU k4 rfl))) rfl hd (rest := st.map (x_tv G base)) rfl hn hN (Nat.le_trans (Nat.mul_le_mul_left N (x_bytes _)) hby) (by omega) (by omega) hRp.1 (fun H1 cA e1 z1 o1 hAr hNm => ?_)
  rw [k2] at e1 hNm
  have hcA : cA = G.2.1 a := x_sameA (x_RAp hNm hnr) (hSd.1.2 _ _ ht0).2 hnr
  subst hcA
  have hrep : x_Rep G base (x_new h a N) H1 := by
    refine x_bkN hRp hq6 (by rw [z1, hRp.1]) (fun q hq => o1 q (by rw [← hRp.1]; exact hq)) (e' := .inl (G.2.1 a, N, x_z a)) (show H1[base + h.1]? = some (vp_cell _ _) from e1.trans (congrArg some (x_cell0 (G.2.1 a) (x_aty a) N (x_ak9 k3) hnr).symm)) ?_
    rw [x_e_arr (show (x_new h a N).2.1 h.1 = (a, N) from (x_new_kd ..).trans (if_pos rfl)) (x_aklt k3), x_con0 (hRp.2.2.2.2 a h.1 · (Nat.le_refl _))]
  have hk1 := k1 p e R s m args below meth c H1 locs (cells + 1) (slots + N) mc ms ls ⟨hI, hrep, ⟨Nat.le_trans hS.1 (by rw [z1, hRp.1]; omega), fun q g1 g2 => (o1 q (by rw [← hRp.1]; exact Nat.lt_of_lt_of_le g1 hS.1)).trans (hS.2.1 q g1 g2), hS.2.2⟩, hl, (by omega : cells + 1 + (rc - 1) ≤ mc), (by omega : slots + N + (rs - N) ≤ ms), hc3, hc4⟩
  rw [x_m1 (if_pos hq6)] at hk1
  exact hk1
set_option maxHeartbeats 1000000 in
theorem x_s_newq (l0 : Launch) (E : x_E) (G : x_G) (base : Nat) : x_r_newq (x_P0 l0 E G base) := by
  intro y d pc L st h rc rs Q nx t a b g v l i n N q hi hn hN hby hq hq6 hr1 hr2 k1
  subst hq
  subst hN
  obtain ⟨hd, rfl⟩ := x_decn 3 hi rfl (by decide)
  obtain ⟨CC, hty, k3, k4, k5⟩ := x_ckQ_spec (x_ck hi)
  intro p e R s m args below meth c H locs cells slots mc ms ls C
  obtain ⟨hI, hRp, hS, hl, hc1, hc2, hc3, hc4⟩ := id C
  obtain ⟨hx, hb, hml, hrt, hlk, hnm, hown, hts, hfr, hlo, hSd⟩ := id hI
  obtain ⟨t0, ht0⟩ := x_tys_get G k3
  rw [hty] at ht0
  refine W.anew hx hb hown (hts _ (x_inW (x_inU k4 rfl))) (va_AO.use (hSd.2.2.2.1 CC k5)) rfl hd (rest := st.map (x_tv G base)) rfl hn hby (by omega) (by omega) (fun cA kA comp f1 f2 f3 f4 => ?_)
  have hcA : cA = G.2.1 a := x_sameQ ⟨kA, comp, f2, f3, f4, f1⟩ (hSd.1.2 _ _ ht0).2
  subst hcA
  generalize hH1 : H.push ({ cls := G.2.1 a, slots := Array.replicate n.toNatClampNeg .null, vm := .none } : Cell) = H1
  have z1 : H1.size = H.size + 1 := by rw [← hH1, Array.size_push]
  have e1 : H1[H.size]? = some (arrV (G.2.1 a) n.toNatClampNeg (fun _ => .null)) := by rw [← hH1, Array.getElem?_push_size, ← arrV_new]
  have o1 : ∀ q : Nat, q < H.size → H1[q]? = H[q]? := fun q hq => by rw [← hH1, Array.getElem?_push, if_neg (Nat.ne_of_lt hq)]
  rw [hRp.1] at e1
  have hrep : x_Rep G base (x_new h a n.toNatClampNeg) H1 := by
    refine x_bkN hRp hq6 z1 o1 (e' := .inl (G.2.1 a, n.toNatClampNeg, x_z a)) (show H1[base + h.1]? = some (vp_cell _ _) from e1.trans (congrArg some ?_)) ?_
    · unfold x_z
      rw [hty]
      rfl
    · rw [x_e_arr (show (x_new h a n.toNatClampNeg).2.1 h.1 = (a, n.toNatClampNeg) from (x_new_kd ..).trans (if_pos rfl)) (x_aklt k3), x_con0 (hRp.2.2.2.2 a h.1 · (Nat.le_refl _))]
  have hk1 := k1 p e R s m args below meth c H1 locs (cells + 1) (slots + n.toNatClampNeg) mc ms ls ⟨hI, hrep, ⟨Nat.le_trans hS.1 (by omega), fun q g1 g2 => (o1 q (Nat.lt_of_lt_of_le g1 hS.1)).trans (hS.2.1 q g1 g2), hS.2.2⟩, hl, (by omega : cells + 1 + (rc - 1) ≤ mc), (by omega : slots + n.toNatClampNeg + (rs - n.toNatClampNeg) ≤ ms), hc3, hc4⟩
  rw [x_m1 (if_pos hq6), ← hRp.1] at hk1
  exact hk1
set_option maxHeartbeats 1000000 in
theorem x_s_newc (l0 : Launch) (E : x_E) (G : x_G) (base : Nat) : x_r_newc (x_P0 l0 E G base) := by
  intro y d pc L st h rc rs Q nx t a b g v l i q N hi hN hq hq6 hr1 hr2 k1
  subst hq
  obtain ⟨hd, rfl⟩ := x_decn 3 hi rfl (by decide)
  obtain ⟨cc, CC, TT, NN, hcl, rfl, k4⟩ := x_ckN_spec (x_ck hi)
  rw [Nat.add_sub_cancel_left, x_fn_eq hcl] at hN
  subst hN
  intro p e R s m args below meth c H locs cells slots mc ms ls C
  obtain ⟨hI, hRp, hS, hl, hc1, hc2, hc3, hc4⟩ := id C
  obtain ⟨hx, hb, hml, hrt, hlk, hnm, hown, hts, hfr, hlo, hSd⟩ := id hI
  have w1 : Cond.instantiable CC NN ∈ x_U := (x_insts _ _ hcl).1
  have w2 : Cond.initialized CC ∈ x_U := (x_insts _ _ hcl).2
  have hKn := hSd.1.1 cc _ hcl
  refine W.newcK hx hb hown (hts _ (x_inW (x_inU k4 rfl))) (hts _ (x_inW w1)) (hts _ (x_inW w2)) rfl hd (by omega) (by omega) hKn.2.1 hRp.1 (fun H1 kC hkC e1 z1 o1 => ?_)
  have hrep : x_Rep G base (x_new h (1000 + cc) 0) H1 := by
    refine x_bkN hRp hq6 (by rw [z1, hRp.1]) (fun q hq => o1 q (by rw [← hRp.1]; exact hq)) (e' := .inr (cc, x_oz cc)) ⟨_, hcl, (u_born (x_fty cc) hts (fun w hw => x_inW (x_lays _ _ hcl w hw)) hKn hkC e1 (x_ftys _ _ hcl)).to (fun j hj => x_fs0 hcl hj)⟩ ?_
    rw [x_e_obj (show (x_new h (1000 + cc) 0).2.1 h.1 = (1000 + cc, 0) from (x_new_kd ..).trans (if_pos rfl)), x_objs0 (fun k => hRp.2.2.2.2 k h.1 0 (Nat.le_refl _))]
  have hk1 := k1 p e R s m args below meth c H1 locs (cells + 1) (slots + NN) mc ms ls ⟨hI, hrep, ⟨Nat.le_trans hS.1 (by rw [z1, hRp.1]; omega), fun q g1 g2 => (o1 q (by rw [← hRp.1]; exact Nat.lt_of_lt_of_le g1 hS.1)).trans (hS.2.1 q g1 g2), hS.2.2⟩, hl, (by omega : cells + 1 + (rc - 1) ≤ mc), (by omega : slots + NN + (rs - NN) ≤ ms), hc3, hc4⟩
  rw [x_m1 (if_pos hq6)] at hk1
  exact hk1
set_option maxHeartbeats 1000000 in
theorem x_s_tsw (l0 : Launch) (E : x_E) (G : x_G) (base : Nat) : x_r_tsw (x_P0 l0 E G base) := by
  intro y d pc L st h rc rs Q nx t a b g v l x dd lo hi_ os tg hi htg k1
  obtain ⟨hd, -, -, hk⟩ := x_decs hi
  have hk : (decide (0 ≤ (pc : Int) + dd) && (os.toList.all (fun o => decide (0 ≤ (pc : Int) + o)) && decide ((os.size : Int) = hi_ - lo + 1))) = true := hk
  obtain ⟨k2, k3⟩ := x_and hk
  obtain ⟨k3, k4⟩ := x_and k3
  have k2 : 0 ≤ (pc : Int) + dd := of_decide_eq_true k2
  have k4 : (os.size : Int) = hi_ - lo + 1 := of_decide_eq_true k4
  intro p e R s m args below meth c H locs cells slots mc ms ls C
  obtain ⟨hI, hRp, hS, hl, hc1, hc2, hc3, hc4⟩ := id C
  obtain ⟨hx, hb, hml, hrt, hlk, hnm, hown, hts, hfr, hlo, hSd⟩ := id hI
  unfold x_tgt at htg
  dsimp only at htg
  by_cases hc : x.toInt < lo ∨ hi_ < x.toInt
  · simp only [if_pos hc] at htg
    exact lv_tableOut hx hb hd hc (tgt := tg) (by omega) (k1 _ _ _ _ _ _ _ _ _ _ _ _ _ _ _ _  C)
  · simp only [if_neg hc] at htg
    have h1 : ¬ x.toInt < lo := fun z => hc (Or.inl z)
    have h2 : ¬ hi_ < x.toInt := fun z => hc (Or.inr z)
    have hlt : (x.toInt - lo).toNat < os.size := by omega
    have hg : os[(x.toInt - lo).toNat]? = some (os[(x.toInt - lo).toNat]) := Array.getElem?_eq_getElem hlt
    have hgd : os.getD (x.toInt - lo).toNat 0 = os[(x.toInt - lo).toNat] := by rw [Array.getD_eq_getD_getElem?, hg]; rfl
    rw [hgd] at htg
    have h0 : 0 ≤ (pc : Int) + os[(x.toInt - lo).toNat] := of_decide_eq_true (List.all_eq_true.mp k3 _ (by simp))
    exact lv_tableIn hx hb hd h1 h2 hg (tgt := tg) (by omega) (k1 _ _ _ _ _ _ _ _ _ _ _ _ _ _ _ _  C)
set_option maxHeartbeats 1000000 in
theorem x_s_lsw (l0 : Launch) (E : x_E) (G : x_G) (base : Nat) : x_r_lsw (x_P0 l0 E G base) := by
  intro y d pc L st h rc rs Q nx t a b g v l x dd os tg hi htg k1
  obtain ⟨hd, -, -, hk⟩ := x_decs hi
  have hk : (decide (0 ≤ (pc : Int) + dd) && (os.toList.all (fun o => decide (0 ≤ (pc : Int) + o.2)) && (os.toList.zip (os.toList.drop 1)).all (fun (a, next) => a.1 < next.1))) = true := hk
  obtain ⟨k2, k3⟩ := x_and hk
  obtain ⟨k3, k4⟩ := x_and k3
  have k2 : 0 ≤ (pc : Int) + dd := of_decide_eq_true k2
  intro p e R s m args below meth c H locs cells slots mc ms ls C
  obtain ⟨hI, hRp, hS, hl, hc1, hc2, hc3, hc4⟩ := id C
  obtain ⟨hx, hb, hml, hrt, hlk, hnm, hown, hts, hfr, hlo, hSd⟩ := id hI
  unfold x_tgt at htg
  dsimp only at htg
  have h0 : 0 ≤ (pc : Int) + Op.lookupswitch.offset os.toList dd x.toInt := x_offs os.toList k2 k3
  exact lv_lookup hx hb hd k4 rfl (tgt := tg) (by omega) (k1 _ _ _ _ _ _ _ _ _ _ _ _ _ _ _ _  C)
set_option maxHeartbeats 1000000 in
theorem x_s_iret (l0 : Launch) (E : x_E) (G : x_G) (base : Nat) : x_r_iret (x_P0 l0 E G base) := by
  intro y d pc L h rc rs Q nx t a b g v l x hi hr0 hq
  obtain ⟨hd, rfl⟩ := x_decn 1 hi rfl (by decide)
  intro p e R s m args below meth c H locs cells slots mc ms ls C
  obtain ⟨hI, hRp, hS, hl, hc1, hc2, hc3, hc4⟩ := id C
  obtain ⟨hx, hb, hml, hrt, hlk, hnm, hown, hts, hfr, hlo, hSd⟩ := id hI
  refine W.widen (k := mc) (n := ms) (by omega) (by omega) ?_
  exact W.iret hx hb (hrt.trans hr0) (fun t ht hW => ⟨⟨some (.int x), h, rfl, hq, by rw [ht]; exact hRp⟩, hS.F ht⟩) hS.2.2 hd hlk
set_option maxHeartbeats 1000000 in
theorem x_s_lret (l0 : Launch) (E : x_E) (G : x_G) (base : Nat) : x_r_lret (x_P0 l0 E G base) := by
  intro y d pc L h rc rs Q nx t a b g v l x hi hr0 hq
  obtain ⟨hd, rfl⟩ := x_decn 1 hi rfl (by decide)
  intro p e R s m args below meth c H locs cells slots mc ms ls C
  obtain ⟨hI, hRp, hS, hl, hc1, hc2, hc3, hc4⟩ := id C
  obtain ⟨hx, hb, hml, hrt, hlk, hnm, hown, hts, hfr, hlo, hSd⟩ := id hI
  refine W.widen (k := mc) (n := ms) (by omega) (by omega) ?_
  exact W.lret hx hb (hrt.trans hr0) (fun t ht hW => ⟨⟨some (.long x), h, rfl, hq, by rw [ht]; exact hRp⟩, hS.F ht⟩) hS.2.2 hd hlk
set_option maxHeartbeats 1000000 in
theorem x_s_nret (l0 : Launch) (E : x_E) (G : x_G) (base : Nat) : x_r_nret (x_P0 l0 E G base) := by
  intro y d pc L h rc rs Q nx t a b g v l x ty hi hr0 hz hq
  obtain ⟨hd, rfl⟩ := x_decn 1 hi rfl (by decide)
  intro p e R s m args below meth c H locs cells slots mc ms ls C
  obtain ⟨hI, hRp, hS, hl, hc1, hc2, hc3, hc4⟩ := id C
  obtain ⟨hx, hb, hml, hrt, hlk, hnm, hown, hts, hfr, hlo, hSd⟩ := id hI
  refine W.widen (k := mc) (n := ms) (by omega) (by omega) ?_
  exact W.zret hx hb (hrt.trans hr0) hz (fun t ht hW => ⟨⟨some (.int x), h, rfl, hq, by rw [ht]; exact hRp⟩, hS.F ht⟩) hS.2.2 hd hlk
set_option maxHeartbeats 1000000 in
theorem x_s_zret (l0 : Launch) (E : x_E) (G : x_G) (base : Nat) : x_r_zret (x_P0 l0 E G base) := by
  intro y d pc L h rc rs Q nx t a b g v l x hi hr0 hz hq
  obtain ⟨hd, rfl⟩ := x_decn 1 hi rfl (by decide)
  intro p e R s m args below meth c H locs cells slots mc ms ls C
  obtain ⟨hI, hRp, hS, hl, hc1, hc2, hc3, hc4⟩ := id C
  obtain ⟨hx, hb, hml, hrt, hlk, hnm, hown, hts, hfr, hlo, hSd⟩ := id hI
  refine W.widen (k := mc) (n := ms) (by omega) (by omega) ?_
  exact W.zret hx hb (hrt.trans hr0) (x_nz hz) (fun t ht hW => ⟨⟨some (.int x), h, rfl, hq, by rw [ht]; exact hRp⟩, hS.F ht⟩) hS.2.2 hd hlk
set_option maxHeartbeats 1000000 in
theorem x_s_aret (l0 : Launch) (E : x_E) (G : x_G) (base : Nat) : x_r_aret (x_P0 l0 E G base) := by
  intro y d pc L h rc rs Q nx t a b g v l r hi hr0 hq
  obtain ⟨hd, rfl⟩ := x_decn 1 hi rfl (by decide)
  intro p e R s m args below meth c H locs cells slots mc ms ls C
  obtain ⟨hI, hRp, hS, hl, hc1, hc2, hc3, hc4⟩ := id C
  obtain ⟨hx, hb, hml, hrt, hlk, hnm, hown, hts, hfr, hlo, hSd⟩ := id hI
  refine W.widen (k := mc) (n := ms) (by omega) (by omega) ?_
  obtain ⟨ty, hty, hor⟩ := x_isR_spec hr0
  have e9 : [va_rf r].map (x_tv G base) = [va_rf (r.map (x_ta G base))] := by cases r <;> rfl
  rw [e9]
  exact W.aret hx hb (hrt.trans hty) hor (va_rf_or _) (fun t ht hW => ⟨⟨some (va_rf r), h, by cases r <;> rfl, hq, by rw [ht]; exact hRp⟩, hS.F ht⟩) hS.2.2 hd hlk
set_option maxHeartbeats 1000000 in
theorem x_s_vret (l0 : Launch) (E : x_E) (G : x_G) (base : Nat) : x_r_vret (x_P0 l0 E G base) := by
  intro y d pc L h rc rs Q nx t a b g v l hi hr0 hq
  obtain ⟨hd, rfl⟩ := x_decn 1 hi rfl (by decide)
  intro p e R s m args below meth c H locs cells slots mc ms ls C
  obtain ⟨hI, hRp, hS, hl, hc1, hc2, hc3, hc4⟩ := id C
  obtain ⟨hx, hb, hml, hrt, hlk, hnm, hown, hts, hfr, hlo, hSd⟩ := id hI
  refine W.widen (k := mc) (n := ms) (by omega) (by omega) ?_
  exact W.vret hx hb (hrt.trans hr0) (fun t ht hW => ⟨⟨none, h, rfl, hq, by rw [ht]; exact hRp⟩, hS.F ht⟩) hS.2.2 hd hlk
set_option maxHeartbeats 1000000 in
theorem x_s_weak (l0 : Launch) (E : x_E) (G : x_G) (base : Nat) : x_r_weak (x_P0 l0 E G base) := by
  intro y d pc L L1 st h rc rs rc1 rs1 d1 Q Q1 hL hrc hrs hd1 hQ k1
  intro p e R s m args below meth c H locs cells slots mc ms ls C
  obtain ⟨hI, hRp, hS, hl, hc1, hc2, hc3, hc4⟩ := id C
  obtain ⟨hx, hb, hml, hrt, hlk, hnm, hown, hts, hfr, hlo, hSd⟩ := id hI
  intro T hT X
  obtain ⟨t, a1, o, b1, b2, ⟨⟨u, h1, e1, e2, e3⟩, b4⟩, b5⟩ := k1 p e R s m args below meth c H locs cells slots mc ms ls ⟨⟨hx, hb, hml, hrt, hlk, hnm, hown, hts, Nat.le_trans hd1 hfr, by omega, hSd⟩, hRp, hS, x_lv_weak hl (x_tLw hL), by omega, by omega, hc3, hc4⟩ T hT X
  exact ⟨t, a1, o, b1, b2, ⟨⟨u, h1, e1, hQ u h1 e2, e3⟩, b4⟩, b5⟩
