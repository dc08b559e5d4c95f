set_option maxHeartbeats 1000000 in
theorem x_s_callV (l0 : Launch) (E : x_E) (G : x_G) (base : Nat) : x_r_callV (x_P0 l0 E G base) := by
  intro y d pc L h rc rs Q nx a b g v l i mc ms As rest o n ci TT NN hi hsk hna hcl hkd hrs hwd h1c h1s k1
  obtain ⟨hd, rfl⟩ := x_decn 3 hi rfl (by decide)
  obtain ⟨ha, hlink⟩ := x_ckM_spec (x_ckV_spec (x_ck hi))
  have hm := x_okms a ha
  obtain ⟨hw1, hw2⟩ := hm.2.2.2.2.2.2.1 hsk
  intro p e R s m args below meth c H locs cells slots mt mu ls C
  obtain ⟨hI, hRp, hS, hl, hc1, hc2, hc3, hc4⟩ := id C
  obtain ⟨hx, hb, hml, hrt, hlk, hnm, hown, hts, hfr, hlo, hSd⟩ := id hI
  have hM := x_met hm (by rw [hsk]; decide) hwd k1
  obtain ⟨hlt, hta⟩ := x_lv_lt hRp hkd (by omega)
  have hke := x_W_get G base hlt
  rw [x_e_obj hkd] at hke
  have ev : x_tv G base (.ref o) = .ref (base + o) := by rw [← hta]; rfl
  have hpre : PreV s H (x_nm a).cls (base + o) (x_Pc E G base (.ref o :: As) h) (As.map (x_tv G base)) := ⟨x_blind _ _ _ _ _, va_recv hSd.1 hRp.2.1 hcl hke, ev ▸ x_pre (.ref o :: As) hSd hRp hS⟩
  have e9 : (As.reverse ++ .ref o :: rest).map (x_tv G base) = (As.map (x_tv G base)).reverse ++ .ref (base + o) :: rest.map (x_tv G base) := by rw [List.map_append, List.map_reverse, List.map_cons, ev]
  rw [e9]
  rw [← x_sumt G base] at hrs
  have hna : (As.map (x_tv G base)).length = x_np a := by rw [List.length_map]; exact hna
  rcases hlink with hw | hw
  · refine x_after (va_runV (nL := x_ml y) (Ts := x_U) (own := (x_nm y).cls) ⟨hx, hb, hml, hown, hts⟩ hM (cwV (x_np a) hts (fun w hw9 => ?_) rfl rfl rfl ⟨rfl, hm.2.2.2.1⟩ (x_room hm.2.2.2.2.1 hfr hlo)) hpre rfl hna hl.1 rfl (lv_room hrs) hd ⟨by omega, by omega⟩) hS (fun w h1 H1 locs1 hq hR1 hS1 => x_tret G base w rest ▸ hq _ _ _ _ _ _ _ _ _ _ _ _ _ _ _ _  ⟨hI, hR1, hS1, hl, by omega, by omega, hc3, hc4⟩)
    unfold wsV at hw9
    rcases List.mem_append.mp hw9 with q | q
    · simp only [List.mem_cons, List.not_mem_nil, or_false] at q
      rcases q with rfl | rfl | rfl | rfl
      · exact x_gW (x_inU hw rfl)
      · exact x_gW hw1
      · exact x_gW hw2
      · exact x_gW hm.2.1
    · exact x_good hm w q
  · exact x_after (va_runVN (nL := x_ml y) (Ts := x_U) (own := (x_nm y).cls) ⟨hx, hb, hml, hown, hts⟩ hM ⟨va_cnB (x_np a) hts (x_good hm) rfl rfl rfl (hSd.2.2.1 _ (List.mem_of_getElem? hw) rfl) (hts _ (x_inW hm.2.1)) hm.2.2.2.1 (x_room hm.2.2.2.2.1 hfr hlo), hts _ (x_inW hw1), hts _ (x_inW hw2)⟩ hpre rfl hna hl.1 rfl (lv_room hrs) hd ⟨by omega, by omega⟩) hS (fun w h1 H1 locs1 hq hR1 hS1 => x_tret G base w rest ▸ hq _ _ _ _ _ _ _ _ _ _ _ _ _ _ _ _  ⟨hI, hR1, hS1, hl, by omega, by omega, hc3, hc4⟩)
set_option maxHeartbeats 1000000 in
theorem x_s_callS (l0 : Launch) (E : x_E) (G : x_G) (base : Nat) : x_r_callS (x_P0 l0 E G base) := by
  intro y d pc L h rc rs Q nx a b g v l i mc ms As rest hi hsk hna hrs hwd h1c h1s k1
  obtain ⟨hd, rfl⟩ := x_decn 3 hi rfl (by decide)
  obtain ⟨ha, hlink⟩ := x_ckM_spec (x_ckT_spec (x_ck hi))
  have hm := x_okms a ha
  have hw1 := hm.2.2.2.2.2.1 hsk
  intro p e R s m args below meth c H locs cells slots mt mu ls C
  obtain ⟨hI, hRp, hS, hl, hc1, hc2, hc3, hc4⟩ := id C
  obtain ⟨hx, hb, hml, hrt, hlk, hnm, hown, hts, hfr, hlo, hSd⟩ := id hI
  have hM := x_met hm (by rw [hsk]; decide) hwd k1
  have hpre : PreS s H (x_Pc E G base As h) (As.map (x_tv G base)) := ⟨x_blind _ _ _ _ _, x_pre _ hSd hRp hS⟩
  have e9 : (As.reverse ++ rest).map (x_tv G base) = (As.map (x_tv G base)).reverse ++ rest.map (x_tv G base) := by rw [List.map_append, List.map_reverse]
  rw [e9]
  rw [← x_sumt G base] at hrs
  have hna : (As.map (x_tv G base)).length = x_np a := by rw [List.length_map]; exact hna
  rcases hlink with hw | hw
  · refine x_after (va_runS (nL := x_ml y) (Ts := x_U) (own := (x_nm y).cls) ⟨hx, hb, hml, hown, hts⟩ hM (va_cwS (x_np a) hts (fun w hw9 => ?_) rfl rfl rfl hm.2.2.2.1 (x_room hm.2.2.2.2.1 hfr hlo)) hpre rfl hna hl.1 rfl (lv_room hrs) hd ⟨by omega, by omega⟩) hS (fun w h1 H1 locs1 hq hR1 hS1 => x_tret G base w rest ▸ hq _ _ _ _ _ _ _ _ _ _ _ _ _ _ _ _  ⟨hI, hR1, hS1, hl, by omega, by omega, hc3, hc4⟩)
    unfold va_wsS at hw9
    rcases List.mem_append.mp hw9 with q | q
    · simp only [List.mem_cons, List.not_mem_nil, or_false] at q
      rcases q with rfl | rfl | rfl
      · exact x_gW (x_inU hw rfl)
      · exact x_gW hw1
      · exact x_gW hm.2.1
    · exact x_good hm w q
  · exact x_after (va_runSN (nL := x_ml y) (Ts := x_U) (own := (x_nm y).cls) ⟨hx, hb, hml, hown, hts⟩ hM ⟨va_cnB (x_np a) hts (x_good hm) rfl rfl rfl (hSd.2.2.1 _ (List.mem_of_getElem? hw) rfl) (hts _ (x_inW hm.2.1)) hm.2.2.2.1 (x_room hm.2.2.2.2.1 hfr hlo), hts _ (x_inW hw1), trivial⟩ hpre rfl hna hl.1 rfl (lv_room hrs) hd ⟨by omega, by omega⟩) hS (fun w h1 H1 locs1 hq hR1 hS1 => x_tret G base w rest ▸ hq _ _ _ _ _ _ _ _ _ _ _ _ _ _ _ _  ⟨hI, hR1, hS1, hl, by omega, by omega, hc3, hc4⟩)
set_option maxHeartbeats 1000000 in
theorem x_s_callI (l0 : Launch) (E : x_E) (G : x_G) (base : Nat) : x_r_callI (x_P0 l0 E G base) := by
  intro y d pc L h rc rs Q nx a b g v l i mc ms As rest o hi hsk hna hrs hwd h1c h1s k1
  obtain ⟨hd, rfl⟩ := x_decn 3 hi rfl (by decide)
  obtain ⟨ha, hlink⟩ := x_ckM_spec (x_ckJ_spec (x_ck hi))
  have hm := x_okms a ha
  obtain ⟨hw1, hw2, hw3⟩ := hm.2.2.2.2.2.2.2.1 hsk
  intro p e R s m args below meth c H locs cells slots mt mu ls C
  obtain ⟨hI, hRp, hS, hl, hc1, hc2, hc3, hc4⟩ := id C
  obtain ⟨hx, hb, hml, hrt, hlk, hnm, hown, hts, hfr, hlo, hSd⟩ := id hI
  have hM := x_met hm (by rw [hsk]; decide) hwd k1
  have hcode := hm.1
  have hG : GoodIn x_U (x_ws a) := x_good hm
  have hwe : x_ws a = Cond.code (x_nm a) (x_by a) (x_ml a) none :: x_U := by unfold x_ws; rw [hw3]
  have hpre : PreS s H (x_Pc E G base (.ref o :: As) h) (.ref (x_ta G base o) :: As.map (x_tv G base)) := ⟨x_blind _ _ _ _ _, x_pre (.ref o :: As) hSd hRp hS⟩
  have e9 : (As.reverse ++ .ref o :: rest).map (x_tv G base) = (As.map (x_tv G base)).reverse ++ .ref (x_ta G base o) :: rest.map (x_tv G base) := by rw [List.map_append, List.map_reverse, List.map_cons]; rfl
  rw [e9]
  rw [← x_sumt G base] at hrs
  have hna : (As.map (x_tv G base)).length = x_np a := by rw [List.length_map]; exact hna
  rcases hlink with hw | hw
  · exact x_after (va_runI (nL := x_ml y) (Ts := x_U) (own := (x_nm y).cls) ⟨hx, hb, hml, hown, hts⟩ hM (cwI (x_np a) hts hG hwe rfl rfl (hts _ (x_inW hm.2.1)) (hts _ (x_inW (x_inU hw rfl))) (hts _ (x_inW hw1)) hw2 hm.2.2.2.1 (x_room hm.2.2.2.2.1 hfr hlo)) hpre rfl hna hl.1 rfl (lv_room hrs) hd ⟨by omega, by omega⟩) hS (fun w h1 H1 locs1 hq hR1 hS1 => x_tret G base w rest ▸ hq _ _ _ _ _ _ _ _ _ _ _ _ _ _ _ _  ⟨hI, hR1, hS1, hl, by omega, by omega, hc3, hc4⟩)
  · exact x_after (va_runIN (nL := x_ml y) (Ts := x_U) (own := (x_nm y).cls) ⟨hx, hb, hml, hown, hts⟩ hM ⟨va_cnB (x_np a) hts hG hwe rfl rfl (hSd.2.2.1 _ (List.mem_of_getElem? hw) rfl) (hts _ (x_inW hm.2.1)) hm.2.2.2.1 (x_room hm.2.2.2.2.1 hfr hlo), hw2, hts _ (x_inW hw1)⟩ hpre rfl hna hl.1 rfl (lv_room hrs) hd ⟨by omega, by omega⟩) hS (fun w h1 H1 locs1 hq hR1 hS1 => x_tret G base w rest ▸ hq _ _ _ _ _ _ _ _ _ _ _ _ _ _ _ _  ⟨hI, hR1, hS1, hl, by omega, by omega, hc3, hc4⟩)
set_option maxHeartbeats 1000000 in
theorem x_s_callVs (l0 : Launch) (E : x_E) (G : x_G) (base : Nat) : x_r_callVs (x_P0 l0 E G base) := by
  intro y d pc L h rc rs Q nx a b g v l i mc ms As rest k iz hi hsk hna hos hrs hwd h1c h1s k1
  obtain ⟨hd, rfl⟩ := x_decn 3 hi rfl (by decide)
  obtain ⟨ha, hlink⟩ := x_ckM_spec (x_ckV_spec (x_ck hi))
  have hm := x_okms a ha
  obtain ⟨hw1, hw2⟩ := hm.2.2.2.2.2.2.1 hsk
  intro p e R s m args below meth c H locs cells slots mt mu ls C
  obtain ⟨hI, hRp, hS, hl, hc1, hc2, hc3, hc4⟩ := id C
  obtain ⟨hx, hb, hml, hrt, hlk, hnm, hown, hts, hfr, hlo, hSd⟩ := id hI
  have hM := x_met hm (by rw [hsk]; decide) hwd k1
  obtain ⟨cell, z1, z2, z3, -⟩ := (hSd.2.1.2.1 _ _ hos).kept hS.2.1
  have ev : x_tv G base (.ref (1000000 + iz)) = .ref (G.2.2 iz) := by rw [← x_tas (base := base)]; rfl
  have hpre : PreV s H (x_nm a).cls (G.2.2 iz) (x_Pc E G base (.ref (1000000 + iz) :: As) h) (As.map (x_tv G base)) := ⟨x_blind _ _ _ _ _, ⟨cell, z1, z2, z3⟩, ev ▸ x_pre (.ref (1000000 + iz) :: As) hSd hRp hS⟩
  have e9 : (As.reverse ++ .ref (1000000 + iz) :: rest).map (x_tv G base) = (As.map (x_tv G base)).reverse ++ .ref (G.2.2 iz) :: rest.map (x_tv G base) := by rw [List.map_append, List.map_reverse, List.map_cons, ev]
  rw [e9]
  rw [← x_sumt G base] at hrs
  have hna : (As.map (x_tv G base)).length = x_np a := by rw [List.length_map]; exact hna
  rcases hlink with hw | hw
  · refine x_after (va_runV (nL := x_ml y) (Ts := x_U) (own := (x_nm y).cls) ⟨hx, hb, hml, hown, hts⟩ hM (cwV (x_np a) hts (fun w hw9 => ?_) rfl rfl rfl ⟨rfl, hm.2.2.2.1⟩ (x_room hm.2.2.2.2.1 hfr hlo)) hpre rfl hna hl.1 rfl (lv_room hrs) hd ⟨by omega, by omega⟩) hS (fun w h1 H1 locs1 hq hR1 hS1 => x_tret G base w rest ▸ hq _ _ _ _ _ _ _ _ _ _ _ _ _ _ _ _  ⟨hI, hR1, hS1, hl, by omega, by omega, hc3, hc4⟩)
    unfold wsV at hw9
    rcases List.mem_append.mp hw9 with q | q
    · simp only [List.mem_cons, List.not_mem_nil, or_false] at q
      rcases q with rfl | rfl | rfl | rfl
      · exact x_gW (x_inU hw rfl)
      · exact x_gW hw1
      · exact x_gW hw2
      · exact x_gW hm.2.1
    · exact x_good hm w q
  · exact x_after (va_runVN (nL := x_ml y) (Ts := x_U) (own := (x_nm y).cls) ⟨hx, hb, hml, hown, hts⟩ hM ⟨va_cnB (x_np a) hts (x_good hm) rfl rfl rfl (hSd.2.2.1 _ (List.mem_of_getElem? hw) rfl) (hts _ (x_inW hm.2.1)) hm.2.2.2.1 (x_room hm.2.2.2.2.1 hfr hlo), hts _ (x_inW hw1), hts _ (x_inW hw2)⟩ hpre rfl hna hl.1 rfl (lv_room hrs) hd ⟨by omega, by omega⟩) hS (fun w h1 H1 locs1 hq hR1 hS1 => x_tret G base w rest ▸ hq _ _ _ _ _ _ _ _ _ _ _ _ _ _ _ _  ⟨hI, hR1, hS1, hl, by omega, by omega, hc3, hc4⟩)
set_option maxHeartbeats 1000000 in
theorem x_s_callU (l0 : Launch) (E : x_E) (G : x_G) (base : Nat) : x_r_callU (x_P0 l0 E G base) := by
  intro y d pc L h rc rs Q nx a b g v l i mc ms rest k iz hi hsk hna hos hrs hwd h1c h1s k1
  obtain ⟨hd, rfl⟩ := x_decn 3 hi rfl (by decide)
  obtain ⟨ha, hw, hws, hwe⟩ := x_ckU_spec (x_ck hi)
  have hm := x_okms a ha
  have hw1 := hm.2.2.2.2.2.2.2.2 hsk
  intro p e R s m args below meth c H locs cells slots mt mu ls C
  obtain ⟨hI, hRp, hS, hl, hc1, hc2, hc3, hc4⟩ := id C
  obtain ⟨hx, hb, hml, hrt, hlk, hnm, hown, hts, hfr, hlo, hSd⟩ := id hI
  have hM := x_met (vs := [.ref (1000000 + iz)]) hm (by rw [hsk]; decide) hwd k1
  obtain ⟨cell, z1, z2, z3, -⟩ := (hSd.2.1.2.1 _ _ hos).kept hS.2.1
  have ev : x_tv G base (.ref (1000000 + iz)) = .ref (G.2.2 iz) := by rw [← x_tas (base := base)]; rfl
  have hpre : PreV s H (x_ecl g) (G.2.2 iz) (x_Pc E G base [.ref (1000000 + iz)] h) [] := ⟨x_blind _ _ _ _ _, ⟨cell, z1, z2, z3⟩, ev ▸ x_pre [.ref (1000000 + iz)] hSd hRp hS⟩
  rw [x_s1]
  rw [← x_sumt G base] at hrs
  refine x_after (va_runU (nL := x_ml y) (Ts := x_U) (own := (x_nm y).cls) (As := []) ⟨hx, hb, hml, hown, hts⟩ hM (va_cwU (owner := (x_nm a).cls) (x := ⟨x_ecl g, (x_nm a).name, (x_nm a).desc⟩) 0 hts (fun w hw9 => ?_) rfl rfl rfl rfl (by rw [← hna]; exact hm.2.2.2.1) (x_room hm.2.2.2.2.1 hfr hlo)) hpre rfl rfl hl.1 rfl (lv_room hrs) hd ⟨by omega, by omega⟩) hS (fun w h1 H1 locs1 hq hR1 hS1 => x_tret G base w rest ▸ hq _ _ _ _ _ _ _ _ _ _ _ _ _ _ _ _  ⟨hI, hR1, hS1, hl, by omega, by omega, hc3, hc4⟩)
  unfold va_wsU at hw9
  rcases List.mem_append.mp hw9 with q | q
  · simp only [List.mem_cons, List.not_mem_nil, or_false] at q
    rcases q with rfl | rfl | rfl | rfl | rfl
    · exact x_gW (x_inU hw rfl)
    · exact x_gW (x_inU hws rfl)
    · exact x_gW (x_inU hwe rfl)
    · exact x_gW hw1
    · exact x_gW hm.2.1
  · exact x_good hm w q
set_option maxHeartbeats 1000000 in
theorem x_s_mmin (l0 : Launch) (E : x_E) (G : x_G) (base : Nat) : x_r_mmin (x_P0 l0 E G base) := by
  intro y d pc L st h rc rs Q nx b g v l i p0 q0 hi hrs k1
  obtain ⟨hd, rfl⟩ := x_decn 3 hi rfl (by decide)
  obtain ⟨-, hlink⟩ := x_ckM_spec (x_ckT_spec (x_ck hi))
  rw [← x_sumt G base] at hrs
  intro p e R s m args below meth c H locs cells slots mt mu ls C
  obtain ⟨hI, hRp, hS, hl, hc1, hc2, hc3, hc4⟩ := id C
  obtain ⟨hx, hb, hml, hrt, hlk, hnm, hown, hts, hfr, hlo, hSd⟩ := id hI
  have e0 : x_nm 92 = Lib.Math.min.name := by decide +kernel
  rw [e0] at hlink
  rcases hlink with hw | hw
  · exact va_mmin hx hb (by rw [hml]; exact hl.1.symm) hown (hts _ (x_inW (x_inU hw rfl))) (hts _ (x_inW x_mi1)) (hts _ (x_inW x_mi2)) (hts _ (x_inW x_mi3)) (by omega) (by omega) (by omega) (by omega) hd (k1 _ _ _ _ _ _ _ _ _ _ _ _ _ _ _ _  C)
  · exact absurd (List.mem_of_getElem? hw) x_mi4
set_option maxHeartbeats 1000000 in
theorem x_s_objI (l0 : Launch) (E : x_E) (G : x_G) (base : Nat) : x_r_objI (x_P0 l0 E G base) := by
  intro y d pc L st h rc rs Q nx a b g v l i o hi hrs k1
  obtain ⟨hd, rfl⟩ := x_decn 3 hi rfl (by decide)
  have hw := x_ckB_spec (x_ck hi)
  intro p e R s m args below meth c H locs cells slots mt mu ls C
  obtain ⟨hI, hRp, hS, hl, hc1, hc2, hc3, hc4⟩ := id C
  obtain ⟨hx, hb, hml, hrt, hlk, hnm, hown, hts, hfr, hlo, hSd⟩ := id hI
  exact W.objInit hx hb hown (hts _ (x_inW (x_inU hw rfl))) (hts _ (x_inW x_oi1)) (hts _ (x_inW x_oi2)) rfl (by rw [hml]; exact hl.1) rfl hd (by omega) (by show 2 * 0 + _ + 12 ≤ _; rw [x_sumt]; omega) (k1 _ _ _ _ _ _ _ _ _ _ _ _ _ _ _ _  C)
set_option maxHeartbeats 1000000 in
theorem x_s_copyI (l0 : Launch) (E : x_E) (G : x_G) (base : Nat) : x_r_copyI (x_P0 l0 E G base) := by
  intro y d pc L st h rc rs Q nx a b g v l i o1 o2 n1 n2 k sp dp n hi hrs hk1 hk2 hk h1 h2 h3 h4 h5 k1
  subst hk
  obtain ⟨hd, rfl⟩ := x_decn 3 hi rfl (by decide)
  have hw := x_ckA_spec (x_ck hi)
  intro p e R s m args below meth c H locs cells slots mt mu ls C
  obtain ⟨hI, hRp, hS, hl, hc1, hc2, hc3, hc4⟩ := id C
  obtain ⟨hx, hb, hml, hrt, hlk, hnm, hown, hts, hfr, hlo, hSd⟩ := id hI
  obtain ⟨t0, ht0⟩ := x_tys_get G (k := 1) (by decide)
  obtain ⟨hlt2, hta2⟩ := x_lv_lt hRp hk2 (by decide)
  obtain ⟨hlt1, hta1⟩ := x_lv_lt hRp hk1 (by decide)
  have hke2 := hRp.2.1 o2 _ (x_W_get G base hlt2)
  rw [x_e_arr hk2 (by decide), x_conI (by decide)] at hke2
  have hke1 := hRp.2.1 o1 _ (x_W_get G base hlt1)
  rw [x_e_arr hk1 (by decide), x_conI (by decide)] at hke1
  have e9 : (Value.int n :: .int dp :: .ref o2 :: .int sp :: .ref o1 :: st).map (x_tv G base) = Value.int n :: .int dp :: .ref (base + o2) :: .int sp :: .ref (base + o1) :: st.map (x_tv G base) := by rw [← hta1, ← hta2]; rfl
  rw [e9]
  exact x_copyc hx hb (by rw [hml]; exact hl.1.symm) hown (hts _ (x_inW (x_inU hw rfl))) (hts _ (x_inW x_ac1)) (hts _ (x_inW x_ac2)) (hts _ (x_inW x_ac3)) ((hSd.1.2 t0 _ ht0).1) hke1 hke2 h1 h2 h3 h4 h5 (by omega) (by have := x_acw; rw [x_sumt]; omega) hd (fun H1 L1 he hz oq hL1 => k1 _ _ _ _ _ _ _ _ _ _ _ _ _ _ _ _  ⟨hI, x_bkC hRp hlt2 hz oq he (x_a_cI hk2 (by decide) (by decide)), ⟨by rw [hz]; exact hS.1, fun q g1 g2 => (oq q (fun e => g2 (by rw [e]; exact x_Ao))).trans (hS.2.1 q g1 g2), fun q hq => by
    rcases List.mem_append.mp hq with z | z
    · exact hS.2.2 q z
    · rw [hL1 q z]; exact x_Ao⟩, hl, hc1, hc2, hc3, hc4⟩)
