abbrev rm_Dc_write : Room := { frames := 2, cells := 0, slots := 0, locals := 41 }
theorem hd_Dc_write : hdOK yX7_write 1 := by decide +kernel
theorem in_X7_write_X7 : ∀ w ∈ wsX70, w ∈ wsX7_write := by decide +kernel
set_option maxRecDepth 100000 in
set_option maxHeartbeats 4000000 in
theorem c_Dc_write (l : Launch) (E : En4) (dc0 le0 le1 rd0 rd1 dr0 dr1 dr2 dr3 dr4 pl0 pl1 pl2 pl3 pl4 pa0 pa1 pr0 pr1 pr2 pr3 tr0 tr1 tr2 tr3 pt0 pt1 ca0 cb0 cc0 cd0 : Nat) (sz : Nat) (le_length : Int32) (le_signs : Nat → Int32) (rd_numbers : Nat → Int32) (dr_places : Int32) (dr_links : Int32) (dr_mostDrawn : Int32) (dr_ofTen : Int32) (dr_z : Int32) (dr_lengths : Nat → Int32) (dr_told : Nat → Int32) (dr_delays : Nat → Int32) (dr_fractions : Nat → Int32) (pl_places : Int32) (pl_links : Int32) (pl_mostDrawn : Int32) (pl_ofTen : Int32) (pl_z : Int32) (pl_lengths : Nat → Int32) (pl_told : Nat → Int32) (pl_delays : Nat → Int32) (pl_fractions : Nat → Int32) (pa_sums : Nat → Int32) (pr_greatestDelay : Int32) (pr_delays : Nat → Int32) (pr_fractions : Nat → Int32) (pr_heads : Nat → Int32) (tr_greatestDelay : Int32) (tr_delays : Nat → Int32) (tr_fractions : Nat → Int32) (tr_heads : Nat → Int32) (pt_next : Int32) (pt_kept : Int32) (hk_kind : Nat → Int32) (hk_i : Nat → Int32) (hk_j : Nat → Int32) (hk_length : Nat → Int32) (hk_wasTold : Nat → Int32) (hk_d : Nat → Int32) (hk_f : Nat → Int32) (hk_z : Nat → Int32) (a1 : Int32)  (res : Int32 × Int32 × (Nat → Int32)) (hf : Dc_write le_length le_signs a1 = some res) : Met l yX7_write wsX7_write rm_Dc_write (pcM [.ref dc0, .int a1] E sz (w_Dc E dc0 le0 le1 rd0 rd1 dr0 dr1 dr2 dr3 dr4 pl0 pl1 pl2 pl3 pl4 pa0 pa1 pr0 pr1 pr2 pr3 tr0 tr1 tr2 tr3 pt0 pt1 ca0 cb0 cc0 cd0 le_length le_signs rd_numbers dr_places dr_links dr_mostDrawn dr_ofTen dr_z dr_lengths dr_told dr_delays dr_fractions pl_places pl_links pl_mostDrawn pl_ofTen pl_z pl_lengths pl_told pl_delays pl_fractions pa_sums pr_greatestDelay pr_delays pr_fractions pr_heads tr_greatestDelay tr_delays tr_fractions tr_heads pt_next pt_kept hk_kind hk_i hk_j hk_length hk_wasTold hk_d hk_f hk_z)) (QMi E sz (w_Dc E dc0 le0 le1 rd0 rd1 dr0 dr1 dr2 dr3 dr4 pl0 pl1 pl2 pl3 pl4 pa0 pa1 pr0 pr1 pr2 pr3 tr0 tr1 tr2 tr3 pt0 pt1 ca0 cb0 cc0 cd0 le_length le_signs rd_numbers dr_places dr_links dr_mostDrawn dr_ofTen dr_z dr_lengths dr_told dr_delays dr_fractions pl_places pl_links pl_mostDrawn pl_ofTen pl_z pl_lengths pl_told pl_delays pl_fractions pa_sums pr_greatestDelay pr_delays pr_fractions pr_heads tr_greatestDelay tr_delays tr_fractions tr_heads pt_next pt_kept hk_kind hk_i hk_j hk_length hk_wasTold hk_d hk_f hk_z) (fun (u : Int32 × (Nat → Int32)) => (w_Dc E dc0 le0 le1 rd0 rd1 dr0 dr1 dr2 dr3 dr4 pl0 pl1 pl2 pl3 pl4 pa0 pa1 pr0 pr1 pr2 pr3 tr0 tr1 tr2 tr3 pt0 pt1 ca0 cb0 cc0 cd0 u.1 u.2 rd_numbers dr_places dr_links dr_mostDrawn dr_ofTen dr_z dr_lengths dr_told dr_delays dr_fractions pl_places pl_links pl_mostDrawn pl_ofTen pl_z pl_lengths pl_told pl_delays pl_fractions pa_sums pr_greatestDelay pr_delays pr_fractions pr_heads tr_greatestDelay tr_delays tr_fractions tr_heads pt_next pt_kept hk_kind hk_i hk_j hk_length hk_wasTold hk_d hk_f hk_z)) res) 0 0 (va_A (w_Dc E dc0 le0 le1 rd0 rd1 dr0 dr1 dr2 dr3 dr4 pl0 pl1 pl2 pl3 pl4 pa0 pa1 pr0 pr1 pr2 pr3 tr0 tr1 tr2 tr3 pt0 pt1 ca0 cb0 cc0 cd0 le_length le_signs rd_numbers dr_places dr_links dr_mostDrawn dr_ofTen dr_z dr_lengths dr_told dr_delays dr_fractions pl_places pl_links pl_mostDrawn pl_ofTen pl_z pl_lengths pl_told pl_delays pl_fractions pa_sums pr_greatestDelay pr_delays pr_fractions pr_heads tr_greatestDelay tr_delays tr_fractions tr_heads pt_next pt_kept hk_kind hk_i hk_j hk_length hk_wasTold hk_d hk_f hk_z) sz) := by
  refine mk_Mi (cc := cX7_write) (maxL := 2) (by decide) rfl (Nat.le_of_ble_eq_true rfl) ?_
  intro p e s m args below meth c Q A S hKN hA hret H locs ls hP hD hS hl
  obtain ⟨hx, hb, hml, hown, hts⟩ := S
  obtain ⟨hK, hN⟩ := hKN
  have hl : lv_has ls 2 [(0, .ref dc0), (1, .int a1)] := hl
  have q_0 := hts (.fieldLink RX7 10 "DelayClusters" "text" "LDelayClusters$Letters;") (by decide +kernel)
  unfold Dc_write at hf
  refine lv_iload_n hx hb dX7_write_0 rfl (lv_at hl 1 rfl) ?_
  refine lv_bipush (v := 32) hx hb dX7_write_1 (by decide) ?_
  refine lv_bipush (v := 126) hx hb dX7_write_3 (by decide) ?_
  obtain ⟨r_2, h_1, hf⟩ := bd_s hf
  refine ca_S (As := [.int a1, .int 32, .int 126]) (rest := []) ⟨hx, hb, hml, hown, hts⟩ ⟨hK, hN⟩ hP (c_Dc_isWithin l E   a1 32 126 r_2 h_1) [] rfl gX7_write_X7_isWithin rfl rfl rfl hd_Dc_isWithin ⟨(Nat.le_of_ble_eq_true rfl), (Nat.le_of_ble_eq_true rfl)⟩ rfl hl.1 rfl (Nat.le_of_ble_eq_true rfl) dX7_write_5 ⟨(Nat.zero_le _), (Nat.zero_le _)⟩ ?_
  refine lv_if_ne (tgt := 13) hx hb dX7_write_8 (by decide) (fun c_11 => ?_) (fun c_11 => ?_)
  · have hf := ite_f c_11 hf
    refine lv_aload_n hx hb dX7_write_13 rfl (lv_at hl 0 rfl) ?_
    refine va_get (D := E.1) (ci := 7) (v := .ref le0) (C := RX7) (T := TX7) (N := 7) hx hb hts in_X7_write_X7 hown hK hP 0 rfl rfl 0 (by decide) q_0 (fun _ h9 => h9) rfl dX7_write_14 ?_
    obtain ⟨r_4, h_3, hf⟩ := bd_s hf
    refine ca_V (As := []) (rest := []) ⟨hx, hb, hml, hown, hts⟩ ⟨hK, hN⟩ hP (c_Le_isFull l E le0 le1 le_length le_signs r_4 h_3) [1, 2] rfl 2 1 rfl rfl rfl gX7_write_X2_isFull rfl rfl rfl rfl hd_Le_isFull ⟨(Nat.le_of_ble_eq_true rfl), (Nat.le_of_ble_eq_true rfl)⟩ rfl hl.1 rfl (Nat.le_of_ble_eq_true rfl) dX7_write_17 ⟨(Nat.zero_le _), (Nat.zero_le _)⟩ ?_
    refine lv_if_eq (tgt := 26) hx hb dX7_write_20 (by decide) (fun c_10 => ?_) (fun c_10 => ?_)
    · have hf := ite_t c_10 hf
      refine lv_aload_n hx hb dX7_write_26 rfl (lv_at hl 0 rfl) ?_
      refine va_get (D := E.1) (ci := 7) (v := .ref le0) (C := RX7) (T := TX7) (N := 7) hx hb hts in_X7_write_X7 hown hK hP 0 rfl rfl 0 (by decide) q_0 (fun _ h9 => h9) rfl dX7_write_27 ?_
      refine lv_iload_n hx hb dX7_write_30 rfl (lv_at hl 1 rfl) ?_
      obtain ⟨⟨le_length_6, le_signs_7⟩, h_5, hf⟩ := bd_s hf
      try dsimp only at hf
      refine ca_Mv (w2 := (w_Dc E dc0 le0 le1 rd0 rd1 dr0 dr1 dr2 dr3 dr4 pl0 pl1 pl2 pl3 pl4 pa0 pa1 pr0 pr1 pr2 pr3 tr0 tr1 tr2 tr3 pt0 pt1 ca0 cb0 cc0 cd0 le_length_6 le_signs_7 rd_numbers dr_places dr_links dr_mostDrawn dr_ofTen dr_z dr_lengths dr_told dr_delays dr_fractions pl_places pl_links pl_mostDrawn pl_ofTen pl_z pl_lengths pl_told pl_delays pl_fractions pa_sums pr_greatestDelay pr_delays pr_fractions pr_heads tr_greatestDelay tr_delays tr_fractions tr_heads pt_next pt_kept hk_kind hk_i hk_j hk_length hk_wasTold hk_d hk_f hk_z)) (As := [.int a1]) (rest := []) ⟨hx, hb, hml, hown, hts⟩ ⟨hK, hN⟩ hP hD hS hA (c_Le_append l E le0 le1 H.size le_length le_signs a1 (le_length_6, le_signs_7) h_5) [1, 2] [0, 3, 4, 5, 6, 7, 8, 9, 10, 11, 12, 13, 14, 15, 16, 17, 18, 19, 20, 21, 22, 23, 24, 25, 26, 27, 28, 29, 30] [0, 29, 30, 1, 2, 3, 4, 5, 6, 7, 8, 9, 10, 11, 12, 13, 14, 15, 16, 17, 18, 19, 20, 21, 22, 23, 24, 25, 26, 27, 28] rfl rfl rfl rfl (by decide) rfl rfl 2 1 rfl rfl rfl gX7_write_X2_append rfl rfl rfl rfl hd_Le_append ⟨(Nat.le_of_ble_eq_true rfl), (Nat.le_of_ble_eq_true rfl)⟩ rfl hl.1 rfl (Nat.le_of_ble_eq_true rfl) dX7_write_31 ⟨(Nat.zero_le _), (Nat.zero_le _)⟩ (fun H locs hP hD hS => ?_)
      refine lv_aload_n hx hb dX7_write_34 rfl (lv_at hl 0 rfl) ?_
      refine va_get (D := E.1) (ci := 7) (v := .ref le0) (C := RX7) (T := TX7) (N := 7) hx hb hts in_X7_write_X7 hown hK hP 0 rfl rfl 0 (by decide) q_0 (fun _ h9 => h9) rfl dX7_write_35 ?_
      obtain ⟨r_9, h_8, hf⟩ := bd_s hf
      refine ca_V (As := []) (rest := []) ⟨hx, hb, hml, hown, hts⟩ ⟨hK, hN⟩ hP (c_Le_size l E le0 le1 le_length_6 le_signs_7 r_9 h_8) [1, 2] rfl 2 1 rfl rfl rfl gX7_write_X2_size rfl rfl rfl rfl hd_Le_size ⟨(Nat.le_of_ble_eq_true rfl), (Nat.le_of_ble_eq_true rfl)⟩ rfl hl.1 rfl (Nat.le_of_ble_eq_true rfl) dX7_write_38 ⟨(Nat.zero_le _), (Nat.zero_le _)⟩ ?_
      exact hret H locs ls 41 r_9 (le_length_6, le_signs_7) dX7_write_41 (Option.some.inj hf) hP hD hS
    · have hf := ite_f c_10 hf
      refine lv_bipush (v := (-3)) hx hb dX7_write_23 (by decide) ?_
      exact hret H locs ls 25 (-3) (le_length, le_signs) dX7_write_25 (Option.some.inj hf) hP hD hS
  · have hf := ite_t c_11 hf
    refine lv_iconst (v := (-1)) hx hb dX7_write_11 (by decide) ?_
    exact hret H locs ls 12 (-1) (le_length, le_signs) dX7_write_12 (Option.some.inj hf) hP hD hS
abbrev rm_Dc_wipe : Room := { frames := 1, cells := 0, slots := 0, locals := 20 }
theorem hd_Dc_wipe : hdOK yX7_wipe 0 := by decide +kernel
theorem in_X7_wipe_X7 : ∀ w ∈ wsX70, w ∈ wsX7_wipe := by decide +kernel
set_option maxRecDepth 100000 in
set_option maxHeartbeats 4000000 in
theorem c_Dc_wipe (l : Launch) (E : En4) (dc0 le0 le1 rd0 rd1 dr0 dr1 dr2 dr3 dr4 pl0 pl1 pl2 pl3 pl4 pa0 pa1 pr0 pr1 pr2 pr3 tr0 tr1 tr2 tr3 pt0 pt1 ca0 cb0 cc0 cd0 : Nat) (sz : Nat) (le_length : Int32) (le_signs : Nat → Int32) (rd_numbers : Nat → Int32) (dr_places : Int32) (dr_links : Int32) (dr_mostDrawn : Int32) (dr_ofTen : Int32) (dr_z : Int32) (dr_lengths : Nat → Int32) (dr_told : Nat → Int32) (dr_delays : Nat → Int32) (dr_fractions : Nat → Int32) (pl_places : Int32) (pl_links : Int32) (pl_mostDrawn : Int32) (pl_ofTen : Int32) (pl_z : Int32) (pl_lengths : Nat → Int32) (pl_told : Nat → Int32) (pl_delays : Nat → Int32) (pl_fractions : Nat → Int32) (pa_sums : Nat → Int32) (pr_greatestDelay : Int32) (pr_delays : Nat → Int32) (pr_fractions : Nat → Int32) (pr_heads : Nat → Int32) (tr_greatestDelay : Int32) (tr_delays : Nat → Int32) (tr_fractions : Nat → Int32) (tr_heads : Nat → Int32) (pt_next : Int32) (pt_kept : Int32) (hk_kind : Nat → Int32) (hk_i : Nat → Int32) (hk_j : Nat → Int32) (hk_length : Nat → Int32) (hk_wasTold : Nat → Int32) (hk_d : Nat → Int32) (hk_f : Nat → Int32) (hk_z : Nat → Int32)  (res : Int32 × Int32) (hf : Dc_wipe le_length = some res) : Met l yX7_wipe wsX7_wipe rm_Dc_wipe (pcM [.ref dc0] E sz (w_Dc E dc0 le0 le1 rd0 rd1 dr0 dr1 dr2 dr3 dr4 pl0 pl1 pl2 pl3 pl4 pa0 pa1 pr0 pr1 pr2 pr3 tr0 tr1 tr2 tr3 pt0 pt1 ca0 cb0 cc0 cd0 le_length le_signs rd_numbers dr_places dr_links dr_mostDrawn dr_ofTen dr_z dr_lengths dr_told dr_delays dr_fractions pl_places pl_links pl_mostDrawn pl_ofTen pl_z pl_lengths pl_told pl_delays pl_fractions pa_sums pr_greatestDelay pr_delays pr_fractions pr_heads tr_greatestDelay tr_delays tr_fractions tr_heads pt_next pt_kept hk_kind hk_i hk_j hk_length hk_wasTold hk_d hk_f hk_z)) (QMi E sz (w_Dc E dc0 le0 le1 rd0 rd1 dr0 dr1 dr2 dr3 dr4 pl0 pl1 pl2 pl3 pl4 pa0 pa1 pr0 pr1 pr2 pr3 tr0 tr1 tr2 tr3 pt0 pt1 ca0 cb0 cc0 cd0 le_length le_signs rd_numbers dr_places dr_links dr_mostDrawn dr_ofTen dr_z dr_lengths dr_told dr_delays dr_fractions pl_places pl_links pl_mostDrawn pl_ofTen pl_z pl_lengths pl_told pl_delays pl_fractions pa_sums pr_greatestDelay pr_delays pr_fractions pr_heads tr_greatestDelay tr_delays tr_fractions tr_heads pt_next pt_kept hk_kind hk_i hk_j hk_length hk_wasTold hk_d hk_f hk_z) (fun (u : Int32) => (w_Dc E dc0 le0 le1 rd0 rd1 dr0 dr1 dr2 dr3 dr4 pl0 pl1 pl2 pl3 pl4 pa0 pa1 pr0 pr1 pr2 pr3 tr0 tr1 tr2 tr3 pt0 pt1 ca0 cb0 cc0 cd0 u le_signs rd_numbers dr_places dr_links dr_mostDrawn dr_ofTen dr_z dr_lengths dr_told dr_delays dr_fractions pl_places pl_links pl_mostDrawn pl_ofTen pl_z pl_lengths pl_told pl_delays pl_fractions pa_sums pr_greatestDelay pr_delays pr_fractions pr_heads tr_greatestDelay tr_delays tr_fractions tr_heads pt_next pt_kept hk_kind hk_i hk_j hk_length hk_wasTold hk_d hk_f hk_z)) res) 0 0 (va_A (w_Dc E dc0 le0 le1 rd0 rd1 dr0 dr1 dr2 dr3 dr4 pl0 pl1 pl2 pl3 pl4 pa0 pa1 pr0 pr1 pr2 pr3 tr0 tr1 tr2 tr3 pt0 pt1 ca0 cb0 cc0 cd0 le_length le_signs rd_numbers dr_places dr_links dr_mostDrawn dr_ofTen dr_z dr_lengths dr_told dr_delays dr_fractions pl_places pl_links pl_mostDrawn pl_ofTen pl_z pl_lengths pl_told pl_delays pl_fractions pa_sums pr_greatestDelay pr_delays pr_fractions pr_heads tr_greatestDelay tr_delays tr_fractions tr_heads pt_next pt_kept hk_kind hk_i hk_j hk_length hk_wasTold hk_d hk_f hk_z) sz) := by
  refine mk_Mi (cc := cX7_wipe) (maxL := 2) (by decide) rfl (Nat.le_of_ble_eq_true rfl) ?_
  intro p e s m args below meth c Q A S hKN hA hret H locs ls hP hD hS hl
  obtain ⟨hx, hb, hml, hown, hts⟩ := S
  obtain ⟨hK, hN⟩ := hKN
  have hl : lv_has ls 2 [(0, .ref dc0)] := hl
  have q_0 := hts (.fieldLink RX7 10 "DelayClusters" "text" "LDelayClusters$Letters;") (by decide +kernel)
  unfold Dc_wipe at hf
  refine lv_aload_n hx hb dX7_wipe_0 rfl (lv_at hl 0 rfl) ?_
  refine va_get (D := E.1) (ci := 7) (v := .ref le0) (C := RX7) (T := TX7) (N := 7) hx hb hts in_X7_wipe_X7 hown hK hP 0 rfl rfl 0 (by decide) q_0 (fun _ h9 => h9) rfl dX7_wipe_1 ?_
  obtain ⟨r_2, h_1, hf⟩ := bd_s hf
  refine ca_V (As := []) (rest := []) ⟨hx, hb, hml, hown, hts⟩ ⟨hK, hN⟩ hP (c_Le_size l E le0 le1 le_length le_signs r_2 h_1) [1, 2] rfl 2 1 rfl rfl rfl gX7_wipe_X2_size rfl rfl rfl rfl hd_Le_size ⟨(Nat.le_of_ble_eq_true rfl), (Nat.le_of_ble_eq_true rfl)⟩ rfl hl.1 rfl (Nat.le_of_ble_eq_true rfl) dX7_wipe_4 ⟨(Nat.zero_le _), (Nat.zero_le _)⟩ ?_
  refine lv_istore_n (lv' := [(1, .int r_2), (0, .ref dc0)]) hx hb dX7_wipe_7 rfl hl (by decide) rfl (fun ls hl => ?_)
  refine lv_aload_n hx hb dX7_wipe_8 rfl (lv_at hl 1 rfl) ?_
  refine va_get (D := E.1) (ci := 7) (v := .ref le0) (C := RX7) (T := TX7) (N := 7) hx hb hts in_X7_wipe_X7 hown hK hP 0 rfl rfl 0 (by decide) q_0 (fun _ h9 => h9) rfl dX7_wipe_9 ?_
  obtain ⟨le_length_4, h_3, hf⟩ := bd_s hf
  try dsimp only at hf
  refine ca_Mv (w2 := (w_Dc E dc0 le0 le1 rd0 rd1 dr0 dr1 dr2 dr3 dr4 pl0 pl1 pl2 pl3 pl4 pa0 pa1 pr0 pr1 pr2 pr3 tr0 tr1 tr2 tr3 pt0 pt1 ca0 cb0 cc0 cd0 le_length_4 le_signs rd_numbers dr_places dr_links dr_mostDrawn dr_ofTen dr_z dr_lengths dr_told dr_delays dr_fractions pl_places pl_links pl_mostDrawn pl_ofTen pl_z pl_lengths pl_told pl_delays pl_fractions pa_sums pr_greatestDelay pr_delays pr_fractions pr_heads tr_greatestDelay tr_delays tr_fractions tr_heads pt_next pt_kept hk_kind hk_i hk_j hk_length hk_wasTold hk_d hk_f hk_z)) (As := []) (rest := []) ⟨hx, hb, hml, hown, hts⟩ ⟨hK, hN⟩ hP hD hS hA (c_Le_clear l E le0 le1 H.size le_length le_signs le_length_4 h_3) [1, 2] [0, 3, 4, 5, 6, 7, 8, 9, 10, 11, 12, 13, 14, 15, 16, 17, 18, 19, 20, 21, 22, 23, 24, 25, 26, 27, 28, 29, 30] [0, 29, 30, 1, 2, 3, 4, 5, 6, 7, 8, 9, 10, 11, 12, 13, 14, 15, 16, 17, 18, 19, 20, 21, 22, 23, 24, 25, 26, 27, 28] rfl rfl rfl rfl (by decide) rfl rfl 2 1 rfl rfl rfl gX7_wipe_X2_clear rfl rfl rfl rfl hd_Le_clear ⟨(Nat.le_of_ble_eq_true rfl), (Nat.le_of_ble_eq_true rfl)⟩ rfl hl.1 rfl (Nat.le_of_ble_eq_true rfl) dX7_wipe_12 ⟨(Nat.zero_le _), (Nat.zero_le _)⟩ (fun H locs hP hD hS => ?_)
  refine lv_iload_n hx hb dX7_wipe_15 rfl (lv_at hl 0 rfl) ?_
  exact hret H locs ls 16 r_2 le_length_4 dX7_wipe_16 (Option.some.inj hf) hP hD hS
abbrev rm_Dc_fault : Room := { frames := 5, cells := 0, slots := 0, locals := 117 }
theorem hd_Dc_fault : hdOK yX7_fault 0 := by decide +kernel
theorem in_X7_fault_X7 : ∀ w ∈ wsX70, w ∈ wsX7_fault := by decide +kernel
set_option maxRecDepth 100000 in
set_option maxHeartbeats 4000000 in
theorem c_Dc_fault (l : Launch) (E : En4) (dc0 le0 le1 rd0 rd1 dr0 dr1 dr2 dr3 dr4 pl0 pl1 pl2 pl3 pl4 pa0 pa1 pr0 pr1 pr2 pr3 tr0 tr1 tr2 tr3 pt0 pt1 ca0 cb0 cc0 cd0 : Nat) (sz : Nat) (le_length : Int32) (le_signs : Nat → Int32) (rd_numbers : Nat → Int32) (dr_places : Int32) (dr_links : Int32) (dr_mostDrawn : Int32) (dr_ofTen : Int32) (dr_z : Int32) (dr_lengths : Nat → Int32) (dr_told : Nat → Int32) (dr_delays : Nat → Int32) (dr_fractions : Nat → Int32) (pl_places : Int32) (pl_links : Int32) (pl_mostDrawn : Int32) (pl_ofTen : Int32) (pl_z : Int32) (pl_lengths : Nat → Int32) (pl_told : Nat → Int32) (pl_delays : Nat → Int32) (pl_fractions : Nat → Int32) (pa_sums : Nat → Int32) (pr_greatestDelay : Int32) (pr_delays : Nat → Int32) (pr_fractions : Nat → Int32) (pr_heads : Nat → Int32) (tr_greatestDelay : Int32) (tr_delays : Nat → Int32) (tr_fractions : Nat → Int32) (tr_heads : Nat → Int32) (pt_next : Int32) (pt_kept : Int32) (hk_kind : Nat → Int32) (hk_i : Nat → Int32) (hk_j : Nat → Int32) (hk_length : Nat → Int32) (hk_wasTold : Nat → Int32) (hk_d : Nat → Int32) (hk_f : Nat → Int32) (hk_z : Nat → Int32)  (res : Int32 × (Nat → Int32) × Int32 × Int32 × Int32 × Int32 × Int32 × (Nat → Int32) × (Nat → Int32) × (Nat → Int32) × (Nat → Int32)) (hf : Dc_fault le_length le_signs rd_numbers dr_places dr_links dr_mostDrawn dr_ofTen dr_z dr_lengths dr_told dr_delays dr_fractions = some res) : Met l yX7_fault wsX7_fault rm_Dc_fault (pcM [.ref dc0] E sz (w_Dc E dc0 le0 le1 rd0 rd1 dr0 dr1 dr2 dr3 dr4 pl0 pl1 pl2 pl3 pl4 pa0 pa1 pr0 pr1 pr2 pr3 tr0 tr1 tr2 tr3 pt0 pt1 ca0 cb0 cc0 cd0 le_length le_signs rd_numbers dr_places dr_links dr_mostDrawn dr_ofTen dr_z dr_lengths dr_told dr_delays dr_fractions pl_places pl_links pl_mostDrawn pl_ofTen pl_z pl_lengths pl_told pl_delays pl_fractions pa_sums pr_greatestDelay pr_delays pr_fractions pr_heads tr_greatestDelay tr_delays tr_fractions tr_heads pt_next pt_kept hk_kind hk_i hk_j hk_length hk_wasTold hk_d hk_f hk_z)) (QMi E sz (w_Dc E dc0 le0 le1 rd0 rd1 dr0 dr1 dr2 dr3 dr4 pl0 pl1 pl2 pl3 pl4 pa0 pa1 pr0 pr1 pr2 pr3 tr0 tr1 tr2 tr3 pt0 pt1 ca0 cb0 cc0 cd0 le_length le_signs rd_numbers dr_places dr_links dr_mostDrawn dr_ofTen dr_z dr_lengths dr_told dr_delays dr_fractions pl_places pl_links pl_mostDrawn pl_ofTen pl_z pl_lengths pl_told pl_delays pl_fractions pa_sums pr_greatestDelay pr_delays pr_fractions pr_heads tr_greatestDelay tr_delays tr_fractions tr_heads pt_next pt_kept hk_kind hk_i hk_j hk_length hk_wasTold hk_d hk_f hk_z) (fun (u : (Nat → Int32) × Int32 × Int32 × Int32 × Int32 × Int32 × (Nat → Int32) × (Nat → Int32) × (Nat → Int32) × (Nat → Int32)) => (w_Dc E dc0 le0 le1 rd0 rd1 dr0 dr1 dr2 dr3 dr4 pl0 pl1 pl2 pl3 pl4 pa0 pa1 pr0 pr1 pr2 pr3 tr0 tr1 tr2 tr3 pt0 pt1 ca0 cb0 cc0 cd0 le_length le_signs u.1 u.2.1 u.2.2.1 u.2.2.2.1 u.2.2.2.2.1 u.2.2.2.2.2.1 u.2.2.2.2.2.2.1 u.2.2.2.2.2.2.2.1 u.2.2.2.2.2.2.2.2.1 u.2.2.2.2.2.2.2.2.2 pl_places pl_links pl_mostDrawn pl_ofTen pl_z pl_lengths pl_told pl_delays pl_fractions pa_sums pr_greatestDelay pr_delays pr_fractions pr_heads tr_greatestDelay tr_delays tr_fractions tr_heads pt_next pt_kept hk_kind hk_i hk_j hk_length hk_wasTold hk_d hk_f hk_z)) res) 0 0 (va_A (w_Dc E dc0 le0 le1 rd0 rd1 dr0 dr1 dr2 dr3 dr4 pl0 pl1 pl2 pl3 pl4 pa0 pa1 pr0 pr1 pr2 pr3 tr0 tr1 tr2 tr3 pt0 pt1 ca0 cb0 cc0 cd0 le_length le_signs rd_numbers dr_places dr_links dr_mostDrawn dr_ofTen dr_z dr_lengths dr_told dr_delays dr_fractions pl_places pl_links pl_mostDrawn pl_ofTen pl_z pl_lengths pl_told pl_delays pl_fractions pa_sums pr_greatestDelay pr_delays pr_fractions pr_heads tr_greatestDelay tr_delays tr_fractions tr_heads pt_next pt_kept hk_kind hk_i hk_j hk_length hk_wasTold hk_d hk_f hk_z) sz) := by
  refine mk_Mi (cc := cX7_fault) (maxL := 1) (by decide) rfl (Nat.le_of_ble_eq_true rfl) ?_
  intro p e s m args below meth c Q A S hKN hA hret H locs ls hP hD hS hl
  obtain ⟨hx, hb, hml, hown, hts⟩ := S
  obtain ⟨hK, hN⟩ := hKN
  have hl : lv_has ls 1 [(0, .ref dc0)] := hl
  have q_0 := hts (.fieldLink RX7 19 "DelayClusters" "reader" "LDelayClusters$Reader;") (by decide +kernel)
  have q_1 := hts (.fieldLink RX7 10 "DelayClusters" "text" "LDelayClusters$Letters;") (by decide +kernel)
  unfold Dc_fault at hf
  refine lv_aload_n hx hb dX7_fault_0 rfl (lv_at hl 0 rfl) ?_
  refine va_get (D := E.1) (ci := 7) (v := .ref rd0) (C := RX7) (T := TX7) (N := 7) hx hb hts in_X7_fault_X7 hown hK hP 0 rfl rfl 1 (by decide) q_0 (fun _ h9 => h9) rfl dX7_fault_1 ?_
  refine lv_aload_n hx hb dX7_fault_4 rfl (lv_at hl 0 rfl) ?_
  refine va_get (D := E.1) (ci := 7) (v := .ref le0) (C := RX7) (T := TX7) (N := 7) hx hb hts in_X7_fault_X7 hown hK hP 0 rfl rfl 0 (by decide) q_1 (fun _ h9 => h9) rfl dX7_fault_5 ?_
  obtain ⟨⟨r_2, rd_numbers_3, dr_places_4, dr_links_5, dr_mostDrawn_6, dr_ofTen_7, dr_z_8, dr_lengths_9, dr_told_10, dr_delays_11, dr_fractions_12⟩, h_1, hf⟩ := bd_s hf
  try dsimp only at hf
  refine ca_Mi (w2 := (w_Dc E dc0 le0 le1 rd0 rd1 dr0 dr1 dr2 dr3 dr4 pl0 pl1 pl2 pl3 pl4 pa0 pa1 pr0 pr1 pr2 pr3 tr0 tr1 tr2 tr3 pt0 pt1 ca0 cb0 cc0 cd0 le_length le_signs rd_numbers_3 dr_places_4 dr_links_5 dr_mostDrawn_6 dr_ofTen_7 dr_z_8 dr_lengths_9 dr_told_10 dr_delays_11 dr_fractions_12 pl_places pl_links pl_mostDrawn pl_ofTen pl_z pl_lengths pl_told pl_delays pl_fractions pa_sums pr_greatestDelay pr_delays pr_fractions pr_heads tr_greatestDelay tr_delays tr_fractions tr_heads pt_next pt_kept hk_kind hk_i hk_j hk_length hk_wasTold hk_d hk_f hk_z)) (As := [.ref le0]) (rest := []) ⟨hx, hb, hml, hown, hts⟩ ⟨hK, hN⟩ hP hD hS hA (c_Rd_firstFault l E rd0 rd1 dr0 dr1 dr2 dr3 dr4 le0 le1 H.size rd_numbers dr_places dr_links dr_mostDrawn dr_ofTen dr_z dr_lengths dr_told dr_delays dr_fractions le_length le_signs (r_2, rd_numbers_3, dr_places_4, dr_links_5, dr_mostDrawn_6, dr_ofTen_7, dr_z_8, dr_lengths_9, dr_told_10, dr_delays_11, dr_fractions_12) h_1) [3, 4, 5, 6, 7, 8, 9, 1, 2] [0, 10, 11, 12, 13, 14, 15, 16, 17, 18, 19, 20, 21, 22, 23, 24, 25, 26, 27, 28, 29, 30] [0, 29, 30, 22, 23, 24, 25, 26, 27, 28, 1, 2, 3, 4, 5, 6, 7, 8, 9, 10, 11, 12, 13, 14, 15, 16, 17, 18, 19, 20, 21] rfl rfl rfl rfl (by decide) rfl rfl 6 3 rfl rfl rfl gX7_fault_X6_firstFault rfl rfl rfl rfl hd_Rd_firstFault ⟨(Nat.le_of_ble_eq_true rfl), (Nat.le_of_ble_eq_true rfl)⟩ rfl hl.1 rfl (Nat.le_of_ble_eq_true rfl) dX7_fault_8 ⟨(Nat.zero_le _), (Nat.zero_le _)⟩ (fun H locs hP hD hS => ?_)
  exact hret H locs ls 11 r_2 (rd_numbers_3, dr_places_4, dr_links_5, dr_mostDrawn_6, dr_ofTen_7, dr_z_8, dr_lengths_9, dr_told_10, dr_delays_11, dr_fractions_12) dX7_fault_11 (Option.some.inj hf) hP hD hS
abbrev rm_Dc_settleAll : Room := { frames := 4, cells := 0, slots := 0, locals := 91 }
theorem hd_Dc_settleAll : hdOK yX7_settleAll 0 := by decide +kernel
theorem in_X7_settleAll_X7 : ∀ w ∈ wsX70, w ∈ wsX7_settleAll := by decide +kernel
set_option maxRecDepth 100000 in
set_option maxHeartbeats 4000000 in
theorem c_Dc_settleAll (l : Launch) (E : En4) (dc0 le0 le1 rd0 rd1 dr0 dr1 dr2 dr3 dr4 pl0 pl1 pl2 pl3 pl4 pa0 pa1 pr0 pr1 pr2 pr3 tr0 tr1 tr2 tr3 pt0 pt1 ca0 cb0 cc0 cd0 : Nat) (sz : Nat) (le_length : Int32) (le_signs : Nat → Int32) (rd_numbers : Nat → Int32) (dr_places : Int32) (dr_links : Int32) (dr_mostDrawn : Int32) (dr_ofTen : Int32) (dr_z : Int32) (dr_lengths : Nat → Int32) (dr_told : Nat → Int32) (dr_delays : Nat → Int32) (dr_fractions : Nat → Int32) (pl_places : Int32) (pl_links : Int32) (pl_mostDrawn : Int32) (pl_ofTen : Int32) (pl_z : Int32) (pl_lengths : Nat → Int32) (pl_told : Nat → Int32) (pl_delays : Nat → Int32) (pl_fractions : Nat → Int32) (pa_sums : Nat → Int32) (pr_greatestDelay : Int32) (pr_delays : Nat → Int32) (pr_fractions : Nat → Int32) (pr_heads : Nat → Int32) (tr_greatestDelay : Int32) (tr_delays : Nat → Int32) (tr_fractions : Nat → Int32) (tr_heads : Nat → Int32) (pt_next : Int32) (pt_kept : Int32) (hk_kind : Nat → Int32) (hk_i : Nat → Int32) (hk_j : Nat → Int32) (hk_length : Nat → Int32) (hk_wasTold : Nat → Int32) (hk_d : Nat → Int32) (hk_f : Nat → Int32) (hk_z : Nat → Int32)  (res : (Nat → Int32) × Int32 × (Nat → Int32) × (Nat → Int32) × (Nat → Int32)) (hf : Dc_settleAll pl_places pl_mostDrawn pl_ofTen pl_z pl_lengths pl_told pl_delays pl_fractions pa_sums pr_greatestDelay pr_delays pr_fractions pr_heads = some res) : Met l yX7_settleAll wsX7_settleAll rm_Dc_settleAll (pcM [.ref dc0] E sz (w_Dc E dc0 le0 le1 rd0 rd1 dr0 dr1 dr2 dr3 dr4 pl0 pl1 pl2 pl3 pl4 pa0 pa1 pr0 pr1 pr2 pr3 tr0 tr1 tr2 tr3 pt0 pt1 ca0 cb0 cc0 cd0 le_length le_signs rd_numbers dr_places dr_links dr_mostDrawn dr_ofTen dr_z dr_lengths dr_told dr_delays dr_fractions pl_places pl_links pl_mostDrawn pl_ofTen pl_z pl_lengths pl_told pl_delays pl_fractions pa_sums pr_greatestDelay pr_delays pr_fractions pr_heads tr_greatestDelay tr_delays tr_fractions tr_heads pt_next pt_kept hk_kind hk_i hk_j hk_length hk_wasTold hk_d hk_f hk_z)) (QMv E sz (w_Dc E dc0 le0 le1 rd0 rd1 dr0 dr1 dr2 dr3 dr4 pl0 pl1 pl2 pl3 pl4 pa0 pa1 pr0 pr1 pr2 pr3 tr0 tr1 tr2 tr3 pt0 pt1 ca0 cb0 cc0 cd0 le_length le_signs rd_numbers dr_places dr_links dr_mostDrawn dr_ofTen dr_z dr_lengths dr_told dr_delays dr_fractions pl_places pl_links pl_mostDrawn pl_ofTen pl_z pl_lengths pl_told pl_delays pl_fractions pa_sums pr_greatestDelay pr_delays pr_fractions pr_heads tr_greatestDelay tr_delays tr_fractions tr_heads pt_next pt_kept hk_kind hk_i hk_j hk_length hk_wasTold hk_d hk_f hk_z) (fun (u : (Nat → Int32) × Int32 × (Nat → Int32) × (Nat → Int32) × (Nat → Int32)) => (w_Dc E dc0 le0 le1 rd0 rd1 dr0 dr1 dr2 dr3 dr4 pl0 pl1 pl2 pl3 pl4 pa0 pa1 pr0 pr1 pr2 pr3 tr0 tr1 tr2 tr3 pt0 pt1 ca0 cb0 cc0 cd0 le_length le_signs rd_numbers dr_places dr_links dr_mostDrawn dr_ofTen dr_z dr_lengths dr_told dr_delays dr_fractions pl_places pl_links pl_mostDrawn pl_ofTen pl_z pl_lengths pl_told pl_delays pl_fractions u.1 u.2.1 u.2.2.1 u.2.2.2.1 u.2.2.2.2 tr_greatestDelay tr_delays tr_fractions tr_heads pt_next pt_kept hk_kind hk_i hk_j hk_length hk_wasTold hk_d hk_f hk_z)) res) 0 0 (va_A (w_Dc E dc0 le0 le1 rd0 rd1 dr0 dr1 dr2 dr3 dr4 pl0 pl1 pl2 pl3 pl4 pa0 pa1 pr0 pr1 pr2 pr3 tr0 tr1 tr2 tr3 pt0 pt1 ca0 cb0 cc0 cd0 le_length le_signs rd_numbers dr_places dr_links dr_mostDrawn dr_ofTen dr_z dr_lengths dr_told dr_delays dr_fractions pl_places pl_links pl_mostDrawn pl_ofTen pl_z pl_lengths pl_told pl_delays pl_fractions pa_sums pr_greatestDelay pr_delays pr_fractions pr_heads tr_greatestDelay tr_delays tr_fractions tr_heads pt_next pt_kept hk_kind hk_i hk_j hk_length hk_wasTold hk_d hk_f hk_z) sz) := by
  refine mk_Mv (cc := cX7_settleAll) (maxL := 1) (by decide) rfl (Nat.le_of_ble_eq_true rfl) ?_
  intro p e s m args below meth c Q A S hKN hA hret H locs ls hP hD hS hl
  obtain ⟨hx, hb, hml, hown, hts⟩ := S
  obtain ⟨hK, hN⟩ := hKN
  have hl : lv_has ls 1 [(0, .ref dc0)] := hl
  have q_0 := hts (.fieldLink RX7 33 "DelayClusters" "paths" "LDelayClusters$Paths;") (by decide +kernel)
  have q_1 := hts (.fieldLink RX7 26 "DelayClusters" "plan" "LDelayClusters$Plan;") (by decide +kernel)
  have q_2 := hts (.fieldLink RX7 42 "DelayClusters" "present" "LDelayClusters$Clustering;") (by decide +kernel)
  unfold Dc_settleAll at hf
  refine lv_aload_n hx hb dX7_settleAll_0 rfl (lv_at hl 0 rfl) ?_
  refine va_get (D := E.1) (ci := 7) (v := .ref pa0) (C := RX7) (T := TX7) (N := 7) hx hb hts in_X7_settleAll_X7 hown hK hP 0 rfl rfl 3 (by decide) q_0 (fun _ h9 => h9) rfl dX7_settleAll_1 ?_
  refine lv_aload_n hx hb dX7_settleAll_4 rfl (lv_at hl 0 rfl) ?_
  refine va_get (D := E.1) (ci := 7) (v := .ref pl0) (C := RX7) (T := TX7) (N := 7) hx hb hts in_X7_settleAll_X7 hown hK hP 0 rfl rfl 2 (by decide) q_1 (fun _ h9 => h9) rfl dX7_settleAll_5 ?_
  obtain ⟨pa_sums_2, h_1, hf⟩ := bd_s hf
  try dsimp only at hf
  refine ca_Mv (w2 := (w_Dc E dc0 le0 le1 rd0 rd1 dr0 dr1 dr2 dr3 dr4 pl0 pl1 pl2 pl3 pl4 pa0 pa1 pr0 pr1 pr2 pr3 tr0 tr1 tr2 tr3 pt0 pt1 ca0 cb0 cc0 cd0 le_length le_signs rd_numbers dr_places dr_links dr_mostDrawn dr_ofTen dr_z dr_lengths dr_told dr_delays dr_fractions pl_places pl_links pl_mostDrawn pl_ofTen pl_z pl_lengths pl_told pl_delays pl_fractions pa_sums_2 pr_greatestDelay pr_delays pr_fractions pr_heads tr_greatestDelay tr_delays tr_fractions tr_heads pt_next pt_kept hk_kind hk_i hk_j hk_length hk_wasTold hk_d hk_f hk_z)) (As := [.ref pl0]) (rest := []) ⟨hx, hb, hml, hown, hts⟩ ⟨hK, hN⟩ hP hD hS hA (c_Pa_measure l E pa0 pa1 pl0 pl1 pl2 pl3 pl4 H.size pa_sums pl_places pl_links pl_mostDrawn pl_ofTen pl_z pl_lengths pl_told pl_delays pl_fractions pa_sums_2 h_1) [15, 16, 10, 11, 12, 13, 14] [0, 1, 2, 3, 4, 5, 6, 7, 8, 9, 17, 18, 19, 20, 21, 22, 23, 24, 25, 26, 27, 28, 29, 30] [0, 1, 2, 3, 4, 5, 6, 7, 8, 9, 26, 27, 28, 29, 30, 24, 25, 10, 11, 12, 13, 14, 15, 16, 17, 18, 19, 20, 21, 22, 23] rfl rfl rfl rfl (by decide) rfl rfl 4 15 rfl rfl rfl gX7_settleAll_X4_measure rfl rfl rfl rfl hd_Pa_measure ⟨(Nat.le_of_ble_eq_true rfl), (Nat.le_of_ble_eq_true rfl)⟩ rfl hl.1 rfl (Nat.le_of_ble_eq_true rfl) dX7_settleAll_8 ⟨(Nat.zero_le _), (Nat.zero_le _)⟩ (fun H locs hP hD hS => ?_)
  refine lv_aload_n hx hb dX7_settleAll_11 rfl (lv_at hl 0 rfl) ?_
  refine va_get (D := E.1) (ci := 7) (v := .ref pr0) (C := RX7) (T := TX7) (N := 7) hx hb hts in_X7_settleAll_X7 hown hK hP 0 rfl rfl 4 (by decide) q_2 (fun _ h9 => h9) rfl dX7_settleAll_12 ?_
  refine lv_aload_n hx hb dX7_settleAll_15 rfl (lv_at hl 0 rfl) ?_
  refine va_get (D := E.1) (ci := 7) (v := .ref pl0) (C := RX7) (T := TX7) (N := 7) hx hb hts in_X7_settleAll_X7 hown hK hP 0 rfl rfl 2 (by decide) q_1 (fun _ h9 => h9) rfl dX7_settleAll_16 ?_
  obtain ⟨r_4, h_3, hf⟩ := bd_s hf
  refine ca_V (As := []) (rest := [.ref pr0]) ⟨hx, hb, hml, hown, hts⟩ ⟨hK, hN⟩ hP (c_Pl_z l E pl0 pl1 pl2 pl3 pl4 pl_places pl_links pl_mostDrawn pl_ofTen pl_z pl_lengths pl_told pl_delays pl_fractions r_4 h_3) [10, 11, 12, 13, 14] rfl 5 10 rfl rfl rfl gX7_settleAll_X5_z rfl rfl rfl rfl hd_Pl_z ⟨(Nat.le_of_ble_eq_true rfl), (Nat.le_of_ble_eq_true rfl)⟩ rfl hl.1 rfl (Nat.le_of_ble_eq_true rfl) dX7_settleAll_19 ⟨(Nat.zero_le _), (Nat.zero_le _)⟩ ?_
  obtain ⟨⟨pr_greatestDelay_6, pr_delays_7, pr_fractions_8, pr_heads_9⟩, h_5, hf⟩ := bd_s hf
  try dsimp only at hf
  refine ca_Mv (w2 := (w_Dc E dc0 le0 le1 rd0 rd1 dr0 dr1 dr2 dr3 dr4 pl0 pl1 pl2 pl3 pl4 pa0 pa1 pr0 pr1 pr2 pr3 tr0 tr1 tr2 tr3 pt0 pt1 ca0 cb0 cc0 cd0 le_length le_signs rd_numbers dr_places dr_links dr_mostDrawn dr_ofTen dr_z dr_lengths dr_told dr_delays dr_fractions pl_places pl_links pl_mostDrawn pl_ofTen pl_z pl_lengths pl_told pl_delays pl_fractions pa_sums_2 pr_greatestDelay_6 pr_delays_7 pr_fractions_8 pr_heads_9 tr_greatestDelay tr_delays tr_fractions tr_heads pt_next pt_kept hk_kind hk_i hk_j hk_length hk_wasTold hk_d hk_f hk_z)) (As := [.int r_4]) (rest := []) ⟨hx, hb, hml, hown, hts⟩ ⟨hK, hN⟩ hP hD hS hA (c_Cl_settleBy l E pr0 pr1 pr2 pr3 pl0 pl1 pl2 pl3 pl4 pa0 pa1 H.size pr_greatestDelay pr_delays pr_fractions pr_heads pl_places pl_links pl_mostDrawn pl_ofTen pl_z pl_lengths pl_told pl_delays pl_fractions pa_sums_2 r_4 (pr_greatestDelay_6, pr_delays_7, pr_fractions_8, pr_heads_9) h_5) [17, 18, 19, 20, 10, 11, 12, 13, 14, 15, 16] [0, 1, 2, 3, 4, 5, 6, 7, 8, 9, 21, 22, 23, 24, 25, 26, 27, 28, 29, 30] [0, 1, 2, 3, 4, 5, 6, 7, 8, 9, 24, 25, 26, 27, 28, 29, 30, 20, 21, 22, 23, 10, 11, 12, 13, 14, 15, 16, 17, 18, 19] rfl rfl rfl rfl (by decide) rfl rfl 1 17 rfl rfl rfl gX7_settleAll_X1_settleBy rfl rfl rfl rfl hd_Cl_settleBy ⟨(Nat.le_of_ble_eq_true rfl), (Nat.le_of_ble_eq_true rfl)⟩ rfl hl.1 rfl (Nat.le_of_ble_eq_true rfl) dX7_settleAll_22 ⟨(Nat.zero_le _), (Nat.zero_le _)⟩ (fun H locs hP hD hS => ?_)
  exact hret H locs ls 25 (pa_sums_2, pr_greatestDelay_6, pr_delays_7, pr_fractions_8, pr_heads_9) dX7_settleAll_25 (Option.some.inj hf) hP hD hS
abbrev rm_Dc_layText : Room := { frames := 5, cells := 0, slots := 0, locals := 117 }
theorem hd_Dc_layText : hdOK yX7_layText 0 := by decide +kernel
theorem in_X7_layText_X7 : ∀ w ∈ wsX70, w ∈ wsX7_layText := by decide +kernel
set_option maxRecDepth 100000 in
set_option maxHeartbeats 4000000 in
theorem c_Dc_layText (l : Launch) (E : En4) (dc0 le0 le1 rd0 rd1 dr0 dr1 dr2 dr3 dr4 pl0 pl1 pl2 pl3 pl4 pa0 pa1 pr0 pr1 pr2 pr3 tr0 tr1 tr2 tr3 pt0 pt1 ca0 cb0 cc0 cd0 : Nat) (sz : Nat) (le_length : Int32) (le_signs : Nat → Int32) (rd_numbers : Nat → Int32) (dr_places : Int32) (dr_links : Int32) (dr_mostDrawn : Int32) (dr_ofTen : Int32) (dr_z : Int32) (dr_lengths : Nat → Int32) (dr_told : Nat → Int32) (dr_delays : Nat → Int32) (dr_fractions : Nat → Int32) (pl_places : Int32) (pl_links : Int32) (pl_mostDrawn : Int32) (pl_ofTen : Int32) (pl_z : Int32) (pl_lengths : Nat → Int32) (pl_told : Nat → Int32) (pl_delays : Nat → Int32) (pl_fractions : Nat → Int32) (pa_sums : Nat → Int32) (pr_greatestDelay : Int32) (pr_delays : Nat → Int32) (pr_fractions : Nat → Int32) (pr_heads : Nat → Int32) (tr_greatestDelay : Int32) (tr_delays : Nat → Int32) (tr_fractions : Nat → Int32) (tr_heads : Nat → Int32) (pt_next : Int32) (pt_kept : Int32) (hk_kind : Nat → Int32) (hk_i : Nat → Int32) (hk_j : Nat → Int32) (hk_length : Nat → Int32) (hk_wasTold : Nat → Int32) (hk_d : Nat → Int32) (hk_f : Nat → Int32) (hk_z : Nat → Int32)  (res : Int32 × (Nat → Int32) × Int32 × Int32 × Int32 × Int32 × Int32 × (Nat → Int32) × (Nat → Int32) × (Nat → Int32) × (Nat → Int32) × Int32 × Int32 × Int32 × Int32 × Int32 × (Nat → Int32) × (Nat → Int32) × (Nat → Int32) × (Nat → Int32) × (Nat → Int32) × Int32 × (Nat → Int32) × (Nat → Int32) × (Nat → Int32) × Int32) (hf : Dc_layText le_length le_signs rd_numbers dr_places dr_links dr_mostDrawn dr_ofTen dr_z dr_lengths dr_told dr_delays dr_fractions pl_places pl_links pl_mostDrawn pl_ofTen pl_z pl_lengths pl_told pl_delays pl_fractions pa_sums pr_greatestDelay pr_delays pr_fractions pr_heads pt_kept = some res) : Met l yX7_layText wsX7_layText rm_Dc_layText (pcM [.ref dc0] E sz (w_Dc E dc0 le0 le1 rd0 rd1 dr0 dr1 dr2 dr3 dr4 pl0 pl1 pl2 pl3 pl4 pa0 pa1 pr0 pr1 pr2 pr3 tr0 tr1 tr2 tr3 pt0 pt1 ca0 cb0 cc0 cd0 le_length le_signs rd_numbers dr_places dr_links dr_mostDrawn dr_ofTen dr_z dr_lengths dr_told dr_delays dr_fractions pl_places pl_links pl_mostDrawn pl_ofTen pl_z pl_lengths pl_told pl_delays pl_fractions pa_sums pr_greatestDelay pr_delays pr_fractions pr_heads tr_greatestDelay tr_delays tr_fractions tr_heads pt_next pt_kept hk_kind hk_i hk_j hk_length hk_wasTold hk_d hk_f hk_z)) (QMi E sz (w_Dc E dc0 le0 le1 rd0 rd1 dr0 dr1 dr2 dr3 dr4 pl0 pl1 pl2 pl3 pl4 pa0 pa1 pr0 pr1 pr2 pr3 tr0 tr1 tr2 tr3 pt0 pt1 ca0 cb0 cc0 cd0 le_length le_signs rd_numbers dr_places dr_links dr_mostDrawn dr_ofTen dr_z dr_lengths dr_told dr_delays dr_fractions pl_places pl_links pl_mostDrawn pl_ofTen pl_z pl_lengths pl_told pl_delays pl_fractions pa_sums pr_greatestDelay pr_delays pr_fractions pr_heads tr_greatestDelay tr_delays tr_fractions tr_heads pt_next pt_kept hk_kind hk_i hk_j hk_length hk_wasTold hk_d hk_f hk_z) (fun (u : (Nat → Int32) × Int32 × Int32 × Int32 × Int32 × Int32 × (Nat → Int32) × (Nat → Int32) × (Nat → Int32) × (Nat → Int32) × Int32 × Int32 × Int32 × Int32 × Int32 × (Nat → Int32) × (Nat → Int32) × (Nat → Int32) × (Nat → Int32) × (Nat → Int32) × Int32 × (Nat → Int32) × (Nat → Int32) × (Nat → Int32) × Int32) => (w_Dc E dc0 le0 le1 rd0 rd1 dr0 dr1 dr2 dr3 dr4 pl0 pl1 pl2 pl3 pl4 pa0 pa1 pr0 pr1 pr2 pr3 tr0 tr1 tr2 tr3 pt0 pt1 ca0 cb0 cc0 cd0 le_length le_signs u.1 u.2.1 u.2.2.1 u.2.2.2.1 u.2.2.2.2.1 u.2.2.2.2.2.1 u.2.2.2.2.2.2.1 u.2.2.2.2.2.2.2.1 u.2.2.2.2.2.2.2.2.1 u.2.2.2.2.2.2.2.2.2.1 u.2.2.2.2.2.2.2.2.2.2.1 u.2.2.2.2.2.2.2.2.2.2.2.1 u.2.2.2.2.2.2.2.2.2.2.2.2.1 u.2.2.2.2.2.2.2.2.2.2.2.2.2.1 u.2.2.2.2.2.2.2.2.2.2.2.2.2.2.1 u.2.2.2.2.2.2.2.2.2.2.2.2.2.2.2.1 u.2.2.2.2.2.2.2.2.2.2.2.2.2.2.2.2.1 u.2.2.2.2.2.2.2.2.2.2.2.2.2.2.2.2.2.1 u.2.2.2.2.2.2.2.2.2.2.2.2.2.2.2.2.2.2.1 u.2.2.2.2.2.2.2.2.2.2.2.2.2.2.2.2.2.2.2.1 u.2.2.2.2.2.2.2.2.2.2.2.2.2.2.2.2.2.2.2.2.1 u.2.2.2.2.2.2.2.2.2.2.2.2.2.2.2.2.2.2.2.2.2.1 u.2.2.2.2.2.2.2.2.2.2.2.2.2.2.2.2.2.2.2.2.2.2.1 u.2.2.2.2.2.2.2.2.2.2.2.2.2.2.2.2.2.2.2.2.2.2.2.1 tr_greatestDelay tr_delays tr_fractions tr_heads pt_next u.2.2.2.2.2.2.2.2.2.2.2.2.2.2.2.2.2.2.2.2.2.2.2.2 hk_kind hk_i hk_j hk_length hk_wasTold hk_d hk_f hk_z)) res) 0 0 (va_A (w_Dc E dc0 le0 le1 rd0 rd1 dr0 dr1 dr2 dr3 dr4 pl0 pl1 pl2 pl3 pl4 pa0 pa1 pr0 pr1 pr2 pr3 tr0 tr1 tr2 tr3 pt0 pt1 ca0 cb0 cc0 cd0 le_length le_signs rd_numbers dr_places dr_links dr_mostDrawn dr_ofTen dr_z dr_lengths dr_told dr_delays dr_fractions pl_places pl_links pl_mostDrawn pl_ofTen pl_z pl_lengths pl_told pl_delays pl_fractions pa_sums pr_greatestDelay pr_delays pr_fractions pr_heads tr_greatestDelay tr_delays tr_fractions tr_heads pt_next pt_kept hk_kind hk_i hk_j hk_length hk_wasTold hk_d hk_f hk_z) sz) := by
  refine mk_Mi (cc := cX7_layText) (maxL := 1) (by decide) rfl (Nat.le_of_ble_eq_true rfl) ?_
  intro p e s m args below meth c Q A S hKN hA hret H locs ls hP hD hS hl
  obtain ⟨hx, hb, hml, hown, hts⟩ := S
  obtain ⟨hK, hN⟩ := hKN
  have hl : lv_has ls 1 [(0, .ref dc0)] := hl
  have q_0 := hts (.fieldLink RX7 19 "DelayClusters" "reader" "LDelayClusters$Reader;") (by decide +kernel)
  have q_1 := hts (.fieldLink RX7 10 "DelayClusters" "text" "LDelayClusters$Letters;") (by decide +kernel)
  have q_2 := hts (.fieldLink RX7 26 "DelayClusters" "plan" "LDelayClusters$Plan;") (by decide +kernel)
  have q_3 := hts (.fieldLink RX7 52 "DelayClusters" "past" "LDelayClusters$Past;") (by decide +kernel)
  unfold Dc_layText at hf
  refine lv_aload_n hx hb dX7_layText_0 rfl (lv_at hl 0 rfl) ?_
  refine va_get (D := E.1) (ci := 7) (v := .ref rd0) (C := RX7) (T := TX7) (N := 7) hx hb hts in_X7_layText_X7 hown hK hP 0 rfl rfl 1 (by decide) q_0 (fun _ h9 => h9) rfl dX7_layText_1 ?_
  refine lv_aload_n hx hb dX7_layText_4 rfl (lv_at hl 0 rfl) ?_
  refine va_get (D := E.1) (ci := 7) (v := .ref le0) (C := RX7) (T := TX7) (N := 7) hx hb hts in_X7_layText_X7 hown hK hP 0 rfl rfl 0 (by decide) q_1 (fun _ h9 => h9) rfl dX7_layText_5 ?_
  obtain ⟨⟨r_2, rd_numbers_3, dr_places_4, dr_links_5, dr_mostDrawn_6, dr_ofTen_7, dr_z_8, dr_lengths_9, dr_told_10, dr_delays_11, dr_fractions_12⟩, h_1, hf⟩ := bd_s hf
  try dsimp only at hf
  refine ca_Mi (w2 := (w_Dc E dc0 le0 le1 rd0 rd1 dr0 dr1 dr2 dr3 dr4 pl0 pl1 pl2 pl3 pl4 pa0 pa1 pr0 pr1 pr2 pr3 tr0 tr1 tr2 tr3 pt0 pt1 ca0 cb0 cc0 cd0 le_length le_signs rd_numbers_3 dr_places_4 dr_links_5 dr_mostDrawn_6 dr_ofTen_7 dr_z_8 dr_lengths_9 dr_told_10 dr_delays_11 dr_fractions_12 pl_places pl_links pl_mostDrawn pl_ofTen pl_z pl_lengths pl_told pl_delays pl_fractions pa_sums pr_greatestDelay pr_delays pr_fractions pr_heads tr_greatestDelay tr_delays tr_fractions tr_heads pt_next pt_kept hk_kind hk_i hk_j hk_length hk_wasTold hk_d hk_f hk_z)) (As := [.ref le0]) (rest := []) ⟨hx, hb, hml, hown, hts⟩ ⟨hK, hN⟩ hP hD hS hA (c_Rd_firstFault l E rd0 rd1 dr0 dr1 dr2 dr3 dr4 le0 le1 H.size rd_numbers dr_places dr_links dr_mostDrawn dr_ofTen dr_z dr_lengths dr_told dr_delays dr_fractions le_length le_signs (r_2, rd_numbers_3, dr_places_4, dr_links_5, dr_mostDrawn_6, dr_ofTen_7, dr_z_8, dr_lengths_9, dr_told_10, dr_delays_11, dr_fractions_12) h_1) [3, 4, 5, 6, 7, 8, 9, 1, 2] [0, 10, 11, 12, 13, 14, 15, 16, 17, 18, 19, 20, 21, 22, 23, 24, 25, 26, 27, 28, 29, 30] [0, 29, 30, 22, 23, 24, 25, 26, 27, 28, 1, 2, 3, 4, 5, 6, 7, 8, 9, 10, 11, 12, 13, 14, 15, 16, 17, 18, 19, 20, 21] rfl rfl rfl rfl (by decide) rfl rfl 6 3 rfl rfl rfl gX7_layText_X6_firstFault rfl rfl rfl rfl hd_Rd_firstFault ⟨(Nat.le_of_ble_eq_true rfl), (Nat.le_of_ble_eq_true rfl)⟩ rfl hl.1 rfl (Nat.le_of_ble_eq_true rfl) dX7_layText_8 ⟨(Nat.zero_le _), (Nat.zero_le _)⟩ (fun H locs hP hD hS => ?_)
  refine lv_bipush (v := (-4)) hx hb dX7_layText_11 (by decide) ?_
  refine lv_icmp_ne (tgt := 29) hx hb dX7_layText_13 (by decide) (fun c_38 => ?_) (fun c_38 => ?_)
  · have hf := ite_f c_38 hf
    refine lv_bipush (v := (-2)) hx hb dX7_layText_29 (by decide) ?_
    exact hret H locs ls 31 (-2) (rd_numbers_3, dr_places_4, dr_links_5, dr_mostDrawn_6, dr_ofTen_7, dr_z_8, dr_lengths_9, dr_told_10, dr_delays_11, dr_fractions_12, pl_places, pl_links, pl_mostDrawn, pl_ofTen, pl_z, pl_lengths, pl_told, pl_delays, pl_fractions, pa_sums, pr_greatestDelay, pr_delays, pr_fractions, pr_heads, pt_kept) dX7_layText_31 (Option.some.inj hf) hP hD hS
  · have hf := ite_t c_38 hf
    refine lv_aload_n hx hb dX7_layText_16 rfl (lv_at hl 0 rfl) ?_
    refine va_get (D := E.1) (ci := 7) (v := .ref rd0) (C := RX7) (T := TX7) (N := 7) hx hb hts in_X7_layText_X7 hown hK hP 0 rfl rfl 1 (by decide) q_0 (fun _ h9 => h9) rfl dX7_layText_17 ?_
    refine ca_Vr (As := []) (rest := []) ⟨hx, hb, hml, hown, hts⟩ ⟨hK, hN⟩ hP (c_Rd_draft l E rd0 rd1 dr0 dr1 dr2 dr3 dr4 rd_numbers_3 dr_places_4 dr_links_5 dr_mostDrawn_6 dr_ofTen_7 dr_z_8 dr_lengths_9 dr_told_10 dr_delays_11 dr_fractions_12) [3, 4, 5, 6, 7, 8, 9] rfl 6 3 rfl rfl rfl gX7_layText_X6_draft rfl rfl rfl rfl hd_Rd_draft ⟨(Nat.le_of_ble_eq_true rfl), (Nat.le_of_ble_eq_true rfl)⟩ rfl hl.1 rfl (Nat.le_of_ble_eq_true rfl) dX7_layText_20 ⟨(Nat.zero_le _), (Nat.zero_le _)⟩ ?_
    obtain ⟨r_15, h_14, hf⟩ := bd_s hf
    refine ca_V (As := []) (rest := []) ⟨hx, hb, hml, hown, hts⟩ ⟨hK, hN⟩ hP (c_Pl_places l E dr0 dr1 dr2 dr3 dr4 dr_places_4 dr_links_5 dr_mostDrawn_6 dr_ofTen_7 dr_z_8 dr_lengths_9 dr_told_10 dr_delays_11 dr_fractions_12 r_15 h_14) [5, 6, 7, 8, 9] rfl 5 5 rfl rfl rfl gX7_layText_X5_places rfl rfl rfl rfl hd_Pl_places ⟨(Nat.le_of_ble_eq_true rfl), (Nat.le_of_ble_eq_true rfl)⟩ rfl hl.1 rfl (Nat.le_of_ble_eq_true rfl) dX7_layText_23 ⟨(Nat.zero_le _), (Nat.zero_le _)⟩ ?_
    refine lv_if_ne (tgt := 32) hx hb dX7_layText_26 (by decide) (fun c_37 => ?_) (fun c_37 => ?_)
    · have hf := ite_f c_37 hf
      refine lv_aload_n hx hb dX7_layText_32 rfl (lv_at hl 0 rfl) ?_
      refine va_get (D := E.1) (ci := 7) (v := .ref pl0) (C := RX7) (T := TX7) (N := 7) hx hb hts in_X7_layText_X7 hown hK hP 0 rfl rfl 2 (by decide) q_2 (fun _ h9 => h9) rfl dX7_layText_33 ?_
      refine lv_aload_n hx hb dX7_layText_36 rfl (lv_at hl 0 rfl) ?_
      refine va_get (D := E.1) (ci := 7) (v := .ref rd0) (C := RX7) (T := TX7) (N := 7) hx hb hts in_X7_layText_X7 hown hK hP 0 rfl rfl 1 (by decide) q_0 (fun _ h9 => h9) rfl dX7_layText_37 ?_
      refine ca_Vr (As := []) (rest := [.ref pl0]) ⟨hx, hb, hml, hown, hts⟩ ⟨hK, hN⟩ hP (c_Rd_draft l E rd0 rd1 dr0 dr1 dr2 dr3 dr4 rd_numbers_3 dr_places_4 dr_links_5 dr_mostDrawn_6 dr_ofTen_7 dr_z_8 dr_lengths_9 dr_told_10 dr_delays_11 dr_fractions_12) [3, 4, 5, 6, 7, 8, 9] rfl 6 3 rfl rfl rfl gX7_layText_X6_draft rfl rfl rfl rfl hd_Rd_draft ⟨(Nat.le_of_ble_eq_true rfl), (Nat.le_of_ble_eq_true rfl)⟩ rfl hl.1 rfl (Nat.le_of_ble_eq_true rfl) dX7_layText_40 ⟨(Nat.zero_le _), (Nat.zero_le _)⟩ ?_
      obtain ⟨⟨pl_places_18, pl_links_19, pl_mostDrawn_20, pl_ofTen_21, pl_z_22, pl_lengths_23, pl_told_24, pl_delays_25, pl_fractions_26⟩, h_17, hf⟩ := bd_s hf
      try dsimp only at hf
      refine ca_Mv (w2 := (w_Dc E dc0 le0 le1 rd0 rd1 dr0 dr1 dr2 dr3 dr4 pl0 pl1 pl2 pl3 pl4 pa0 pa1 pr0 pr1 pr2 pr3 tr0 tr1 tr2 tr3 pt0 pt1 ca0 cb0 cc0 cd0 le_length le_signs rd_numbers_3 dr_places_4 dr_links_5 dr_mostDrawn_6 dr_ofTen_7 dr_z_8 dr_lengths_9 dr_told_10 dr_delays_11 dr_fractions_12 pl_places_18 pl_links_19 pl_mostDrawn_20 pl_ofTen_21 pl_z_22 pl_lengths_23 pl_told_24 pl_delays_25 pl_fractions_26 pa_sums pr_greatestDelay pr_delays pr_fractions pr_heads tr_greatestDelay tr_delays tr_fractions tr_heads pt_next pt_kept hk_kind hk_i hk_j hk_length hk_wasTold hk_d hk_f hk_z)) (As := [.ref dr0]) (rest := []) ⟨hx, hb, hml, hown, hts⟩ ⟨hK, hN⟩ hP hD hS hA (c_Pl_copyFrom l E pl0 pl1 pl2 pl3 pl4 dr0 dr1 dr2 dr3 dr4 H.size pl_places pl_links pl_mostDrawn pl_ofTen pl_z pl_lengths pl_told pl_delays pl_fractions dr_places_4 dr_links_5 dr_mostDrawn_6 dr_ofTen_7 dr_z_8 dr_lengths_9 dr_told_10 dr_delays_11 dr_fractions_12 (pl_places_18, pl_links_19, pl_mostDrawn_20, pl_ofTen_21, pl_z_22, pl_lengths_23, pl_told_24, pl_delays_25, pl_fractions_26) h_17) [10, 11, 12, 13, 14, 5, 6, 7, 8, 9] [0, 1, 2, 3, 4, 15, 16, 17, 18, 19, 20, 21, 22, 23, 24, 25, 26, 27, 28, 29, 30] [0, 1, 2, 3, 4, 26, 27, 28, 29, 30, 21, 22, 23, 24, 25, 5, 6, 7, 8, 9, 10, 11, 12, 13, 14, 15, 16, 17, 18, 19, 20] rfl rfl rfl rfl (by decide) rfl rfl 5 10 rfl rfl rfl gX7_layText_X5_copyFrom rfl rfl rfl rfl hd_Pl_copyFrom ⟨(Nat.le_of_ble_eq_true rfl), (Nat.le_of_ble_eq_true rfl)⟩ rfl hl.1 rfl (Nat.le_of_ble_eq_true rfl) dX7_layText_43 ⟨(Nat.zero_le _), (Nat.zero_le _)⟩ (fun H locs hP hD hS => ?_)
      refine lv_aload_n hx hb dX7_layText_46 rfl (lv_at hl 0 rfl) ?_
      refine va_get (D := E.1) (ci := 7) (v := .ref pt0) (C := RX7) (T := TX7) (N := 7) hx hb hts in_X7_layText_X7 hown hK hP 0 rfl rfl 6 (by decide) q_3 (fun _ h9 => h9) rfl dX7_layText_47 ?_
      obtain ⟨pt_kept_28, h_27, hf⟩ := bd_s hf
      try dsimp only at hf
      refine ca_Mv (w2 := (w_Dc E dc0 le0 le1 rd0 rd1 dr0 dr1 dr2 dr3 dr4 pl0 pl1 pl2 pl3 pl4 pa0 pa1 pr0 pr1 pr2 pr3 tr0 tr1 tr2 tr3 pt0 pt1 ca0 cb0 cc0 cd0 le_length le_signs rd_numbers_3 dr_places_4 dr_links_5 dr_mostDrawn_6 dr_ofTen_7 dr_z_8 dr_lengths_9 dr_told_10 dr_delays_11 dr_fractions_12 pl_places_18 pl_links_19 pl_mostDrawn_20 pl_ofTen_21 pl_z_22 pl_lengths_23 pl_told_24 pl_delays_25 pl_fractions_26 pa_sums pr_greatestDelay pr_delays pr_fractions pr_heads tr_greatestDelay tr_delays tr_fractions tr_heads pt_next pt_kept_28 hk_kind hk_i hk_j hk_length hk_wasTold hk_d hk_f hk_z)) (As := []) (rest := []) ⟨hx, hb, hml, hown, hts⟩ ⟨hK, hN⟩ hP hD hS hA (c_Pt_forget l E pt0 pt1 ca0 cb0 cc0 cd0 H.size pt_next pt_kept hk_kind hk_i hk_j hk_length hk_wasTold hk_d hk_f hk_z pt_kept_28 h_27) [25, 26, 27, 28, 29, 30] [0, 1, 2, 3, 4, 5, 6, 7, 8, 9, 10, 11, 12, 13, 14, 15, 16, 17, 18, 19, 20, 21, 22, 23, 24] [0, 1, 2, 3, 4, 5, 6, 7, 8, 9, 10, 11, 12, 13, 14, 15, 16, 17, 18, 19, 20, 21, 22, 23, 24, 25, 26, 27, 28, 29, 30] rfl rfl rfl rfl (by decide) rfl rfl 3 25 rfl rfl rfl gX7_layText_X3_forget rfl rfl rfl rfl hd_Pt_forget ⟨(Nat.le_of_ble_eq_true rfl), (Nat.le_of_ble_eq_true rfl)⟩ rfl hl.1 rfl (Nat.le_of_ble_eq_true rfl) dX7_layText_50 ⟨(Nat.zero_le _), (Nat.zero_le _)⟩ (fun H locs hP hD hS => ?_)
      refine lv_aload_n hx hb dX7_layText_53 rfl (lv_at hl 0 rfl) ?_
      obtain ⟨⟨pa_sums_30, pr_greatestDelay_31, pr_delays_32, pr_fractions_33, pr_heads_34⟩, h_29, hf⟩ := bd_s hf
      try dsimp only at hf
      refine ca_Mv (w2 := (w_Dc E dc0 le0 le1 rd0 rd1 dr0 dr1 dr2 dr3 dr4 pl0 pl1 pl2 pl3 pl4 pa0 pa1 pr0 pr1 pr2 pr3 tr0 tr1 tr2 tr3 pt0 pt1 ca0 cb0 cc0 cd0 le_length le_signs rd_numbers_3 dr_places_4 dr_links_5 dr_mostDrawn_6 dr_ofTen_7 dr_z_8 dr_lengths_9 dr_told_10 dr_delays_11 dr_fractions_12 pl_places_18 pl_links_19 pl_mostDrawn_20 pl_ofTen_21 pl_z_22 pl_lengths_23 pl_told_24 pl_delays_25 pl_fractions_26 pa_sums_30 pr_greatestDelay_31 pr_delays_32 pr_fractions_33 pr_heads_34 tr_greatestDelay tr_delays tr_fractions tr_heads pt_next pt_kept_28 hk_kind hk_i hk_j hk_length hk_wasTold hk_d hk_f hk_z)) (As := []) (rest := []) ⟨hx, hb, hml, hown, hts⟩ ⟨hK, hN⟩ hP hD hS hA (c_Dc_settleAll l E dc0 le0 le1 rd0 rd1 dr0 dr1 dr2 dr3 dr4 pl0 pl1 pl2 pl3 pl4 pa0 pa1 pr0 pr1 pr2 pr3 tr0 tr1 tr2 tr3 pt0 pt1 ca0 cb0 cc0 cd0 H.size le_length le_signs rd_numbers_3 dr_places_4 dr_links_5 dr_mostDrawn_6 dr_ofTen_7 dr_z_8 dr_lengths_9 dr_told_10 dr_delays_11 dr_fractions_12 pl_places_18 pl_links_19 pl_mostDrawn_20 pl_ofTen_21 pl_z_22 pl_lengths_23 pl_told_24 pl_delays_25 pl_fractions_26 pa_sums pr_greatestDelay pr_delays pr_fractions pr_heads tr_greatestDelay tr_delays tr_fractions tr_heads pt_next pt_kept_28 hk_kind hk_i hk_j hk_length hk_wasTold hk_d hk_f hk_z (pa_sums_30, pr_greatestDelay_31, pr_delays_32, pr_fractions_33, pr_heads_34) h_29) [0, 1, 2, 3, 4, 5, 6, 7, 8, 9, 10, 11, 12, 13, 14, 15, 16, 17, 18, 19, 20, 21, 22, 23, 24, 25, 26, 27, 28, 29, 30] [] [0, 1, 2, 3, 4, 5, 6, 7, 8, 9, 10, 11, 12, 13, 14, 15, 16, 17, 18, 19, 20, 21, 22, 23, 24, 25, 26, 27, 28, 29, 30] rfl rfl rfl rfl (by decide) rfl rfl 7 0 rfl rfl rfl gX7_layText_X7_settleAll rfl rfl rfl rfl hd_Dc_settleAll ⟨(Nat.le_of_ble_eq_true rfl), (Nat.le_of_ble_eq_true rfl)⟩ rfl hl.1 rfl (Nat.le_of_ble_eq_true rfl) dX7_layText_54 ⟨(Nat.zero_le _), (Nat.zero_le _)⟩ (fun H locs hP hD hS => ?_)
      refine lv_aload_n hx hb dX7_layText_57 rfl (lv_at hl 0 rfl) ?_
      refine va_get (D := E.1) (ci := 7) (v := .ref pl0) (C := RX7) (T := TX7) (N := 7) hx hb hts in_X7_layText_X7 hown hK hP 0 rfl rfl 2 (by decide) q_2 (fun _ h9 => h9) rfl dX7_layText_58 ?_
      obtain ⟨r_36, h_35, hf⟩ := bd_s hf
      refine ca_V (As := []) (rest := []) ⟨hx, hb, hml, hown, hts⟩ ⟨hK, hN⟩ hP (c_Pl_places l E pl0 pl1 pl2 pl3 pl4 pl_places_18 pl_links_19 pl_mostDrawn_20 pl_ofTen_21 pl_z_22 pl_lengths_23 pl_told_24 pl_delays_25 pl_fractions_26 r_36 h_35) [10, 11, 12, 13, 14] rfl 5 10 rfl rfl rfl gX7_layText_X5_places rfl rfl rfl rfl hd_Pl_places ⟨(Nat.le_of_ble_eq_true rfl), (Nat.le_of_ble_eq_true rfl)⟩ rfl hl.1 rfl (Nat.le_of_ble_eq_true rfl) dX7_layText_61 ⟨(Nat.zero_le _), (Nat.zero_le _)⟩ ?_
      exact hret H locs ls 64 r_36 (rd_numbers_3, dr_places_4, dr_links_5, dr_mostDrawn_6, dr_ofTen_7, dr_z_8, dr_lengths_9, dr_told_10, dr_delays_11, dr_fractions_12, pl_places_18, pl_links_19, pl_mostDrawn_20, pl_ofTen_21, pl_z_22, pl_lengths_23, pl_told_24, pl_delays_25, pl_fractions_26, pa_sums_30, pr_greatestDelay_31, pr_delays_32, pr_fractions_33, pr_heads_34, pt_kept_28) dX7_layText_64 (Option.some.inj hf) hP hD hS
    · have hf := ite_t c_37 hf
      refine lv_bipush (v := (-2)) hx hb dX7_layText_29 (by decide) ?_
      exact hret H locs ls 31 (-2) (rd_numbers_3, dr_places_4, dr_links_5, dr_mostDrawn_6, dr_ofTen_7, dr_z_8, dr_lengths_9, dr_told_10, dr_delays_11, dr_fractions_12, pl_places, pl_links, pl_mostDrawn, pl_ofTen, pl_z, pl_lengths, pl_told, pl_delays, pl_fractions, pa_sums, pr_greatestDelay, pr_delays, pr_fractions, pr_heads, pt_kept) dX7_layText_31 (Option.some.inj hf) hP hD hS
abbrev rm_Dc_lay : Room := { frames := 6, cells := 0, slots := 0, locals := 137 }
theorem hd_Dc_lay : hdOK yX7_lay 0 := by decide +kernel
set_option maxRecDepth 100000 in
set_option maxHeartbeats 4000000 in
theorem c_Dc_lay (l : Launch) (E : En4) (dc0 le0 le1 rd0 rd1 dr0 dr1 dr2 dr3 dr4 pl0 pl1 pl2 pl3 pl4 pa0 pa1 pr0 pr1 pr2 pr3 tr0 tr1 tr2 tr3 pt0 pt1 ca0 cb0 cc0 cd0 : Nat) (sz : Nat) (le_length : Int32) (le_signs : Nat → Int32) (rd_numbers : Nat → Int32) (dr_places : Int32) (dr_links : Int32) (dr_mostDrawn : Int32) (dr_ofTen : Int32) (dr_z : Int32) (dr_lengths : Nat → Int32) (dr_told : Nat → Int32) (dr_delays : Nat → Int32) (dr_fractions : Nat → Int32) (pl_places : Int32) (pl_links : Int32) (pl_mostDrawn : Int32) (pl_ofTen : Int32) (pl_z : Int32) (pl_lengths : Nat → Int32) (pl_told : Nat → Int32) (pl_delays : Nat → Int32) (pl_fractions : Nat → Int32) (pa_sums : Nat → Int32) (pr_greatestDelay : Int32) (pr_delays : Nat → Int32) (pr_fractions : Nat → Int32) (pr_heads : Nat → Int32) (tr_greatestDelay : Int32) (tr_delays : Nat → Int32) (tr_fractions : Nat → Int32) (tr_heads : Nat → Int32) (pt_next : Int32) (pt_kept : Int32) (hk_kind : Nat → Int32) (hk_i : Nat → Int32) (hk_j : Nat → Int32) (hk_length : Nat → Int32) (hk_wasTold : Nat → Int32) (hk_d : Nat → Int32) (hk_f : Nat → Int32) (hk_z : Nat → Int32)  (res : Int32 × (Nat → Int32) × Int32 × Int32 × Int32 × Int32 × Int32 × (Nat → Int32) × (Nat → Int32) × (Nat → Int32) × (Nat → Int32) × Int32 × Int32 × Int32 × Int32 × Int32 × (Nat → Int32) × (Nat → Int32) × (Nat → Int32) × (Nat → Int32) × (Nat → Int32) × Int32 × (Nat → Int32) × (Nat → Int32) × (Nat → Int32) × Int32) (hf : Dc_lay le_length le_signs rd_numbers dr_places dr_links dr_mostDrawn dr_ofTen dr_z dr_lengths dr_told dr_delays dr_fractions pl_places pl_links pl_mostDrawn pl_ofTen pl_z pl_lengths pl_told pl_delays pl_fractions pa_sums pr_greatestDelay pr_delays pr_fractions pr_heads pt_kept = some res) : Met l yX7_lay wsX7_lay rm_Dc_lay (pcM [.ref dc0] E sz (w_Dc E dc0 le0 le1 rd0 rd1 dr0 dr1 dr2 dr3 dr4 pl0 pl1 pl2 pl3 pl4 pa0 pa1 pr0 pr1 pr2 pr3 tr0 tr1 tr2 tr3 pt0 pt1 ca0 cb0 cc0 cd0 le_length le_signs rd_numbers dr_places dr_links dr_mostDrawn dr_ofTen dr_z dr_lengths dr_told dr_delays dr_fractions pl_places pl_links pl_mostDrawn pl_ofTen pl_z pl_lengths pl_told pl_delays pl_fractions pa_sums pr_greatestDelay pr_delays pr_fractions pr_heads tr_greatestDelay tr_delays tr_fractions tr_heads pt_next pt_kept hk_kind hk_i hk_j hk_length hk_wasTold hk_d hk_f hk_z)) (QMi E sz (w_Dc E dc0 le0 le1 rd0 rd1 dr0 dr1 dr2 dr3 dr4 pl0 pl1 pl2 pl3 pl4 pa0 pa1 pr0 pr1 pr2 pr3 tr0 tr1 tr2 tr3 pt0 pt1 ca0 cb0 cc0 cd0 le_length le_signs rd_numbers dr_places dr_links dr_mostDrawn dr_ofTen dr_z dr_lengths dr_told dr_delays dr_fractions pl_places pl_links pl_mostDrawn pl_ofTen pl_z pl_lengths pl_told pl_delays pl_fractions pa_sums pr_greatestDelay pr_delays pr_fractions pr_heads tr_greatestDelay tr_delays tr_fractions tr_heads pt_next pt_kept hk_kind hk_i hk_j hk_length hk_wasTold hk_d hk_f hk_z) (fun (u : (Nat → Int32) × Int32 × Int32 × Int32 × Int32 × Int32 × (Nat → Int32) × (Nat → Int32) × (Nat → Int32) × (Nat → Int32) × Int32 × Int32 × Int32 × Int32 × Int32 × (Nat → Int32) × (Nat → Int32) × (Nat → Int32) × (Nat → Int32) × (Nat → Int32) × Int32 × (Nat → Int32) × (Nat → Int32) × (Nat → Int32) × Int32) => (w_Dc E dc0 le0 le1 rd0 rd1 dr0 dr1 dr2 dr3 dr4 pl0 pl1 pl2 pl3 pl4 pa0 pa1 pr0 pr1 pr2 pr3 tr0 tr1 tr2 tr3 pt0 pt1 ca0 cb0 cc0 cd0 le_length le_signs u.1 u.2.1 u.2.2.1 u.2.2.2.1 u.2.2.2.2.1 u.2.2.2.2.2.1 u.2.2.2.2.2.2.1 u.2.2.2.2.2.2.2.1 u.2.2.2.2.2.2.2.2.1 u.2.2.2.2.2.2.2.2.2.1 u.2.2.2.2.2.2.2.2.2.2.1 u.2.2.2.2.2.2.2.2.2.2.2.1 u.2.2.2.2.2.2.2.2.2.2.2.2.1 u.2.2.2.2.2.2.2.2.2.2.2.2.2.1 u.2.2.2.2.2.2.2.2.2.2.2.2.2.2.1 u.2.2.2.2.2.2.2.2.2.2.2.2.2.2.2.1 u.2.2.2.2.2.2.2.2.2.2.2.2.2.2.2.2.1 u.2.2.2.2.2.2.2.2.2.2.2.2.2.2.2.2.2.1 u.2.2.2.2.2.2.2.2.2.2.2.2.2.2.2.2.2.2.1 u.2.2.2.2.2.2.2.2.2.2.2.2.2.2.2.2.2.2.2.1 u.2.2.2.2.2.2.2.2.2.2.2.2.2.2.2.2.2.2.2.2.1 u.2.2.2.2.2.2.2.2.2.2.2.2.2.2.2.2.2.2.2.2.2.1 u.2.2.2.2.2.2.2.2.2.2.2.2.2.2.2.2.2.2.2.2.2.2.1 u.2.2.2.2.2.2.2.2.2.2.2.2.2.2.2.2.2.2.2.2.2.2.2.1 tr_greatestDelay tr_delays tr_fractions tr_heads pt_next u.2.2.2.2.2.2.2.2.2.2.2.2.2.2.2.2.2.2.2.2.2.2.2.2 hk_kind hk_i hk_j hk_length hk_wasTold hk_d hk_f hk_z)) res) 0 0 (va_A (w_Dc E dc0 le0 le1 rd0 rd1 dr0 dr1 dr2 dr3 dr4 pl0 pl1 pl2 pl3 pl4 pa0 pa1 pr0 pr1 pr2 pr3 tr0 tr1 tr2 tr3 pt0 pt1 ca0 cb0 cc0 cd0 le_length le_signs rd_numbers dr_places dr_links dr_mostDrawn dr_ofTen dr_z dr_lengths dr_told dr_delays dr_fractions pl_places pl_links pl_mostDrawn pl_ofTen pl_z pl_lengths pl_told pl_delays pl_fractions pa_sums pr_greatestDelay pr_delays pr_fractions pr_heads tr_greatestDelay tr_delays tr_fractions tr_heads pt_next pt_kept hk_kind hk_i hk_j hk_length hk_wasTold hk_d hk_f hk_z) sz) := by
  refine mk_Mi (cc := cX7_lay) (maxL := 1) (by decide) rfl (Nat.le_of_ble_eq_true rfl) ?_
  intro p e s m args below meth c Q A S hKN hA hret H locs ls hP hD hS hl
  obtain ⟨hx, hb, hml, hown, hts⟩ := S
  obtain ⟨hK, hN⟩ := hKN
  have hl : lv_has ls 1 [(0, .ref dc0)] := hl
  unfold Dc_lay at hf
  refine lv_aload_n hx hb dX7_lay_0 rfl (lv_at hl 0 rfl) ?_
  obtain ⟨⟨r_2, rd_numbers_3, dr_places_4, dr_links_5, dr_mostDrawn_6, dr_ofTen_7, dr_z_8, dr_lengths_9, dr_told_10, dr_delays_11, dr_fractions_12, pl_places_13, pl_links_14, pl_mostDrawn_15, pl_ofTen_16, pl_z_17, pl_lengths_18, pl_told_19, pl_delays_20, pl_fractions_21, pa_sums_22, pr_greatestDelay_23, pr_delays_24, pr_fractions_25, pr_heads_26, pt_kept_27⟩, h_1, hf⟩ := bd_s hf
  try dsimp only at hf
  refine ca_Mi (w2 := (w_Dc E dc0 le0 le1 rd0 rd1 dr0 dr1 dr2 dr3 dr4 pl0 pl1 pl2 pl3 pl4 pa0 pa1 pr0 pr1 pr2 pr3 tr0 tr1 tr2 tr3 pt0 pt1 ca0 cb0 cc0 cd0 le_length le_signs rd_numbers_3 dr_places_4 dr_links_5 dr_mostDrawn_6 dr_ofTen_7 dr_z_8 dr_lengths_9 dr_told_10 dr_delays_11 dr_fractions_12 pl_places_13 pl_links_14 pl_mostDrawn_15 pl_ofTen_16 pl_z_17 pl_lengths_18 pl_told_19 pl_delays_20 pl_fractions_21 pa_sums_22 pr_greatestDelay_23 pr_delays_24 pr_fractions_25 pr_heads_26 tr_greatestDelay tr_delays tr_fractions tr_heads pt_next pt_kept_27 hk_kind hk_i hk_j hk_length hk_wasTold hk_d hk_f hk_z)) (As := []) (rest := []) ⟨hx, hb, hml, hown, hts⟩ ⟨hK, hN⟩ hP hD hS hA (c_Dc_layText l E dc0 le0 le1 rd0 rd1 dr0 dr1 dr2 dr3 dr4 pl0 pl1 pl2 pl3 pl4 pa0 pa1 pr0 pr1 pr2 pr3 tr0 tr1 tr2 tr3 pt0 pt1 ca0 cb0 cc0 cd0 H.size le_length le_signs rd_numbers dr_places dr_links dr_mostDrawn dr_ofTen dr_z dr_lengths dr_told dr_delays dr_fractions pl_places pl_links pl_mostDrawn pl_ofTen pl_z pl_lengths pl_told pl_delays pl_fractions pa_sums pr_greatestDelay pr_delays pr_fractions pr_heads tr_greatestDelay tr_delays tr_fractions tr_heads pt_next pt_kept hk_kind hk_i hk_j hk_length hk_wasTold hk_d hk_f hk_z (r_2, rd_numbers_3, dr_places_4, dr_links_5, dr_mostDrawn_6, dr_ofTen_7, dr_z_8, dr_lengths_9, dr_told_10, dr_delays_11, dr_fractions_12, pl_places_13, pl_links_14, pl_mostDrawn_15, pl_ofTen_16, pl_z_17, pl_lengths_18, pl_told_19, pl_delays_20, pl_fractions_21, pa_sums_22, pr_greatestDelay_23, pr_delays_24, pr_fractions_25, pr_heads_26, pt_kept_27) h_1) [0, 1, 2, 3, 4, 5, 6, 7, 8, 9, 10, 11, 12, 13, 14, 15, 16, 17, 18, 19, 20, 21, 22, 23, 24, 25, 26, 27, 28, 29, 30] [] [0, 1, 2, 3, 4, 5, 6, 7, 8, 9, 10, 11, 12, 13, 14, 15, 16, 17, 18, 19, 20, 21, 22, 23, 24, 25, 26, 27, 28, 29, 30] rfl rfl rfl rfl (by decide) rfl rfl 7 0 rfl rfl rfl gX7_lay_X7_layText rfl rfl rfl rfl hd_Dc_layText ⟨(Nat.le_of_ble_eq_true rfl), (Nat.le_of_ble_eq_true rfl)⟩ rfl hl.1 rfl (Nat.le_of_ble_eq_true rfl) dX7_lay_1 ⟨(Nat.zero_le _), (Nat.zero_le _)⟩ (fun H locs hP hD hS => ?_)
  exact hret H locs ls 4 r_2 (rd_numbers_3, dr_places_4, dr_links_5, dr_mostDrawn_6, dr_ofTen_7, dr_z_8, dr_lengths_9, dr_told_10, dr_delays_11, dr_fractions_12, pl_places_13, pl_links_14, pl_mostDrawn_15, pl_ofTen_16, pl_z_17, pl_lengths_18, pl_told_19, pl_delays_20, pl_fractions_21, pa_sums_22, pr_greatestDelay_23, pr_delays_24, pr_fractions_25, pr_heads_26, pt_kept_27) dX7_lay_4 (Option.some.inj hf) hP hD hS
abbrev rm_Dc_changeLength : Room := { frames := 5, cells := 0, slots := 0, locals := 111 }
theorem hd_Dc_changeLength : hdOK yX7_changeLength 3 := by decide +kernel
theorem in_X7_changeLength_X7 : ∀ w ∈ wsX70, w ∈ wsX7_changeLength := by decide +kernel
set_option maxRecDepth 100000 in
set_option maxHeartbeats 4000000 in
theorem c_Dc_changeLength (l : Launch) (E : En4) (dc0 le0 le1 rd0 rd1 dr0 dr1 dr2 dr3 dr4 pl0 pl1 pl2 pl3 pl4 pa0 pa1 pr0 pr1 pr2 pr3 tr0 tr1 tr2 tr3 pt0 pt1 ca0 cb0 cc0 cd0 : Nat) (sz : Nat) (le_length : Int32) (le_signs : Nat → Int32) (rd_numbers : Nat → Int32) (dr_places : Int32) (dr_links : Int32) (dr_mostDrawn : Int32) (dr_ofTen : Int32) (dr_z : Int32) (dr_lengths : Nat → Int32) (dr_told : Nat → Int32) (dr_delays : Nat → Int32) (dr_fractions : Nat → Int32) (pl_places : Int32) (pl_links : Int32) (pl_mostDrawn : Int32) (pl_ofTen : Int32) (pl_z : Int32) (pl_lengths : Nat → Int32) (pl_told : Nat → Int32) (pl_delays : Nat → Int32) (pl_fractions : Nat → Int32) (pa_sums : Nat → Int32) (pr_greatestDelay : Int32) (pr_delays : Nat → Int32) (pr_fractions : Nat → Int32) (pr_heads : Nat → Int32) (tr_greatestDelay : Int32) (tr_delays : Nat → Int32) (tr_fractions : Nat → Int32) (tr_heads : Nat → Int32) (pt_next : Int32) (pt_kept : Int32) (hk_kind : Nat → Int32) (hk_i : Nat → Int32) (hk_j : Nat → Int32) (hk_length : Nat → Int32) (hk_wasTold : Nat → Int32) (hk_d : Nat → Int32) (hk_f : Nat → Int32) (hk_z : Nat → Int32) (a1 : Int32) (a2 : Int32) (a3 : Int32)  (res : Int32 × (Nat → Int32) × (Nat → Int32) × Int32 × (Nat → Int32) × (Nat → Int32) × (Nat → Int32) × Int32 × Int32 × (Nat → Int32) × (Nat → Int32) × (Nat → Int32) × (Nat → Int32)) (hf : Dc_changeLength pl_places pl_links pl_mostDrawn pl_ofTen pl_z pl_lengths pl_told pl_delays pl_fractions pa_sums pr_greatestDelay pr_delays pr_fractions pr_heads pt_next pt_kept hk_kind hk_i hk_j hk_length a1 a2 a3 = some res) : Met l yX7_changeLength wsX7_changeLength rm_Dc_changeLength (pcM [.ref dc0, .int a1, .int a2, .int a3] E sz (w_Dc E dc0 le0 le1 rd0 rd1 dr0 dr1 dr2 dr3 dr4 pl0 pl1 pl2 pl3 pl4 pa0 pa1 pr0 pr1 pr2 pr3 tr0 tr1 tr2 tr3 pt0 pt1 ca0 cb0 cc0 cd0 le_length le_signs rd_numbers dr_places dr_links dr_mostDrawn dr_ofTen dr_z dr_lengths dr_told dr_delays dr_fractions pl_places pl_links pl_mostDrawn pl_ofTen pl_z pl_lengths pl_told pl_delays pl_fractions pa_sums pr_greatestDelay pr_delays pr_fractions pr_heads tr_greatestDelay tr_delays tr_fractions tr_heads pt_next pt_kept hk_kind hk_i hk_j hk_length hk_wasTold hk_d hk_f hk_z)) (QMv E sz (w_Dc E dc0 le0 le1 rd0 rd1 dr0 dr1 dr2 dr3 dr4 pl0 pl1 pl2 pl3 pl4 pa0 pa1 pr0 pr1 pr2 pr3 tr0 tr1 tr2 tr3 pt0 pt1 ca0 cb0 cc0 cd0 le_length le_signs rd_numbers dr_places dr_links dr_mostDrawn dr_ofTen dr_z dr_lengths dr_told dr_delays dr_fractions pl_places pl_links pl_mostDrawn pl_ofTen pl_z pl_lengths pl_told pl_delays pl_fractions pa_sums pr_greatestDelay pr_delays pr_fractions pr_heads tr_greatestDelay tr_delays tr_fractions tr_heads pt_next pt_kept hk_kind hk_i hk_j hk_length hk_wasTold hk_d hk_f hk_z) (fun (u : Int32 × (Nat → Int32) × (Nat → Int32) × Int32 × (Nat → Int32) × (Nat → Int32) × (Nat → Int32) × Int32 × Int32 × (Nat → Int32) × (Nat → Int32) × (Nat → Int32) × (Nat → Int32)) => (w_Dc E dc0 le0 le1 rd0 rd1 dr0 dr1 dr2 dr3 dr4 pl0 pl1 pl2 pl3 pl4 pa0 pa1 pr0 pr1 pr2 pr3 tr0 tr1 tr2 tr3 pt0 pt1 ca0 cb0 cc0 cd0 le_length le_signs rd_numbers dr_places dr_links dr_mostDrawn dr_ofTen dr_z dr_lengths dr_told dr_delays dr_fractions pl_places u.1 pl_mostDrawn pl_ofTen pl_z u.2.1 pl_told pl_delays pl_fractions u.2.2.1 u.2.2.2.1 u.2.2.2.2.1 u.2.2.2.2.2.1 u.2.2.2.2.2.2.1 tr_greatestDelay tr_delays tr_fractions tr_heads u.2.2.2.2.2.2.2.1 u.2.2.2.2.2.2.2.2.1 u.2.2.2.2.2.2.2.2.2.1 u.2.2.2.2.2.2.2.2.2.2.1 u.2.2.2.2.2.2.2.2.2.2.2.1 u.2.2.2.2.2.2.2.2.2.2.2.2 hk_wasTold hk_d hk_f hk_z)) res) 0 0 (va_A (w_Dc E dc0 le0 le1 rd0 rd1 dr0 dr1 dr2 dr3 dr4 pl0 pl1 pl2 pl3 pl4 pa0 pa1 pr0 pr1 pr2 pr3 tr0 tr1 tr2 tr3 pt0 pt1 ca0 cb0 cc0 cd0 le_length le_signs rd_numbers dr_places dr_links dr_mostDrawn dr_ofTen dr_z dr_lengths dr_told dr_delays dr_fractions pl_places pl_links pl_mostDrawn pl_ofTen pl_z pl_lengths pl_told pl_delays pl_fractions pa_sums pr_greatestDelay pr_delays pr_fractions pr_heads tr_greatestDelay tr_delays tr_fractions tr_heads pt_next pt_kept hk_kind hk_i hk_j hk_length hk_wasTold hk_d hk_f hk_z) sz) := by
  refine mk_Mv (cc := cX7_changeLength) (maxL := 4) (by decide) rfl (Nat.le_of_ble_eq_true rfl) ?_
  intro p e s m args below meth c Q A S hKN hA hret H locs ls hP hD hS hl
  obtain ⟨hx, hb, hml, hown, hts⟩ := S
  obtain ⟨hK, hN⟩ := hKN
  have hl : lv_has ls 4 [(0, .ref dc0), (1, .int a1), (2, .int a2), (3, .int a3)] := hl
  have q_0 := hts (.fieldLink RX7 52 "DelayClusters" "past" "LDelayClusters$Past;") (by decide +kernel)
  have q_1 := hts (.fieldLink RX7 26 "DelayClusters" "plan" "LDelayClusters$Plan;") (by decide +kernel)
  unfold Dc_changeLength at hf
  refine lv_aload_n hx hb dX7_changeLength_0 rfl (lv_at hl 0 rfl) ?_
  refine va_get (D := E.1) (ci := 7) (v := .ref pt0) (C := RX7) (T := TX7) (N := 7) hx hb hts in_X7_changeLength_X7 hown hK hP 0 rfl rfl 6 (by decide) q_0 (fun _ h9 => h9) rfl dX7_changeLength_1 ?_
  refine lv_aload_n hx hb dX7_changeLength_4 rfl (lv_at hl 0 rfl) ?_
  refine va_get (D := E.1) (ci := 7) (v := .ref pl0) (C := RX7) (T := TX7) (N := 7) hx hb hts in_X7_changeLength_X7 hown hK hP 0 rfl rfl 2 (by decide) q_1 (fun _ h9 => h9) rfl dX7_changeLength_5 ?_
  refine lv_iload_n hx hb dX7_changeLength_8 rfl (lv_at hl 1 rfl) ?_
  refine lv_iload_n hx hb dX7_changeLength_9 rfl (lv_at hl 2 rfl) ?_
  obtain ⟨⟨pt_next_2, pt_kept_3, hk_kind_4, hk_i_5, hk_j_6, hk_length_7⟩, h_1, hf⟩ := bd_s hf
  try dsimp only at hf
  refine ca_Mv (w2 := (w_Dc E dc0 le0 le1 rd0 rd1 dr0 dr1 dr2 dr3 dr4 pl0 pl1 pl2 pl3 pl4 pa0 pa1 pr0 pr1 pr2 pr3 tr0 tr1 tr2 tr3 pt0 pt1 ca0 cb0 cc0 cd0 le_length le_signs rd_numbers dr_places dr_links dr_mostDrawn dr_ofTen dr_z dr_lengths dr_told dr_delays dr_fractions pl_places pl_links pl_mostDrawn pl_ofTen pl_z pl_lengths pl_told pl_delays pl_fractions pa_sums pr_greatestDelay pr_delays pr_fractions pr_heads tr_greatestDelay tr_delays tr_fractions tr_heads pt_next_2 pt_kept_3 hk_kind_4 hk_i_5 hk_j_6 hk_length_7 hk_wasTold hk_d hk_f hk_z)) (As := [.ref pl0, .int a1, .int a2]) (rest := []) ⟨hx, hb, hml, hown, hts⟩ ⟨hK, hN⟩ hP hD hS hA (c_Pt_keepLink l E pt0 pt1 ca0 cb0 cc0 cd0 pl0 pl1 pl2 pl3 pl4 H.size pt_next pt_kept hk_kind hk_i hk_j hk_length hk_wasTold hk_d hk_f hk_z pl_places pl_links pl_mostDrawn pl_ofTen pl_z pl_lengths pl_told pl_delays pl_fractions a1 a2 (pt_next_2, pt_kept_3, hk_kind_4, hk_i_5, hk_j_6, hk_length_7) h_1) [25, 26, 27, 28, 29, 30, 10, 11, 12, 13, 14] [0, 1, 2, 3, 4, 5, 6, 7, 8, 9, 15, 16, 17, 18, 19, 20, 21, 22, 23, 24] [0, 1, 2, 3, 4, 5, 6, 7, 8, 9, 26, 27, 28, 29, 30, 10, 11, 12, 13, 14, 15, 16, 17, 18, 19, 20, 21, 22, 23, 24, 25] rfl rfl rfl rfl (by decide) rfl rfl 3 25 rfl rfl rfl gX7_changeLength_X3_keepLink rfl rfl rfl rfl hd_Pt_keepLink ⟨(Nat.le_of_ble_eq_true rfl), (Nat.le_of_ble_eq_true rfl)⟩ rfl hl.1 rfl (Nat.le_of_ble_eq_true rfl) dX7_changeLength_10 ⟨(Nat.zero_le _), (Nat.zero_le _)⟩ (fun H locs hP hD hS => ?_)
  refine lv_aload_n hx hb dX7_changeLength_13 rfl (lv_at hl 0 rfl) ?_
  refine va_get (D := E.1) (ci := 7) (v := .ref pl0) (C := RX7) (T := TX7) (N := 7) hx hb hts in_X7_changeLength_X7 hown hK hP 0 rfl rfl 2 (by decide) q_1 (fun _ h9 => h9) rfl dX7_changeLength_14 ?_
  refine lv_iload_n hx hb dX7_changeLength_17 rfl (lv_at hl 1 rfl) ?_
  refine lv_iload_n hx hb dX7_changeLength_18 rfl (lv_at hl 2 rfl) ?_
  refine lv_iload_n hx hb dX7_changeLength_19 rfl (lv_at hl 3 rfl) ?_
  obtain ⟨⟨pl_links_9, pl_lengths_10⟩, h_8, hf⟩ := bd_s hf
  try dsimp only at hf
  refine ca_Mv (w2 := (w_Dc E dc0 le0 le1 rd0 rd1 dr0 dr1 dr2 dr3 dr4 pl0 pl1 pl2 pl3 pl4 pa0 pa1 pr0 pr1 pr2 pr3 tr0 tr1 tr2 tr3 pt0 pt1 ca0 cb0 cc0 cd0 le_length le_signs rd_numbers dr_places dr_links dr_mostDrawn dr_ofTen dr_z dr_lengths dr_told dr_delays dr_fractions pl_places pl_links_9 pl_mostDrawn pl_ofTen pl_z pl_lengths_10 pl_told pl_delays pl_fractions pa_sums pr_greatestDelay pr_delays pr_fractions pr_heads tr_greatestDelay tr_delays tr_fractions tr_heads pt_next_2 pt_kept_3 hk_kind_4 hk_i_5 hk_j_6 hk_length_7 hk_wasTold hk_d hk_f hk_z)) (As := [.int a1, .int a2, .int a3]) (rest := []) ⟨hx, hb, hml, hown, hts⟩ ⟨hK, hN⟩ hP hD hS hA (c_Pl_setLength l E pl0 pl1 pl2 pl3 pl4 H.size pl_places pl_links pl_mostDrawn pl_ofTen pl_z pl_lengths pl_told pl_delays pl_fractions a1 a2 a3 (pl_links_9, pl_lengths_10) h_8) [10, 11, 12, 13, 14] [0, 1, 2, 3, 4, 5, 6, 7, 8, 9, 15, 16, 17, 18, 19, 20, 21, 22, 23, 24, 25, 26, 27, 28, 29, 30] [0, 1, 2, 3, 4, 5, 6, 7, 8, 9, 26, 27, 28, 29, 30, 10, 11, 12, 13, 14, 15, 16, 17, 18, 19, 20, 21, 22, 23, 24, 25] rfl rfl rfl rfl (by decide) rfl rfl 5 10 rfl rfl rfl gX7_changeLength_X5_setLength rfl rfl rfl rfl hd_Pl_setLength ⟨(Nat.le_of_ble_eq_true rfl), (Nat.le_of_ble_eq_true rfl)⟩ rfl hl.1 rfl (Nat.le_of_ble_eq_true rfl) dX7_changeLength_20 ⟨(Nat.zero_le _), (Nat.zero_le _)⟩ (fun H locs hP hD hS => ?_)
  refine lv_aload_n hx hb dX7_changeLength_23 rfl (lv_at hl 0 rfl) ?_
  obtain ⟨⟨pa_sums_12, pr_greatestDelay_13, pr_delays_14, pr_fractions_15, pr_heads_16⟩, h_11, hf⟩ := bd_s hf
  try dsimp only at hf
  refine ca_Mv (w2 := (w_Dc E dc0 le0 le1 rd0 rd1 dr0 dr1 dr2 dr3 dr4 pl0 pl1 pl2 pl3 pl4 pa0 pa1 pr0 pr1 pr2 pr3 tr0 tr1 tr2 tr3 pt0 pt1 ca0 cb0 cc0 cd0 le_length le_signs rd_numbers dr_places dr_links dr_mostDrawn dr_ofTen dr_z dr_lengths dr_told dr_delays dr_fractions pl_places pl_links_9 pl_mostDrawn pl_ofTen pl_z pl_lengths_10 pl_told pl_delays pl_fractions pa_sums_12 pr_greatestDelay_13 pr_delays_14 pr_fractions_15 pr_heads_16 tr_greatestDelay tr_delays tr_fractions tr_heads pt_next_2 pt_kept_3 hk_kind_4 hk_i_5 hk_j_6 hk_length_7 hk_wasTold hk_d hk_f hk_z)) (As := []) (rest := []) ⟨hx, hb, hml, hown, hts⟩ ⟨hK, hN⟩ hP hD hS hA (c_Dc_settleAll l E dc0 le0 le1 rd0 rd1 dr0 dr1 dr2 dr3 dr4 pl0 pl1 pl2 pl3 pl4 pa0 pa1 pr0 pr1 pr2 pr3 tr0 tr1 tr2 tr3 pt0 pt1 ca0 cb0 cc0 cd0 H.size le_length le_signs rd_numbers dr_places dr_links dr_mostDrawn dr_ofTen dr_z dr_lengths dr_told dr_delays dr_fractions pl_places pl_links_9 pl_mostDrawn pl_ofTen pl_z pl_lengths_10 pl_told pl_delays pl_fractions pa_sums pr_greatestDelay pr_delays pr_fractions pr_heads tr_greatestDelay tr_delays tr_fractions tr_heads pt_next_2 pt_kept_3 hk_kind_4 hk_i_5 hk_j_6 hk_length_7 hk_wasTold hk_d hk_f hk_z (pa_sums_12, pr_greatestDelay_13, pr_delays_14, pr_fractions_15, pr_heads_16) h_11) [0, 1, 2, 3, 4, 5, 6, 7, 8, 9, 10, 11, 12, 13, 14, 15, 16, 17, 18, 19, 20, 21, 22, 23, 24, 25, 26, 27, 28, 29, 30] [] [0, 1, 2, 3, 4, 5, 6, 7, 8, 9, 10, 11, 12, 13, 14, 15, 16, 17, 18, 19, 20, 21, 22, 23, 24, 25, 26, 27, 28, 29, 30] rfl rfl rfl rfl (by decide) rfl rfl 7 0 rfl rfl rfl gX7_changeLength_X7_settleAll rfl rfl rfl rfl hd_Dc_settleAll ⟨(Nat.le_of_ble_eq_true rfl), (Nat.le_of_ble_eq_true rfl)⟩ rfl hl.1 rfl (Nat.le_of_ble_eq_true rfl) dX7_changeLength_24 ⟨(Nat.zero_le _), (Nat.zero_le _)⟩ (fun H locs hP hD hS => ?_)
  exact hret H locs ls 27 (pl_links_9, pl_lengths_10, pa_sums_12, pr_greatestDelay_13, pr_delays_14, pr_fractions_15, pr_heads_16, pt_next_2, pt_kept_3, hk_kind_4, hk_i_5, hk_j_6, hk_length_7) dX7_changeLength_27 (Option.some.inj hf) hP hD hS
abbrev rm_Dc_link : Room := { frames := 6, cells := 0, slots := 0, locals := 134 }
theorem hd_Dc_link : hdOK yX7_link 3 := by decide +kernel
theorem in_X7_link_X7 : ∀ w ∈ wsX70, w ∈ wsX7_link := by decide +kernel
set_option maxRecDepth 100000 in
set_option maxHeartbeats 4000000 in
theorem c_Dc_link (l : Launch) (E : En4) (dc0 le0 le1 rd0 rd1 dr0 dr1 dr2 dr3 dr4 pl0 pl1 pl2 pl3 pl4 pa0 pa1 pr0 pr1 pr2 pr3 tr0 tr1 tr2 tr3 pt0 pt1 ca0 cb0 cc0 cd0 : Nat) (sz : Nat) (le_length : Int32) (le_signs : Nat → Int32) (rd_numbers : Nat → Int32) (dr_places : Int32) (dr_links : Int32) (dr_mostDrawn : Int32) (dr_ofTen : Int32) (dr_z : Int32) (dr_lengths : Nat → Int32) (dr_told : Nat → Int32) (dr_delays : Nat → Int32) (dr_fractions : Nat → Int32) (pl_places : Int32) (pl_links : Int32) (pl_mostDrawn : Int32) (pl_ofTen : Int32) (pl_z : Int32) (pl_lengths : Nat → Int32) (pl_told : Nat → Int32) (pl_delays : Nat → Int32) (pl_fractions : Nat → Int32) (pa_sums : Nat → Int32) (pr_greatestDelay : Int32) (pr_delays : Nat → Int32) (pr_fractions : Nat → Int32) (pr_heads : Nat → Int32) (tr_greatestDelay : Int32) (tr_delays : Nat → Int32) (tr_fractions : Nat → Int32) (tr_heads : Nat → Int32) (pt_next : Int32) (pt_kept : Int32) (hk_kind : Nat → Int32) (hk_i : Nat → Int32) (hk_j : Nat → Int32) (hk_length : Nat → Int32) (hk_wasTold : Nat → Int32) (hk_d : Nat → Int32) (hk_f : Nat → Int32) (hk_z : Nat → Int32) (a1 : Int32) (a2 : Int32) (a3 : Int32)  (res : Int32 × Int32 × (Nat → Int32) × (Nat → Int32) × Int32 × (Nat → Int32) × (Nat → Int32) × (Nat → Int32) × Int32 × Int32 × (Nat → Int32) × (Nat → Int32) × (Nat → Int32) × (Nat → Int32)) (hf : Dc_link pl_places pl_links pl_mostDrawn pl_ofTen pl_z pl_lengths pl_told pl_delays pl_fractions pa_sums pr_greatestDelay pr_delays pr_fractions pr_heads pt_next pt_kept hk_kind hk_i hk_j hk_length a1 a2 a3 = some res) : Met l yX7_link wsX7_link rm_Dc_link (pcM [.ref dc0, .int a1, .int a2, .int a3] E sz (w_Dc E dc0 le0 le1 rd0 rd1 dr0 dr1 dr2 dr3 dr4 pl0 pl1 pl2 pl3 pl4 pa0 pa1 pr0 pr1 pr2 pr3 tr0 tr1 tr2 tr3 pt0 pt1 ca0 cb0 cc0 cd0 le_length le_signs rd_numbers dr_places dr_links dr_mostDrawn dr_ofTen dr_z dr_lengths dr_told dr_delays dr_fractions pl_places pl_links pl_mostDrawn pl_ofTen pl_z pl_lengths pl_told pl_delays pl_fractions pa_sums pr_greatestDelay pr_delays pr_fractions pr_heads tr_greatestDelay tr_delays tr_fractions tr_heads pt_next pt_kept hk_kind hk_i hk_j hk_length hk_wasTold hk_d hk_f hk_z)) (QMi E sz (w_Dc E dc0 le0 le1 rd0 rd1 dr0 dr1 dr2 dr3 dr4 pl0 pl1 pl2 pl3 pl4 pa0 pa1 pr0 pr1 pr2 pr3 tr0 tr1 tr2 tr3 pt0 pt1 ca0 cb0 cc0 cd0 le_length le_signs rd_numbers dr_places dr_links dr_mostDrawn dr_ofTen dr_z dr_lengths dr_told dr_delays dr_fractions pl_places pl_links pl_mostDrawn pl_ofTen pl_z pl_lengths pl_told pl_delays pl_fractions pa_sums pr_greatestDelay pr_delays pr_fractions pr_heads tr_greatestDelay tr_delays tr_fractions tr_heads pt_next pt_kept hk_kind hk_i hk_j hk_length hk_wasTold hk_d hk_f hk_z) (fun (u : Int32 × (Nat → Int32) × (Nat → Int32) × Int32 × (Nat → Int32) × (Nat → Int32) × (Nat → Int32) × Int32 × Int32 × (Nat → Int32) × (Nat → Int32) × (Nat → Int32) × (Nat → Int32)) => (w_Dc E dc0 le0 le1 rd0 rd1 dr0 dr1 dr2 dr3 dr4 pl0 pl1 pl2 pl3 pl4 pa0 pa1 pr0 pr1 pr2 pr3 tr0 tr1 tr2 tr3 pt0 pt1 ca0 cb0 cc0 cd0 le_length le_signs rd_numbers dr_places dr_links dr_mostDrawn dr_ofTen dr_z dr_lengths dr_told dr_delays dr_fractions pl_places u.1 pl_mostDrawn pl_ofTen pl_z u.2.1 pl_told pl_delays pl_fractions u.2.2.1 u.2.2.2.1 u.2.2.2.2.1 u.2.2.2.2.2.1 u.2.2.2.2.2.2.1 tr_greatestDelay tr_delays tr_fractions tr_heads u.2.2.2.2.2.2.2.1 u.2.2.2.2.2.2.2.2.1 u.2.2.2.2.2.2.2.2.2.1 u.2.2.2.2.2.2.2.2.2.2.1 u.2.2.2.2.2.2.2.2.2.2.2.1 u.2.2.2.2.2.2.2.2.2.2.2.2 hk_wasTold hk_d hk_f hk_z)) res) 0 0 (va_A (w_Dc E dc0 le0 le1 rd0 rd1 dr0 dr1 dr2 dr3 dr4 pl0 pl1 pl2 pl3 pl4 pa0 pa1 pr0 pr1 pr2 pr3 tr0 tr1 tr2 tr3 pt0 pt1 ca0 cb0 cc0 cd0 le_length le_signs rd_numbers dr_places dr_links dr_mostDrawn dr_ofTen dr_z dr_lengths dr_told dr_delays dr_fractions pl_places pl_links pl_mostDrawn pl_ofTen pl_z pl_lengths pl_told pl_delays pl_fractions pa_sums pr_greatestDelay pr_delays pr_fractions pr_heads tr_greatestDelay tr_delays tr_fractions tr_heads pt_next pt_kept hk_kind hk_i hk_j hk_length hk_wasTold hk_d hk_f hk_z) sz) := by
  refine mk_Mi (cc := cX7_link) (maxL := 5) (by decide) rfl (Nat.le_of_ble_eq_true rfl) ?_
  intro p e s m args below meth c Q A S hKN hA hret H locs ls hP hD hS hl
  obtain ⟨hx, hb, hml, hown, hts⟩ := S
  obtain ⟨hK, hN⟩ := hKN
  have hl : lv_has ls 5 [(0, .ref dc0), (1, .int a1), (2, .int a2), (3, .int a3)] := hl
  have q_0 := hts (.fieldLink RX7 26 "DelayClusters" "plan" "LDelayClusters$Plan;") (by decide +kernel)
  unfold Dc_link at hf
  refine lv_aload_n hx hb dX7_link_0 rfl (lv_at hl 0 rfl) ?_
  refine va_get (D := E.1) (ci := 7) (v := .ref pl0) (C := RX7) (T := TX7) (N := 7) hx hb hts in_X7_link_X7 hown hK hP 0 rfl rfl 2 (by decide) q_0 (fun _ h9 => h9) rfl dX7_link_1 ?_
  refine lv_iload_n hx hb dX7_link_4 rfl (lv_at hl 1 rfl) ?_
  refine lv_iload_n hx hb dX7_link_5 rfl (lv_at hl 2 rfl) ?_
  obtain ⟨r_2, h_1, hf⟩ := bd_s hf
  refine ca_V (As := [.int a1, .int a2]) (rest := []) ⟨hx, hb, hml, hown, hts⟩ ⟨hK, hN⟩ hP (c_Pl_isPair l E pl0 pl1 pl2 pl3 pl4 pl_places pl_links pl_mostDrawn pl_ofTen pl_z pl_lengths pl_told pl_delays pl_fractions a1 a2 r_2 h_1) [10, 11, 12, 13, 14] rfl 5 10 rfl rfl rfl gX7_link_X5_isPair rfl rfl rfl rfl hd_Pl_isPair ⟨(Nat.le_of_ble_eq_true rfl), (Nat.le_of_ble_eq_true rfl)⟩ rfl hl.1 rfl (Nat.le_of_ble_eq_true rfl) dX7_link_6 ⟨(Nat.zero_le _), (Nat.zero_le _)⟩ ?_
  refine lv_if_eq (tgt := 22) hx hb dX7_link_9 (by decide) (fun c_29 => ?_) (fun c_29 => ?_)
  · have hf := ite_t c_29 hf
    refine lv_iconst (v := (-1)) hx hb dX7_link_22 (by decide) ?_
    exact hret H locs ls 23 (-1) (pl_links, pl_lengths, pa_sums, pr_greatestDelay, pr_delays, pr_fractions, pr_heads, pt_next, pt_kept, hk_kind, hk_i, hk_j, hk_length) dX7_link_23 (Option.some.inj hf) hP hD hS
  · have hf := ite_f c_29 hf
    refine lv_iload_n hx hb dX7_link_12 rfl (lv_at hl 3 rfl) ?_
    refine lv_iconst (v := 1) hx hb dX7_link_13 (by decide) ?_
    refine lv_bipush (v := 9) hx hb dX7_link_14 (by decide) ?_
    obtain ⟨r_4, h_3, hf⟩ := bd_s hf
    refine ca_S (As := [.int a3, .int 1, .int 9]) (rest := []) ⟨hx, hb, hml, hown, hts⟩ ⟨hK, hN⟩ hP (c_Dc_isWithin l E   a3 1 9 r_4 h_3) [] rfl gX7_link_X7_isWithin rfl rfl rfl hd_Dc_isWithin ⟨(Nat.le_of_ble_eq_true rfl), (Nat.le_of_ble_eq_true rfl)⟩ rfl hl.1 rfl (Nat.le_of_ble_eq_true rfl) dX7_link_16 ⟨(Nat.zero_le _), (Nat.zero_le _)⟩ ?_
    refine lv_if_ne (tgt := 24) hx hb dX7_link_19 (by decide) (fun c_28 => ?_) (fun c_28 => ?_)
    · have hf := ite_f c_28 hf
      refine lv_aload_n hx hb dX7_link_24 rfl (lv_at hl 0 rfl) ?_
      refine va_get (D := E.1) (ci := 7) (v := .ref pl0) (C := RX7) (T := TX7) (N := 7) hx hb hts in_X7_link_X7 hown hK hP 0 rfl rfl 2 (by decide) q_0 (fun _ h9 => h9) rfl dX7_link_25 ?_
      refine lv_iload_n hx hb dX7_link_28 rfl (lv_at hl 1 rfl) ?_
      refine lv_iload_n hx hb dX7_link_29 rfl (lv_at hl 2 rfl) ?_
      obtain ⟨r_6, h_5, hf⟩ := bd_s hf
      refine ca_V (As := [.int a1, .int a2]) (rest := []) ⟨hx, hb, hml, hown, hts⟩ ⟨hK, hN⟩ hP (c_Pl_lengthOf l E pl0 pl1 pl2 pl3 pl4 pl_places pl_links pl_mostDrawn pl_ofTen pl_z pl_lengths pl_told pl_delays pl_fractions a1 a2 r_6 h_5) [10, 11, 12, 13, 14] rfl 5 10 rfl rfl rfl gX7_link_X5_lengthOf rfl rfl rfl rfl hd_Pl_lengthOf ⟨(Nat.le_of_ble_eq_true rfl), (Nat.le_of_ble_eq_true rfl)⟩ rfl hl.1 rfl (Nat.le_of_ble_eq_true rfl) dX7_link_30 ⟨(Nat.zero_le _), (Nat.zero_le _)⟩ ?_
      refine lv_istore (lv' := [(4, .int r_6), (0, .ref dc0), (1, .int a1), (2, .int a2), (3, .int a3)]) hx hb dX7_link_33 hl (by decide) rfl (fun ls hl => ?_)
      refine lv_iload hx hb dX7_link_35 (lv_at hl 0 rfl) ?_
      refine lv_iload_n hx hb dX7_link_37 rfl (lv_at hl 4 rfl) ?_
      refine lv_icmp_ne (tgt := 44) hx hb dX7_link_38 (by decide) (fun c_27 => ?_) (fun c_27 => ?_)
      · have hf := ite_f c_27 hf
        refine lv_iload hx hb dX7_link_44 (lv_at hl 0 rfl) ?_
        obtain ⟨j_46, b_46, hf⟩ := bd_s hf
        have KE_46 : ∀ y_, Sum.inr y_ = j_46 → some y_ = some res := by intro y_ e_; subst e_; exact hf
        have KJ_46 : Sum.inl () = j_46 → ∀ (H : Heap) (locs : List Loc) (ls : Array Slot), va_P E.1 vwCl (w_Dc E dc0 le0 le1 rd0 rd1 dr0 dr1 dr2 dr3 dr4 pl0 pl1 pl2 pl3 pl4 pa0 pa1 pr0 pr1 pr2 pr3 tr0 tr1 tr2 tr3 pt0 pt1 ca0 cb0 cc0 cd0 le_length le_signs rd_numbers dr_places dr_links dr_mostDrawn dr_ofTen dr_z dr_lengths dr_told dr_delays dr_fractions pl_places pl_links pl_mostDrawn pl_ofTen pl_z pl_lengths pl_told pl_delays pl_fractions pa_sums pr_greatestDelay pr_delays pr_fractions pr_heads tr_greatestDelay tr_delays tr_fractions tr_heads pt_next pt_kept hk_kind hk_i hk_j hk_length hk_wasTold hk_d hk_f hk_z) H → va_D A (w_Dc E dc0 le0 le1 rd0 rd1 dr0 dr1 dr2 dr3 dr4 pl0 pl1 pl2 pl3 pl4 pa0 pa1 pr0 pr1 pr2 pr3 tr0 tr1 tr2 tr3 pt0 pt1 ca0 cb0 cc0 cd0 le_length le_signs rd_numbers dr_places dr_links dr_mostDrawn dr_ofTen dr_z dr_lengths dr_told dr_delays dr_fractions pl_places pl_links pl_mostDrawn pl_ofTen pl_z pl_lengths pl_told pl_delays pl_fractions pa_sums pr_greatestDelay pr_delays pr_fractions pr_heads tr_greatestDelay tr_delays tr_fractions tr_heads pt_next pt_kept hk_kind hk_i hk_j hk_length hk_wasTold hk_d hk_f hk_z) → va_S A s.heap H locs → lv_has ls 5 [(0, .ref dc0), (1, .int a1), (2, .int a2), (3, .int a3)] → W p l e rm_Dc_link s m args below meth c H locs 0 0 Q (F0 m 64 ls []) := by
          intro e_
          subst e_
          try dsimp only at hf
          intro H locs ls hP hD hS hl
          refine lv_aload_n hx hb dX7_link_64 rfl (lv_at hl 0 rfl) ?_
          refine lv_iload_n hx hb dX7_link_65 rfl (lv_at hl 1 rfl) ?_
          refine lv_iload_n hx hb dX7_link_66 rfl (lv_at hl 2 rfl) ?_
          refine lv_iload_n hx hb dX7_link_67 rfl (lv_at hl 3 rfl) ?_
          obtain ⟨⟨pl_links_12, pl_lengths_13, pa_sums_14, pr_greatestDelay_15, pr_delays_16, pr_fractions_17, pr_heads_18, pt_next_19, pt_kept_20, hk_kind_21, hk_i_22, hk_j_23, hk_length_24⟩, h_11, hf⟩ := bd_s hf
          try dsimp only at hf
          refine ca_Mv (w2 := (w_Dc E dc0 le0 le1 rd0 rd1 dr0 dr1 dr2 dr3 dr4 pl0 pl1 pl2 pl3 pl4 pa0 pa1 pr0 pr1 pr2 pr3 tr0 tr1 tr2 tr3 pt0 pt1 ca0 cb0 cc0 cd0 le_length le_signs rd_numbers dr_places dr_links dr_mostDrawn dr_ofTen dr_z dr_lengths dr_told dr_delays dr_fractions pl_places pl_links_12 pl_mostDrawn pl_ofTen pl_z pl_lengths_13 pl_told pl_delays pl_fractions pa_sums_14 pr_greatestDelay_15 pr_delays_16 pr_fractions_17 pr_heads_18 tr_greatestDelay tr_delays tr_fractions tr_heads pt_next_19 pt_kept_20 hk_kind_21 hk_i_22 hk_j_23 hk_length_24 hk_wasTold hk_d hk_f hk_z)) (As := [.int a1, .int a2, .int a3]) (rest := []) ⟨hx, hb, hml, hown, hts⟩ ⟨hK, hN⟩ hP hD hS hA (c_Dc_changeLength l E dc0 le0 le1 rd0 rd1 dr0 dr1 dr2 dr3 dr4 pl0 pl1 pl2 pl3 pl4 pa0 pa1 pr0 pr1 pr2 pr3 tr0 tr1 tr2 tr3 pt0 pt1 ca0 cb0 cc0 cd0 H.size le_length le_signs rd_numbers dr_places dr_links dr_mostDrawn dr_ofTen dr_z dr_lengths dr_told dr_delays dr_fractions pl_places pl_links pl_mostDrawn pl_ofTen pl_z pl_lengths pl_told pl_delays pl_fractions pa_sums pr_greatestDelay pr_delays pr_fractions pr_heads tr_greatestDelay tr_delays tr_fractions tr_heads pt_next pt_kept hk_kind hk_i hk_j hk_length hk_wasTold hk_d hk_f hk_z a1 a2 a3 (pl_links_12, pl_lengths_13, pa_sums_14, pr_greatestDelay_15, pr_delays_16, pr_fractions_17, pr_heads_18, pt_next_19, pt_kept_20, hk_kind_21, hk_i_22, hk_j_23, hk_length_24) h_11) [0, 1, 2, 3, 4, 5, 6, 7, 8, 9, 10, 11, 12, 13, 14, 15, 16, 17, 18, 19, 20, 21, 22, 23, 24, 25, 26, 27, 28, 29, 30] [] [0, 1, 2, 3, 4, 5, 6, 7, 8, 9, 10, 11, 12, 13, 14, 15, 16, 17, 18, 19, 20, 21, 22, 23, 24, 25, 26, 27, 28, 29, 30] rfl rfl rfl rfl (by decide) rfl rfl 7 0 rfl rfl rfl gX7_link_X7_changeLength rfl rfl rfl rfl hd_Dc_changeLength ⟨(Nat.le_of_ble_eq_true rfl), (Nat.le_of_ble_eq_true rfl)⟩ rfl hl.1 rfl (Nat.le_of_ble_eq_true rfl) dX7_link_68 ⟨(Nat.zero_le _), (Nat.zero_le _)⟩ (fun H locs hP hD hS => ?_)
          refine lv_aload_n hx hb dX7_link_71 rfl (lv_at hl 0 rfl) ?_
          refine va_get (D := E.1) (ci := 7) (v := .ref pl0) (C := RX7) (T := TX7) (N := 7) hx hb hts in_X7_link_X7 hown hK hP 0 rfl rfl 2 (by decide) q_0 (fun _ h9 => h9) rfl dX7_link_72 ?_
          obtain ⟨r_26, h_25, hf⟩ := bd_s hf
          refine ca_V (As := []) (rest := []) ⟨hx, hb, hml, hown, hts⟩ ⟨hK, hN⟩ hP (c_Pl_links l E pl0 pl1 pl2 pl3 pl4 pl_places pl_links_12 pl_mostDrawn pl_ofTen pl_z pl_lengths_13 pl_told pl_delays pl_fractions r_26 h_25) [10, 11, 12, 13, 14] rfl 5 10 rfl rfl rfl gX7_link_X5_links rfl rfl rfl rfl hd_Pl_links ⟨(Nat.le_of_ble_eq_true rfl), (Nat.le_of_ble_eq_true rfl)⟩ rfl hl.1 rfl (Nat.le_of_ble_eq_true rfl) dX7_link_75 ⟨(Nat.zero_le _), (Nat.zero_le _)⟩ ?_
          exact hret H locs ls 78 r_26 (pl_links_12, pl_lengths_13, pa_sums_14, pr_greatestDelay_15, pr_delays_16, pr_fractions_17, pr_heads_18, pt_next_19, pt_kept_20, hk_kind_21, hk_i_22, hk_j_23, hk_length_24) dX7_link_78 (Option.some.inj hf) hP hD hS
        have hf := b_46
        refine lv_if_ne (tgt := 64) hx hb dX7_link_46 (by decide) (fun c_10 => ?_) (fun c_10 => ?_)
        · have hf := ite_f c_10 hf
          exact KJ_46 (Option.some.inj hf) H locs _ hP hD hS (lv_sub hl [1, 2, 3, 4] rfl)
        · have hf := ite_t c_10 hf
          refine lv_aload_n hx hb dX7_link_49 rfl (lv_at hl 1 rfl) ?_
          refine va_get (D := E.1) (ci := 7) (v := .ref pl0) (C := RX7) (T := TX7) (N := 7) hx hb hts in_X7_link_X7 hown hK hP 0 rfl rfl 2 (by decide) q_0 (fun _ h9 => h9) rfl dX7_link_50 ?_
          obtain ⟨r_8, h_7, hf⟩ := bd_s hf
          refine ca_V (As := []) (rest := []) ⟨hx, hb, hml, hown, hts⟩ ⟨hK, hN⟩ hP (c_Pl_links l E pl0 pl1 pl2 pl3 pl4 pl_places pl_links pl_mostDrawn pl_ofTen pl_z pl_lengths pl_told pl_delays pl_fractions r_8 h_7) [10, 11, 12, 13, 14] rfl 5 10 rfl rfl rfl gX7_link_X5_links rfl rfl rfl rfl hd_Pl_links ⟨(Nat.le_of_ble_eq_true rfl), (Nat.le_of_ble_eq_true rfl)⟩ rfl hl.1 rfl (Nat.le_of_ble_eq_true rfl) dX7_link_53 ⟨(Nat.zero_le _), (Nat.zero_le _)⟩ ?_
          refine lv_bipush (v := 40) hx hb dX7_link_56 (by decide) ?_
          refine lv_icmp_lt (tgt := 64) hx hb dX7_link_58 (by decide) (fun c_9 => ?_) (fun c_9 => ?_)
          · have hf := ite_t c_9 hf
            exact KJ_46 (Option.some.inj hf) H locs _ hP hD hS (lv_sub hl [1, 2, 3, 4] rfl)
          · have hf := ite_f c_9 hf
            refine lv_bipush (v := (-3)) hx hb dX7_link_61 (by decide) ?_
            have hf := KE_46 _ (Option.some.inj hf)
            exact hret H locs ls 63 (-3) (pl_links, pl_lengths, pa_sums, pr_greatestDelay, pr_delays, pr_fractions, pr_heads, pt_next, pt_kept, hk_kind, hk_i, hk_j, hk_length) dX7_link_63 (Option.some.inj hf) hP hD hS
      · have hf := ite_t c_27 hf
        refine lv_bipush (v := (-2)) hx hb dX7_link_41 (by decide) ?_
        exact hret H locs ls 43 (-2) (pl_links, pl_lengths, pa_sums, pr_greatestDelay, pr_delays, pr_fractions, pr_heads, pt_next, pt_kept, hk_kind, hk_i, hk_j, hk_length) dX7_link_43 (Option.some.inj hf) hP hD hS
    · have hf := ite_t c_28 hf
      refine lv_iconst (v := (-1)) hx hb dX7_link_22 (by decide) ?_
      exact hret H locs ls 23 (-1) (pl_links, pl_lengths, pa_sums, pr_greatestDelay, pr_delays, pr_fractions, pr_heads, pt_next, pt_kept, hk_kind, hk_i, hk_j, hk_length) dX7_link_23 (Option.some.inj hf) hP hD hS
abbrev rm_Dc_unlink : Room := { frames := 6, cells := 0, slots := 0, locals := 134 }
theorem hd_Dc_unlink : hdOK yX7_unlink 2 := by decide +kernel
theorem in_X7_unlink_X7 : ∀ w ∈ wsX70, w ∈ wsX7_unlink := by decide +kernel
set_option maxRecDepth 100000 in
set_option maxHeartbeats 4000000 in
theorem c_Dc_unlink (l : Launch) (E : En4) (dc0 le0 le1 rd0 rd1 dr0 dr1 dr2 dr3 dr4 pl0 pl1 pl2 pl3 pl4 pa0 pa1 pr0 pr1 pr2 pr3 tr0 tr1 tr2 tr3 pt0 pt1 ca0 cb0 cc0 cd0 : Nat) (sz : Nat) (le_length : Int32) (le_signs : Nat → Int32) (rd_numbers : Nat → Int32) (dr_places : Int32) (dr_links : Int32) (dr_mostDrawn : Int32) (dr_ofTen : Int32) (dr_z : Int32) (dr_lengths : Nat → Int32) (dr_told : Nat → Int32) (dr_delays : Nat → Int32) (dr_fractions : Nat → Int32) (pl_places : Int32) (pl_links : Int32) (pl_mostDrawn : Int32) (pl_ofTen : Int32) (pl_z : Int32) (pl_lengths : Nat → Int32) (pl_told : Nat → Int32) (pl_delays : Nat → Int32) (pl_fractions : Nat → Int32) (pa_sums : Nat → Int32) (pr_greatestDelay : Int32) (pr_delays : Nat → Int32) (pr_fractions : Nat → Int32) (pr_heads : Nat → Int32) (tr_greatestDelay : Int32) (tr_delays : Nat → Int32) (tr_fractions : Nat → Int32) (tr_heads : Nat → Int32) (pt_next : Int32) (pt_kept : Int32) (hk_kind : Nat → Int32) (hk_i : Nat → Int32) (hk_j : Nat → Int32) (hk_length : Nat → Int32) (hk_wasTold : Nat → Int32) (hk_d : Nat → Int32) (hk_f : Nat → Int32) (hk_z : Nat → Int32) (a1 : Int32) (a2 : Int32)  (res : Int32 × Int32 × (Nat → Int32) × (Nat → Int32) × Int32 × (Nat → Int32) × (Nat → Int32) × (Nat → Int32) × Int32 × Int32 × (Nat → Int32) × (Nat → Int32) × (Nat → Int32) × (Nat → Int32)) (hf : Dc_unlink pl_places pl_links pl_mostDrawn pl_ofTen pl_z pl_lengths pl_told pl_delays pl_fractions pa_sums pr_greatestDelay pr_delays pr_fractions pr_heads pt_next pt_kept hk_kind hk_i hk_j hk_length a1 a2 = some res) : Met l yX7_unlink wsX7_unlink rm_Dc_unlink (pcM [.ref dc0, .int a1, .int a2] E sz (w_Dc E dc0 le0 le1 rd0 rd1 dr0 dr1 dr2 dr3 dr4 pl0 pl1 pl2 pl3 pl4 pa0 pa1 pr0 pr1 pr2 pr3 tr0 tr1 tr2 tr3 pt0 pt1 ca0 cb0 cc0 cd0 le_length le_signs rd_numbers dr_places dr_links dr_mostDrawn dr_ofTen dr_z dr_lengths dr_told dr_delays dr_fractions pl_places pl_links pl_mostDrawn pl_ofTen pl_z pl_lengths pl_told pl_delays pl_fractions pa_sums pr_greatestDelay pr_delays pr_fractions pr_heads tr_greatestDelay tr_delays tr_fractions tr_heads pt_next pt_kept hk_kind hk_i hk_j hk_length hk_wasTold hk_d hk_f hk_z)) (QMi E sz (w_Dc E dc0 le0 le1 rd0 rd1 dr0 dr1 dr2 dr3 dr4 pl0 pl1 pl2 pl3 pl4 pa0 pa1 pr0 pr1 pr2 pr3 tr0 tr1 tr2 tr3 pt0 pt1 ca0 cb0 cc0 cd0 le_length le_signs rd_numbers dr_places dr_links dr_mostDrawn dr_ofTen dr_z dr_lengths dr_told dr_delays dr_fractions pl_places pl_links pl_mostDrawn pl_ofTen pl_z pl_lengths pl_told pl_delays pl_fractions pa_sums pr_greatestDelay pr_delays pr_fractions pr_heads tr_greatestDelay tr_delays tr_fractions tr_heads pt_next pt_kept hk_kind hk_i hk_j hk_length hk_wasTold hk_d hk_f hk_z) (fun (u : Int32 × (Nat → Int32) × (Nat → Int32) × Int32 × (Nat → Int32) × (Nat → Int32) × (Nat → Int32) × Int32 × Int32 × (Nat → Int32) × (Nat → Int32) × (Nat → Int32) × (Nat → Int32)) => (w_Dc E dc0 le0 le1 rd0 rd1 dr0 dr1 dr2 dr3 dr4 pl0 pl1 pl2 pl3 pl4 pa0 pa1 pr0 pr1 pr2 pr3 tr0 tr1 tr2 tr3 pt0 pt1 ca0 cb0 cc0 cd0 le_length le_signs rd_numbers dr_places dr_links dr_mostDrawn dr_ofTen dr_z dr_lengths dr_told dr_delays dr_fractions pl_places u.1 pl_mostDrawn pl_ofTen pl_z u.2.1 pl_told pl_delays pl_fractions u.2.2.1 u.2.2.2.1 u.2.2.2.2.1 u.2.2.2.2.2.1 u.2.2.2.2.2.2.1 tr_greatestDelay tr_delays tr_fractions tr_heads u.2.2.2.2.2.2.2.1 u.2.2.2.2.2.2.2.2.1 u.2.2.2.2.2.2.2.2.2.1 u.2.2.2.2.2.2.2.2.2.2.1 u.2.2.2.2.2.2.2.2.2.2.2.1 u.2.2.2.2.2.2.2.2.2.2.2.2 hk_wasTold hk_d hk_f hk_z)) res) 0 0 (va_A (w_Dc E dc0 le0 le1 rd0 rd1 dr0 dr1 dr2 dr3 dr4 pl0 pl1 pl2 pl3 pl4 pa0 pa1 pr0 pr1 pr2 pr3 tr0 tr1 tr2 tr3 pt0 pt1 ca0 cb0 cc0 cd0 le_length le_signs rd_numbers dr_places dr_links dr_mostDrawn dr_ofTen dr_z dr_lengths dr_told dr_delays dr_fractions pl_places pl_links pl_mostDrawn pl_ofTen pl_z pl_lengths pl_told pl_delays pl_fractions pa_sums pr_greatestDelay pr_delays pr_fractions pr_heads tr_greatestDelay tr_delays tr_fractions tr_heads pt_next pt_kept hk_kind hk_i hk_j hk_length hk_wasTold hk_d hk_f hk_z) sz) := by
  refine mk_Mi (cc := cX7_unlink) (maxL := 4) (by decide) rfl (Nat.le_of_ble_eq_true rfl) ?_
  intro p e s m args below meth c Q A S hKN hA hret H locs ls hP hD hS hl
  obtain ⟨hx, hb, hml, hown, hts⟩ := S
  obtain ⟨hK, hN⟩ := hKN
  have hl : lv_has ls 4 [(0, .ref dc0), (1, .int a1), (2, .int a2)] := hl
  have q_0 := hts (.fieldLink RX7 26 "DelayClusters" "plan" "LDelayClusters$Plan;") (by decide +kernel)
  unfold Dc_unlink at hf
  refine lv_aload_n hx hb dX7_unlink_0 rfl (lv_at hl 0 rfl) ?_
  refine va_get (D := E.1) (ci := 7) (v := .ref pl0) (C := RX7) (T := TX7) (N := 7) hx hb hts in_X7_unlink_X7 hown hK hP 0 rfl rfl 2 (by decide) q_0 (fun _ h9 => h9) rfl dX7_unlink_1 ?_
  refine lv_iload_n hx hb dX7_unlink_4 rfl (lv_at hl 1 rfl) ?_
  refine lv_iload_n hx hb dX7_unlink_5 rfl (lv_at hl 2 rfl) ?_
  obtain ⟨r_2, h_1, hf⟩ := bd_s hf
  refine ca_V (As := [.int a1, .int a2]) (rest := []) ⟨hx, hb, hml, hown, hts⟩ ⟨hK, hN⟩ hP (c_Pl_isPair l E pl0 pl1 pl2 pl3 pl4 pl_places pl_links pl_mostDrawn pl_ofTen pl_z pl_lengths pl_told pl_delays pl_fractions a1 a2 r_2 h_1) [10, 11, 12, 13, 14] rfl 5 10 rfl rfl rfl gX7_unlink_X5_isPair rfl rfl rfl rfl hd_Pl_isPair ⟨(Nat.le_of_ble_eq_true rfl), (Nat.le_of_ble_eq_true rfl)⟩ rfl hl.1 rfl (Nat.le_of_ble_eq_true rfl) dX7_unlink_6 ⟨(Nat.zero_le _), (Nat.zero_le _)⟩ ?_
  refine lv_if_ne (tgt := 14) hx hb dX7_unlink_9 (by decide) (fun c_20 => ?_) (fun c_20 => ?_)
  · have hf := ite_f c_20 hf
    refine lv_aload_n hx hb dX7_unlink_14 rfl (lv_at hl 0 rfl) ?_
    refine va_get (D := E.1) (ci := 7) (v := .ref pl0) (C := RX7) (T := TX7) (N := 7) hx hb hts in_X7_unlink_X7 hown hK hP 0 rfl rfl 2 (by decide) q_0 (fun _ h9 => h9) rfl dX7_unlink_15 ?_
    refine lv_iload_n hx hb dX7_unlink_18 rfl (lv_at hl 1 rfl) ?_
    refine lv_iload_n hx hb dX7_unlink_19 rfl (lv_at hl 2 rfl) ?_
    obtain ⟨r_4, h_3, hf⟩ := bd_s hf
    refine ca_V (As := [.int a1, .int a2]) (rest := []) ⟨hx, hb, hml, hown, hts⟩ ⟨hK, hN⟩ hP (c_Pl_lengthOf l E pl0 pl1 pl2 pl3 pl4 pl_places pl_links pl_mostDrawn pl_ofTen pl_z pl_lengths pl_told pl_delays pl_fractions a1 a2 r_4 h_3) [10, 11, 12, 13, 14] rfl 5 10 rfl rfl rfl gX7_unlink_X5_lengthOf rfl rfl rfl rfl hd_Pl_lengthOf ⟨(Nat.le_of_ble_eq_true rfl), (Nat.le_of_ble_eq_true rfl)⟩ rfl hl.1 rfl (Nat.le_of_ble_eq_true rfl) dX7_unlink_20 ⟨(Nat.zero_le _), (Nat.zero_le _)⟩ ?_
    refine lv_istore_n (lv' := [(3, .int r_4), (0, .ref dc0), (1, .int a1), (2, .int a2)]) hx hb dX7_unlink_23 rfl hl (by decide) rfl (fun ls hl => ?_)
    refine lv_iload_n hx hb dX7_unlink_24 rfl (lv_at hl 0 rfl) ?_
    refine lv_if_ne (tgt := 31) hx hb dX7_unlink_25 (by decide) (fun c_19 => ?_) (fun c_19 => ?_)
    · have hf := ite_f c_19 hf
      refine lv_aload_n hx hb dX7_unlink_31 rfl (lv_at hl 1 rfl) ?_
      refine lv_iload_n hx hb dX7_unlink_32 rfl (lv_at hl 2 rfl) ?_
      refine lv_iload_n hx hb dX7_unlink_33 rfl (lv_at hl 3 rfl) ?_
      refine lv_iconst (v := 0) hx hb dX7_unlink_34 (by decide) ?_
      obtain ⟨⟨pl_links_6, pl_lengths_7, pa_sums_8, pr_greatestDelay_9, pr_delays_10, pr_fractions_11, pr_heads_12, pt_next_13, pt_kept_14, hk_kind_15, hk_i_16, hk_j_17, hk_length_18⟩, h_5, hf⟩ := bd_s hf
      try dsimp only at hf
      refine ca_Mv (w2 := (w_Dc E dc0 le0 le1 rd0 rd1 dr0 dr1 dr2 dr3 dr4 pl0 pl1 pl2 pl3 pl4 pa0 pa1 pr0 pr1 pr2 pr3 tr0 tr1 tr2 tr3 pt0 pt1 ca0 cb0 cc0 cd0 le_length le_signs rd_numbers dr_places dr_links dr_mostDrawn dr_ofTen dr_z dr_lengths dr_told dr_delays dr_fractions pl_places pl_links_6 pl_mostDrawn pl_ofTen pl_z pl_lengths_7 pl_told pl_delays pl_fractions pa_sums_8 pr_greatestDelay_9 pr_delays_10 pr_fractions_11 pr_heads_12 tr_greatestDelay tr_delays tr_fractions tr_heads pt_next_13 pt_kept_14 hk_kind_15 hk_i_16 hk_j_17 hk_length_18 hk_wasTold hk_d hk_f hk_z)) (As := [.int a1, .int a2, .int 0]) (rest := []) ⟨hx, hb, hml, hown, hts⟩ ⟨hK, hN⟩ hP hD hS hA (c_Dc_changeLength l E dc0 le0 le1 rd0 rd1 dr0 dr1 dr2 dr3 dr4 pl0 pl1 pl2 pl3 pl4 pa0 pa1 pr0 pr1 pr2 pr3 tr0 tr1 tr2 tr3 pt0 pt1 ca0 cb0 cc0 cd0 H.size le_length le_signs rd_numbers dr_places dr_links dr_mostDrawn dr_ofTen dr_z dr_lengths dr_told dr_delays dr_fractions pl_places pl_links pl_mostDrawn pl_ofTen pl_z pl_lengths pl_told pl_delays pl_fractions pa_sums pr_greatestDelay pr_delays pr_fractions pr_heads tr_greatestDelay tr_delays tr_fractions tr_heads pt_next pt_kept hk_kind hk_i hk_j hk_length hk_wasTold hk_d hk_f hk_z a1 a2 0 (pl_links_6, pl_lengths_7, pa_sums_8, pr_greatestDelay_9, pr_delays_10, pr_fractions_11, pr_heads_12, pt_next_13, pt_kept_14, hk_kind_15, hk_i_16, hk_j_17, hk_length_18) h_5) [0, 1, 2, 3, 4, 5, 6, 7, 8, 9, 10, 11, 12, 13, 14, 15, 16, 17, 18, 19, 20, 21, 22, 23, 24, 25, 26, 27, 28, 29, 30] [] [0, 1, 2, 3, 4, 5, 6, 7, 8, 9, 10, 11, 12, 13, 14, 15, 16, 17, 18, 19, 20, 21, 22, 23, 24, 25, 26, 27, 28, 29, 30] rfl rfl rfl rfl (by decide) rfl rfl 7 0 rfl rfl rfl gX7_unlink_X7_changeLength rfl rfl rfl rfl hd_Dc_changeLength ⟨(Nat.le_of_ble_eq_true rfl), (Nat.le_of_ble_eq_true rfl)⟩ rfl hl.1 rfl (Nat.le_of_ble_eq_true rfl) dX7_unlink_35 ⟨(Nat.zero_le _), (Nat.zero_le _)⟩ (fun H locs hP hD hS => ?_)
      refine lv_iload_n hx hb dX7_unlink_38 rfl (lv_at hl 0 rfl) ?_
      exact hret H locs ls 39 r_4 (pl_links_6, pl_lengths_7, pa_sums_8, pr_greatestDelay_9, pr_delays_10, pr_fractions_11, pr_heads_12, pt_next_13, pt_kept_14, hk_kind_15, hk_i_16, hk_j_17, hk_length_18) dX7_unlink_39 (Option.some.inj hf) hP hD hS
    · have hf := ite_t c_19 hf
      refine lv_bipush (v := (-2)) hx hb dX7_unlink_28 (by decide) ?_
      exact hret H locs ls 30 (-2) (pl_links, pl_lengths, pa_sums, pr_greatestDelay, pr_delays, pr_fractions, pr_heads, pt_next, pt_kept, hk_kind, hk_i, hk_j, hk_length) dX7_unlink_30 (Option.some.inj hf) hP hD hS
  · have hf := ite_t c_20 hf
    refine lv_iconst (v := (-1)) hx hb dX7_unlink_12 (by decide) ?_
    exact hret H locs ls 13 (-1) (pl_links, pl_lengths, pa_sums, pr_greatestDelay, pr_delays, pr_fractions, pr_heads, pt_next, pt_kept, hk_kind, hk_i, hk_j, hk_length) dX7_unlink_13 (Option.some.inj hf) hP hD hS
abbrev rm_Dc_delay : Room := { frames := 5, cells := 0, slots := 0, locals := 113 }
theorem hd_Dc_delay : hdOK yX7_delay 3 := by decide +kernel
theorem in_X7_delay_X7 : ∀ w ∈ wsX70, w ∈ wsX7_delay := by decide +kernel
set_option maxRecDepth 100000 in
set_option maxHeartbeats 4000000 in
theorem c_Dc_delay (l : Launch) (E : En4) (dc0 le0 le1 rd0 rd1 dr0 dr1 dr2 dr3 dr4 pl0 pl1 pl2 pl3 pl4 pa0 pa1 pr0 pr1 pr2 pr3 tr0 tr1 tr2 tr3 pt0 pt1 ca0 cb0 cc0 cd0 : Nat) (sz : Nat) (le_length : Int32) (le_signs : Nat → Int32) (rd_numbers : Nat → Int32) (dr_places : Int32) (dr_links : Int32) (dr_mostDrawn : Int32) (dr_ofTen : Int32) (dr_z : Int32) (dr_lengths : Nat → Int32) (dr_told : Nat → Int32) (dr_delays : Nat → Int32) (dr_fractions : Nat → Int32) (pl_places : Int32) (pl_links : Int32) (pl_mostDrawn : Int32) (pl_ofTen : Int32) (pl_z : Int32) (pl_lengths : Nat → Int32) (pl_told : Nat → Int32) (pl_delays : Nat → Int32) (pl_fractions : Nat → Int32) (pa_sums : Nat → Int32) (pr_greatestDelay : Int32) (pr_delays : Nat → Int32) (pr_fractions : Nat → Int32) (pr_heads : Nat → Int32) (tr_greatestDelay : Int32) (tr_delays : Nat → Int32) (tr_fractions : Nat → Int32) (tr_heads : Nat → Int32) (pt_next : Int32) (pt_kept : Int32) (hk_kind : Nat → Int32) (hk_i : Nat → Int32) (hk_j : Nat → Int32) (hk_length : Nat → Int32) (hk_wasTold : Nat → Int32) (hk_d : Nat → Int32) (hk_f : Nat → Int32) (hk_z : Nat → Int32) (a1 : Int32) (a2 : Int32) (a3 : Int32)  (res : Int32 × (Nat → Int32) × (Nat → Int32) × (Nat → Int32) × Int32 × (Nat → Int32) × (Nat → Int32) × (Nat → Int32) × Int32 × Int32 × (Nat → Int32) × (Nat → Int32) × (Nat → Int32) × (Nat → Int32) × (Nat → Int32)) (hf : Dc_delay pl_places pl_mostDrawn pl_ofTen pl_z pl_told pl_delays pl_fractions pa_sums pr_greatestDelay pr_delays pr_fractions pr_heads pt_next pt_kept hk_kind hk_i hk_wasTold hk_d hk_f a1 a2 a3 = some res) : Met l yX7_delay wsX7_delay rm_Dc_delay (pcM [.ref dc0, .int a1, .int a2, .int a3] E sz (w_Dc E dc0 le0 le1 rd0 rd1 dr0 dr1 dr2 dr3 dr4 pl0 pl1 pl2 pl3 pl4 pa0 pa1 pr0 pr1 pr2 pr3 tr0 tr1 tr2 tr3 pt0 pt1 ca0 cb0 cc0 cd0 le_length le_signs rd_numbers dr_places dr_links dr_mostDrawn dr_ofTen dr_z dr_lengths dr_told dr_delays dr_fractions pl_places pl_links pl_mostDrawn pl_ofTen pl_z pl_lengths pl_told pl_delays pl_fractions pa_sums pr_greatestDelay pr_delays pr_fractions pr_heads tr_greatestDelay tr_delays tr_fractions tr_heads pt_next pt_kept hk_kind hk_i hk_j hk_length hk_wasTold hk_d hk_f hk_z)) (QMi E sz (w_Dc E dc0 le0 le1 rd0 rd1 dr0 dr1 dr2 dr3 dr4 pl0 pl1 pl2 pl3 pl4 pa0 pa1 pr0 pr1 pr2 pr3 tr0 tr1 tr2 tr3 pt0 pt1 ca0 cb0 cc0 cd0 le_length le_signs rd_numbers dr_places dr_links dr_mostDrawn dr_ofTen dr_z dr_lengths dr_told dr_delays dr_fractions pl_places pl_links pl_mostDrawn pl_ofTen pl_z pl_lengths pl_told pl_delays pl_fractions pa_sums pr_greatestDelay pr_delays pr_fractions pr_heads tr_greatestDelay tr_delays tr_fractions tr_heads pt_next pt_kept hk_kind hk_i hk_j hk_length hk_wasTold hk_d hk_f hk_z) (fun (u : (Nat → Int32) × (Nat → Int32) × (Nat → Int32) × Int32 × (Nat → Int32) × (Nat → Int32) × (Nat → Int32) × Int32 × Int32 × (Nat → Int32) × (Nat → Int32) × (Nat → Int32) × (Nat → Int32) × (Nat → Int32)) => (w_Dc E dc0 le0 le1 rd0 rd1 dr0 dr1 dr2 dr3 dr4 pl0 pl1 pl2 pl3 pl4 pa0 pa1 pr0 pr1 pr2 pr3 tr0 tr1 tr2 tr3 pt0 pt1 ca0 cb0 cc0 cd0 le_length le_signs rd_numbers dr_places dr_links dr_mostDrawn dr_ofTen dr_z dr_lengths dr_told dr_delays dr_fractions pl_places pl_links pl_mostDrawn pl_ofTen pl_z pl_lengths u.1 u.2.1 u.2.2.1 pa_sums u.2.2.2.1 u.2.2.2.2.1 u.2.2.2.2.2.1 u.2.2.2.2.2.2.1 tr_greatestDelay tr_delays tr_fractions tr_heads u.2.2.2.2.2.2.2.1 u.2.2.2.2.2.2.2.2.1 u.2.2.2.2.2.2.2.2.2.1 u.2.2.2.2.2.2.2.2.2.2.1 hk_j hk_length u.2.2.2.2.2.2.2.2.2.2.2.1 u.2.2.2.2.2.2.2.2.2.2.2.2.1 u.2.2.2.2.2.2.2.2.2.2.2.2.2 hk_z)) res) 0 0 (va_A (w_Dc E dc0 le0 le1 rd0 rd1 dr0 dr1 dr2 dr3 dr4 pl0 pl1 pl2 pl3 pl4 pa0 pa1 pr0 pr1 pr2 pr3 tr0 tr1 tr2 tr3 pt0 pt1 ca0 cb0 cc0 cd0 le_length le_signs rd_numbers dr_places dr_links dr_mostDrawn dr_ofTen dr_z dr_lengths dr_told dr_delays dr_fractions pl_places pl_links pl_mostDrawn pl_ofTen pl_z pl_lengths pl_told pl_delays pl_fractions pa_sums pr_greatestDelay pr_delays pr_fractions pr_heads tr_greatestDelay tr_delays tr_fractions tr_heads pt_next pt_kept hk_kind hk_i hk_j hk_length hk_wasTold hk_d hk_f hk_z) sz) := by
  refine mk_Mi (cc := cX7_delay) (maxL := 5) (by decide) rfl (Nat.le_of_ble_eq_true rfl) ?_
  intro p e s m args below meth c Q A S hKN hA hret H locs ls hP hD hS hl
  obtain ⟨hx, hb, hml, hown, hts⟩ := S
  obtain ⟨hK, hN⟩ := hKN
  have hl : lv_has ls 5 [(0, .ref dc0), (1, .int a1), (2, .int a2), (3, .int a3)] := hl
  have q_0 := hts (.fieldLink RX7 26 "DelayClusters" "plan" "LDelayClusters$Plan;") (by decide +kernel)
  have q_1 := hts (.fieldLink RX7 42 "DelayClusters" "present" "LDelayClusters$Clustering;") (by decide +kernel)
  have q_2 := hts (.fieldLink RX7 52 "DelayClusters" "past" "LDelayClusters$Past;") (by decide +kernel)
  unfold Dc_delay at hf
  refine lv_aload_n hx hb dX7_delay_0 rfl (lv_at hl 0 rfl) ?_
  refine va_get (D := E.1) (ci := 7) (v := .ref pl0) (C := RX7) (T := TX7) (N := 7) hx hb hts in_X7_delay_X7 hown hK hP 0 rfl rfl 2 (by decide) q_0 (fun _ h9 => h9) rfl dX7_delay_1 ?_
  refine lv_iload_n hx hb dX7_delay_4 rfl (lv_at hl 1 rfl) ?_
  obtain ⟨r_2, h_1, hf⟩ := bd_s hf
  refine ca_V (As := [.int a1]) (rest := []) ⟨hx, hb, hml, hown, hts⟩ ⟨hK, hN⟩ hP (c_Pl_isPlace l E pl0 pl1 pl2 pl3 pl4 pl_places pl_links pl_mostDrawn pl_ofTen pl_z pl_lengths pl_told pl_delays pl_fractions a1 r_2 h_1) [10, 11, 12, 13, 14] rfl 5 10 rfl rfl rfl gX7_delay_X5_isPlace rfl rfl rfl rfl hd_Pl_isPlace ⟨(Nat.le_of_ble_eq_true rfl), (Nat.le_of_ble_eq_true rfl)⟩ rfl hl.1 rfl (Nat.le_of_ble_eq_true rfl) dX7_delay_5 ⟨(Nat.zero_le _), (Nat.zero_le _)⟩ ?_
  refine lv_if_eq (tgt := 32) hx hb dX7_delay_8 (by decide) (fun c_30 => ?_) (fun c_30 => ?_)
  · have hf := ite_t c_30 hf
    refine lv_iconst (v := (-1)) hx hb dX7_delay_32 (by decide) ?_
    exact hret H locs ls 33 (-1) (pl_told, pl_delays, pl_fractions, pr_greatestDelay, pr_delays, pr_fractions, pr_heads, pt_next, pt_kept, hk_kind, hk_i, hk_wasTold, hk_d, hk_f) dX7_delay_33 (Option.some.inj hf) hP hD hS
  · have hf := ite_f c_30 hf
    refine lv_iload_n hx hb dX7_delay_11 rfl (lv_at hl 2 rfl) ?_
    refine lv_iconst (v := 0) hx hb dX7_delay_12 (by decide) ?_
    refine lv_bipush (v := 30) hx hb dX7_delay_13 (by decide) ?_
    obtain ⟨r_4, h_3, hf⟩ := bd_s hf
    refine ca_S (As := [.int a2, .int 0, .int 30]) (rest := []) ⟨hx, hb, hml, hown, hts⟩ ⟨hK, hN⟩ hP (c_Dc_isWithin l E   a2 0 30 r_4 h_3) [] rfl gX7_delay_X7_isWithin rfl rfl rfl hd_Dc_isWithin ⟨(Nat.le_of_ble_eq_true rfl), (Nat.le_of_ble_eq_true rfl)⟩ rfl hl.1 rfl (Nat.le_of_ble_eq_true rfl) dX7_delay_15 ⟨(Nat.zero_le _), (Nat.zero_le _)⟩ ?_
    refine lv_if_eq (tgt := 32) hx hb dX7_delay_18 (by decide) (fun c_29 => ?_) (fun c_29 => ?_)
    · have hf := ite_t c_29 hf
      refine lv_iconst (v := (-1)) hx hb dX7_delay_32 (by decide) ?_
      exact hret H locs ls 33 (-1) (pl_told, pl_delays, pl_fractions, pr_greatestDelay, pr_delays, pr_fractions, pr_heads, pt_next, pt_kept, hk_kind, hk_i, hk_wasTold, hk_d, hk_f) dX7_delay_33 (Option.some.inj hf) hP hD hS
    · have hf := ite_f c_29 hf
      refine lv_iload_n hx hb dX7_delay_21 rfl (lv_at hl 3 rfl) ?_
      refine lv_iconst (v := 0) hx hb dX7_delay_22 (by decide) ?_
      refine lv_sipush (v := 999) hx hb dX7_delay_23 (by decide) ?_
      obtain ⟨r_6, h_5, hf⟩ := bd_s hf
      refine ca_S (As := [.int a3, .int 0, .int 999]) (rest := []) ⟨hx, hb, hml, hown, hts⟩ ⟨hK, hN⟩ hP (c_Dc_isWithin l E   a3 0 999 r_6 h_5) [] rfl gX7_delay_X7_isWithin rfl rfl rfl hd_Dc_isWithin ⟨(Nat.le_of_ble_eq_true rfl), (Nat.le_of_ble_eq_true rfl)⟩ rfl hl.1 rfl (Nat.le_of_ble_eq_true rfl) dX7_delay_26 ⟨(Nat.zero_le _), (Nat.zero_le _)⟩ ?_
      refine lv_if_ne (tgt := 34) hx hb dX7_delay_29 (by decide) (fun c_28 => ?_) (fun c_28 => ?_)
      · have hf := ite_f c_28 hf
        refine lv_aload_n hx hb dX7_delay_34 rfl (lv_at hl 0 rfl) ?_
        refine va_get (D := E.1) (ci := 7) (v := .ref pr0) (C := RX7) (T := TX7) (N := 7) hx hb hts in_X7_delay_X7 hown hK hP 0 rfl rfl 4 (by decide) q_1 (fun _ h9 => h9) rfl dX7_delay_35 ?_
        refine lv_iload_n hx hb dX7_delay_38 rfl (lv_at hl 1 rfl) ?_
        obtain ⟨r_8, h_7, hf⟩ := bd_s hf
        refine ca_V (As := [.int a1]) (rest := []) ⟨hx, hb, hml, hown, hts⟩ ⟨hK, hN⟩ hP (c_Cl_delayOf l E pr0 pr1 pr2 pr3 pl0 pl1 pl2 pl3 pl4 pa0 pa1 pr_greatestDelay pr_delays pr_fractions pr_heads pl_places pl_links pl_mostDrawn pl_ofTen pl_z pl_lengths pl_told pl_delays pl_fractions pa_sums a1 r_8 h_7) [17, 18, 19, 20, 10, 11, 12, 13, 14, 15, 16] rfl 1 17 rfl rfl rfl gX7_delay_X1_delayOf rfl rfl rfl rfl hd_Cl_delayOf ⟨(Nat.le_of_ble_eq_true rfl), (Nat.le_of_ble_eq_true rfl)⟩ rfl hl.1 rfl (Nat.le_of_ble_eq_true rfl) dX7_delay_39 ⟨(Nat.zero_le _), (Nat.zero_le _)⟩ ?_
        refine lv_istore (lv' := [(4, .int r_8), (0, .ref dc0), (1, .int a1), (2, .int a2), (3, .int a3)]) hx hb dX7_delay_42 hl (by decide) rfl (fun ls hl => ?_)
        refine lv_aload_n hx hb dX7_delay_44 rfl (lv_at hl 1 rfl) ?_
        refine va_get (D := E.1) (ci := 7) (v := .ref pt0) (C := RX7) (T := TX7) (N := 7) hx hb hts in_X7_delay_X7 hown hK hP 0 rfl rfl 6 (by decide) q_2 (fun _ h9 => h9) rfl dX7_delay_45 ?_
        refine lv_aload_n hx hb dX7_delay_48 rfl (lv_at hl 1 rfl) ?_
        refine va_get (D := E.1) (ci := 7) (v := .ref pl0) (C := RX7) (T := TX7) (N := 7) hx hb hts in_X7_delay_X7 hown hK hP 0 rfl rfl 2 (by decide) q_0 (fun _ h9 => h9) rfl dX7_delay_49 ?_
        refine lv_iload_n hx hb dX7_delay_52 rfl (lv_at hl 2 rfl) ?_
        obtain ⟨⟨pt_next_10, pt_kept_11, hk_kind_12, hk_i_13, hk_wasTold_14, hk_d_15, hk_f_16⟩, h_9, hf⟩ := bd_s hf
        try dsimp only at hf
        refine ca_Mv (w2 := (w_Dc E dc0 le0 le1 rd0 rd1 dr0 dr1 dr2 dr3 dr4 pl0 pl1 pl2 pl3 pl4 pa0 pa1 pr0 pr1 pr2 pr3 tr0 tr1 tr2 tr3 pt0 pt1 ca0 cb0 cc0 cd0 le_length le_signs rd_numbers dr_places dr_links dr_mostDrawn dr_ofTen dr_z dr_lengths dr_told dr_delays dr_fractions pl_places pl_links pl_mostDrawn pl_ofTen pl_z pl_lengths pl_told pl_delays pl_fractions pa_sums pr_greatestDelay pr_delays pr_fractions pr_heads tr_greatestDelay tr_delays tr_fractions tr_heads pt_next_10 pt_kept_11 hk_kind_12 hk_i_13 hk_j hk_length hk_wasTold_14 hk_d_15 hk_f_16 hk_z)) (As := [.ref pl0, .int a1]) (rest := []) ⟨hx, hb, hml, hown, hts⟩ ⟨hK, hN⟩ hP hD hS hA (c_Pt_keepDelay l E pt0 pt1 ca0 cb0 cc0 cd0 pl0 pl1 pl2 pl3 pl4 H.size pt_next pt_kept hk_kind hk_i hk_j hk_length hk_wasTold hk_d hk_f hk_z pl_places pl_links pl_mostDrawn pl_ofTen pl_z pl_lengths pl_told pl_delays pl_fractions a1 (pt_next_10, pt_kept_11, hk_kind_12, hk_i_13, hk_wasTold_14, hk_d_15, hk_f_16) h_9) [25, 26, 27, 28, 29, 30, 10, 11, 12, 13, 14] [0, 1, 2, 3, 4, 5, 6, 7, 8, 9, 15, 16, 17, 18, 19, 20, 21, 22, 23, 24] [0, 1, 2, 3, 4, 5, 6, 7, 8, 9, 26, 27, 28, 29, 30, 10, 11, 12, 13, 14, 15, 16, 17, 18, 19, 20, 21, 22, 23, 24, 25] rfl rfl rfl rfl (by decide) rfl rfl 3 25 rfl rfl rfl gX7_delay_X3_keepDelay rfl rfl rfl rfl hd_Pt_keepDelay ⟨(Nat.le_of_ble_eq_true rfl), (Nat.le_of_ble_eq_true rfl)⟩ rfl hl.1 rfl (Nat.le_of_ble_eq_true rfl) dX7_delay_53 ⟨(Nat.zero_le _), (Nat.zero_le _)⟩ (fun H locs hP hD hS => ?_)
        refine lv_aload_n hx hb dX7_delay_56 rfl (lv_at hl 1 rfl) ?_
        refine va_get (D := E.1) (ci := 7) (v := .ref pl0) (C := RX7) (T := TX7) (N := 7) hx hb hts in_X7_delay_X7 hown hK hP 0 rfl rfl 2 (by decide) q_0 (fun _ h9 => h9) rfl dX7_delay_57 ?_
        refine lv_iload_n hx hb dX7_delay_60 rfl (lv_at hl 2 rfl) ?_
        refine lv_iload_n hx hb dX7_delay_61 rfl (lv_at hl 3 rfl) ?_
        refine lv_iload_n hx hb dX7_delay_62 rfl (lv_at hl 4 rfl) ?_
        obtain ⟨⟨pl_told_18, pl_delays_19, pl_fractions_20⟩, h_17, hf⟩ := bd_s hf
        try dsimp only at hf
        refine ca_Mv (w2 := (w_Dc E dc0 le0 le1 rd0 rd1 dr0 dr1 dr2 dr3 dr4 pl0 pl1 pl2 pl3 pl4 pa0 pa1 pr0 pr1 pr2 pr3 tr0 tr1 tr2 tr3 pt0 pt1 ca0 cb0 cc0 cd0 le_length le_signs rd_numbers dr_places dr_links dr_mostDrawn dr_ofTen dr_z dr_lengths dr_told dr_delays dr_fractions pl_places pl_links pl_mostDrawn pl_ofTen pl_z pl_lengths pl_told_18 pl_delays_19 pl_fractions_20 pa_sums pr_greatestDelay pr_delays pr_fractions pr_heads tr_greatestDelay tr_delays tr_fractions tr_heads pt_next_10 pt_kept_11 hk_kind_12 hk_i_13 hk_j hk_length hk_wasTold_14 hk_d_15 hk_f_16 hk_z)) (As := [.int a1, .int a2, .int a3]) (rest := []) ⟨hx, hb, hml, hown, hts⟩ ⟨hK, hN⟩ hP hD hS hA (c_Pl_tell l E pl0 pl1 pl2 pl3 pl4 H.size pl_places pl_links pl_mostDrawn pl_ofTen pl_z pl_lengths pl_told pl_delays pl_fractions a1 a2 a3 (pl_told_18, pl_delays_19, pl_fractions_20) h_17) [10, 11, 12, 13, 14] [0, 1, 2, 3, 4, 5, 6, 7, 8, 9, 15, 16, 17, 18, 19, 20, 21, 22, 23, 24, 25, 26, 27, 28, 29, 30] [0, 1, 2, 3, 4, 5, 6, 7, 8, 9, 26, 27, 28, 29, 30, 10, 11, 12, 13, 14, 15, 16, 17, 18, 19, 20, 21, 22, 23, 24, 25] rfl rfl rfl rfl (by decide) rfl rfl 5 10 rfl rfl rfl gX7_delay_X5_tell rfl rfl rfl rfl hd_Pl_tell ⟨(Nat.le_of_ble_eq_true rfl), (Nat.le_of_ble_eq_true rfl)⟩ rfl hl.1 rfl (Nat.le_of_ble_eq_true rfl) dX7_delay_63 ⟨(Nat.zero_le _), (Nat.zero_le _)⟩ (fun H locs hP hD hS => ?_)
        refine lv_aload_n hx hb dX7_delay_66 rfl (lv_at hl 1 rfl) ?_
        refine va_get (D := E.1) (ci := 7) (v := .ref pr0) (C := RX7) (T := TX7) (N := 7) hx hb hts in_X7_delay_X7 hown hK hP 0 rfl rfl 4 (by decide) q_1 (fun _ h9 => h9) rfl dX7_delay_67 ?_
        refine lv_aload_n hx hb dX7_delay_70 rfl (lv_at hl 1 rfl) ?_
        refine va_get (D := E.1) (ci := 7) (v := .ref pl0) (C := RX7) (T := TX7) (N := 7) hx hb hts in_X7_delay_X7 hown hK hP 0 rfl rfl 2 (by decide) q_0 (fun _ h9 => h9) rfl dX7_delay_71 ?_
        obtain ⟨r_22, h_21, hf⟩ := bd_s hf
        refine ca_V (As := []) (rest := [.ref pr0]) ⟨hx, hb, hml, hown, hts⟩ ⟨hK, hN⟩ hP (c_Pl_z l E pl0 pl1 pl2 pl3 pl4 pl_places pl_links pl_mostDrawn pl_ofTen pl_z pl_lengths pl_told_18 pl_delays_19 pl_fractions_20 r_22 h_21) [10, 11, 12, 13, 14] rfl 5 10 rfl rfl rfl gX7_delay_X5_z rfl rfl rfl rfl hd_Pl_z ⟨(Nat.le_of_ble_eq_true rfl), (Nat.le_of_ble_eq_true rfl)⟩ rfl hl.1 rfl (Nat.le_of_ble_eq_true rfl) dX7_delay_74 ⟨(Nat.zero_le _), (Nat.zero_le _)⟩ ?_
        obtain ⟨⟨pr_greatestDelay_24, pr_delays_25, pr_fractions_26, pr_heads_27⟩, h_23, hf⟩ := bd_s hf
        try dsimp only at hf
        refine ca_Mv (w2 := (w_Dc E dc0 le0 le1 rd0 rd1 dr0 dr1 dr2 dr3 dr4 pl0 pl1 pl2 pl3 pl4 pa0 pa1 pr0 pr1 pr2 pr3 tr0 tr1 tr2 tr3 pt0 pt1 ca0 cb0 cc0 cd0 le_length le_signs rd_numbers dr_places dr_links dr_mostDrawn dr_ofTen dr_z dr_lengths dr_told dr_delays dr_fractions pl_places pl_links pl_mostDrawn pl_ofTen pl_z pl_lengths pl_told_18 pl_delays_19 pl_fractions_20 pa_sums pr_greatestDelay_24 pr_delays_25 pr_fractions_26 pr_heads_27 tr_greatestDelay tr_delays tr_fractions tr_heads pt_next_10 pt_kept_11 hk_kind_12 hk_i_13 hk_j hk_length hk_wasTold_14 hk_d_15 hk_f_16 hk_z)) (As := [.int r_22]) (rest := []) ⟨hx, hb, hml, hown, hts⟩ ⟨hK, hN⟩ hP hD hS hA (c_Cl_settleBy l E pr0 pr1 pr2 pr3 pl0 pl1 pl2 pl3 pl4 pa0 pa1 H.size pr_greatestDelay pr_delays pr_fractions pr_heads pl_places pl_links pl_mostDrawn pl_ofTen pl_z pl_lengths pl_told_18 pl_delays_19 pl_fractions_20 pa_sums r_22 (pr_greatestDelay_24, pr_delays_25, pr_fractions_26, pr_heads_27) h_23) [17, 18, 19, 20, 10, 11, 12, 13, 14, 15, 16] [0, 1, 2, 3, 4, 5, 6, 7, 8, 9, 21, 22, 23, 24, 25, 26, 27, 28, 29, 30] [0, 1, 2, 3, 4, 5, 6, 7, 8, 9, 24, 25, 26, 27, 28, 29, 30, 20, 21, 22, 23, 10, 11, 12, 13, 14, 15, 16, 17, 18, 19] rfl rfl rfl rfl (by decide) rfl rfl 1 17 rfl rfl rfl gX7_delay_X1_settleBy rfl rfl rfl rfl hd_Cl_settleBy ⟨(Nat.le_of_ble_eq_true rfl), (Nat.le_of_ble_eq_true rfl)⟩ rfl hl.1 rfl (Nat.le_of_ble_eq_true rfl) dX7_delay_77 ⟨(Nat.zero_le _), (Nat.zero_le _)⟩ (fun H locs hP hD hS => ?_)
        refine lv_iload hx hb dX7_delay_80 (lv_at hl 0 rfl) ?_
        exact hret H locs ls 82 r_8 (pl_told_18, pl_delays_19, pl_fractions_20, pr_greatestDelay_24, pr_delays_25, pr_fractions_26, pr_heads_27, pt_next_10, pt_kept_11, hk_kind_12, hk_i_13, hk_wasTold_14, hk_d_15, hk_f_16) dX7_delay_82 (Option.some.inj hf) hP hD hS
      · have hf := ite_t c_28 hf
        refine lv_iconst (v := (-1)) hx hb dX7_delay_32 (by decide) ?_
        exact hret H locs ls 33 (-1) (pl_told, pl_delays, pl_fractions, pr_greatestDelay, pr_delays, pr_fractions, pr_heads, pt_next, pt_kept, hk_kind, hk_i, hk_wasTold, hk_d, hk_f) dX7_delay_33 (Option.some.inj hf) hP hD hS
abbrev rm_Dc_drawn : Room := { frames := 5, cells := 0, slots := 0, locals := 113 }
theorem hd_Dc_drawn : hdOK yX7_drawn 1 := by decide +kernel
theorem in_X7_drawn_X7 : ∀ w ∈ wsX70, w ∈ wsX7_drawn := by decide +kernel
set_option maxRecDepth 100000 in
set_option maxHeartbeats 4000000 in
theorem c_Dc_drawn (l : Launch) (E : En4) (dc0 le0 le1 rd0 rd1 dr0 dr1 dr2 dr3 dr4 pl0 pl1 pl2 pl3 pl4 pa0 pa1 pr0 pr1 pr2 pr3 tr0 tr1 tr2 tr3 pt0 pt1 ca0 cb0 cc0 cd0 : Nat) (sz : Nat) (le_length : Int32) (le_signs : Nat → Int32) (rd_numbers : Nat → Int32) (dr_places : Int32) (dr_links : Int32) (dr_mostDrawn : Int32) (dr_ofTen : Int32) (dr_z : Int32) (dr_lengths : Nat → Int32) (dr_told : Nat → Int32) (dr_delays : Nat → Int32) (dr_fractions : Nat → Int32) (pl_places : Int32) (pl_links : Int32) (pl_mostDrawn : Int32) (pl_ofTen : Int32) (pl_z : Int32) (pl_lengths : Nat → Int32) (pl_told : Nat → Int32) (pl_delays : Nat → Int32) (pl_fractions : Nat → Int32) (pa_sums : Nat → Int32) (pr_greatestDelay : Int32) (pr_delays : Nat → Int32) (pr_fractions : Nat → Int32) (pr_heads : Nat → Int32) (tr_greatestDelay : Int32) (tr_delays : Nat → Int32) (tr_fractions : Nat → Int32) (tr_heads : Nat → Int32) (pt_next : Int32) (pt_kept : Int32) (hk_kind : Nat → Int32) (hk_i : Nat → Int32) (hk_j : Nat → Int32) (hk_length : Nat → Int32) (hk_wasTold : Nat → Int32) (hk_d : Nat → Int32) (hk_f : Nat → Int32) (hk_z : Nat → Int32) (a1 : Int32)  (res : Int32 × (Nat → Int32) × (Nat → Int32) × (Nat → Int32) × Int32 × (Nat → Int32) × (Nat → Int32) × (Nat → Int32) × Int32 × Int32 × (Nat → Int32) × (Nat → Int32) × (Nat → Int32) × (Nat → Int32) × (Nat → Int32)) (hf : Dc_drawn pl_places pl_mostDrawn pl_ofTen pl_z pl_told pl_delays pl_fractions pa_sums pr_greatestDelay pr_delays pr_fractions pr_heads pt_next pt_kept hk_kind hk_i hk_wasTold hk_d hk_f a1 = some res) : Met l yX7_drawn wsX7_drawn rm_Dc_drawn (pcM [.ref dc0, .int a1] E sz (w_Dc E dc0 le0 le1 rd0 rd1 dr0 dr1 dr2 dr3 dr4 pl0 pl1 pl2 pl3 pl4 pa0 pa1 pr0 pr1 pr2 pr3 tr0 tr1 tr2 tr3 pt0 pt1 ca0 cb0 cc0 cd0 le_length le_signs rd_numbers dr_places dr_links dr_mostDrawn dr_ofTen dr_z dr_lengths dr_told dr_delays dr_fractions pl_places pl_links pl_mostDrawn pl_ofTen pl_z pl_lengths pl_told pl_delays pl_fractions pa_sums pr_greatestDelay pr_delays pr_fractions pr_heads tr_greatestDelay tr_delays tr_fractions tr_heads pt_next pt_kept hk_kind hk_i hk_j hk_length hk_wasTold hk_d hk_f hk_z)) (QMi E sz (w_Dc E dc0 le0 le1 rd0 rd1 dr0 dr1 dr2 dr3 dr4 pl0 pl1 pl2 pl3 pl4 pa0 pa1 pr0 pr1 pr2 pr3 tr0 tr1 tr2 tr3 pt0 pt1 ca0 cb0 cc0 cd0 le_length le_signs rd_numbers dr_places dr_links dr_mostDrawn dr_ofTen dr_z dr_lengths dr_told dr_delays dr_fractions pl_places pl_links pl_mostDrawn pl_ofTen pl_z pl_lengths pl_told pl_delays pl_fractions pa_sums pr_greatestDelay pr_delays pr_fractions pr_heads tr_greatestDelay tr_delays tr_fractions tr_heads pt_next pt_kept hk_kind hk_i hk_j hk_length hk_wasTold hk_d hk_f hk_z) (fun (u : (Nat → Int32) × (Nat → Int32) × (Nat → Int32) × Int32 × (Nat → Int32) × (Nat → Int32) × (Nat → Int32) × Int32 × Int32 × (Nat → Int32) × (Nat → Int32) × (Nat → Int32) × (Nat → Int32) × (Nat → Int32)) => (w_Dc E dc0 le0 le1 rd0 rd1 dr0 dr1 dr2 dr3 dr4 pl0 pl1 pl2 pl3 pl4 pa0 pa1 pr0 pr1 pr2 pr3 tr0 tr1 tr2 tr3 pt0 pt1 ca0 cb0 cc0 cd0 le_length le_signs rd_numbers dr_places dr_links dr_mostDrawn dr_ofTen dr_z dr_lengths dr_told dr_delays dr_fractions pl_places pl_links pl_mostDrawn pl_ofTen pl_z pl_lengths u.1 u.2.1 u.2.2.1 pa_sums u.2.2.2.1 u.2.2.2.2.1 u.2.2.2.2.2.1 u.2.2.2.2.2.2.1 tr_greatestDelay tr_delays tr_fractions tr_heads u.2.2.2.2.2.2.2.1 u.2.2.2.2.2.2.2.2.1 u.2.2.2.2.2.2.2.2.2.1 u.2.2.2.2.2.2.2.2.2.2.1 hk_j hk_length u.2.2.2.2.2.2.2.2.2.2.2.1 u.2.2.2.2.2.2.2.2.2.2.2.2.1 u.2.2.2.2.2.2.2.2.2.2.2.2.2 hk_z)) res) 0 0 (va_A (w_Dc E dc0 le0 le1 rd0 rd1 dr0 dr1 dr2 dr3 dr4 pl0 pl1 pl2 pl3 pl4 pa0 pa1 pr0 pr1 pr2 pr3 tr0 tr1 tr2 tr3 pt0 pt1 ca0 cb0 cc0 cd0 le_length le_signs rd_numbers dr_places dr_links dr_mostDrawn dr_ofTen dr_z dr_lengths dr_told dr_delays dr_fractions pl_places pl_links pl_mostDrawn pl_ofTen pl_z pl_lengths pl_told pl_delays pl_fractions pa_sums pr_greatestDelay pr_delays pr_fractions pr_heads tr_greatestDelay tr_delays tr_fractions tr_heads pt_next pt_kept hk_kind hk_i hk_j hk_length hk_wasTold hk_d hk_f hk_z) sz) := by
  refine mk_Mi (cc := cX7_drawn) (maxL := 2) (by decide) rfl (Nat.le_of_ble_eq_true rfl) ?_
  intro p e s m args below meth c Q A S hKN hA hret H locs ls hP hD hS hl
  obtain ⟨hx, hb, hml, hown, hts⟩ := S
  obtain ⟨hK, hN⟩ := hKN
  have hl : lv_has ls 2 [(0, .ref dc0), (1, .int a1)] := hl
  have q_0 := hts (.fieldLink RX7 26 "DelayClusters" "plan" "LDelayClusters$Plan;") (by decide +kernel)
  have q_1 := hts (.fieldLink RX7 52 "DelayClusters" "past" "LDelayClusters$Past;") (by decide +kernel)
  have q_2 := hts (.fieldLink RX7 42 "DelayClusters" "present" "LDelayClusters$Clustering;") (by decide +kernel)
  unfold Dc_drawn at hf
  refine lv_aload_n hx hb dX7_drawn_0 rfl (lv_at hl 0 rfl) ?_
  refine va_get (D := E.1) (ci := 7) (v := .ref pl0) (C := RX7) (T := TX7) (N := 7) hx hb hts in_X7_drawn_X7 hown hK hP 0 rfl rfl 2 (by decide) q_0 (fun _ h9 => h9) rfl dX7_drawn_1 ?_
  refine lv_iload_n hx hb dX7_drawn_4 rfl (lv_at hl 1 rfl) ?_
  obtain ⟨r_2, h_1, hf⟩ := bd_s hf
  refine ca_V (As := [.int a1]) (rest := []) ⟨hx, hb, hml, hown, hts⟩ ⟨hK, hN⟩ hP (c_Pl_isPlace l E pl0 pl1 pl2 pl3 pl4 pl_places pl_links pl_mostDrawn pl_ofTen pl_z pl_lengths pl_told pl_delays pl_fractions a1 r_2 h_1) [10, 11, 12, 13, 14] rfl 5 10 rfl rfl rfl gX7_drawn_X5_isPlace rfl rfl rfl rfl hd_Pl_isPlace ⟨(Nat.le_of_ble_eq_true rfl), (Nat.le_of_ble_eq_true rfl)⟩ rfl hl.1 rfl (Nat.le_of_ble_eq_true rfl) dX7_drawn_5 ⟨(Nat.zero_le _), (Nat.zero_le _)⟩ ?_
  refine lv_if_ne (tgt := 13) hx hb dX7_drawn_8 (by decide) (fun c_27 => ?_) (fun c_27 => ?_)
  · have hf := ite_f c_27 hf
    refine lv_aload_n hx hb dX7_drawn_13 rfl (lv_at hl 0 rfl) ?_
    refine va_get (D := E.1) (ci := 7) (v := .ref pl0) (C := RX7) (T := TX7) (N := 7) hx hb hts in_X7_drawn_X7 hown hK hP 0 rfl rfl 2 (by decide) q_0 (fun _ h9 => h9) rfl dX7_drawn_14 ?_
    refine lv_iload_n hx hb dX7_drawn_17 rfl (lv_at hl 1 rfl) ?_
    obtain ⟨r_4, h_3, hf⟩ := bd_s hf
    refine ca_V (As := [.int a1]) (rest := []) ⟨hx, hb, hml, hown, hts⟩ ⟨hK, hN⟩ hP (c_Pl_isTold l E pl0 pl1 pl2 pl3 pl4 pl_places pl_links pl_mostDrawn pl_ofTen pl_z pl_lengths pl_told pl_delays pl_fractions a1 r_4 h_3) [10, 11, 12, 13, 14] rfl 5 10 rfl rfl rfl gX7_drawn_X5_isTold rfl rfl rfl rfl hd_Pl_isTold ⟨(Nat.le_of_ble_eq_true rfl), (Nat.le_of_ble_eq_true rfl)⟩ rfl hl.1 rfl (Nat.le_of_ble_eq_true rfl) dX7_drawn_18 ⟨(Nat.zero_le _), (Nat.zero_le _)⟩ ?_
    refine lv_if_ne (tgt := 27) hx hb dX7_drawn_21 (by decide) (fun c_26 => ?_) (fun c_26 => ?_)
    · have hf := ite_f c_26 hf
      refine lv_aload_n hx hb dX7_drawn_27 rfl (lv_at hl 0 rfl) ?_
      refine va_get (D := E.1) (ci := 7) (v := .ref pt0) (C := RX7) (T := TX7) (N := 7) hx hb hts in_X7_drawn_X7 hown hK hP 0 rfl rfl 6 (by decide) q_1 (fun _ h9 => h9) rfl dX7_drawn_28 ?_
      refine lv_aload_n hx hb dX7_drawn_31 rfl (lv_at hl 0 rfl) ?_
      refine va_get (D := E.1) (ci := 7) (v := .ref pl0) (C := RX7) (T := TX7) (N := 7) hx hb hts in_X7_drawn_X7 hown hK hP 0 rfl rfl 2 (by decide) q_0 (fun _ h9 => h9) rfl dX7_drawn_32 ?_
      refine lv_iload_n hx hb dX7_drawn_35 rfl (lv_at hl 1 rfl) ?_
      obtain ⟨⟨pt_next_6, pt_kept_7, hk_kind_8, hk_i_9, hk_wasTold_10, hk_d_11, hk_f_12⟩, h_5, hf⟩ := bd_s hf
      try dsimp only at hf
      refine ca_Mv (w2 := (w_Dc E dc0 le0 le1 rd0 rd1 dr0 dr1 dr2 dr3 dr4 pl0 pl1 pl2 pl3 pl4 pa0 pa1 pr0 pr1 pr2 pr3 tr0 tr1 tr2 tr3 pt0 pt1 ca0 cb0 cc0 cd0 le_length le_signs rd_numbers dr_places dr_links dr_mostDrawn dr_ofTen dr_z dr_lengths dr_told dr_delays dr_fractions pl_places pl_links pl_mostDrawn pl_ofTen pl_z pl_lengths pl_told pl_delays pl_fractions pa_sums pr_greatestDelay pr_delays pr_fractions pr_heads tr_greatestDelay tr_delays tr_fractions tr_heads pt_next_6 pt_kept_7 hk_kind_8 hk_i_9 hk_j hk_length hk_wasTold_10 hk_d_11 hk_f_12 hk_z)) (As := [.ref pl0, .int a1]) (rest := []) ⟨hx, hb, hml, hown, hts⟩ ⟨hK, hN⟩ hP hD hS hA (c_Pt_keepDelay l E pt0 pt1 ca0 cb0 cc0 cd0 pl0 pl1 pl2 pl3 pl4 H.size pt_next pt_kept hk_kind hk_i hk_j hk_length hk_wasTold hk_d hk_f hk_z pl_places pl_links pl_mostDrawn pl_ofTen pl_z pl_lengths pl_told pl_delays pl_fractions a1 (pt_next_6, pt_kept_7, hk_kind_8, hk_i_9, hk_wasTold_10, hk_d_11, hk_f_12) h_5) [25, 26, 27, 28, 29, 30, 10, 11, 12, 13, 14] [0, 1, 2, 3, 4, 5, 6, 7, 8, 9, 15, 16, 17, 18, 19, 20, 21, 22, 23, 24] [0, 1, 2, 3, 4, 5, 6, 7, 8, 9, 26, 27, 28, 29, 30, 10, 11, 12, 13, 14, 15, 16, 17, 18, 19, 20, 21, 22, 23, 24, 25] rfl rfl rfl rfl (by decide) rfl rfl 3 25 rfl rfl rfl gX7_drawn_X3_keepDelay rfl rfl rfl rfl hd_Pt_keepDelay ⟨(Nat.le_of_ble_eq_true rfl), (Nat.le_of_ble_eq_true rfl)⟩ rfl hl.1 rfl (Nat.le_of_ble_eq_true rfl) dX7_drawn_36 ⟨(Nat.zero_le _), (Nat.zero_le _)⟩ (fun H locs hP hD hS => ?_)
      refine lv_aload_n hx hb dX7_drawn_39 rfl (lv_at hl 0 rfl) ?_
      refine va_get (D := E.1) (ci := 7) (v := .ref pl0) (C := RX7) (T := TX7) (N := 7) hx hb hts in_X7_drawn_X7 hown hK hP 0 rfl rfl 2 (by decide) q_0 (fun _ h9 => h9) rfl dX7_drawn_40 ?_
      refine lv_iload_n hx hb dX7_drawn_43 rfl (lv_at hl 1 rfl) ?_
      obtain ⟨⟨pl_told_14, pl_delays_15, pl_fractions_16⟩, h_13, hf⟩ := bd_s hf
      try dsimp only at hf
      refine ca_Mv (w2 := (w_Dc E dc0 le0 le1 rd0 rd1 dr0 dr1 dr2 dr3 dr4 pl0 pl1 pl2 pl3 pl4 pa0 pa1 pr0 pr1 pr2 pr3 tr0 tr1 tr2 tr3 pt0 pt1 ca0 cb0 cc0 cd0 le_length le_signs rd_numbers dr_places dr_links dr_mostDrawn dr_ofTen dr_z dr_lengths dr_told dr_delays dr_fractions pl_places pl_links pl_mostDrawn pl_ofTen pl_z pl_lengths pl_told_14 pl_delays_15 pl_fractions_16 pa_sums pr_greatestDelay pr_delays pr_fractions pr_heads tr_greatestDelay tr_delays tr_fractions tr_heads pt_next_6 pt_kept_7 hk_kind_8 hk_i_9 hk_j hk_length hk_wasTold_10 hk_d_11 hk_f_12 hk_z)) (As := [.int a1]) (rest := []) ⟨hx, hb, hml, hown, hts⟩ ⟨hK, hN⟩ hP hD hS hA (c_Pl_untell l E pl0 pl1 pl2 pl3 pl4 H.size pl_places pl_links pl_mostDrawn pl_ofTen pl_z pl_lengths pl_told pl_delays pl_fractions a1 (pl_told_14, pl_delays_15, pl_fractions_16) h_13) [10, 11, 12, 13, 14] [0, 1, 2, 3, 4, 5, 6, 7, 8, 9, 15, 16, 17, 18, 19, 20, 21, 22, 23, 24, 25, 26, 27, 28, 29, 30] [0, 1, 2, 3, 4, 5, 6, 7, 8, 9, 26, 27, 28, 29, 30, 10, 11, 12, 13, 14, 15, 16, 17, 18, 19, 20, 21, 22, 23, 24, 25] rfl rfl rfl rfl (by decide) rfl rfl 5 10 rfl rfl rfl gX7_drawn_X5_untell rfl rfl rfl rfl hd_Pl_untell ⟨(Nat.le_of_ble_eq_true rfl), (Nat.le_of_ble_eq_true rfl)⟩ rfl hl.1 rfl (Nat.le_of_ble_eq_true rfl) dX7_drawn_44 ⟨(Nat.zero_le _), (Nat.zero_le _)⟩ (fun H locs hP hD hS => ?_)
      refine lv_aload_n hx hb dX7_drawn_47 rfl (lv_at hl 0 rfl) ?_
      refine va_get (D := E.1) (ci := 7) (v := .ref pr0) (C := RX7) (T := TX7) (N := 7) hx hb hts in_X7_drawn_X7 hown hK hP 0 rfl rfl 4 (by decide) q_2 (fun _ h9 => h9) rfl dX7_drawn_48 ?_
      refine lv_aload_n hx hb dX7_drawn_51 rfl (lv_at hl 0 rfl) ?_
      refine va_get (D := E.1) (ci := 7) (v := .ref pl0) (C := RX7) (T := TX7) (N := 7) hx hb hts in_X7_drawn_X7 hown hK hP 0 rfl rfl 2 (by decide) q_0 (fun _ h9 => h9) rfl dX7_drawn_52 ?_
      obtain ⟨r_18, h_17, hf⟩ := bd_s hf
      refine ca_V (As := []) (rest := [.ref pr0]) ⟨hx, hb, hml, hown, hts⟩ ⟨hK, hN⟩ hP (c_Pl_z l E pl0 pl1 pl2 pl3 pl4 pl_places pl_links pl_mostDrawn pl_ofTen pl_z pl_lengths pl_told_14 pl_delays_15 pl_fractions_16 r_18 h_17) [10, 11, 12, 13, 14] rfl 5 10 rfl rfl rfl gX7_drawn_X5_z rfl rfl rfl rfl hd_Pl_z ⟨(Nat.le_of_ble_eq_true rfl), (Nat.le_of_ble_eq_true rfl)⟩ rfl hl.1 rfl (Nat.le_of_ble_eq_true rfl) dX7_drawn_55 ⟨(Nat.zero_le _), (Nat.zero_le _)⟩ ?_
      obtain ⟨⟨pr_greatestDelay_20, pr_delays_21, pr_fractions_22, pr_heads_23⟩, h_19, hf⟩ := bd_s hf
      try dsimp only at hf
      refine ca_Mv (w2 := (w_Dc E dc0 le0 le1 rd0 rd1 dr0 dr1 dr2 dr3 dr4 pl0 pl1 pl2 pl3 pl4 pa0 pa1 pr0 pr1 pr2 pr3 tr0 tr1 tr2 tr3 pt0 pt1 ca0 cb0 cc0 cd0 le_length le_signs rd_numbers dr_places dr_links dr_mostDrawn dr_ofTen dr_z dr_lengths dr_told dr_delays dr_fractions pl_places pl_links pl_mostDrawn pl_ofTen pl_z pl_lengths pl_told_14 pl_delays_15 pl_fractions_16 pa_sums pr_greatestDelay_20 pr_delays_21 pr_fractions_22 pr_heads_23 tr_greatestDelay tr_delays tr_fractions tr_heads pt_next_6 pt_kept_7 hk_kind_8 hk_i_9 hk_j hk_length hk_wasTold_10 hk_d_11 hk_f_12 hk_z)) (As := [.int r_18]) (rest := []) ⟨hx, hb, hml, hown, hts⟩ ⟨hK, hN⟩ hP hD hS hA (c_Cl_settleBy l E pr0 pr1 pr2 pr3 pl0 pl1 pl2 pl3 pl4 pa0 pa1 H.size pr_greatestDelay pr_delays pr_fractions pr_heads pl_places pl_links pl_mostDrawn pl_ofTen pl_z pl_lengths pl_told_14 pl_delays_15 pl_fractions_16 pa_sums r_18 (pr_greatestDelay_20, pr_delays_21, pr_fractions_22, pr_heads_23) h_19) [17, 18, 19, 20, 10, 11, 12, 13, 14, 15, 16] [0, 1, 2, 3, 4, 5, 6, 7, 8, 9, 21, 22, 23, 24, 25, 26, 27, 28, 29, 30] [0, 1, 2, 3, 4, 5, 6, 7, 8, 9, 24, 25, 26, 27, 28, 29, 30, 20, 21, 22, 23, 10, 11, 12, 13, 14, 15, 16, 17, 18, 19] rfl rfl rfl rfl (by decide) rfl rfl 1 17 rfl rfl rfl gX7_drawn_X1_settleBy rfl rfl rfl rfl hd_Cl_settleBy ⟨(Nat.le_of_ble_eq_true rfl), (Nat.le_of_ble_eq_true rfl)⟩ rfl hl.1 rfl (Nat.le_of_ble_eq_true rfl) dX7_drawn_58 ⟨(Nat.zero_le _), (Nat.zero_le _)⟩ (fun H locs hP hD hS => ?_)
      refine lv_aload_n hx hb dX7_drawn_61 rfl (lv_at hl 0 rfl) ?_
      refine va_get (D := E.1) (ci := 7) (v := .ref pr0) (C := RX7) (T := TX7) (N := 7) hx hb hts in_X7_drawn_X7 hown hK hP 0 rfl rfl 4 (by decide) q_2 (fun _ h9 => h9) rfl dX7_drawn_62 ?_
      refine lv_iload_n hx hb dX7_drawn_65 rfl (lv_at hl 1 rfl) ?_
      obtain ⟨r_25, h_24, hf⟩ := bd_s hf
      refine ca_V (As := [.int a1]) (rest := []) ⟨hx, hb, hml, hown, hts⟩ ⟨hK, hN⟩ hP (c_Cl_delayOf l E pr0 pr1 pr2 pr3 pl0 pl1 pl2 pl3 pl4 pa0 pa1 pr_greatestDelay_20 pr_delays_21 pr_fractions_22 pr_heads_23 pl_places pl_links pl_mostDrawn pl_ofTen pl_z pl_lengths pl_told_14 pl_delays_15 pl_fractions_16 pa_sums a1 r_25 h_24) [17, 18, 19, 20, 10, 11, 12, 13, 14, 15, 16] rfl 1 17 rfl rfl rfl gX7_drawn_X1_delayOf rfl rfl rfl rfl hd_Cl_delayOf ⟨(Nat.le_of_ble_eq_true rfl), (Nat.le_of_ble_eq_true rfl)⟩ rfl hl.1 rfl (Nat.le_of_ble_eq_true rfl) dX7_drawn_66 ⟨(Nat.zero_le _), (Nat.zero_le _)⟩ ?_
      exact hret H locs ls 69 r_25 (pl_told_14, pl_delays_15, pl_fractions_16, pr_greatestDelay_20, pr_delays_21, pr_fractions_22, pr_heads_23, pt_next_6, pt_kept_7, hk_kind_8, hk_i_9, hk_wasTold_10, hk_d_11, hk_f_12) dX7_drawn_69 (Option.some.inj hf) hP hD hS
    · have hf := ite_t c_26 hf
      refine lv_bipush (v := (-2)) hx hb dX7_drawn_24 (by decide) ?_
      exact hret H locs ls 26 (-2) (pl_told, pl_delays, pl_fractions, pr_greatestDelay, pr_delays, pr_fractions, pr_heads, pt_next, pt_kept, hk_kind, hk_i, hk_wasTold, hk_d, hk_f) dX7_drawn_26 (Option.some.inj hf) hP hD hS
  · have hf := ite_t c_27 hf
    refine lv_iconst (v := (-1)) hx hb dX7_drawn_11 (by decide) ?_
    exact hret H locs ls 12 (-1) (pl_told, pl_delays, pl_fractions, pr_greatestDelay, pr_delays, pr_fractions, pr_heads, pt_next, pt_kept, hk_kind, hk_i, hk_wasTold, hk_d, hk_f) dX7_drawn_12 (Option.some.inj hf) hP hD hS
abbrev rm_Dc_draws : Room := { frames := 4, cells := 0, slots := 0, locals := 91 }
theorem hd_Dc_draws : hdOK yX7_draws 1 := by decide +kernel
theorem in_X7_draws_X7 : ∀ w ∈ wsX70, w ∈ wsX7_draws := by decide +kernel
set_option maxRecDepth 100000 in
set_option maxHeartbeats 4000000 in
theorem c_Dc_draws (l : Launch) (E : En4) (dc0 le0 le1 rd0 rd1 dr0 dr1 dr2 dr3 dr4 pl0 pl1 pl2 pl3 pl4 pa0 pa1 pr0 pr1 pr2 pr3 tr0 tr1 tr2 tr3 pt0 pt1 ca0 cb0 cc0 cd0 : Nat) (sz : Nat) (le_length : Int32) (le_signs : Nat → Int32) (rd_numbers : Nat → Int32) (dr_places : Int32) (dr_links : Int32) (dr_mostDrawn : Int32) (dr_ofTen : Int32) (dr_z : Int32) (dr_lengths : Nat → Int32) (dr_told : Nat → Int32) (dr_delays : Nat → Int32) (dr_fractions : Nat → Int32) (pl_places : Int32) (pl_links : Int32) (pl_mostDrawn : Int32) (pl_ofTen : Int32) (pl_z : Int32) (pl_lengths : Nat → Int32) (pl_told : Nat → Int32) (pl_delays : Nat → Int32) (pl_fractions : Nat → Int32) (pa_sums : Nat → Int32) (pr_greatestDelay : Int32) (pr_delays : Nat → Int32) (pr_fractions : Nat → Int32) (pr_heads : Nat → Int32) (tr_greatestDelay : Int32) (tr_delays : Nat → Int32) (tr_fractions : Nat → Int32) (tr_heads : Nat → Int32) (pt_next : Int32) (pt_kept : Int32) (hk_kind : Nat → Int32) (hk_i : Nat → Int32) (hk_j : Nat → Int32) (hk_length : Nat → Int32) (hk_wasTold : Nat → Int32) (hk_d : Nat → Int32) (hk_f : Nat → Int32) (hk_z : Nat → Int32) (a1 : Int32)  (res : Int32 × Int32 × Int32 × (Nat → Int32) × (Nat → Int32) × (Nat → Int32) × Int32 × Int32 × (Nat → Int32) × (Nat → Int32)) (hf : Dc_draws pl_places pl_mostDrawn pl_ofTen pl_z pl_told pl_delays pl_fractions pa_sums pr_greatestDelay pr_delays pr_fractions pr_heads pt_next pt_kept hk_kind hk_z a1 = some res) : Met l yX7_draws wsX7_draws rm_Dc_draws (pcM [.ref dc0, .int a1] E sz (w_Dc E dc0 le0 le1 rd0 rd1 dr0 dr1 dr2 dr3 dr4 pl0 pl1 pl2 pl3 pl4 pa0 pa1 pr0 pr1 pr2 pr3 tr0 tr1 tr2 tr3 pt0 pt1 ca0 cb0 cc0 cd0 le_length le_signs rd_numbers dr_places dr_links dr_mostDrawn dr_ofTen dr_z dr_lengths dr_told dr_delays dr_fractions pl_places pl_links pl_mostDrawn pl_ofTen pl_z pl_lengths pl_told pl_delays pl_fractions pa_sums pr_greatestDelay pr_delays pr_fractions pr_heads tr_greatestDelay tr_delays tr_fractions tr_heads pt_next pt_kept hk_kind hk_i hk_j hk_length hk_wasTold hk_d hk_f hk_z)) (QMi E sz (w_Dc E dc0 le0 le1 rd0 rd1 dr0 dr1 dr2 dr3 dr4 pl0 pl1 pl2 pl3 pl4 pa0 pa1 pr0 pr1 pr2 pr3 tr0 tr1 tr2 tr3 pt0 pt1 ca0 cb0 cc0 cd0 le_length le_signs rd_numbers dr_places dr_links dr_mostDrawn dr_ofTen dr_z dr_lengths dr_told dr_delays dr_fractions pl_places pl_links pl_mostDrawn pl_ofTen pl_z pl_lengths pl_told pl_delays pl_fractions pa_sums pr_greatestDelay pr_delays pr_fractions pr_heads tr_greatestDelay tr_delays tr_fractions tr_heads pt_next pt_kept hk_kind hk_i hk_j hk_length hk_wasTold hk_d hk_f hk_z) (fun (u : Int32 × Int32 × (Nat → Int32) × (Nat → Int32) × (Nat → Int32) × Int32 × Int32 × (Nat → Int32) × (Nat → Int32)) => (w_Dc E dc0 le0 le1 rd0 rd1 dr0 dr1 dr2 dr3 dr4 pl0 pl1 pl2 pl3 pl4 pa0 pa1 pr0 pr1 pr2 pr3 tr0 tr1 tr2 tr3 pt0 pt1 ca0 cb0 cc0 cd0 le_length le_signs rd_numbers dr_places dr_links dr_mostDrawn dr_ofTen dr_z dr_lengths dr_told dr_delays dr_fractions pl_places pl_links pl_mostDrawn pl_ofTen u.1 pl_lengths pl_told pl_delays pl_fractions pa_sums u.2.1 u.2.2.1 u.2.2.2.1 u.2.2.2.2.1 tr_greatestDelay tr_delays tr_fractions tr_heads u.2.2.2.2.2.1 u.2.2.2.2.2.2.1 u.2.2.2.2.2.2.2.1 hk_i hk_j hk_length hk_wasTold hk_d hk_f u.2.2.2.2.2.2.2.2)) res) 0 0 (va_A (w_Dc E dc0 le0 le1 rd0 rd1 dr0 dr1 dr2 dr3 dr4 pl0 pl1 pl2 pl3 pl4 pa0 pa1 pr0 pr1 pr2 pr3 tr0 tr1 tr2 tr3 pt0 pt1 ca0 cb0 cc0 cd0 le_length le_signs rd_numbers dr_places dr_links dr_mostDrawn dr_ofTen dr_z dr_lengths dr_told dr_delays dr_fractions pl_places pl_links pl_mostDrawn pl_ofTen pl_z pl_lengths pl_told pl_delays pl_fractions pa_sums pr_greatestDelay pr_delays pr_fractions pr_heads tr_greatestDelay tr_delays tr_fractions tr_heads pt_next pt_kept hk_kind hk_i hk_j hk_length hk_wasTold hk_d hk_f hk_z) sz) := by
  refine mk_Mi (cc := cX7_draws) (maxL := 3) (by decide) rfl (Nat.le_of_ble_eq_true rfl) ?_
  intro p e s m args below meth c Q A S hKN hA hret H locs ls hP hD hS hl
  obtain ⟨hx, hb, hml, hown, hts⟩ := S
  obtain ⟨hK, hN⟩ := hKN
  have hl : lv_has ls 3 [(0, .ref dc0), (1, .int a1)] := hl
  have q_0 := hts (.fieldLink RX7 26 "DelayClusters" "plan" "LDelayClusters$Plan;") (by decide +kernel)
  have q_1 := hts (.fieldLink RX7 52 "DelayClusters" "past" "LDelayClusters$Past;") (by decide +kernel)
  have q_2 := hts (.fieldLink RX7 42 "DelayClusters" "present" "LDelayClusters$Clustering;") (by decide +kernel)
  unfold Dc_draws at hf
  refine lv_iload_n hx hb dX7_draws_0 rfl (lv_at hl 1 rfl) ?_
  refine lv_iconst (v := 0) hx hb dX7_draws_1 (by decide) ?_
  refine lv_sipush (v := 9999) hx hb dX7_draws_2 (by decide) ?_
  obtain ⟨r_2, h_1, hf⟩ := bd_s hf
  refine ca_S (As := [.int a1, .int 0, .int 9999]) (rest := []) ⟨hx, hb, hml, hown, hts⟩ ⟨hK, hN⟩ hP (c_Dc_isWithin l E   a1 0 9999 r_2 h_1) [] rfl gX7_draws_X7_isWithin rfl rfl rfl hd_Dc_isWithin ⟨(Nat.le_of_ble_eq_true rfl), (Nat.le_of_ble_eq_true rfl)⟩ rfl hl.1 rfl (Nat.le_of_ble_eq_true rfl) dX7_draws_5 ⟨(Nat.zero_le _), (Nat.zero_le _)⟩ ?_
  refine lv_if_ne (tgt := 13) hx hb dX7_draws_8 (by decide) (fun c_18 => ?_) (fun c_18 => ?_)
  · have hf := ite_f c_18 hf
    refine lv_aload_n hx hb dX7_draws_13 rfl (lv_at hl 0 rfl) ?_
    refine va_get (D := E.1) (ci := 7) (v := .ref pl0) (C := RX7) (T := TX7) (N := 7) hx hb hts in_X7_draws_X7 hown hK hP 0 rfl rfl 2 (by decide) q_0 (fun _ h9 => h9) rfl dX7_draws_14 ?_
    obtain ⟨r_4, h_3, hf⟩ := bd_s hf
    refine ca_V (As := []) (rest := []) ⟨hx, hb, hml, hown, hts⟩ ⟨hK, hN⟩ hP (c_Pl_z l E pl0 pl1 pl2 pl3 pl4 pl_places pl_links pl_mostDrawn pl_ofTen pl_z pl_lengths pl_told pl_delays pl_fractions r_4 h_3) [10, 11, 12, 13, 14] rfl 5 10 rfl rfl rfl gX7_draws_X5_z rfl rfl rfl rfl hd_Pl_z ⟨(Nat.le_of_ble_eq_true rfl), (Nat.le_of_ble_eq_true rfl)⟩ rfl hl.1 rfl (Nat.le_of_ble_eq_true rfl) dX7_draws_17 ⟨(Nat.zero_le _), (Nat.zero_le _)⟩ ?_
    refine lv_istore_n (lv' := [(2, .int r_4), (0, .ref dc0), (1, .int a1)]) hx hb dX7_draws_20 rfl hl (by decide) rfl (fun ls hl => ?_)
    refine lv_iload_n hx hb dX7_draws_21 rfl (lv_at hl 0 rfl) ?_
    refine lv_iload_n hx hb dX7_draws_22 rfl (lv_at hl 2 rfl) ?_
    refine lv_icmp_ne (tgt := 29) hx hb dX7_draws_23 (by decide) (fun c_17 => ?_) (fun c_17 => ?_)
    · have hf := ite_f c_17 hf
      refine lv_aload_n hx hb dX7_draws_29 rfl (lv_at hl 1 rfl) ?_
      refine va_get (D := E.1) (ci := 7) (v := .ref pt0) (C := RX7) (T := TX7) (N := 7) hx hb hts in_X7_draws_X7 hown hK hP 0 rfl rfl 6 (by decide) q_1 (fun _ h9 => h9) rfl dX7_draws_30 ?_
      refine lv_aload_n hx hb dX7_draws_33 rfl (lv_at hl 1 rfl) ?_
      refine va_get (D := E.1) (ci := 7) (v := .ref pl0) (C := RX7) (T := TX7) (N := 7) hx hb hts in_X7_draws_X7 hown hK hP 0 rfl rfl 2 (by decide) q_0 (fun _ h9 => h9) rfl dX7_draws_34 ?_
      obtain ⟨⟨pt_next_6, pt_kept_7, hk_kind_8, hk_z_9⟩, h_5, hf⟩ := bd_s hf
      try dsimp only at hf
      refine ca_Mv (w2 := (w_Dc E dc0 le0 le1 rd0 rd1 dr0 dr1 dr2 dr3 dr4 pl0 pl1 pl2 pl3 pl4 pa0 pa1 pr0 pr1 pr2 pr3 tr0 tr1 tr2 tr3 pt0 pt1 ca0 cb0 cc0 cd0 le_length le_signs rd_numbers dr_places dr_links dr_mostDrawn dr_ofTen dr_z dr_lengths dr_told dr_delays dr_fractions pl_places pl_links pl_mostDrawn pl_ofTen pl_z pl_lengths pl_told pl_delays pl_fractions pa_sums pr_greatestDelay pr_delays pr_fractions pr_heads tr_greatestDelay tr_delays tr_fractions tr_heads pt_next_6 pt_kept_7 hk_kind_8 hk_i hk_j hk_length hk_wasTold hk_d hk_f hk_z_9)) (As := [.ref pl0]) (rest := []) ⟨hx, hb, hml, hown, hts⟩ ⟨hK, hN⟩ hP hD hS hA (c_Pt_keepZ l E pt0 pt1 ca0 cb0 cc0 cd0 pl0 pl1 pl2 pl3 pl4 H.size pt_next pt_kept hk_kind hk_i hk_j hk_length hk_wasTold hk_d hk_f hk_z pl_places pl_links pl_mostDrawn pl_ofTen pl_z pl_lengths pl_told pl_delays pl_fractions (pt_next_6, pt_kept_7, hk_kind_8, hk_z_9) h_5) [25, 26, 27, 28, 29, 30, 10, 11, 12, 13, 14] [0, 1, 2, 3, 4, 5, 6, 7, 8, 9, 15, 16, 17, 18, 19, 20, 21, 22, 23, 24] [0, 1, 2, 3, 4, 5, 6, 7, 8, 9, 26, 27, 28, 29, 30, 10, 11, 12, 13, 14, 15, 16, 17, 18, 19, 20, 21, 22, 23, 24, 25] rfl rfl rfl rfl (by decide) rfl rfl 3 25 rfl rfl rfl gX7_draws_X3_keepZ rfl rfl rfl rfl hd_Pt_keepZ ⟨(Nat.le_of_ble_eq_true rfl), (Nat.le_of_ble_eq_true rfl)⟩ rfl hl.1 rfl (Nat.le_of_ble_eq_true rfl) dX7_draws_37 ⟨(Nat.zero_le _), (Nat.zero_le _)⟩ (fun H locs hP hD hS => ?_)
      refine lv_aload_n hx hb dX7_draws_40 rfl (lv_at hl 1 rfl) ?_
      refine va_get (D := E.1) (ci := 7) (v := .ref pl0) (C := RX7) (T := TX7) (N := 7) hx hb hts in_X7_draws_X7 hown hK hP 0 rfl rfl 2 (by decide) q_0 (fun _ h9 => h9) rfl dX7_draws_41 ?_
      refine lv_iload_n hx hb dX7_draws_44 rfl (lv_at hl 2 rfl) ?_
      obtain ⟨pl_z_11, h_10, hf⟩ := bd_s hf
      try dsimp only at hf
      refine ca_Mv (w2 := (w_Dc E dc0 le0 le1 rd0 rd1 dr0 dr1 dr2 dr3 dr4 pl0 pl1 pl2 pl3 pl4 pa0 pa1 pr0 pr1 pr2 pr3 tr0 tr1 tr2 tr3 pt0 pt1 ca0 cb0 cc0 cd0 le_length le_signs rd_numbers dr_places dr_links dr_mostDrawn dr_ofTen dr_z dr_lengths dr_told dr_delays dr_fractions pl_places pl_links pl_mostDrawn pl_ofTen pl_z_11 pl_lengths pl_told pl_delays pl_fractions pa_sums pr_greatestDelay pr_delays pr_fractions pr_heads tr_greatestDelay tr_delays tr_fractions tr_heads pt_next_6 pt_kept_7 hk_kind_8 hk_i hk_j hk_length hk_wasTold hk_d hk_f hk_z_9)) (As := [.int a1]) (rest := []) ⟨hx, hb, hml, hown, hts⟩ ⟨hK, hN⟩ hP hD hS hA (c_Pl_setZ l E pl0 pl1 pl2 pl3 pl4 H.size pl_places pl_links pl_mostDrawn pl_ofTen pl_z pl_lengths pl_told pl_delays pl_fractions a1 pl_z_11 h_10) [10, 11, 12, 13, 14] [0, 1, 2, 3, 4, 5, 6, 7, 8, 9, 15, 16, 17, 18, 19, 20, 21, 22, 23, 24, 25, 26, 27, 28, 29, 30] [0, 1, 2, 3, 4, 5, 6, 7, 8, 9, 26, 27, 28, 29, 30, 10, 11, 12, 13, 14, 15, 16, 17, 18, 19, 20, 21, 22, 23, 24, 25] rfl rfl rfl rfl (by decide) rfl rfl 5 10 rfl rfl rfl gX7_draws_X5_setZ rfl rfl rfl rfl hd_Pl_setZ ⟨(Nat.le_of_ble_eq_true rfl), (Nat.le_of_ble_eq_true rfl)⟩ rfl hl.1 rfl (Nat.le_of_ble_eq_true rfl) dX7_draws_45 ⟨(Nat.zero_le _), (Nat.zero_le _)⟩ (fun H locs hP hD hS => ?_)
      refine lv_aload_n hx hb dX7_draws_48 rfl (lv_at hl 1 rfl) ?_
      refine va_get (D := E.1) (ci := 7) (v := .ref pr0) (C := RX7) (T := TX7) (N := 7) hx hb hts in_X7_draws_X7 hown hK hP 0 rfl rfl 4 (by decide) q_2 (fun _ h9 => h9) rfl dX7_draws_49 ?_
      refine lv_iload_n hx hb dX7_draws_52 rfl (lv_at hl 2 rfl) ?_
      obtain ⟨⟨pr_greatestDelay_13, pr_delays_14, pr_fractions_15, pr_heads_16⟩, h_12, hf⟩ := bd_s hf
      try dsimp only at hf
      refine ca_Mv (w2 := (w_Dc E dc0 le0 le1 rd0 rd1 dr0 dr1 dr2 dr3 dr4 pl0 pl1 pl2 pl3 pl4 pa0 pa1 pr0 pr1 pr2 pr3 tr0 tr1 tr2 tr3 pt0 pt1 ca0 cb0 cc0 cd0 le_length le_signs rd_numbers dr_places dr_links dr_mostDrawn dr_ofTen dr_z dr_lengths dr_told dr_delays dr_fractions pl_places pl_links pl_mostDrawn pl_ofTen pl_z_11 pl_lengths pl_told pl_delays pl_fractions pa_sums pr_greatestDelay_13 pr_delays_14 pr_fractions_15 pr_heads_16 tr_greatestDelay tr_delays tr_fractions tr_heads pt_next_6 pt_kept_7 hk_kind_8 hk_i hk_j hk_length hk_wasTold hk_d hk_f hk_z_9)) (As := [.int a1]) (rest := []) ⟨hx, hb, hml, hown, hts⟩ ⟨hK, hN⟩ hP hD hS hA (c_Cl_settleBy l E pr0 pr1 pr2 pr3 pl0 pl1 pl2 pl3 pl4 pa0 pa1 H.size pr_greatestDelay pr_delays pr_fractions pr_heads pl_places pl_links pl_mostDrawn pl_ofTen pl_z_11 pl_lengths pl_told pl_delays pl_fractions pa_sums a1 (pr_greatestDelay_13, pr_delays_14, pr_fractions_15, pr_heads_16) h_12) [17, 18, 19, 20, 10, 11, 12, 13, 14, 15, 16] [0, 1, 2, 3, 4, 5, 6, 7, 8, 9, 21, 22, 23, 24, 25, 26, 27, 28, 29, 30] [0, 1, 2, 3, 4, 5, 6, 7, 8, 9, 24, 25, 26, 27, 28, 29, 30, 20, 21, 22, 23, 10, 11, 12, 13, 14, 15, 16, 17, 18, 19] rfl rfl rfl rfl (by decide) rfl rfl 1 17 rfl rfl rfl gX7_draws_X1_settleBy rfl rfl rfl rfl hd_Cl_settleBy ⟨(Nat.le_of_ble_eq_true rfl), (Nat.le_of_ble_eq_true rfl)⟩ rfl hl.1 rfl (Nat.le_of_ble_eq_true rfl) dX7_draws_53 ⟨(Nat.zero_le _), (Nat.zero_le _)⟩ (fun H locs hP hD hS => ?_)
      refine lv_iload_n hx hb dX7_draws_56 rfl (lv_at hl 0 rfl) ?_
      exact hret H locs ls 57 r_4 (pl_z_11, pr_greatestDelay_13, pr_delays_14, pr_fractions_15, pr_heads_16, pt_next_6, pt_kept_7, hk_kind_8, hk_z_9) dX7_draws_57 (Option.some.inj hf) hP hD hS
    · have hf := ite_t c_17 hf
      refine lv_bipush (v := (-2)) hx hb dX7_draws_26 (by decide) ?_
      exact hret H locs ls 28 (-2) (pl_z, pr_greatestDelay, pr_delays, pr_fractions, pr_heads, pt_next, pt_kept, hk_kind, hk_z) dX7_draws_28 (Option.some.inj hf) hP hD hS
  · have hf := ite_t c_18 hf
    refine lv_iconst (v := (-1)) hx hb dX7_draws_11 (by decide) ?_
    exact hret H locs ls 12 (-1) (pl_z, pr_greatestDelay, pr_delays, pr_fractions, pr_heads, pt_next, pt_kept, hk_kind, hk_z) dX7_draws_12 (Option.some.inj hf) hP hD hS
abbrev rm_Dc_undo : Room := { frames := 5, cells := 0, slots := 0, locals := 111 }
theorem hd_Dc_undo : hdOK yX7_undo 0 := by decide +kernel
theorem in_X7_undo_X7 : ∀ w ∈ wsX70, w ∈ wsX7_undo := by decide +kernel
set_option maxRecDepth 100000 in
set_option maxHeartbeats 4000000 in
theorem c_Dc_undo (l : Launch) (E : En4) (dc0 le0 le1 rd0 rd1 dr0 dr1 dr2 dr3 dr4 pl0 pl1 pl2 pl3 pl4 pa0 pa1 pr0 pr1 pr2 pr3 tr0 tr1 tr2 tr3 pt0 pt1 ca0 cb0 cc0 cd0 : Nat) (sz : Nat) (le_length : Int32) (le_signs : Nat → Int32) (rd_numbers : Nat → Int32) (dr_places : Int32) (dr_links : Int32) (dr_mostDrawn : Int32) (dr_ofTen : Int32) (dr_z : Int32) (dr_lengths : Nat → Int32) (dr_told : Nat → Int32) (dr_delays : Nat → Int32) (dr_fractions : Nat → Int32) (pl_places : Int32) (pl_links : Int32) (pl_mostDrawn : Int32) (pl_ofTen : Int32) (pl_z : Int32) (pl_lengths : Nat → Int32) (pl_told : Nat → Int32) (pl_delays : Nat → Int32) (pl_fractions : Nat → Int32) (pa_sums : Nat → Int32) (pr_greatestDelay : Int32) (pr_delays : Nat → Int32) (pr_fractions : Nat → Int32) (pr_heads : Nat → Int32) (tr_greatestDelay : Int32) (tr_delays : Nat → Int32) (tr_fractions : Nat → Int32) (tr_heads : Nat → Int32) (pt_next : Int32) (pt_kept : Int32) (hk_kind : Nat → Int32) (hk_i : Nat → Int32) (hk_j : Nat → Int32) (hk_length : Nat → Int32) (hk_wasTold : Nat → Int32) (hk_d : Nat → Int32) (hk_f : Nat → Int32) (hk_z : Nat → Int32)  (res : Int32 × Int32 × Int32 × (Nat → Int32) × (Nat → Int32) × (Nat → Int32) × (Nat → Int32) × (Nat → Int32) × Int32 × (Nat → Int32) × (Nat → Int32) × (Nat → Int32) × Int32 × Int32) (hf : Dc_undo pl_places pl_links pl_mostDrawn pl_ofTen pl_z pl_lengths pl_told pl_delays pl_fractions pa_sums pr_greatestDelay pr_delays pr_fractions pr_heads pt_next pt_kept hk_kind hk_i hk_j hk_length hk_wasTold hk_d hk_f hk_z = some res) : Met l yX7_undo wsX7_undo rm_Dc_undo (pcM [.ref dc0] E sz (w_Dc E dc0 le0 le1 rd0 rd1 dr0 dr1 dr2 dr3 dr4 pl0 pl1 pl2 pl3 pl4 pa0 pa1 pr0 pr1 pr2 pr3 tr0 tr1 tr2 tr3 pt0 pt1 ca0 cb0 cc0 cd0 le_length le_signs rd_numbers dr_places dr_links dr_mostDrawn dr_ofTen dr_z dr_lengths dr_told dr_delays dr_fractions pl_places pl_links pl_mostDrawn pl_ofTen pl_z pl_lengths pl_told pl_delays pl_fractions pa_sums pr_greatestDelay pr_delays pr_fractions pr_heads tr_greatestDelay tr_delays tr_fractions tr_heads pt_next pt_kept hk_kind hk_i hk_j hk_length hk_wasTold hk_d hk_f hk_z)) (QMi E sz (w_Dc E dc0 le0 le1 rd0 rd1 dr0 dr1 dr2 dr3 dr4 pl0 pl1 pl2 pl3 pl4 pa0 pa1 pr0 pr1 pr2 pr3 tr0 tr1 tr2 tr3 pt0 pt1 ca0 cb0 cc0 cd0 le_length le_signs rd_numbers dr_places dr_links dr_mostDrawn dr_ofTen dr_z dr_lengths dr_told dr_delays dr_fractions pl_places pl_links pl_mostDrawn pl_ofTen pl_z pl_lengths pl_told pl_delays pl_fractions pa_sums pr_greatestDelay pr_delays pr_fractions pr_heads tr_greatestDelay tr_delays tr_fractions tr_heads pt_next pt_kept hk_kind hk_i hk_j hk_length hk_wasTold hk_d hk_f hk_z) (fun (u : Int32 × Int32 × (Nat → Int32) × (Nat → Int32) × (Nat → Int32) × (Nat → Int32) × (Nat → Int32) × Int32 × (Nat → Int32) × (Nat → Int32) × (Nat → Int32) × Int32 × Int32) => (w_Dc E dc0 le0 le1 rd0 rd1 dr0 dr1 dr2 dr3 dr4 pl0 pl1 pl2 pl3 pl4 pa0 pa1 pr0 pr1 pr2 pr3 tr0 tr1 tr2 tr3 pt0 pt1 ca0 cb0 cc0 cd0 le_length le_signs rd_numbers dr_places dr_links dr_mostDrawn dr_ofTen dr_z dr_lengths dr_told dr_delays dr_fractions pl_places u.1 pl_mostDrawn pl_ofTen u.2.1 u.2.2.1 u.2.2.2.1 u.2.2.2.2.1 u.2.2.2.2.2.1 u.2.2.2.2.2.2.1 u.2.2.2.2.2.2.2.1 u.2.2.2.2.2.2.2.2.1 u.2.2.2.2.2.2.2.2.2.1 u.2.2.2.2.2.2.2.2.2.2.1 tr_greatestDelay tr_delays tr_fractions tr_heads u.2.2.2.2.2.2.2.2.2.2.2.1 u.2.2.2.2.2.2.2.2.2.2.2.2 hk_kind hk_i hk_j hk_length hk_wasTold hk_d hk_f hk_z)) res) 0 0 (va_A (w_Dc E dc0 le0 le1 rd0 rd1 dr0 dr1 dr2 dr3 dr4 pl0 pl1 pl2 pl3 pl4 pa0 pa1 pr0 pr1 pr2 pr3 tr0 tr1 tr2 tr3 pt0 pt1 ca0 cb0 cc0 cd0 le_length le_signs rd_numbers dr_places dr_links dr_mostDrawn dr_ofTen dr_z dr_lengths dr_told dr_delays dr_fractions pl_places pl_links pl_mostDrawn pl_ofTen pl_z pl_lengths pl_told pl_delays pl_fractions pa_sums pr_greatestDelay pr_delays pr_fractions pr_heads tr_greatestDelay tr_delays tr_fractions tr_heads pt_next pt_kept hk_kind hk_i hk_j hk_length hk_wasTold hk_d hk_f hk_z) sz) := by
  refine mk_Mi (cc := cX7_undo) (maxL := 1) (by decide) rfl (Nat.le_of_ble_eq_true rfl) ?_
  intro p e s m args below meth c Q A S hKN hA hret H locs ls hP hD hS hl
  obtain ⟨hx, hb, hml, hown, hts⟩ := S
  obtain ⟨hK, hN⟩ := hKN
  have hl : lv_has ls 1 [(0, .ref dc0)] := hl
  have q_0 := hts (.fieldLink RX7 52 "DelayClusters" "past" "LDelayClusters$Past;") (by decide +kernel)
  have q_1 := hts (.fieldLink RX7 26 "DelayClusters" "plan" "LDelayClusters$Plan;") (by decide +kernel)
  unfold Dc_undo at hf
  refine lv_aload_n hx hb dX7_undo_0 rfl (lv_at hl 0 rfl) ?_
  refine va_get (D := E.1) (ci := 7) (v := .ref pt0) (C := RX7) (T := TX7) (N := 7) hx hb hts in_X7_undo_X7 hown hK hP 0 rfl rfl 6 (by decide) q_0 (fun _ h9 => h9) rfl dX7_undo_1 ?_
  obtain ⟨r_2, h_1, hf⟩ := bd_s hf
  refine ca_V (As := []) (rest := []) ⟨hx, hb, hml, hown, hts⟩ ⟨hK, hN⟩ hP (c_Pt_kept l E pt0 pt1 ca0 cb0 cc0 cd0 pt_next pt_kept hk_kind hk_i hk_j hk_length hk_wasTold hk_d hk_f hk_z r_2 h_1) [25, 26, 27, 28, 29, 30] rfl 3 25 rfl rfl rfl gX7_undo_X3_kept rfl rfl rfl rfl hd_Pt_kept ⟨(Nat.le_of_ble_eq_true rfl), (Nat.le_of_ble_eq_true rfl)⟩ rfl hl.1 rfl (Nat.le_of_ble_eq_true rfl) dX7_undo_4 ⟨(Nat.zero_le _), (Nat.zero_le _)⟩ ?_
  refine lv_if_ne (tgt := 13) hx hb dX7_undo_7 (by decide) (fun c_20 => ?_) (fun c_20 => ?_)
  · have hf := ite_f c_20 hf
    refine lv_aload_n hx hb dX7_undo_13 rfl (lv_at hl 0 rfl) ?_
    refine va_get (D := E.1) (ci := 7) (v := .ref pt0) (C := RX7) (T := TX7) (N := 7) hx hb hts in_X7_undo_X7 hown hK hP 0 rfl rfl 6 (by decide) q_0 (fun _ h9 => h9) rfl dX7_undo_14 ?_
    refine lv_aload_n hx hb dX7_undo_17 rfl (lv_at hl 0 rfl) ?_
    refine va_get (D := E.1) (ci := 7) (v := .ref pl0) (C := RX7) (T := TX7) (N := 7) hx hb hts in_X7_undo_X7 hown hK hP 0 rfl rfl 2 (by decide) q_1 (fun _ h9 => h9) rfl dX7_undo_18 ?_
    obtain ⟨⟨pt_next_4, pt_kept_5, pl_links_6, pl_z_7, pl_lengths_8, pl_told_9, pl_delays_10, pl_fractions_11⟩, h_3, hf⟩ := bd_s hf
    try dsimp only at hf
    refine ca_Mv (w2 := (w_Dc E dc0 le0 le1 rd0 rd1 dr0 dr1 dr2 dr3 dr4 pl0 pl1 pl2 pl3 pl4 pa0 pa1 pr0 pr1 pr2 pr3 tr0 tr1 tr2 tr3 pt0 pt1 ca0 cb0 cc0 cd0 le_length le_signs rd_numbers dr_places dr_links dr_mostDrawn dr_ofTen dr_z dr_lengths dr_told dr_delays dr_fractions pl_places pl_links_6 pl_mostDrawn pl_ofTen pl_z_7 pl_lengths_8 pl_told_9 pl_delays_10 pl_fractions_11 pa_sums pr_greatestDelay pr_delays pr_fractions pr_heads tr_greatestDelay tr_delays tr_fractions tr_heads pt_next_4 pt_kept_5 hk_kind hk_i hk_j hk_length hk_wasTold hk_d hk_f hk_z)) (As := [.ref pl0]) (rest := []) ⟨hx, hb, hml, hown, hts⟩ ⟨hK, hN⟩ hP hD hS hA (c_Pt_takeBack l E pt0 pt1 ca0 cb0 cc0 cd0 pl0 pl1 pl2 pl3 pl4 H.size pt_next pt_kept hk_kind hk_i hk_j hk_length hk_wasTold hk_d hk_f hk_z pl_places pl_links pl_mostDrawn pl_ofTen pl_z pl_lengths pl_told pl_delays pl_fractions (pt_next_4, pt_kept_5, pl_links_6, pl_z_7, pl_lengths_8, pl_told_9, pl_delays_10, pl_fractions_11) h_3) [25, 26, 27, 28, 29, 30, 10, 11, 12, 13, 14] [0, 1, 2, 3, 4, 5, 6, 7, 8, 9, 15, 16, 17, 18, 19, 20, 21, 22, 23, 24] [0, 1, 2, 3, 4, 5, 6, 7, 8, 9, 26, 27, 28, 29, 30, 10, 11, 12, 13, 14, 15, 16, 17, 18, 19, 20, 21, 22, 23, 24, 25] rfl rfl rfl rfl (by decide) rfl rfl 3 25 rfl rfl rfl gX7_undo_X3_takeBack rfl rfl rfl rfl hd_Pt_takeBack ⟨(Nat.le_of_ble_eq_true rfl), (Nat.le_of_ble_eq_true rfl)⟩ rfl hl.1 rfl (Nat.le_of_ble_eq_true rfl) dX7_undo_21 ⟨(Nat.zero_le _), (Nat.zero_le _)⟩ (fun H locs hP hD hS => ?_)
    refine lv_aload_n hx hb dX7_undo_24 rfl (lv_at hl 0 rfl) ?_
    obtain ⟨⟨pa_sums_13, pr_greatestDelay_14, pr_delays_15, pr_fractions_16, pr_heads_17⟩, h_12, hf⟩ := bd_s hf
    try dsimp only at hf
    refine ca_Mv (w2 := (w_Dc E dc0 le0 le1 rd0 rd1 dr0 dr1 dr2 dr3 dr4 pl0 pl1 pl2 pl3 pl4 pa0 pa1 pr0 pr1 pr2 pr3 tr0 tr1 tr2 tr3 pt0 pt1 ca0 cb0 cc0 cd0 le_length le_signs rd_numbers dr_places dr_links dr_mostDrawn dr_ofTen dr_z dr_lengths dr_told dr_delays dr_fractions pl_places pl_links_6 pl_mostDrawn pl_ofTen pl_z_7 pl_lengths_8 pl_told_9 pl_delays_10 pl_fractions_11 pa_sums_13 pr_greatestDelay_14 pr_delays_15 pr_fractions_16 pr_heads_17 tr_greatestDelay tr_delays tr_fractions tr_heads pt_next_4 pt_kept_5 hk_kind hk_i hk_j hk_length hk_wasTold hk_d hk_f hk_z)) (As := []) (rest := []) ⟨hx, hb, hml, hown, hts⟩ ⟨hK, hN⟩ hP hD hS hA (c_Dc_settleAll l E dc0 le0 le1 rd0 rd1 dr0 dr1 dr2 dr3 dr4 pl0 pl1 pl2 pl3 pl4 pa0 pa1 pr0 pr1 pr2 pr3 tr0 tr1 tr2 tr3 pt0 pt1 ca0 cb0 cc0 cd0 H.size le_length le_signs rd_numbers dr_places dr_links dr_mostDrawn dr_ofTen dr_z dr_lengths dr_told dr_delays dr_fractions pl_places pl_links_6 pl_mostDrawn pl_ofTen pl_z_7 pl_lengths_8 pl_told_9 pl_delays_10 pl_fractions_11 pa_sums pr_greatestDelay pr_delays pr_fractions pr_heads tr_greatestDelay tr_delays tr_fractions tr_heads pt_next_4 pt_kept_5 hk_kind hk_i hk_j hk_length hk_wasTold hk_d hk_f hk_z (pa_sums_13, pr_greatestDelay_14, pr_delays_15, pr_fractions_16, pr_heads_17) h_12) [0, 1, 2, 3, 4, 5, 6, 7, 8, 9, 10, 11, 12, 13, 14, 15, 16, 17, 18, 19, 20, 21, 22, 23, 24, 25, 26, 27, 28, 29, 30] [] [0, 1, 2, 3, 4, 5, 6, 7, 8, 9, 10, 11, 12, 13, 14, 15, 16, 17, 18, 19, 20, 21, 22, 23, 24, 25, 26, 27, 28, 29, 30] rfl rfl rfl rfl (by decide) rfl rfl 7 0 rfl rfl rfl gX7_undo_X7_settleAll rfl rfl rfl rfl hd_Dc_settleAll ⟨(Nat.le_of_ble_eq_true rfl), (Nat.le_of_ble_eq_true rfl)⟩ rfl hl.1 rfl (Nat.le_of_ble_eq_true rfl) dX7_undo_25 ⟨(Nat.zero_le _), (Nat.zero_le _)⟩ (fun H locs hP hD hS => ?_)
    refine lv_aload_n hx hb dX7_undo_28 rfl (lv_at hl 0 rfl) ?_
    refine va_get (D := E.1) (ci := 7) (v := .ref pt0) (C := RX7) (T := TX7) (N := 7) hx hb hts in_X7_undo_X7 hown hK hP 0 rfl rfl 6 (by decide) q_0 (fun _ h9 => h9) rfl dX7_undo_29 ?_
    obtain ⟨r_19, h_18, hf⟩ := bd_s hf
    refine ca_V (As := []) (rest := []) ⟨hx, hb, hml, hown, hts⟩ ⟨hK, hN⟩ hP (c_Pt_kept l E pt0 pt1 ca0 cb0 cc0 cd0 pt_next_4 pt_kept_5 hk_kind hk_i hk_j hk_length hk_wasTold hk_d hk_f hk_z r_19 h_18) [25, 26, 27, 28, 29, 30] rfl 3 25 rfl rfl rfl gX7_undo_X3_kept rfl rfl rfl rfl hd_Pt_kept ⟨(Nat.le_of_ble_eq_true rfl), (Nat.le_of_ble_eq_true rfl)⟩ rfl hl.1 rfl (Nat.le_of_ble_eq_true rfl) dX7_undo_32 ⟨(Nat.zero_le _), (Nat.zero_le _)⟩ ?_
    exact hret H locs ls 35 r_19 (pl_links_6, pl_z_7, pl_lengths_8, pl_told_9, pl_delays_10, pl_fractions_11, pa_sums_13, pr_greatestDelay_14, pr_delays_15, pr_fractions_16, pr_heads_17, pt_next_4, pt_kept_5) dX7_undo_35 (Option.some.inj hf) hP hD hS
  · have hf := ite_t c_20 hf
    refine lv_bipush (v := (-2)) hx hb dX7_undo_10 (by decide) ?_
    exact hret H locs ls 12 (-2) (pl_links, pl_z, pl_lengths, pl_told, pl_delays, pl_fractions, pa_sums, pr_greatestDelay, pr_delays, pr_fractions, pr_heads, pt_next, pt_kept) dX7_undo_12 (Option.some.inj hf) hP hD hS
abbrev rm_Dc_place : Room := { frames := 3, cells := 0, slots := 0, locals := 66 }
theorem hd_Dc_place : hdOK yX7_place 2 := by decide +kernel
theorem in_X7_place_X7 : ∀ w ∈ wsX70, w ∈ wsX7_place := by decide +kernel
set_option maxRecDepth 100000 in
set_option maxHeartbeats 4000000 in
theorem c_Dc_place (l : Launch) (E : En4) (dc0 le0 le1 rd0 rd1 dr0 dr1 dr2 dr3 dr4 pl0 pl1 pl2 pl3 pl4 pa0 pa1 pr0 pr1 pr2 pr3 tr0 tr1 tr2 tr3 pt0 pt1 ca0 cb0 cc0 cd0 : Nat) (le_length : Int32) (le_signs : Nat → Int32) (rd_numbers : Nat → Int32) (dr_places : Int32) (dr_links : Int32) (dr_mostDrawn : Int32) (dr_ofTen : Int32) (dr_z : Int32) (dr_lengths : Nat → Int32) (dr_told : Nat → Int32) (dr_delays : Nat → Int32) (dr_fractions : Nat → Int32) (pl_places : Int32) (pl_links : Int32) (pl_mostDrawn : Int32) (pl_ofTen : Int32) (pl_z : Int32) (pl_lengths : Nat → Int32) (pl_told : Nat → Int32) (pl_delays : Nat → Int32) (pl_fractions : Nat → Int32) (pa_sums : Nat → Int32) (pr_greatestDelay : Int32) (pr_delays : Nat → Int32) (pr_fractions : Nat → Int32) (pr_heads : Nat → Int32) (tr_greatestDelay : Int32) (tr_delays : Nat → Int32) (tr_fractions : Nat → Int32) (tr_heads : Nat → Int32) (pt_next : Int32) (pt_kept : Int32) (hk_kind : Nat → Int32) (hk_i : Nat → Int32) (hk_j : Nat → Int32) (hk_length : Nat → Int32) (hk_wasTold : Nat → Int32) (hk_d : Nat → Int32) (hk_f : Nat → Int32) (hk_z : Nat → Int32) (a1 : Int32) (a2 : Int32)  (res : Int32) (hf : Dc_place pl_places pl_lengths pl_told pa_sums pr_greatestDelay pr_delays pr_fractions pr_heads a1 a2 = some res) : Met l yX7_place wsX7_place rm_Dc_place (pcR [.ref dc0, .int a1, .int a2] E (w_Dc E dc0 le0 le1 rd0 rd1 dr0 dr1 dr2 dr3 dr4 pl0 pl1 pl2 pl3 pl4 pa0 pa1 pr0 pr1 pr2 pr3 tr0 tr1 tr2 tr3 pt0 pt1 ca0 cb0 cc0 cd0 le_length le_signs rd_numbers dr_places dr_links dr_mostDrawn dr_ofTen dr_z dr_lengths dr_told dr_delays dr_fractions pl_places pl_links pl_mostDrawn pl_ofTen pl_z pl_lengths pl_told pl_delays pl_fractions pa_sums pr_greatestDelay pr_delays pr_fractions pr_heads tr_greatestDelay tr_delays tr_fractions tr_heads pt_next pt_kept hk_kind hk_i hk_j hk_length hk_wasTold hk_d hk_f hk_z)) (vp_Si (fun r => r = res)) 0 0 (fun _ => False) := by
  refine mk_Ri (cc := cX7_place) (maxL := 3) (by decide) rfl (Nat.le_of_ble_eq_true rfl) ?_
  intro p e s m args below meth c Q S hKN hP hret ls hl
  obtain ⟨hx, hb, hml, hown, hts⟩ := S
  obtain ⟨hK, hN⟩ := hKN
  have hl : lv_has ls 3 [(0, .ref dc0), (1, .int a1), (2, .int a2)] := hl
  have q_0 := hts (.fieldLink RX7 26 "DelayClusters" "plan" "LDelayClusters$Plan;") (by decide +kernel)
  have q_1 := hts (.fieldLink RX7 42 "DelayClusters" "present" "LDelayClusters$Clustering;") (by decide +kernel)
  unfold Dc_place at hf
  refine lv_aload_n hx hb dX7_place_0 rfl (lv_at hl 0 rfl) ?_
  refine va_get (D := E.1) (ci := 7) (v := .ref pl0) (C := RX7) (T := TX7) (N := 7) hx hb hts in_X7_place_X7 hown hK hP 0 rfl rfl 2 (by decide) q_0 (fun _ h9 => h9) rfl dX7_place_1 ?_
  refine lv_iload_n hx hb dX7_place_4 rfl (lv_at hl 1 rfl) ?_
  obtain ⟨r_2, h_1, hf⟩ := bd_s hf
  refine ca_V (As := [.int a1]) (rest := []) ⟨hx, hb, hml, hown, hts⟩ ⟨hK, hN⟩ hP (c_Pl_isPlace l E pl0 pl1 pl2 pl3 pl4 pl_places pl_links pl_mostDrawn pl_ofTen pl_z pl_lengths pl_told pl_delays pl_fractions a1 r_2 h_1) [10, 11, 12, 13, 14] rfl 5 10 rfl rfl rfl gX7_place_X5_isPlace rfl rfl rfl rfl hd_Pl_isPlace ⟨(Nat.le_of_ble_eq_true rfl), (Nat.le_of_ble_eq_true rfl)⟩ rfl hl.1 rfl (Nat.le_of_ble_eq_true rfl) dX7_place_5 ⟨(Nat.zero_le _), (Nat.zero_le _)⟩ ?_
  refine lv_if_ne (tgt := 13) hx hb dX7_place_8 (by decide) (fun c_34 => ?_) (fun c_34 => ?_)
  · have hf := ite_f c_34 hf
    refine lv_iload_n hx hb dX7_place_13 rfl (lv_at hl 2 rfl) ?_
    by_cases c_5 : a2 = 0
    · have hf := ite_t c_5 hf
      refine lv_tableIn (off := 54) (tgt := 68) hx hb dX7_place_14 (by rw [c_5]; decide) (by rw [c_5]; decide) (by rw [c_5]; rfl) (by decide) ?_
      refine lv_aload_n hx hb dX7_place_68 rfl (lv_at hl 0 rfl) ?_
      refine va_get (D := E.1) (ci := 7) (v := .ref pr0) (C := RX7) (T := TX7) (N := 7) hx hb hts in_X7_place_X7 hown hK hP 0 rfl rfl 4 (by decide) q_1 (fun _ h9 => h9) rfl dX7_place_69 ?_
      refine lv_iload_n hx hb dX7_place_72 rfl (lv_at hl 1 rfl) ?_
      obtain ⟨r_4, h_3, hf⟩ := bd_s hf
      refine ca_V (As := [.int a1]) (rest := []) ⟨hx, hb, hml, hown, hts⟩ ⟨hK, hN⟩ hP (c_Cl_delayOf l E pr0 pr1 pr2 pr3 pl0 pl1 pl2 pl3 pl4 pa0 pa1 pr_greatestDelay pr_delays pr_fractions pr_heads pl_places pl_links pl_mostDrawn pl_ofTen pl_z pl_lengths pl_told pl_delays pl_fractions pa_sums a1 r_4 h_3) [17, 18, 19, 20, 10, 11, 12, 13, 14, 15, 16] rfl 1 17 rfl rfl rfl gX7_place_X1_delayOf rfl rfl rfl rfl hd_Cl_delayOf ⟨(Nat.le_of_ble_eq_true rfl), (Nat.le_of_ble_eq_true rfl)⟩ rfl hl.1 rfl (Nat.le_of_ble_eq_true rfl) dX7_place_73 ⟨(Nat.zero_le _), (Nat.zero_le _)⟩ ?_
      refine lv_goto (tgt := 187) hx hb dX7_place_76 (by decide) ?_
      exact hret ls 187 r_4 dX7_place_187 (Option.some.inj hf)
    · have hf := ite_f c_5 hf
      by_cases c_8 : a2 = 1
      · have hf := ite_t c_8 hf
        refine lv_tableIn (off := 65) (tgt := 79) hx hb dX7_place_14 (by rw [c_8]; decide) (by rw [c_8]; decide) (by rw [c_8]; rfl) (by decide) ?_
        refine lv_aload_n hx hb dX7_place_79 rfl (lv_at hl 0 rfl) ?_
        refine va_get (D := E.1) (ci := 7) (v := .ref pr0) (C := RX7) (T := TX7) (N := 7) hx hb hts in_X7_place_X7 hown hK hP 0 rfl rfl 4 (by decide) q_1 (fun _ h9 => h9) rfl dX7_place_80 ?_
        refine lv_iload_n hx hb dX7_place_83 rfl (lv_at hl 1 rfl) ?_
        obtain ⟨r_7, h_6, hf⟩ := bd_s hf
        refine ca_V (As := [.int a1]) (rest := []) ⟨hx, hb, hml, hown, hts⟩ ⟨hK, hN⟩ hP (c_Cl_fractionOf l E pr0 pr1 pr2 pr3 pl0 pl1 pl2 pl3 pl4 pa0 pa1 pr_greatestDelay pr_delays pr_fractions pr_heads pl_places pl_links pl_mostDrawn pl_ofTen pl_z pl_lengths pl_told pl_delays pl_fractions pa_sums a1 r_7 h_6) [17, 18, 19, 20, 10, 11, 12, 13, 14, 15, 16] rfl 1 17 rfl rfl rfl gX7_place_X1_fractionOf rfl rfl rfl rfl hd_Cl_fractionOf ⟨(Nat.le_of_ble_eq_true rfl), (Nat.le_of_ble_eq_true rfl)⟩ rfl hl.1 rfl (Nat.le_of_ble_eq_true rfl) dX7_place_84 ⟨(Nat.zero_le _), (Nat.zero_le _)⟩ ?_
        refine lv_goto (tgt := 187) hx hb dX7_place_87 (by decide) ?_
        exact hret ls 187 r_7 dX7_place_187 (Option.some.inj hf)
      · have hf := ite_f c_8 hf
        by_cases c_12 : a2 = 2
        · have hf := ite_t c_12 hf
          refine lv_tableIn (off := 76) (tgt := 90) hx hb dX7_place_14 (by rw [c_12]; decide) (by rw [c_12]; decide) (by rw [c_12]; rfl) (by decide) ?_
          refine lv_aload_n hx hb dX7_place_90 rfl (lv_at hl 0 rfl) ?_
          refine va_get (D := E.1) (ci := 7) (v := .ref pl0) (C := RX7) (T := TX7) (N := 7) hx hb hts in_X7_place_X7 hown hK hP 0 rfl rfl 2 (by decide) q_0 (fun _ h9 => h9) rfl dX7_place_91 ?_
          refine lv_iload_n hx hb dX7_place_94 rfl (lv_at hl 1 rfl) ?_
          obtain ⟨r_10, h_9, hf⟩ := bd_s hf
          refine ca_V (As := [.int a1]) (rest := []) ⟨hx, hb, hml, hown, hts⟩ ⟨hK, hN⟩ hP (c_Pl_isTold l E pl0 pl1 pl2 pl3 pl4 pl_places pl_links pl_mostDrawn pl_ofTen pl_z pl_lengths pl_told pl_delays pl_fractions a1 r_10 h_9) [10, 11, 12, 13, 14] rfl 5 10 rfl rfl rfl gX7_place_X5_isTold rfl rfl rfl rfl hd_Pl_isTold ⟨(Nat.le_of_ble_eq_true rfl), (Nat.le_of_ble_eq_true rfl)⟩ rfl hl.1 rfl (Nat.le_of_ble_eq_true rfl) dX7_place_95 ⟨(Nat.zero_le _), (Nat.zero_le _)⟩ ?_
          refine lv_if_eq (tgt := 105) hx hb dX7_place_98 (by decide) (fun c_11 => ?_) (fun c_11 => ?_)
          · have hf := ite_t c_11 hf
            refine lv_iconst (v := 0) hx hb dX7_place_105 (by decide) ?_
            refine lv_goto (tgt := 187) hx hb dX7_place_106 (by decide) ?_
            exact hret ls 187 0 dX7_place_187 (Option.some.inj hf)
          · have hf := ite_f c_11 hf
            refine lv_iconst (v := 1) hx hb dX7_place_101 (by decide) ?_
            refine lv_goto (tgt := 187) hx hb dX7_place_102 (by decide) ?_
            exact hret ls 187 1 dX7_place_187 (Option.some.inj hf)
        · have hf := ite_f c_12 hf
          by_cases c_15 : a2 = 3
          · have hf := ite_t c_15 hf
            refine lv_tableIn (off := 95) (tgt := 109) hx hb dX7_place_14 (by rw [c_15]; decide) (by rw [c_15]; decide) (by rw [c_15]; rfl) (by decide) ?_
            refine lv_aload_n hx hb dX7_place_109 rfl (lv_at hl 0 rfl) ?_
            refine va_get (D := E.1) (ci := 7) (v := .ref pr0) (C := RX7) (T := TX7) (N := 7) hx hb hts in_X7_place_X7 hown hK hP 0 rfl rfl 4 (by decide) q_1 (fun _ h9 => h9) rfl dX7_place_110 ?_
            refine lv_iload_n hx hb dX7_place_113 rfl (lv_at hl 1 rfl) ?_
            obtain ⟨r_14, h_13, hf⟩ := bd_s hf
            refine ca_V (As := [.int a1]) (rest := []) ⟨hx, hb, hml, hown, hts⟩ ⟨hK, hN⟩ hP (c_Cl_startOf l E pr0 pr1 pr2 pr3 pl0 pl1 pl2 pl3 pl4 pa0 pa1 pr_greatestDelay pr_delays pr_fractions pr_heads pl_places pl_links pl_mostDrawn pl_ofTen pl_z pl_lengths pl_told pl_delays pl_fractions pa_sums a1 r_14 h_13) [17, 18, 19, 20, 10, 11, 12, 13, 14, 15, 16] rfl 1 17 rfl rfl rfl gX7_place_X1_startOf rfl rfl rfl rfl hd_Cl_startOf ⟨(Nat.le_of_ble_eq_true rfl), (Nat.le_of_ble_eq_true rfl)⟩ rfl hl.1 rfl (Nat.le_of_ble_eq_true rfl) dX7_place_114 ⟨(Nat.zero_le _), (Nat.zero_le _)⟩ ?_
            refine lv_goto (tgt := 187) hx hb dX7_place_117 (by decide) ?_
            exact hret ls 187 r_14 dX7_place_187 (Option.some.inj hf)
          · have hf := ite_f c_15 hf
            by_cases c_18 : a2 = 4
            · have hf := ite_t c_18 hf
              refine lv_tableIn (off := 106) (tgt := 120) hx hb dX7_place_14 (by rw [c_18]; decide) (by rw [c_18]; decide) (by rw [c_18]; rfl) (by decide) ?_
              refine lv_aload_n hx hb dX7_place_120 rfl (lv_at hl 0 rfl) ?_
              refine va_get (D := E.1) (ci := 7) (v := .ref pr0) (C := RX7) (T := TX7) (N := 7) hx hb hts in_X7_place_X7 hown hK hP 0 rfl rfl 4 (by decide) q_1 (fun _ h9 => h9) rfl dX7_place_121 ?_
              refine lv_iload_n hx hb dX7_place_124 rfl (lv_at hl 1 rfl) ?_
              obtain ⟨r_17, h_16, hf⟩ := bd_s hf
              refine ca_V (As := [.int a1]) (rest := []) ⟨hx, hb, hml, hown, hts⟩ ⟨hK, hN⟩ hP (c_Cl_headOf l E pr0 pr1 pr2 pr3 pl0 pl1 pl2 pl3 pl4 pa0 pa1 pr_greatestDelay pr_delays pr_fractions pr_heads pl_places pl_links pl_mostDrawn pl_ofTen pl_z pl_lengths pl_told pl_delays pl_fractions pa_sums a1 r_17 h_16) [17, 18, 19, 20, 10, 11, 12, 13, 14, 15, 16] rfl 1 17 rfl rfl rfl gX7_place_X1_headOf rfl rfl rfl rfl hd_Cl_headOf ⟨(Nat.le_of_ble_eq_true rfl), (Nat.le_of_ble_eq_true rfl)⟩ rfl hl.1 rfl (Nat.le_of_ble_eq_true rfl) dX7_place_125 ⟨(Nat.zero_le _), (Nat.zero_le _)⟩ ?_
              refine lv_goto (tgt := 187) hx hb dX7_place_128 (by decide) ?_
              exact hret ls 187 r_17 dX7_place_187 (Option.some.inj hf)
            · have hf := ite_f c_18 hf
              by_cases c_21 : a2 = 5
              · have hf := ite_t c_21 hf
                refine lv_tableIn (off := 117) (tgt := 131) hx hb dX7_place_14 (by rw [c_21]; decide) (by rw [c_21]; decide) (by rw [c_21]; rfl) (by decide) ?_
                refine lv_aload_n hx hb dX7_place_131 rfl (lv_at hl 0 rfl) ?_
                refine va_get (D := E.1) (ci := 7) (v := .ref pr0) (C := RX7) (T := TX7) (N := 7) hx hb hts in_X7_place_X7 hown hK hP 0 rfl rfl 4 (by decide) q_1 (fun _ h9 => h9) rfl dX7_place_132 ?_
                refine lv_iload_n hx hb dX7_place_135 rfl (lv_at hl 1 rfl) ?_
                obtain ⟨r_20, h_19, hf⟩ := bd_s hf
                refine ca_V (As := [.int a1]) (rest := []) ⟨hx, hb, hml, hown, hts⟩ ⟨hK, hN⟩ hP (c_Cl_numberOf l E pr0 pr1 pr2 pr3 pl0 pl1 pl2 pl3 pl4 pa0 pa1 pr_greatestDelay pr_delays pr_fractions pr_heads pl_places pl_links pl_mostDrawn pl_ofTen pl_z pl_lengths pl_told pl_delays pl_fractions pa_sums a1 r_20 h_19) [17, 18, 19, 20, 10, 11, 12, 13, 14, 15, 16] rfl 1 17 rfl rfl rfl gX7_place_X1_numberOf rfl rfl rfl rfl hd_Cl_numberOf ⟨(Nat.le_of_ble_eq_true rfl), (Nat.le_of_ble_eq_true rfl)⟩ rfl hl.1 rfl (Nat.le_of_ble_eq_true rfl) dX7_place_136 ⟨(Nat.zero_le _), (Nat.zero_le _)⟩ ?_
                refine lv_goto (tgt := 187) hx hb dX7_place_139 (by decide) ?_
                exact hret ls 187 r_20 dX7_place_187 (Option.some.inj hf)
              · have hf := ite_f c_21 hf
                by_cases c_24 : a2 = 6
                · have hf := ite_t c_24 hf
                  refine lv_tableIn (off := 128) (tgt := 142) hx hb dX7_place_14 (by rw [c_24]; decide) (by rw [c_24]; decide) (by rw [c_24]; rfl) (by decide) ?_
                  refine lv_aload_n hx hb dX7_place_142 rfl (lv_at hl 0 rfl) ?_
                  refine va_get (D := E.1) (ci := 7) (v := .ref pr0) (C := RX7) (T := TX7) (N := 7) hx hb hts in_X7_place_X7 hown hK hP 0 rfl rfl 4 (by decide) q_1 (fun _ h9 => h9) rfl dX7_place_143 ?_
                  refine lv_iload_n hx hb dX7_place_146 rfl (lv_at hl 1 rfl) ?_
                  obtain ⟨r_23, h_22, hf⟩ := bd_s hf
                  refine ca_V (As := [.int a1]) (rest := []) ⟨hx, hb, hml, hown, hts⟩ ⟨hK, hN⟩ hP (c_Cl_depthOf l E pr0 pr1 pr2 pr3 pl0 pl1 pl2 pl3 pl4 pa0 pa1 pr_greatestDelay pr_delays pr_fractions pr_heads pl_places pl_links pl_mostDrawn pl_ofTen pl_z pl_lengths pl_told pl_delays pl_fractions pa_sums a1 r_23 h_22) [17, 18, 19, 20, 10, 11, 12, 13, 14, 15, 16] rfl 1 17 rfl rfl rfl gX7_place_X1_depthOf rfl rfl rfl rfl hd_Cl_depthOf ⟨(Nat.le_of_ble_eq_true rfl), (Nat.le_of_ble_eq_true rfl)⟩ rfl hl.1 rfl (Nat.le_of_ble_eq_true rfl) dX7_place_147 ⟨(Nat.zero_le _), (Nat.zero_le _)⟩ ?_
                  refine lv_goto (tgt := 187) hx hb dX7_place_150 (by decide) ?_
                  exact hret ls 187 r_23 dX7_place_187 (Option.some.inj hf)
                · have hf := ite_f c_24 hf
                  by_cases c_27 : a2 = 7
                  · have hf := ite_t c_27 hf
                    refine lv_tableIn (off := 139) (tgt := 153) hx hb dX7_place_14 (by rw [c_27]; decide) (by rw [c_27]; decide) (by rw [c_27]; rfl) (by decide) ?_
                    refine lv_aload_n hx hb dX7_place_153 rfl (lv_at hl 0 rfl) ?_
                    refine va_get (D := E.1) (ci := 7) (v := .ref pr0) (C := RX7) (T := TX7) (N := 7) hx hb hts in_X7_place_X7 hown hK hP 0 rfl rfl 4 (by decide) q_1 (fun _ h9 => h9) rfl dX7_place_154 ?_
                    refine lv_iload_n hx hb dX7_place_157 rfl (lv_at hl 1 rfl) ?_
                    obtain ⟨r_26, h_25, hf⟩ := bd_s hf
                    refine ca_V (As := [.int a1]) (rest := []) ⟨hx, hb, hml, hown, hts⟩ ⟨hK, hN⟩ hP (c_Cl_hourOf l E pr0 pr1 pr2 pr3 pl0 pl1 pl2 pl3 pl4 pa0 pa1 pr_greatestDelay pr_delays pr_fractions pr_heads pl_places pl_links pl_mostDrawn pl_ofTen pl_z pl_lengths pl_told pl_delays pl_fractions pa_sums a1 r_26 h_25) [17, 18, 19, 20, 10, 11, 12, 13, 14, 15, 16] rfl 1 17 rfl rfl rfl gX7_place_X1_hourOf rfl rfl rfl rfl hd_Cl_hourOf ⟨(Nat.le_of_ble_eq_true rfl), (Nat.le_of_ble_eq_true rfl)⟩ rfl hl.1 rfl (Nat.le_of_ble_eq_true rfl) dX7_place_158 ⟨(Nat.zero_le _), (Nat.zero_le _)⟩ ?_
                    refine lv_goto (tgt := 187) hx hb dX7_place_161 (by decide) ?_
                    exact hret ls 187 r_26 dX7_place_187 (Option.some.inj hf)
                  · have hf := ite_f c_27 hf
                    by_cases c_30 : a2 = 8
                    · have hf := ite_t c_30 hf
                      refine lv_tableIn (off := 150) (tgt := 164) hx hb dX7_place_14 (by rw [c_30]; decide) (by rw [c_30]; decide) (by rw [c_30]; rfl) (by decide) ?_
                      refine lv_aload_n hx hb dX7_place_164 rfl (lv_at hl 0 rfl) ?_
                      refine va_get (D := E.1) (ci := 7) (v := .ref pr0) (C := RX7) (T := TX7) (N := 7) hx hb hts in_X7_place_X7 hown hK hP 0 rfl rfl 4 (by decide) q_1 (fun _ h9 => h9) rfl dX7_place_165 ?_
                      refine lv_iload_n hx hb dX7_place_168 rfl (lv_at hl 1 rfl) ?_
                      obtain ⟨r_29, h_28, hf⟩ := bd_s hf
                      refine ca_V (As := [.int a1]) (rest := []) ⟨hx, hb, hml, hown, hts⟩ ⟨hK, hN⟩ hP (c_Cl_upOf l E pr0 pr1 pr2 pr3 pl0 pl1 pl2 pl3 pl4 pa0 pa1 pr_greatestDelay pr_delays pr_fractions pr_heads pl_places pl_links pl_mostDrawn pl_ofTen pl_z pl_lengths pl_told pl_delays pl_fractions pa_sums a1 r_29 h_28) [17, 18, 19, 20, 10, 11, 12, 13, 14, 15, 16] rfl 1 17 rfl rfl rfl gX7_place_X1_upOf rfl rfl rfl rfl hd_Cl_upOf ⟨(Nat.le_of_ble_eq_true rfl), (Nat.le_of_ble_eq_true rfl)⟩ rfl hl.1 rfl (Nat.le_of_ble_eq_true rfl) dX7_place_169 ⟨(Nat.zero_le _), (Nat.zero_le _)⟩ ?_
                      refine lv_goto (tgt := 187) hx hb dX7_place_172 (by decide) ?_
                      exact hret ls 187 r_29 dX7_place_187 (Option.some.inj hf)
                    · have hf := ite_f c_30 hf
                      by_cases c_33 : a2 = 9
                      · have hf := ite_t c_33 hf
                        refine lv_tableIn (off := 161) (tgt := 175) hx hb dX7_place_14 (by rw [c_33]; decide) (by rw [c_33]; decide) (by rw [c_33]; rfl) (by decide) ?_
                        refine lv_aload_n hx hb dX7_place_175 rfl (lv_at hl 0 rfl) ?_
                        refine va_get (D := E.1) (ci := 7) (v := .ref pl0) (C := RX7) (T := TX7) (N := 7) hx hb hts in_X7_place_X7 hown hK hP 0 rfl rfl 2 (by decide) q_0 (fun _ h9 => h9) rfl dX7_place_176 ?_
                        refine lv_iload_n hx hb dX7_place_179 rfl (lv_at hl 1 rfl) ?_
                        obtain ⟨r_32, h_31, hf⟩ := bd_s hf
                        refine ca_V (As := [.int a1]) (rest := []) ⟨hx, hb, hml, hown, hts⟩ ⟨hK, hN⟩ hP (c_Pl_linksAt l E pl0 pl1 pl2 pl3 pl4 pl_places pl_links pl_mostDrawn pl_ofTen pl_z pl_lengths pl_told pl_delays pl_fractions a1 r_32 h_31) [10, 11, 12, 13, 14] rfl 5 10 rfl rfl rfl gX7_place_X5_linksAt rfl rfl rfl rfl hd_Pl_linksAt ⟨(Nat.le_of_ble_eq_true rfl), (Nat.le_of_ble_eq_true rfl)⟩ rfl hl.1 rfl (Nat.le_of_ble_eq_true rfl) dX7_place_180 ⟨(Nat.zero_le _), (Nat.zero_le _)⟩ ?_
                        refine lv_goto (tgt := 187) hx hb dX7_place_183 (by decide) ?_
                        exact hret ls 187 r_32 dX7_place_187 (Option.some.inj hf)
                      · have hf := ite_f c_33 hf
                        refine lv_tableOut (tgt := 186) hx hb dX7_place_14 (by have e_5 := lv_neT (a := 0) c_5 (by decide); have e_8 := lv_neT (a := 1) c_8 (by decide); have e_12 := lv_neT (a := 2) c_12 (by decide); have e_15 := lv_neT (a := 3) c_15 (by decide); have e_18 := lv_neT (a := 4) c_18 (by decide); have e_21 := lv_neT (a := 5) c_21 (by decide); have e_24 := lv_neT (a := 6) c_24 (by decide); have e_27 := lv_neT (a := 7) c_27 (by decide); have e_30 := lv_neT (a := 8) c_30 (by decide); have e_33 := lv_neT (a := 9) c_33 (by decide); omega) (by decide) ?_
                        refine lv_iconst (v := (-1)) hx hb dX7_place_186 (by decide) ?_
                        exact hret ls 187 (-1) dX7_place_187 (Option.some.inj hf)
  · have hf := ite_t c_34 hf
    refine lv_iconst (v := (-1)) hx hb dX7_place_11 (by decide) ?_
    exact hret ls 12 (-1) dX7_place_12 (Option.some.inj hf)
abbrev rm_Dc_far : Room := { frames := 2, cells := 0, slots := 0, locals := 44 }
theorem hd_Dc_far : hdOK yX7_far 2 := by decide +kernel
theorem in_X7_far_X7 : ∀ w ∈ wsX70, w ∈ wsX7_far := by decide +kernel
set_option maxRecDepth 100000 in
set_option maxHeartbeats 4000000 in
theorem c_Dc_far (l : Launch) (E : En4) (dc0 le0 le1 rd0 rd1 dr0 dr1 dr2 dr3 dr4 pl0 pl1 pl2 pl3 pl4 pa0 pa1 pr0 pr1 pr2 pr3 tr0 tr1 tr2 tr3 pt0 pt1 ca0 cb0 cc0 cd0 : Nat) (le_length : Int32) (le_signs : Nat → Int32) (rd_numbers : Nat → Int32) (dr_places : Int32) (dr_links : Int32) (dr_mostDrawn : Int32) (dr_ofTen : Int32) (dr_z : Int32) (dr_lengths : Nat → Int32) (dr_told : Nat → Int32) (dr_delays : Nat → Int32) (dr_fractions : Nat → Int32) (pl_places : Int32) (pl_links : Int32) (pl_mostDrawn : Int32) (pl_ofTen : Int32) (pl_z : Int32) (pl_lengths : Nat → Int32) (pl_told : Nat → Int32) (pl_delays : Nat → Int32) (pl_fractions : Nat → Int32) (pa_sums : Nat → Int32) (pr_greatestDelay : Int32) (pr_delays : Nat → Int32) (pr_fractions : Nat → Int32) (pr_heads : Nat → Int32) (tr_greatestDelay : Int32) (tr_delays : Nat → Int32) (tr_fractions : Nat → Int32) (tr_heads : Nat → Int32) (pt_next : Int32) (pt_kept : Int32) (hk_kind : Nat → Int32) (hk_i : Nat → Int32) (hk_j : Nat → Int32) (hk_length : Nat → Int32) (hk_wasTold : Nat → Int32) (hk_d : Nat → Int32) (hk_f : Nat → Int32) (hk_z : Nat → Int32) (a1 : Int32) (a2 : Int32)  (res : Int32) (hf : Dc_far pl_places pa_sums a1 a2 = some res) : Met l yX7_far wsX7_far rm_Dc_far (pcR [.ref dc0, .int a1, .int a2] E (w_Dc E dc0 le0 le1 rd0 rd1 dr0 dr1 dr2 dr3 dr4 pl0 pl1 pl2 pl3 pl4 pa0 pa1 pr0 pr1 pr2 pr3 tr0 tr1 tr2 tr3 pt0 pt1 ca0 cb0 cc0 cd0 le_length le_signs rd_numbers dr_places dr_links dr_mostDrawn dr_ofTen dr_z dr_lengths dr_told dr_delays dr_fractions pl_places pl_links pl_mostDrawn pl_ofTen pl_z pl_lengths pl_told pl_delays pl_fractions pa_sums pr_greatestDelay pr_delays pr_fractions pr_heads tr_greatestDelay tr_delays tr_fractions tr_heads pt_next pt_kept hk_kind hk_i hk_j hk_length hk_wasTold hk_d hk_f hk_z)) (vp_Si (fun r => r = res)) 0 0 (fun _ => False) := by
  refine mk_Ri (cc := cX7_far) (maxL := 3) (by decide) rfl (Nat.le_of_ble_eq_true rfl) ?_
  intro p e s m args below meth c Q S hKN hP hret ls hl
  obtain ⟨hx, hb, hml, hown, hts⟩ := S
  obtain ⟨hK, hN⟩ := hKN
  have hl : lv_has ls 3 [(0, .ref dc0), (1, .int a1), (2, .int a2)] := hl
  have q_0 := hts (.fieldLink RX7 26 "DelayClusters" "plan" "LDelayClusters$Plan;") (by decide +kernel)
  have q_1 := hts (.fieldLink RX7 33 "DelayClusters" "paths" "LDelayClusters$Paths;") (by decide +kernel)
  unfold Dc_far at hf
  refine lv_aload_n hx hb dX7_far_0 rfl (lv_at hl 0 rfl) ?_
  refine va_get (D := E.1) (ci := 7) (v := .ref pl0) (C := RX7) (T := TX7) (N := 7) hx hb hts in_X7_far_X7 hown hK hP 0 rfl rfl 2 (by decide) q_0 (fun _ h9 => h9) rfl dX7_far_1 ?_
  refine lv_iload_n hx hb dX7_far_4 rfl (lv_at hl 1 rfl) ?_
  obtain ⟨r_2, h_1, hf⟩ := bd_s hf
  refine ca_V (As := [.int a1]) (rest := []) ⟨hx, hb, hml, hown, hts⟩ ⟨hK, hN⟩ hP (c_Pl_isPlace l E pl0 pl1 pl2 pl3 pl4 pl_places pl_links pl_mostDrawn pl_ofTen pl_z pl_lengths pl_told pl_delays pl_fractions a1 r_2 h_1) [10, 11, 12, 13, 14] rfl 5 10 rfl rfl rfl gX7_far_X5_isPlace rfl rfl rfl rfl hd_Pl_isPlace ⟨(Nat.le_of_ble_eq_true rfl), (Nat.le_of_ble_eq_true rfl)⟩ rfl hl.1 rfl (Nat.le_of_ble_eq_true rfl) dX7_far_5 ⟨(Nat.zero_le _), (Nat.zero_le _)⟩ ?_
  refine lv_if_eq (tgt := 22) hx hb dX7_far_8 (by decide) (fun c_11 => ?_) (fun c_11 => ?_)
  · have hf := ite_t c_11 hf
    refine lv_iconst (v := (-1)) hx hb dX7_far_22 (by decide) ?_
    exact hret ls 23 (-1) dX7_far_23 (Option.some.inj hf)
  · have hf := ite_f c_11 hf
    refine lv_aload_n hx hb dX7_far_11 rfl (lv_at hl 0 rfl) ?_
    refine va_get (D := E.1) (ci := 7) (v := .ref pl0) (C := RX7) (T := TX7) (N := 7) hx hb hts in_X7_far_X7 hown hK hP 0 rfl rfl 2 (by decide) q_0 (fun _ h9 => h9) rfl dX7_far_12 ?_
    refine lv_iload_n hx hb dX7_far_15 rfl (lv_at hl 2 rfl) ?_
    obtain ⟨r_4, h_3, hf⟩ := bd_s hf
    refine ca_V (As := [.int a2]) (rest := []) ⟨hx, hb, hml, hown, hts⟩ ⟨hK, hN⟩ hP (c_Pl_isPlace l E pl0 pl1 pl2 pl3 pl4 pl_places pl_links pl_mostDrawn pl_ofTen pl_z pl_lengths pl_told pl_delays pl_fractions a2 r_4 h_3) [10, 11, 12, 13, 14] rfl 5 10 rfl rfl rfl gX7_far_X5_isPlace rfl rfl rfl rfl hd_Pl_isPlace ⟨(Nat.le_of_ble_eq_true rfl), (Nat.le_of_ble_eq_true rfl)⟩ rfl hl.1 rfl (Nat.le_of_ble_eq_true rfl) dX7_far_16 ⟨(Nat.zero_le _), (Nat.zero_le _)⟩ ?_
    refine lv_if_ne (tgt := 24) hx hb dX7_far_19 (by decide) (fun c_10 => ?_) (fun c_10 => ?_)
    · have hf := ite_f c_10 hf
      refine lv_aload_n hx hb dX7_far_24 rfl (lv_at hl 0 rfl) ?_
      refine va_get (D := E.1) (ci := 7) (v := .ref pa0) (C := RX7) (T := TX7) (N := 7) hx hb hts in_X7_far_X7 hown hK hP 0 rfl rfl 3 (by decide) q_1 (fun _ h9 => h9) rfl dX7_far_25 ?_
      refine lv_iload_n hx hb dX7_far_28 rfl (lv_at hl 1 rfl) ?_
      refine lv_iload_n hx hb dX7_far_29 rfl (lv_at hl 2 rfl) ?_
      obtain ⟨r_6, h_5, hf⟩ := bd_s hf
      refine ca_V (As := [.int a1, .int a2]) (rest := []) ⟨hx, hb, hml, hown, hts⟩ ⟨hK, hN⟩ hP (c_Pa_areJoined l E pa0 pa1 pa_sums a1 a2 r_6 h_5) [15, 16] rfl 4 15 rfl rfl rfl gX7_far_X4_areJoined rfl rfl rfl rfl hd_Pa_areJoined ⟨(Nat.le_of_ble_eq_true rfl), (Nat.le_of_ble_eq_true rfl)⟩ rfl hl.1 rfl (Nat.le_of_ble_eq_true rfl) dX7_far_30 ⟨(Nat.zero_le _), (Nat.zero_le _)⟩ ?_
      refine lv_if_eq (tgt := 48) hx hb dX7_far_33 (by decide) (fun c_9 => ?_) (fun c_9 => ?_)
      · have hf := ite_t c_9 hf
        refine lv_bipush (v := (-4)) hx hb dX7_far_48 (by decide) ?_
        exact hret ls 50 (-4) dX7_far_50 (Option.some.inj hf)
      · have hf := ite_f c_9 hf
        refine lv_aload_n hx hb dX7_far_36 rfl (lv_at hl 0 rfl) ?_
        refine va_get (D := E.1) (ci := 7) (v := .ref pa0) (C := RX7) (T := TX7) (N := 7) hx hb hts in_X7_far_X7 hown hK hP 0 rfl rfl 3 (by decide) q_1 (fun _ h9 => h9) rfl dX7_far_37 ?_
        refine lv_iload_n hx hb dX7_far_40 rfl (lv_at hl 1 rfl) ?_
        refine lv_iload_n hx hb dX7_far_41 rfl (lv_at hl 2 rfl) ?_
        obtain ⟨r_8, h_7, hf⟩ := bd_s hf
        refine ca_V (As := [.int a1, .int a2]) (rest := []) ⟨hx, hb, hml, hown, hts⟩ ⟨hK, hN⟩ hP (c_Pa_between l E pa0 pa1 pa_sums a1 a2 r_8 h_7) [15, 16] rfl 4 15 rfl rfl rfl gX7_far_X4_between rfl rfl rfl rfl hd_Pa_between ⟨(Nat.le_of_ble_eq_true rfl), (Nat.le_of_ble_eq_true rfl)⟩ rfl hl.1 rfl (Nat.le_of_ble_eq_true rfl) dX7_far_42 ⟨(Nat.zero_le _), (Nat.zero_le _)⟩ ?_
        refine lv_goto (tgt := 50) hx hb dX7_far_45 (by decide) ?_
        exact hret ls 50 r_8 dX7_far_50 (Option.some.inj hf)
    · have hf := ite_t c_10 hf
      refine lv_iconst (v := (-1)) hx hb dX7_far_22 (by decide) ?_
      exact hret ls 23 (-1) dX7_far_23 (Option.some.inj hf)
abbrev rm_Dc_front : Room := { frames := 3, cells := 0, slots := 0, locals := 64 }
theorem hd_Dc_front : hdOK yX7_front 2 := by decide +kernel
theorem in_X7_front_X7 : ∀ w ∈ wsX70, w ∈ wsX7_front := by decide +kernel
set_option maxRecDepth 100000 in
set_option maxHeartbeats 4000000 in
theorem c_Dc_front (l : Launch) (E : En4) (dc0 le0 le1 rd0 rd1 dr0 dr1 dr2 dr3 dr4 pl0 pl1 pl2 pl3 pl4 pa0 pa1 pr0 pr1 pr2 pr3 tr0 tr1 tr2 tr3 pt0 pt1 ca0 cb0 cc0 cd0 : Nat) (le_length : Int32) (le_signs : Nat → Int32) (rd_numbers : Nat → Int32) (dr_places : Int32) (dr_links : Int32) (dr_mostDrawn : Int32) (dr_ofTen : Int32) (dr_z : Int32) (dr_lengths : Nat → Int32) (dr_told : Nat → Int32) (dr_delays : Nat → Int32) (dr_fractions : Nat → Int32) (pl_places : Int32) (pl_links : Int32) (pl_mostDrawn : Int32) (pl_ofTen : Int32) (pl_z : Int32) (pl_lengths : Nat → Int32) (pl_told : Nat → Int32) (pl_delays : Nat → Int32) (pl_fractions : Nat → Int32) (pa_sums : Nat → Int32) (pr_greatestDelay : Int32) (pr_delays : Nat → Int32) (pr_fractions : Nat → Int32) (pr_heads : Nat → Int32) (tr_greatestDelay : Int32) (tr_delays : Nat → Int32) (tr_fractions : Nat → Int32) (tr_heads : Nat → Int32) (pt_next : Int32) (pt_kept : Int32) (hk_kind : Nat → Int32) (hk_i : Nat → Int32) (hk_j : Nat → Int32) (hk_length : Nat → Int32) (hk_wasTold : Nat → Int32) (hk_d : Nat → Int32) (hk_f : Nat → Int32) (hk_z : Nat → Int32) (a1 : Int32) (a2 : Int32)  (res : Int32) (hf : Dc_front pl_places pa_sums pr_greatestDelay pr_delays pr_heads a1 a2 = some res) : Met l yX7_front wsX7_front rm_Dc_front (pcR [.ref dc0, .int a1, .int a2] E (w_Dc E dc0 le0 le1 rd0 rd1 dr0 dr1 dr2 dr3 dr4 pl0 pl1 pl2 pl3 pl4 pa0 pa1 pr0 pr1 pr2 pr3 tr0 tr1 tr2 tr3 pt0 pt1 ca0 cb0 cc0 cd0 le_length le_signs rd_numbers dr_places dr_links dr_mostDrawn dr_ofTen dr_z dr_lengths dr_told dr_delays dr_fractions pl_places pl_links pl_mostDrawn pl_ofTen pl_z pl_lengths pl_told pl_delays pl_fractions pa_sums pr_greatestDelay pr_delays pr_fractions pr_heads tr_greatestDelay tr_delays tr_fractions tr_heads pt_next pt_kept hk_kind hk_i hk_j hk_length hk_wasTold hk_d hk_f hk_z)) (vp_Si (fun r => r = res)) 0 0 (fun _ => False) := by
  refine mk_Ri (cc := cX7_front) (maxL := 5) (by decide) rfl (Nat.le_of_ble_eq_true rfl) ?_
  intro p e s m args below meth c Q S hKN hP hret ls hl
  obtain ⟨hx, hb, hml, hown, hts⟩ := S
  obtain ⟨hK, hN⟩ := hKN
  have hl : lv_has ls 5 [(0, .ref dc0), (1, .int a1), (2, .int a2)] := hl
  have q_0 := hts (.fieldLink RX7 26 "DelayClusters" "plan" "LDelayClusters$Plan;") (by decide +kernel)
  have q_1 := hts (.fieldLink RX7 42 "DelayClusters" "present" "LDelayClusters$Clustering;") (by decide +kernel)
  unfold Dc_front at hf
  refine lv_iload_n hx hb dX7_front_0 rfl (lv_at hl 1 rfl) ?_
  refine lv_iconst (v := 0) hx hb dX7_front_1 (by decide) ?_
  refine lv_sipush (v := 200) hx hb dX7_front_2 (by decide) ?_
  obtain ⟨r_2, h_1, hf⟩ := bd_s hf
  refine ca_S (As := [.int a1, .int 0, .int 200]) (rest := []) ⟨hx, hb, hml, hown, hts⟩ ⟨hK, hN⟩ hP (c_Dc_isWithin l E   a1 0 200 r_2 h_1) [] rfl gX7_front_X7_isWithin rfl rfl rfl hd_Dc_isWithin ⟨(Nat.le_of_ble_eq_true rfl), (Nat.le_of_ble_eq_true rfl)⟩ rfl hl.1 rfl (Nat.le_of_ble_eq_true rfl) dX7_front_5 ⟨(Nat.zero_le _), (Nat.zero_le _)⟩ ?_
  refine lv_if_eq (tgt := 16) hx hb dX7_front_8 (by decide) (fun c_15 => ?_) (fun c_15 => ?_)
  · have hf := ite_t c_15 hf
    refine lv_iconst (v := (-1)) hx hb dX7_front_16 (by decide) ?_
    exact hret ls 17 (-1) dX7_front_17 (Option.some.inj hf)
  · have hf := ite_f c_15 hf
    refine lv_iload_n hx hb dX7_front_11 rfl (lv_at hl 2 rfl) ?_
    refine lv_iconst (v := (-1)) hx hb dX7_front_12 (by decide) ?_
    refine lv_icmp_ge (tgt := 18) hx hb dX7_front_13 (by decide) (fun c_14 => ?_) (fun c_14 => ?_)
    · have hf := ite_t c_14 hf
      refine lv_iconst (v := 0) hx hb dX7_front_18 (by decide) ?_
      refine lv_istore_n (lv' := [(3, .int 0), (0, .ref dc0), (1, .int a1), (2, .int a2)]) hx hb dX7_front_19 rfl hl (by decide) rfl (fun ls hl => ?_)
      refine lv_iconst (v := 0) hx hb dX7_front_20 (by decide) ?_
      refine lv_istore (lv' := [(4, .int 0), (3, .int 0), (0, .ref dc0), (1, .int a1), (2, .int a2)]) hx hb dX7_front_21 hl (by decide) rfl (fun ls hl => ?_)
      obtain ⟨w_23, i_23, hf⟩ := bd_s hf
      have KE_23 : ∀ y_, Sum.inr y_ = w_23 → some y_ = some res := by intro y_ e_; subst e_; exact hf
      have KX_23 : ∀ (v3_12 : Int32), Sum.inl v3_12 = w_23 → ∀ (ls : Array Slot), lv_has ls 5 [(2, .int a2), (3, .int v3_12)] → W p l e rm_Dc_front s m args below meth c s.heap [] 0 0 Q (F0 m 65 ls []) := by
        intro v3_12 e_
        subst e_
        try dsimp only at hf
        intro ls hl
        refine lv_iload_n hx hb dX7_front_65 rfl (lv_at hl 0 rfl) ?_
        refine lv_iconst (v := (-1)) hx hb dX7_front_66 (by decide) ?_
        refine lv_icmp_ne (tgt := 74) hx hb dX7_front_67 (by decide) (fun c_13 => ?_) (fun c_13 => ?_)
        · have hf := ite_f c_13 hf
          refine lv_bipush (v := (-4)) hx hb dX7_front_74 (by decide) ?_
          exact hret ls 76 (-4) dX7_front_76 (Option.some.inj hf)
        · have hf := ite_t c_13 hf
          refine lv_iload_n hx hb dX7_front_70 rfl (lv_at hl 1 rfl) ?_
          refine lv_goto (tgt := 76) hx hb dX7_front_71 (by decide) ?_
          exact hret ls 76 v3_12 dX7_front_76 (Option.some.inj hf)
      have KL_23 : ∀ (n_ : Nat) (v3_3 : Int32) (v4_4 : Int32), it (Dc_front_L23 pl_places pa_sums pr_greatestDelay pr_delays pr_heads a1 a2) n_ (v3_3, v4_4) = some w_23 → ∀ (ls : Array Slot), lv_has ls 5 [(0, .ref dc0), (1, .int a1), (2, .int a2), (3, .int v3_3), (4, .int v4_4)] → W p l e rm_Dc_front s m args below meth c s.heap [] 0 0 Q (F0 m 23 ls []) := by
        intro n_
        induction n_ with
        | zero => intro v3_3 v4_4 hit; exact (it_z hit).elim
        | succ n_23 ih_23 =>
          intro v3_3 v4_4 hit
          intro ls hl
          obtain ⟨x_23, hf, hc_23, hq_23⟩ := it_s hit
          dsimp only [Dc_front_L23] at hf
          refine lv_iload hx hb dX7_front_23 (lv_at hl 4 rfl) ?_
          refine lv_aload_n hx hb dX7_front_25 rfl (lv_at hl 0 rfl) ?_
          refine va_get (D := E.1) (ci := 7) (v := .ref pl0) (C := RX7) (T := TX7) (N := 7) hx hb hts in_X7_front_X7 hown hK hP 0 rfl rfl 2 (by decide) q_0 (fun _ h9 => h9) rfl dX7_front_26 ?_
          obtain ⟨r_6, h_5, hf⟩ := bd_s hf
          refine ca_V (As := []) (rest := [.int v4_4]) ⟨hx, hb, hml, hown, hts⟩ ⟨hK, hN⟩ hP (c_Pl_places l E pl0 pl1 pl2 pl3 pl4 pl_places pl_links pl_mostDrawn pl_ofTen pl_z pl_lengths pl_told pl_delays pl_fractions r_6 h_5) [10, 11, 12, 13, 14] rfl 5 10 rfl rfl rfl gX7_front_X5_places rfl rfl rfl rfl hd_Pl_places ⟨(Nat.le_of_ble_eq_true rfl), (Nat.le_of_ble_eq_true rfl)⟩ rfl hl.1 rfl (Nat.le_of_ble_eq_true rfl) dX7_front_29 ⟨(Nat.zero_le _), (Nat.zero_le _)⟩ ?_
          refine lv_icmp_ge (tgt := 65) hx hb dX7_front_32 (by decide) (fun c_11 => ?_) (fun c_11 => ?_)
          · have hf := ite_t c_11 hf
            exact KX_23 v3_3 (hq_23 _ (Option.some.inj hf).symm) _ (lv_sub hl [2, 3] rfl)
          · have hf := ite_f c_11 hf
            refine lv_aload_n hx hb dX7_front_35 rfl (lv_at hl 0 rfl) ?_
            refine va_get (D := E.1) (ci := 7) (v := .ref pr0) (C := RX7) (T := TX7) (N := 7) hx hb hts in_X7_front_X7 hown hK hP 0 rfl rfl 4 (by decide) q_1 (fun _ h9 => h9) rfl dX7_front_36 ?_
            refine lv_iload hx hb dX7_front_39 (lv_at hl 4 rfl) ?_
            obtain ⟨r_8, h_7, hf⟩ := bd_s hf
            refine ca_V (As := [.int v4_4]) (rest := []) ⟨hx, hb, hml, hown, hts⟩ ⟨hK, hN⟩ hP (c_Cl_hourOf l E pr0 pr1 pr2 pr3 pl0 pl1 pl2 pl3 pl4 pa0 pa1 pr_greatestDelay pr_delays pr_fractions pr_heads pl_places pl_links pl_mostDrawn pl_ofTen pl_z pl_lengths pl_told pl_delays pl_fractions pa_sums v4_4 r_8 h_7) [17, 18, 19, 20, 10, 11, 12, 13, 14, 15, 16] rfl 1 17 rfl rfl rfl gX7_front_X1_hourOf rfl rfl rfl rfl hd_Cl_hourOf ⟨(Nat.le_of_ble_eq_true rfl), (Nat.le_of_ble_eq_true rfl)⟩ rfl hl.1 rfl (Nat.le_of_ble_eq_true rfl) dX7_front_41 ⟨(Nat.zero_le _), (Nat.zero_le _)⟩ ?_
            refine lv_iload_n hx hb dX7_front_44 rfl (lv_at hl 1 rfl) ?_
            refine lv_icmp_ne (tgt := 59) hx hb dX7_front_45 (by decide) (fun c_10 => ?_) (fun c_10 => ?_)
            · have hf := ite_f c_10 hf
              refine lv_iinc (v := (v4_4 + 1)) (lv' := [(4, .int (v4_4 + 1)), (0, .ref dc0), (1, .int a1), (2, .int a2), (3, .int v3_3)]) hx hb dX7_front_59 hl (k := 4) rfl rfl (by decide) rfl (fun ls hl => ?_)
              refine lv_goto (tgt := 23) hx hb dX7_front_62 (by decide) ?_
              exact ih_23 v3_3 (v4_4 + 1) (hc_23 _ (Option.some.inj hf).symm) _ (lv_sub hl [1, 2, 3, 4, 0] rfl)
            · have hf := ite_t c_10 hf
              refine lv_iload_n hx hb dX7_front_48 rfl (lv_at hl 3 rfl) ?_
              refine lv_iload_n hx hb dX7_front_49 rfl (lv_at hl 2 rfl) ?_
              refine lv_icmp_ne (tgt := 56) hx hb dX7_front_50 (by decide) (fun c_9 => ?_) (fun c_9 => ?_)
              · have hf := ite_f c_9 hf
                refine lv_iinc (v := (v3_3 + 1)) (lv' := [(3, .int (v3_3 + 1)), (0, .ref dc0), (1, .int a1), (2, .int a2), (4, .int v4_4)]) hx hb dX7_front_56 hl (k := 3) rfl rfl (by decide) rfl (fun ls hl => ?_)
                refine lv_iinc (v := (v4_4 + 1)) (lv' := [(4, .int (v4_4 + 1)), (3, .int (v3_3 + 1)), (0, .ref dc0), (1, .int a1), (2, .int a2)]) hx hb dX7_front_59 hl (k := 4) rfl rfl (by decide) rfl (fun ls hl => ?_)
                refine lv_goto (tgt := 23) hx hb dX7_front_62 (by decide) ?_
                exact ih_23 (v3_3 + 1) (v4_4 + 1) (hc_23 _ (Option.some.inj hf).symm) _ (lv_sub hl [2, 3, 4, 1, 0] rfl)
              · have hf := ite_t c_9 hf
                refine lv_iload hx hb dX7_front_53 (lv_at hl 4 rfl) ?_
                have hf := KE_23 _ (hq_23 _ (Option.some.inj hf).symm)
                exact hret ls 55 v4_4 dX7_front_55 (Option.some.inj hf)
      exact KL_23 _ 0 0 i_23 _ (lv_sub hl [2, 3, 4, 1, 0] rfl)
    · have hf := ite_f c_14 hf
      refine lv_iconst (v := (-1)) hx hb dX7_front_16 (by decide) ?_
      exact hret ls 17 (-1) dX7_front_17 (Option.some.inj hf)
abbrev rm_Dc_linkOf : Room := { frames := 4, cells := 0, slots := 0, locals := 88 }
theorem hd_Dc_linkOf : hdOK yX7_linkOf 3 := by decide +kernel
theorem in_X7_linkOf_X7 : ∀ w ∈ wsX70, w ∈ wsX7_linkOf := by decide +kernel
set_option maxRecDepth 100000 in
set_option maxHeartbeats 4000000 in
theorem c_Dc_linkOf (l : Launch) (E : En4) (dc0 le0 le1 rd0 rd1 dr0 dr1 dr2 dr3 dr4 pl0 pl1 pl2 pl3 pl4 pa0 pa1 pr0 pr1 pr2 pr3 tr0 tr1 tr2 tr3 pt0 pt1 ca0 cb0 cc0 cd0 : Nat) (le_length : Int32) (le_signs : Nat → Int32) (rd_numbers : Nat → Int32) (dr_places : Int32) (dr_links : Int32) (dr_mostDrawn : Int32) (dr_ofTen : Int32) (dr_z : Int32) (dr_lengths : Nat → Int32) (dr_told : Nat → Int32) (dr_delays : Nat → Int32) (dr_fractions : Nat → Int32) (pl_places : Int32) (pl_links : Int32) (pl_mostDrawn : Int32) (pl_ofTen : Int32) (pl_z : Int32) (pl_lengths : Nat → Int32) (pl_told : Nat → Int32) (pl_delays : Nat → Int32) (pl_fractions : Nat → Int32) (pa_sums : Nat → Int32) (pr_greatestDelay : Int32) (pr_delays : Nat → Int32) (pr_fractions : Nat → Int32) (pr_heads : Nat → Int32) (tr_greatestDelay : Int32) (tr_delays : Nat → Int32) (tr_fractions : Nat → Int32) (tr_heads : Nat → Int32) (pt_next : Int32) (pt_kept : Int32) (hk_kind : Nat → Int32) (hk_i : Nat → Int32) (hk_j : Nat → Int32) (hk_length : Nat → Int32) (hk_wasTold : Nat → Int32) (hk_d : Nat → Int32) (hk_f : Nat → Int32) (hk_z : Nat → Int32) (a1 : Int32) (a2 : Int32) (a3 : Int32)  (res : Int32) (hf : Dc_linkOf pl_places pl_lengths pa_sums pr_heads a1 a2 a3 = some res) : Met l yX7_linkOf wsX7_linkOf rm_Dc_linkOf (pcR [.ref dc0, .int a1, .int a2, .int a3] E (w_Dc E dc0 le0 le1 rd0 rd1 dr0 dr1 dr2 dr3 dr4 pl0 pl1 pl2 pl3 pl4 pa0 pa1 pr0 pr1 pr2 pr3 tr0 tr1 tr2 tr3 pt0 pt1 ca0 cb0 cc0 cd0 le_length le_signs rd_numbers dr_places dr_links dr_mostDrawn dr_ofTen dr_z dr_lengths dr_told dr_delays dr_fractions pl_places pl_links pl_mostDrawn pl_ofTen pl_z pl_lengths pl_told pl_delays pl_fractions pa_sums pr_greatestDelay pr_delays pr_fractions pr_heads tr_greatestDelay tr_delays tr_fractions tr_heads pt_next pt_kept hk_kind hk_i hk_j hk_length hk_wasTold hk_d hk_f hk_z)) (vp_Si (fun r => r = res)) 0 0 (fun _ => False) := by
  refine mk_Ri (cc := cX7_linkOf) (maxL := 4) (by decide) rfl (Nat.le_of_ble_eq_true rfl) ?_
  intro p e s m args below meth c Q S hKN hP hret ls hl
  obtain ⟨hx, hb, hml, hown, hts⟩ := S
  obtain ⟨hK, hN⟩ := hKN
  have hl : lv_has ls 4 [(0, .ref dc0), (1, .int a1), (2, .int a2), (3, .int a3)] := hl
  have q_0 := hts (.fieldLink RX7 26 "DelayClusters" "plan" "LDelayClusters$Plan;") (by decide +kernel)
  have q_1 := hts (.fieldLink RX7 42 "DelayClusters" "present" "LDelayClusters$Clustering;") (by decide +kernel)
  unfold Dc_linkOf at hf
  refine lv_aload_n hx hb dX7_linkOf_0 rfl (lv_at hl 0 rfl) ?_
  refine va_get (D := E.1) (ci := 7) (v := .ref pl0) (C := RX7) (T := TX7) (N := 7) hx hb hts in_X7_linkOf_X7 hown hK hP 0 rfl rfl 2 (by decide) q_0 (fun _ h9 => h9) rfl dX7_linkOf_1 ?_
  refine lv_iload_n hx hb dX7_linkOf_4 rfl (lv_at hl 1 rfl) ?_
  refine lv_iload_n hx hb dX7_linkOf_5 rfl (lv_at hl 2 rfl) ?_
  obtain ⟨r_2, h_1, hf⟩ := bd_s hf
  refine ca_V (As := [.int a1, .int a2]) (rest := []) ⟨hx, hb, hml, hown, hts⟩ ⟨hK, hN⟩ hP (c_Pl_isPair l E pl0 pl1 pl2 pl3 pl4 pl_places pl_links pl_mostDrawn pl_ofTen pl_z pl_lengths pl_told pl_delays pl_fractions a1 a2 r_2 h_1) [10, 11, 12, 13, 14] rfl 5 10 rfl rfl rfl gX7_linkOf_X5_isPair rfl rfl rfl rfl hd_Pl_isPair ⟨(Nat.le_of_ble_eq_true rfl), (Nat.le_of_ble_eq_true rfl)⟩ rfl hl.1 rfl (Nat.le_of_ble_eq_true rfl) dX7_linkOf_6 ⟨(Nat.zero_le _), (Nat.zero_le _)⟩ ?_
  refine lv_if_eq (tgt := 21) hx hb dX7_linkOf_9 (by decide) (fun c_14 => ?_) (fun c_14 => ?_)
  · have hf := ite_t c_14 hf
    refine lv_iconst (v := (-1)) hx hb dX7_linkOf_21 (by decide) ?_
    exact hret ls 22 (-1) dX7_linkOf_22 (Option.some.inj hf)
  · have hf := ite_f c_14 hf
    refine lv_iload_n hx hb dX7_linkOf_12 rfl (lv_at hl 3 rfl) ?_
    refine lv_iconst (v := 0) hx hb dX7_linkOf_13 (by decide) ?_
    refine lv_iconst (v := 1) hx hb dX7_linkOf_14 (by decide) ?_
    obtain ⟨r_4, h_3, hf⟩ := bd_s hf
    refine ca_S (As := [.int a3, .int 0, .int 1]) (rest := []) ⟨hx, hb, hml, hown, hts⟩ ⟨hK, hN⟩ hP (c_Dc_isWithin l E   a3 0 1 r_4 h_3) [] rfl gX7_linkOf_X7_isWithin rfl rfl rfl hd_Dc_isWithin ⟨(Nat.le_of_ble_eq_true rfl), (Nat.le_of_ble_eq_true rfl)⟩ rfl hl.1 rfl (Nat.le_of_ble_eq_true rfl) dX7_linkOf_15 ⟨(Nat.zero_le _), (Nat.zero_le _)⟩ ?_
    refine lv_if_ne (tgt := 23) hx hb dX7_linkOf_18 (by decide) (fun c_13 => ?_) (fun c_13 => ?_)
    · have hf := ite_f c_13 hf
      refine lv_aload_n hx hb dX7_linkOf_23 rfl (lv_at hl 0 rfl) ?_
      refine va_get (D := E.1) (ci := 7) (v := .ref pl0) (C := RX7) (T := TX7) (N := 7) hx hb hts in_X7_linkOf_X7 hown hK hP 0 rfl rfl 2 (by decide) q_0 (fun _ h9 => h9) rfl dX7_linkOf_24 ?_
      refine lv_iload_n hx hb dX7_linkOf_27 rfl (lv_at hl 1 rfl) ?_
      refine lv_iload_n hx hb dX7_linkOf_28 rfl (lv_at hl 2 rfl) ?_
      obtain ⟨r_6, h_5, hf⟩ := bd_s hf
      refine ca_V (As := [.int a1, .int a2]) (rest := []) ⟨hx, hb, hml, hown, hts⟩ ⟨hK, hN⟩ hP (c_Pl_lengthOf l E pl0 pl1 pl2 pl3 pl4 pl_places pl_links pl_mostDrawn pl_ofTen pl_z pl_lengths pl_told pl_delays pl_fractions a1 a2 r_6 h_5) [10, 11, 12, 13, 14] rfl 5 10 rfl rfl rfl gX7_linkOf_X5_lengthOf rfl rfl rfl rfl hd_Pl_lengthOf ⟨(Nat.le_of_ble_eq_true rfl), (Nat.le_of_ble_eq_true rfl)⟩ rfl hl.1 rfl (Nat.le_of_ble_eq_true rfl) dX7_linkOf_29 ⟨(Nat.zero_le _), (Nat.zero_le _)⟩ ?_
      refine lv_if_ne (tgt := 38) hx hb dX7_linkOf_32 (by decide) (fun c_12 => ?_) (fun c_12 => ?_)
      · have hf := ite_f c_12 hf
        refine lv_iload_n hx hb dX7_linkOf_38 rfl (lv_at hl 3 rfl) ?_
        refine lv_if_ne (tgt := 54) hx hb dX7_linkOf_39 (by decide) (fun c_11 => ?_) (fun c_11 => ?_)
        · have hf := ite_f c_11 hf
          refine lv_aload_n hx hb dX7_linkOf_54 rfl (lv_at hl 0 rfl) ?_
          refine va_get (D := E.1) (ci := 7) (v := .ref pr0) (C := RX7) (T := TX7) (N := 7) hx hb hts in_X7_linkOf_X7 hown hK hP 0 rfl rfl 4 (by decide) q_1 (fun _ h9 => h9) rfl dX7_linkOf_55 ?_
          refine lv_iload_n hx hb dX7_linkOf_58 rfl (lv_at hl 1 rfl) ?_
          refine lv_iload_n hx hb dX7_linkOf_59 rfl (lv_at hl 2 rfl) ?_
          obtain ⟨r_8, h_7, hf⟩ := bd_s hf
          refine ca_V (As := [.int a1, .int a2]) (rest := []) ⟨hx, hb, hml, hown, hts⟩ ⟨hK, hN⟩ hP (c_Cl_kindOf l E pr0 pr1 pr2 pr3 pl0 pl1 pl2 pl3 pl4 pa0 pa1 pr_greatestDelay pr_delays pr_fractions pr_heads pl_places pl_links pl_mostDrawn pl_ofTen pl_z pl_lengths pl_told pl_delays pl_fractions pa_sums a1 a2 r_8 h_7) [17, 18, 19, 20, 10, 11, 12, 13, 14, 15, 16] rfl 1 17 rfl rfl rfl gX7_linkOf_X1_kindOf rfl rfl rfl rfl hd_Cl_kindOf ⟨(Nat.le_of_ble_eq_true rfl), (Nat.le_of_ble_eq_true rfl)⟩ rfl hl.1 rfl (Nat.le_of_ble_eq_true rfl) dX7_linkOf_60 ⟨(Nat.zero_le _), (Nat.zero_le _)⟩ ?_
          exact hret ls 63 r_8 dX7_linkOf_63 (Option.some.inj hf)
        · have hf := ite_t c_11 hf
          refine lv_aload_n hx hb dX7_linkOf_42 rfl (lv_at hl 0 rfl) ?_
          refine va_get (D := E.1) (ci := 7) (v := .ref pl0) (C := RX7) (T := TX7) (N := 7) hx hb hts in_X7_linkOf_X7 hown hK hP 0 rfl rfl 2 (by decide) q_0 (fun _ h9 => h9) rfl dX7_linkOf_43 ?_
          refine lv_iload_n hx hb dX7_linkOf_46 rfl (lv_at hl 1 rfl) ?_
          refine lv_iload_n hx hb dX7_linkOf_47 rfl (lv_at hl 2 rfl) ?_
          obtain ⟨r_10, h_9, hf⟩ := bd_s hf
          refine ca_V (As := [.int a1, .int a2]) (rest := []) ⟨hx, hb, hml, hown, hts⟩ ⟨hK, hN⟩ hP (c_Pl_lengthOf l E pl0 pl1 pl2 pl3 pl4 pl_places pl_links pl_mostDrawn pl_ofTen pl_z pl_lengths pl_told pl_delays pl_fractions a1 a2 r_10 h_9) [10, 11, 12, 13, 14] rfl 5 10 rfl rfl rfl gX7_linkOf_X5_lengthOf rfl rfl rfl rfl hd_Pl_lengthOf ⟨(Nat.le_of_ble_eq_true rfl), (Nat.le_of_ble_eq_true rfl)⟩ rfl hl.1 rfl (Nat.le_of_ble_eq_true rfl) dX7_linkOf_48 ⟨(Nat.zero_le _), (Nat.zero_le _)⟩ ?_
          refine lv_goto (tgt := 63) hx hb dX7_linkOf_51 (by decide) ?_
          exact hret ls 63 r_10 dX7_linkOf_63 (Option.some.inj hf)
      · have hf := ite_t c_12 hf
        refine lv_bipush (v := (-4)) hx hb dX7_linkOf_35 (by decide) ?_
        exact hret ls 37 (-4) dX7_linkOf_37 (Option.some.inj hf)
    · have hf := ite_t c_13 hf
      refine lv_iconst (v := (-1)) hx hb dX7_linkOf_21 (by decide) ?_
      exact hret ls 22 (-1) dX7_linkOf_22 (Option.some.inj hf)
abbrev rm_Dc_isCluster : Room := { frames := 3, cells := 0, slots := 0, locals := 64 }
theorem hd_Dc_isCluster : hdOK yX7_isCluster 1 := by decide +kernel
theorem in_X7_isCluster_X7 : ∀ w ∈ wsX70, w ∈ wsX7_isCluster := by decide +kernel
set_option maxRecDepth 100000 in
set_option maxHeartbeats 4000000 in
theorem c_Dc_isCluster (l : Launch) (E : En4) (dc0 le0 le1 rd0 rd1 dr0 dr1 dr2 dr3 dr4 pl0 pl1 pl2 pl3 pl4 pa0 pa1 pr0 pr1 pr2 pr3 tr0 tr1 tr2 tr3 pt0 pt1 ca0 cb0 cc0 cd0 : Nat) (le_length : Int32) (le_signs : Nat → Int32) (rd_numbers : Nat → Int32) (dr_places : Int32) (dr_links : Int32) (dr_mostDrawn : Int32) (dr_ofTen : Int32) (dr_z : Int32) (dr_lengths : Nat → Int32) (dr_told : Nat → Int32) (dr_delays : Nat → Int32) (dr_fractions : Nat → Int32) (pl_places : Int32) (pl_links : Int32) (pl_mostDrawn : Int32) (pl_ofTen : Int32) (pl_z : Int32) (pl_lengths : Nat → Int32) (pl_told : Nat → Int32) (pl_delays : Nat → Int32) (pl_fractions : Nat → Int32) (pa_sums : Nat → Int32) (pr_greatestDelay : Int32) (pr_delays : Nat → Int32) (pr_fractions : Nat → Int32) (pr_heads : Nat → Int32) (tr_greatestDelay : Int32) (tr_delays : Nat → Int32) (tr_fractions : Nat → Int32) (tr_heads : Nat → Int32) (pt_next : Int32) (pt_kept : Int32) (hk_kind : Nat → Int32) (hk_i : Nat → Int32) (hk_j : Nat → Int32) (hk_length : Nat → Int32) (hk_wasTold : Nat → Int32) (hk_d : Nat → Int32) (hk_f : Nat → Int32) (hk_z : Nat → Int32) (a1 : Int32)  (res : Int32) (hf : Dc_isCluster pl_places pr_heads a1 = some res) : Met l yX7_isCluster wsX7_isCluster rm_Dc_isCluster (pcR [.ref dc0, .int a1] E (w_Dc E dc0 le0 le1 rd0 rd1 dr0 dr1 dr2 dr3 dr4 pl0 pl1 pl2 pl3 pl4 pa0 pa1 pr0 pr1 pr2 pr3 tr0 tr1 tr2 tr3 pt0 pt1 ca0 cb0 cc0 cd0 le_length le_signs rd_numbers dr_places dr_links dr_mostDrawn dr_ofTen dr_z dr_lengths dr_told dr_delays dr_fractions pl_places pl_links pl_mostDrawn pl_ofTen pl_z pl_lengths pl_told pl_delays pl_fractions pa_sums pr_greatestDelay pr_delays pr_fractions pr_heads tr_greatestDelay tr_delays tr_fractions tr_heads pt_next pt_kept hk_kind hk_i hk_j hk_length hk_wasTold hk_d hk_f hk_z)) (vp_Si (fun r => r = res)) 0 0 (fun _ => False) := by
  refine mk_Rz (cc := cX7_isCluster) (maxL := 2) (by decide) rfl (Nat.le_of_ble_eq_true rfl) ?_
  intro p e s m args below meth c Q S hKN hP hret ls hl
  obtain ⟨hx, hb, hml, hown, hts⟩ := S
  obtain ⟨hK, hN⟩ := hKN
  have hl : lv_has ls 2 [(0, .ref dc0), (1, .int a1)] := hl
  have q_0 := hts (.fieldLink RX7 42 "DelayClusters" "present" "LDelayClusters$Clustering;") (by decide +kernel)
  unfold Dc_isCluster at hf
  refine lv_iload_n hx hb dX7_isCluster_0 rfl (lv_at hl 1 rfl) ?_
  refine lv_iconst (v := 0) hx hb dX7_isCluster_1 (by decide) ?_
  refine lv_aload_n hx hb dX7_isCluster_2 rfl (lv_at hl 0 rfl) ?_
  refine va_get (D := E.1) (ci := 7) (v := .ref pr0) (C := RX7) (T := TX7) (N := 7) hx hb hts in_X7_isCluster_X7 hown hK hP 0 rfl rfl 4 (by decide) q_0 (fun _ h9 => h9) rfl dX7_isCluster_3 ?_
  obtain ⟨r_2, h_1, hf⟩ := bd_s hf
  refine ca_V (As := []) (rest := [.int 0, .int a1]) ⟨hx, hb, hml, hown, hts⟩ ⟨hK, hN⟩ hP (c_Cl_clusters l E pr0 pr1 pr2 pr3 pl0 pl1 pl2 pl3 pl4 pa0 pa1 pr_greatestDelay pr_delays pr_fractions pr_heads pl_places pl_links pl_mostDrawn pl_ofTen pl_z pl_lengths pl_told pl_delays pl_fractions pa_sums r_2 h_1) [17, 18, 19, 20, 10, 11, 12, 13, 14, 15, 16] rfl 1 17 rfl rfl rfl gX7_isCluster_X1_clusters rfl rfl rfl rfl hd_Cl_clusters ⟨(Nat.le_of_ble_eq_true rfl), (Nat.le_of_ble_eq_true rfl)⟩ rfl hl.1 rfl (Nat.le_of_ble_eq_true rfl) dX7_isCluster_6 ⟨(Nat.zero_le _), (Nat.zero_le _)⟩ ?_
  refine lv_iconst (v := 1) hx hb dX7_isCluster_9 (by decide) ?_
  refine lv_isub hx hb dX7_isCluster_10 ?_
  obtain ⟨r_4, h_3, hf⟩ := bd_s hf
  refine ca_S (As := [.int a1, .int 0, .int (r_2 - 1)]) (rest := []) ⟨hx, hb, hml, hown, hts⟩ ⟨hK, hN⟩ hP (c_Dc_isWithin l E   a1 0 (r_2 - 1) r_4 h_3) [] rfl gX7_isCluster_X7_isWithin rfl rfl rfl hd_Dc_isWithin ⟨(Nat.le_of_ble_eq_true rfl), (Nat.le_of_ble_eq_true rfl)⟩ rfl hl.1 rfl (Nat.le_of_ble_eq_true rfl) dX7_isCluster_11 ⟨(Nat.zero_le _), (Nat.zero_le _)⟩ ?_
  obtain ⟨g_5, hf⟩ := gb_s hf
  exact hret ls 14 r_4 dX7_isCluster_14 g_5 (Option.some.inj hf)
abbrev rm_Dc_cluster : Room := { frames := 4, cells := 0, slots := 0, locals := 94 }
theorem hd_Dc_cluster : hdOK yX7_cluster 2 := by decide +kernel
theorem in_X7_cluster_X7 : ∀ w ∈ wsX70, w ∈ wsX7_cluster := by decide +kernel
set_option maxRecDepth 100000 in
set_option maxHeartbeats 4000000 in
theorem c_Dc_cluster (l : Launch) (E : En4) (dc0 le0 le1 rd0 rd1 dr0 dr1 dr2 dr3 dr4 pl0 pl1 pl2 pl3 pl4 pa0 pa1 pr0 pr1 pr2 pr3 tr0 tr1 tr2 tr3 pt0 pt1 ca0 cb0 cc0 cd0 : Nat) (le_length : Int32) (le_signs : Nat → Int32) (rd_numbers : Nat → Int32) (dr_places : Int32) (dr_links : Int32) (dr_mostDrawn : Int32) (dr_ofTen : Int32) (dr_z : Int32) (dr_lengths : Nat → Int32) (dr_told : Nat → Int32) (dr_delays : Nat → Int32) (dr_fractions : Nat → Int32) (pl_places : Int32) (pl_links : Int32) (pl_mostDrawn : Int32) (pl_ofTen : Int32) (pl_z : Int32) (pl_lengths : Nat → Int32) (pl_told : Nat → Int32) (pl_delays : Nat → Int32) (pl_fractions : Nat → Int32) (pa_sums : Nat → Int32) (pr_greatestDelay : Int32) (pr_delays : Nat → Int32) (pr_fractions : Nat → Int32) (pr_heads : Nat → Int32) (tr_greatestDelay : Int32) (tr_delays : Nat → Int32) (tr_fractions : Nat → Int32) (tr_heads : Nat → Int32) (pt_next : Int32) (pt_kept : Int32) (hk_kind : Nat → Int32) (hk_i : Nat → Int32) (hk_j : Nat → Int32) (hk_length : Nat → Int32) (hk_wasTold : Nat → Int32) (hk_d : Nat → Int32) (hk_f : Nat → Int32) (hk_z : Nat → Int32) (a1 : Int32) (a2 : Int32)  (res : Int32) (hf : Dc_cluster pl_places pl_lengths pa_sums pr_heads a1 a2 = some res) : Met l yX7_cluster wsX7_cluster rm_Dc_cluster (pcR [.ref dc0, .int a1, .int a2] E (w_Dc E dc0 le0 le1 rd0 rd1 dr0 dr1 dr2 dr3 dr4 pl0 pl1 pl2 pl3 pl4 pa0 pa1 pr0 pr1 pr2 pr3 tr0 tr1 tr2 tr3 pt0 pt1 ca0 cb0 cc0 cd0 le_length le_signs rd_numbers dr_places dr_links dr_mostDrawn dr_ofTen dr_z dr_lengths dr_told dr_delays dr_fractions pl_places pl_links pl_mostDrawn pl_ofTen pl_z pl_lengths pl_told pl_delays pl_fractions pa_sums pr_greatestDelay pr_delays pr_fractions pr_heads tr_greatestDelay tr_delays tr_fractions tr_heads pt_next pt_kept hk_kind hk_i hk_j hk_length hk_wasTold hk_d hk_f hk_z)) (vp_Si (fun r => r = res)) 0 0 (fun _ => False) := by
  refine mk_Ri (cc := cX7_cluster) (maxL := 4) (by decide) rfl (Nat.le_of_ble_eq_true rfl) ?_
  intro p e s m args below meth c Q S hKN hP hret ls hl
  obtain ⟨hx, hb, hml, hown, hts⟩ := S
  obtain ⟨hK, hN⟩ := hKN
  have hl : lv_has ls 4 [(0, .ref dc0), (1, .int a1), (2, .int a2)] := hl
  have q_0 := hts (.fieldLink RX7 42 "DelayClusters" "present" "LDelayClusters$Clustering;") (by decide +kernel)
  unfold Dc_cluster at hf
  refine lv_aload_n hx hb dX7_cluster_0 rfl (lv_at hl 0 rfl) ?_
  refine lv_iload_n hx hb dX7_cluster_1 rfl (lv_at hl 1 rfl) ?_
  obtain ⟨r_2, h_1, hf⟩ := bd_s hf
  refine ca_V (As := [.int a1]) (rest := []) ⟨hx, hb, hml, hown, hts⟩ ⟨hK, hN⟩ hP (c_Dc_isCluster l E dc0 le0 le1 rd0 rd1 dr0 dr1 dr2 dr3 dr4 pl0 pl1 pl2 pl3 pl4 pa0 pa1 pr0 pr1 pr2 pr3 tr0 tr1 tr2 tr3 pt0 pt1 ca0 cb0 cc0 cd0 le_length le_signs rd_numbers dr_places dr_links dr_mostDrawn dr_ofTen dr_z dr_lengths dr_told dr_delays dr_fractions pl_places pl_links pl_mostDrawn pl_ofTen pl_z pl_lengths pl_told pl_delays pl_fractions pa_sums pr_greatestDelay pr_delays pr_fractions pr_heads tr_greatestDelay tr_delays tr_fractions tr_heads pt_next pt_kept hk_kind hk_i hk_j hk_length hk_wasTold hk_d hk_f hk_z a1 r_2 h_1) [0, 1, 2, 3, 4, 5, 6, 7, 8, 9, 10, 11, 12, 13, 14, 15, 16, 17, 18, 19, 20, 21, 22, 23, 24, 25, 26, 27, 28, 29, 30] rfl 7 0 rfl rfl rfl gX7_cluster_X7_isCluster rfl rfl rfl rfl hd_Dc_isCluster ⟨(Nat.le_of_ble_eq_true rfl), (Nat.le_of_ble_eq_true rfl)⟩ rfl hl.1 rfl (Nat.le_of_ble_eq_true rfl) dX7_cluster_2 ⟨(Nat.zero_le _), (Nat.zero_le _)⟩ ?_
  refine lv_if_ne (tgt := 10) hx hb dX7_cluster_5 (by decide) (fun c_23 => ?_) (fun c_23 => ?_)
  · have hf := ite_f c_23 hf
    refine lv_aload_n hx hb dX7_cluster_10 rfl (lv_at hl 0 rfl) ?_
    refine va_get (D := E.1) (ci := 7) (v := .ref pr0) (C := RX7) (T := TX7) (N := 7) hx hb hts in_X7_cluster_X7 hown hK hP 0 rfl rfl 4 (by decide) q_0 (fun _ h9 => h9) rfl dX7_cluster_11 ?_
    refine lv_iload_n hx hb dX7_cluster_14 rfl (lv_at hl 1 rfl) ?_
    obtain ⟨r_4, h_3, hf⟩ := bd_s hf
    refine ca_V (As := [.int a1]) (rest := []) ⟨hx, hb, hml, hown, hts⟩ ⟨hK, hN⟩ hP (c_Cl_headNumbered l E pr0 pr1 pr2 pr3 pl0 pl1 pl2 pl3 pl4 pa0 pa1 pr_greatestDelay pr_delays pr_fractions pr_heads pl_places pl_links pl_mostDrawn pl_ofTen pl_z pl_lengths pl_told pl_delays pl_fractions pa_sums a1 r_4 h_3) [17, 18, 19, 20, 10, 11, 12, 13, 14, 15, 16] rfl 1 17 rfl rfl rfl gX7_cluster_X1_headNumbered rfl rfl rfl rfl hd_Cl_headNumbered ⟨(Nat.le_of_ble_eq_true rfl), (Nat.le_of_ble_eq_true rfl)⟩ rfl hl.1 rfl (Nat.le_of_ble_eq_true rfl) dX7_cluster_15 ⟨(Nat.zero_le _), (Nat.zero_le _)⟩ ?_
    refine lv_istore_n (lv' := [(3, .int r_4), (0, .ref dc0), (1, .int a1), (2, .int a2)]) hx hb dX7_cluster_18 rfl hl (by decide) rfl (fun ls hl => ?_)
    refine lv_iload_n hx hb dX7_cluster_19 rfl (lv_at hl 3 rfl) ?_
    by_cases c_5 : a2 = 0
    · have hf := ite_t c_5 hf
      refine lv_tableIn (off := 40) (tgt := 60) hx hb dX7_cluster_20 (by rw [c_5]; decide) (by rw [c_5]; decide) (by rw [c_5]; rfl) (by decide) ?_
      refine lv_iload_n hx hb dX7_cluster_60 rfl (lv_at hl 0 rfl) ?_
      refine lv_goto (tgt := 123) hx hb dX7_cluster_61 (by decide) ?_
      exact hret ls 123 r_4 dX7_cluster_123 (Option.some.inj hf)
    · have hf := ite_f c_5 hf
      by_cases c_10 : a2 = 1
      · have hf := ite_t c_10 hf
        refine lv_tableIn (off := 44) (tgt := 64) hx hb dX7_cluster_20 (by rw [c_10]; decide) (by rw [c_10]; decide) (by rw [c_10]; rfl) (by decide) ?_
        refine lv_aload_n hx hb dX7_cluster_64 rfl (lv_at hl 1 rfl) ?_
        refine va_get (D := E.1) (ci := 7) (v := .ref pr0) (C := RX7) (T := TX7) (N := 7) hx hb hts in_X7_cluster_X7 hown hK hP 0 rfl rfl 4 (by decide) q_0 (fun _ h9 => h9) rfl dX7_cluster_65 ?_
        refine lv_iload_n hx hb dX7_cluster_68 rfl (lv_at hl 0 rfl) ?_
        obtain ⟨r_7, h_6, hf⟩ := bd_s hf
        refine ca_V (As := [.int r_4]) (rest := []) ⟨hx, hb, hml, hown, hts⟩ ⟨hK, hN⟩ hP (c_Cl_membersOf l E pr0 pr1 pr2 pr3 pl0 pl1 pl2 pl3 pl4 pa0 pa1 pr_greatestDelay pr_delays pr_fractions pr_heads pl_places pl_links pl_mostDrawn pl_ofTen pl_z pl_lengths pl_told pl_delays pl_fractions pa_sums r_4 r_7 h_6) [17, 18, 19, 20, 10, 11, 12, 13, 14, 15, 16] rfl 1 17 rfl rfl rfl gX7_cluster_X1_membersOf rfl rfl rfl rfl hd_Cl_membersOf ⟨(Nat.le_of_ble_eq_true rfl), (Nat.le_of_ble_eq_true rfl)⟩ rfl hl.1 rfl (Nat.le_of_ble_eq_true rfl) dX7_cluster_69 ⟨(Nat.zero_le _), (Nat.zero_le _)⟩ ?_
        obtain ⟨r_9, h_8, hf⟩ := bd_s hf
        refine ca_S (As := [.int r_7]) (rest := []) ⟨hx, hb, hml, hown, hts⟩ ⟨hK, hN⟩ hP (c_Ji_bitCount l E   r_7 r_9 h_8) [] rfl gX7_cluster_J6_bitCount_0f7a4 rfl rfl rfl hd_Ji_bitCount ⟨(Nat.le_of_ble_eq_true rfl), (Nat.le_of_ble_eq_true rfl)⟩ rfl hl.1 rfl (Nat.le_of_ble_eq_true rfl) dX7_cluster_72 ⟨(Nat.zero_le _), (Nat.zero_le _)⟩ ?_
        refine lv_goto (tgt := 123) hx hb dX7_cluster_75 (by decide) ?_
        exact hret ls 123 r_9 dX7_cluster_123 (Option.some.inj hf)
      · have hf := ite_f c_10 hf
        by_cases c_13 : a2 = 2
        · have hf := ite_t c_13 hf
          refine lv_tableIn (off := 58) (tgt := 78) hx hb dX7_cluster_20 (by rw [c_13]; decide) (by rw [c_13]; decide) (by rw [c_13]; rfl) (by decide) ?_
          refine lv_aload_n hx hb dX7_cluster_78 rfl (lv_at hl 1 rfl) ?_
          refine va_get (D := E.1) (ci := 7) (v := .ref pr0) (C := RX7) (T := TX7) (N := 7) hx hb hts in_X7_cluster_X7 hown hK hP 0 rfl rfl 4 (by decide) q_0 (fun _ h9 => h9) rfl dX7_cluster_79 ?_
          refine lv_iload_n hx hb dX7_cluster_82 rfl (lv_at hl 0 rfl) ?_
          obtain ⟨r_12, h_11, hf⟩ := bd_s hf
          refine ca_V (As := [.int r_4]) (rest := []) ⟨hx, hb, hml, hown, hts⟩ ⟨hK, hN⟩ hP (c_Cl_wideOf l E pr0 pr1 pr2 pr3 pl0 pl1 pl2 pl3 pl4 pa0 pa1 pr_greatestDelay pr_delays pr_fractions pr_heads pl_places pl_links pl_mostDrawn pl_ofTen pl_z pl_lengths pl_told pl_delays pl_fractions pa_sums r_4 r_12 h_11) [17, 18, 19, 20, 10, 11, 12, 13, 14, 15, 16] rfl 1 17 rfl rfl rfl gX7_cluster_X1_wideOf rfl rfl rfl rfl hd_Cl_wideOf ⟨(Nat.le_of_ble_eq_true rfl), (Nat.le_of_ble_eq_true rfl)⟩ rfl hl.1 rfl (Nat.le_of_ble_eq_true rfl) dX7_cluster_83 ⟨(Nat.zero_le _), (Nat.zero_le _)⟩ ?_
          refine lv_goto (tgt := 123) hx hb dX7_cluster_86 (by decide) ?_
          exact hret ls 123 r_12 dX7_cluster_123 (Option.some.inj hf)
        · have hf := ite_f c_13 hf
          by_cases c_16 : a2 = 3
          · have hf := ite_t c_16 hf
            refine lv_tableIn (off := 69) (tgt := 89) hx hb dX7_cluster_20 (by rw [c_16]; decide) (by rw [c_16]; decide) (by rw [c_16]; rfl) (by decide) ?_
            refine lv_aload_n hx hb dX7_cluster_89 rfl (lv_at hl 1 rfl) ?_
            refine va_get (D := E.1) (ci := 7) (v := .ref pr0) (C := RX7) (T := TX7) (N := 7) hx hb hts in_X7_cluster_X7 hown hK hP 0 rfl rfl 4 (by decide) q_0 (fun _ h9 => h9) rfl dX7_cluster_90 ?_
            refine lv_iload_n hx hb dX7_cluster_93 rfl (lv_at hl 0 rfl) ?_
            obtain ⟨r_15, h_14, hf⟩ := bd_s hf
            refine ca_V (As := [.int r_4]) (rest := []) ⟨hx, hb, hml, hown, hts⟩ ⟨hK, hN⟩ hP (c_Cl_cutLinksOf l E pr0 pr1 pr2 pr3 pl0 pl1 pl2 pl3 pl4 pa0 pa1 pr_greatestDelay pr_delays pr_fractions pr_heads pl_places pl_links pl_mostDrawn pl_ofTen pl_z pl_lengths pl_told pl_delays pl_fractions pa_sums r_4 r_15 h_14) [17, 18, 19, 20, 10, 11, 12, 13, 14, 15, 16] rfl 1 17 rfl rfl rfl gX7_cluster_X1_cutLinksOf rfl rfl rfl rfl hd_Cl_cutLinksOf ⟨(Nat.le_of_ble_eq_true rfl), (Nat.le_of_ble_eq_true rfl)⟩ rfl hl.1 rfl (Nat.le_of_ble_eq_true rfl) dX7_cluster_94 ⟨(Nat.zero_le _), (Nat.zero_le _)⟩ ?_
            refine lv_goto (tgt := 123) hx hb dX7_cluster_97 (by decide) ?_
            exact hret ls 123 r_15 dX7_cluster_123 (Option.some.inj hf)
          · have hf := ite_f c_16 hf
            by_cases c_19 : a2 = 4
            · have hf := ite_t c_19 hf
              refine lv_tableIn (off := 80) (tgt := 100) hx hb dX7_cluster_20 (by rw [c_19]; decide) (by rw [c_19]; decide) (by rw [c_19]; rfl) (by decide) ?_
              refine lv_aload_n hx hb dX7_cluster_100 rfl (lv_at hl 1 rfl) ?_
              refine va_get (D := E.1) (ci := 7) (v := .ref pr0) (C := RX7) (T := TX7) (N := 7) hx hb hts in_X7_cluster_X7 hown hK hP 0 rfl rfl 4 (by decide) q_0 (fun _ h9 => h9) rfl dX7_cluster_101 ?_
              refine lv_iload_n hx hb dX7_cluster_104 rfl (lv_at hl 0 rfl) ?_
              obtain ⟨r_18, h_17, hf⟩ := bd_s hf
              refine ca_V (As := [.int r_4]) (rest := []) ⟨hx, hb, hml, hown, hts⟩ ⟨hK, hN⟩ hP (c_Cl_neighboursOf l E pr0 pr1 pr2 pr3 pl0 pl1 pl2 pl3 pl4 pa0 pa1 pr_greatestDelay pr_delays pr_fractions pr_heads pl_places pl_links pl_mostDrawn pl_ofTen pl_z pl_lengths pl_told pl_delays pl_fractions pa_sums r_4 r_18 h_17) [17, 18, 19, 20, 10, 11, 12, 13, 14, 15, 16] rfl 1 17 rfl rfl rfl gX7_cluster_X1_neighboursOf rfl rfl rfl rfl hd_Cl_neighboursOf ⟨(Nat.le_of_ble_eq_true rfl), (Nat.le_of_ble_eq_true rfl)⟩ rfl hl.1 rfl (Nat.le_of_ble_eq_true rfl) dX7_cluster_105 ⟨(Nat.zero_le _), (Nat.zero_le _)⟩ ?_
              refine lv_goto (tgt := 123) hx hb dX7_cluster_108 (by decide) ?_
              exact hret ls 123 r_18 dX7_cluster_123 (Option.some.inj hf)
            · have hf := ite_f c_19 hf
              by_cases c_22 : a2 = 5
              · have hf := ite_t c_22 hf
                refine lv_tableIn (off := 91) (tgt := 111) hx hb dX7_cluster_20 (by rw [c_22]; decide) (by rw [c_22]; decide) (by rw [c_22]; rfl) (by decide) ?_
                refine lv_aload_n hx hb dX7_cluster_111 rfl (lv_at hl 1 rfl) ?_
                refine va_get (D := E.1) (ci := 7) (v := .ref pr0) (C := RX7) (T := TX7) (N := 7) hx hb hts in_X7_cluster_X7 hown hK hP 0 rfl rfl 4 (by decide) q_0 (fun _ h9 => h9) rfl dX7_cluster_112 ?_
                refine lv_iload_n hx hb dX7_cluster_115 rfl (lv_at hl 0 rfl) ?_
                obtain ⟨r_21, h_20, hf⟩ := bd_s hf
                refine ca_V (As := [.int r_4]) (rest := []) ⟨hx, hb, hml, hown, hts⟩ ⟨hK, hN⟩ hP (c_Cl_membersOf l E pr0 pr1 pr2 pr3 pl0 pl1 pl2 pl3 pl4 pa0 pa1 pr_greatestDelay pr_delays pr_fractions pr_heads pl_places pl_links pl_mostDrawn pl_ofTen pl_z pl_lengths pl_told pl_delays pl_fractions pa_sums r_4 r_21 h_20) [17, 18, 19, 20, 10, 11, 12, 13, 14, 15, 16] rfl 1 17 rfl rfl rfl gX7_cluster_X1_membersOf rfl rfl rfl rfl hd_Cl_membersOf ⟨(Nat.le_of_ble_eq_true rfl), (Nat.le_of_ble_eq_true rfl)⟩ rfl hl.1 rfl (Nat.le_of_ble_eq_true rfl) dX7_cluster_116 ⟨(Nat.zero_le _), (Nat.zero_le _)⟩ ?_
                refine lv_goto (tgt := 123) hx hb dX7_cluster_119 (by decide) ?_
                exact hret ls 123 r_21 dX7_cluster_123 (Option.some.inj hf)
              · have hf := ite_f c_22 hf
                refine lv_tableOut (tgt := 122) hx hb dX7_cluster_20 (by have e_5 := lv_neT (a := 0) c_5 (by decide); have e_10 := lv_neT (a := 1) c_10 (by decide); have e_13 := lv_neT (a := 2) c_13 (by decide); have e_16 := lv_neT (a := 3) c_16 (by decide); have e_19 := lv_neT (a := 4) c_19 (by decide); have e_22 := lv_neT (a := 5) c_22 (by decide); omega) (by decide) ?_
                refine lv_iconst (v := (-1)) hx hb dX7_cluster_122 (by decide) ?_
                exact hret ls 123 (-1) dX7_cluster_123 (Option.some.inj hf)
  · have hf := ite_t c_23 hf
    refine lv_iconst (v := (-1)) hx hb dX7_cluster_8 (by decide) ?_
    exact hret ls 9 (-1) dX7_cluster_9 (Option.some.inj hf)
abbrev rm_Dc_beside : Room := { frames := 4, cells := 0, slots := 0, locals := 87 }
theorem hd_Dc_beside : hdOK yX7_beside 3 := by decide +kernel
theorem in_X7_beside_X7 : ∀ w ∈ wsX70, w ∈ wsX7_beside := by decide +kernel
set_option maxRecDepth 100000 in
set_option maxHeartbeats 4000000 in
theorem c_Dc_beside (l : Launch) (E : En4) (dc0 le0 le1 rd0 rd1 dr0 dr1 dr2 dr3 dr4 pl0 pl1 pl2 pl3 pl4 pa0 pa1 pr0 pr1 pr2 pr3 tr0 tr1 tr2 tr3 pt0 pt1 ca0 cb0 cc0 cd0 : Nat) (le_length : Int32) (le_signs : Nat → Int32) (rd_numbers : Nat → Int32) (dr_places : Int32) (dr_links : Int32) (dr_mostDrawn : Int32) (dr_ofTen : Int32) (dr_z : Int32) (dr_lengths : Nat → Int32) (dr_told : Nat → Int32) (dr_delays : Nat → Int32) (dr_fractions : Nat → Int32) (pl_places : Int32) (pl_links : Int32) (pl_mostDrawn : Int32) (pl_ofTen : Int32) (pl_z : Int32) (pl_lengths : Nat → Int32) (pl_told : Nat → Int32) (pl_delays : Nat → Int32) (pl_fractions : Nat → Int32) (pa_sums : Nat → Int32) (pr_greatestDelay : Int32) (pr_delays : Nat → Int32) (pr_fractions : Nat → Int32) (pr_heads : Nat → Int32) (tr_greatestDelay : Int32) (tr_delays : Nat → Int32) (tr_fractions : Nat → Int32) (tr_heads : Nat → Int32) (pt_next : Int32) (pt_kept : Int32) (hk_kind : Nat → Int32) (hk_i : Nat → Int32) (hk_j : Nat → Int32) (hk_length : Nat → Int32) (hk_wasTold : Nat → Int32) (hk_d : Nat → Int32) (hk_f : Nat → Int32) (hk_z : Nat → Int32) (a1 : Int32) (a2 : Int32) (a3 : Int32)  (res : Int32) (hf : Dc_beside pl_places pl_lengths pr_heads a1 a2 a3 = some res) : Met l yX7_beside wsX7_beside rm_Dc_beside (pcR [.ref dc0, .int a1, .int a2, .int a3] E (w_Dc E dc0 le0 le1 rd0 rd1 dr0 dr1 dr2 dr3 dr4 pl0 pl1 pl2 pl3 pl4 pa0 pa1 pr0 pr1 pr2 pr3 tr0 tr1 tr2 tr3 pt0 pt1 ca0 cb0 cc0 cd0 le_length le_signs rd_numbers dr_places dr_links dr_mostDrawn dr_ofTen dr_z dr_lengths dr_told dr_delays dr_fractions pl_places pl_links pl_mostDrawn pl_ofTen pl_z pl_lengths pl_told pl_delays pl_fractions pa_sums pr_greatestDelay pr_delays pr_fractions pr_heads tr_greatestDelay tr_delays tr_fractions tr_heads pt_next pt_kept hk_kind hk_i hk_j hk_length hk_wasTold hk_d hk_f hk_z)) (vp_Si (fun r => r = res)) 0 0 (fun _ => False) := by
  refine mk_Ri (cc := cX7_beside) (maxL := 6) (by decide) rfl (Nat.le_of_ble_eq_true rfl) ?_
  intro p e s m args below meth c Q S hKN hP hret ls hl
  obtain ⟨hx, hb, hml, hown, hts⟩ := S
  obtain ⟨hK, hN⟩ := hKN
  have hl : lv_has ls 6 [(0, .ref dc0), (1, .int a1), (2, .int a2), (3, .int a3)] := hl
  have q_0 := hts (.fieldLink RX7 42 "DelayClusters" "present" "LDelayClusters$Clustering;") (by decide +kernel)
  unfold Dc_beside at hf
  refine lv_aload_n hx hb dX7_beside_0 rfl (lv_at hl 0 rfl) ?_
  refine lv_iload_n hx hb dX7_beside_1 rfl (lv_at hl 1 rfl) ?_
  obtain ⟨r_2, h_1, hf⟩ := bd_s hf
  refine ca_V (As := [.int a1]) (rest := []) ⟨hx, hb, hml, hown, hts⟩ ⟨hK, hN⟩ hP (c_Dc_isCluster l E dc0 le0 le1 rd0 rd1 dr0 dr1 dr2 dr3 dr4 pl0 pl1 pl2 pl3 pl4 pa0 pa1 pr0 pr1 pr2 pr3 tr0 tr1 tr2 tr3 pt0 pt1 ca0 cb0 cc0 cd0 le_length le_signs rd_numbers dr_places dr_links dr_mostDrawn dr_ofTen dr_z dr_lengths dr_told dr_delays dr_fractions pl_places pl_links pl_mostDrawn pl_ofTen pl_z pl_lengths pl_told pl_delays pl_fractions pa_sums pr_greatestDelay pr_delays pr_fractions pr_heads tr_greatestDelay tr_delays tr_fractions tr_heads pt_next pt_kept hk_kind hk_i hk_j hk_length hk_wasTold hk_d hk_f hk_z a1 r_2 h_1) [0, 1, 2, 3, 4, 5, 6, 7, 8, 9, 10, 11, 12, 13, 14, 15, 16, 17, 18, 19, 20, 21, 22, 23, 24, 25, 26, 27, 28, 29, 30] rfl 7 0 rfl rfl rfl gX7_beside_X7_isCluster rfl rfl rfl rfl hd_Dc_isCluster ⟨(Nat.le_of_ble_eq_true rfl), (Nat.le_of_ble_eq_true rfl)⟩ rfl hl.1 rfl (Nat.le_of_ble_eq_true rfl) dX7_beside_2 ⟨(Nat.zero_le _), (Nat.zero_le _)⟩ ?_
  refine lv_if_eq (tgt := 30) hx hb dX7_beside_5 (by decide) (fun c_19 => ?_) (fun c_19 => ?_)
  · have hf := ite_t c_19 hf
    refine lv_iconst (v := (-1)) hx hb dX7_beside_30 (by decide) ?_
    exact hret ls 31 (-1) dX7_beside_31 (Option.some.inj hf)
  · have hf := ite_f c_19 hf
    refine lv_aload_n hx hb dX7_beside_8 rfl (lv_at hl 0 rfl) ?_
    refine lv_iload_n hx hb dX7_beside_9 rfl (lv_at hl 2 rfl) ?_
    obtain ⟨r_4, h_3, hf⟩ := bd_s hf
    refine ca_V (As := [.int a2]) (rest := []) ⟨hx, hb, hml, hown, hts⟩ ⟨hK, hN⟩ hP (c_Dc_isCluster l E dc0 le0 le1 rd0 rd1 dr0 dr1 dr2 dr3 dr4 pl0 pl1 pl2 pl3 pl4 pa0 pa1 pr0 pr1 pr2 pr3 tr0 tr1 tr2 tr3 pt0 pt1 ca0 cb0 cc0 cd0 le_length le_signs rd_numbers dr_places dr_links dr_mostDrawn dr_ofTen dr_z dr_lengths dr_told dr_delays dr_fractions pl_places pl_links pl_mostDrawn pl_ofTen pl_z pl_lengths pl_told pl_delays pl_fractions pa_sums pr_greatestDelay pr_delays pr_fractions pr_heads tr_greatestDelay tr_delays tr_fractions tr_heads pt_next pt_kept hk_kind hk_i hk_j hk_length hk_wasTold hk_d hk_f hk_z a2 r_4 h_3) [0, 1, 2, 3, 4, 5, 6, 7, 8, 9, 10, 11, 12, 13, 14, 15, 16, 17, 18, 19, 20, 21, 22, 23, 24, 25, 26, 27, 28, 29, 30] rfl 7 0 rfl rfl rfl gX7_beside_X7_isCluster rfl rfl rfl rfl hd_Dc_isCluster ⟨(Nat.le_of_ble_eq_true rfl), (Nat.le_of_ble_eq_true rfl)⟩ rfl hl.1 rfl (Nat.le_of_ble_eq_true rfl) dX7_beside_10 ⟨(Nat.zero_le _), (Nat.zero_le _)⟩ ?_
    refine lv_if_eq (tgt := 30) hx hb dX7_beside_13 (by decide) (fun c_18 => ?_) (fun c_18 => ?_)
    · have hf := ite_t c_18 hf
      refine lv_iconst (v := (-1)) hx hb dX7_beside_30 (by decide) ?_
      exact hret ls 31 (-1) dX7_beside_31 (Option.some.inj hf)
    · have hf := ite_f c_18 hf
      refine lv_iload_n hx hb dX7_beside_16 rfl (lv_at hl 1 rfl) ?_
      refine lv_iload_n hx hb dX7_beside_17 rfl (lv_at hl 2 rfl) ?_
      refine lv_icmp_eq (tgt := 30) hx hb dX7_beside_18 (by decide) (fun c_17 => ?_) (fun c_17 => ?_)
      · have hf := ite_t c_17 hf
        refine lv_iconst (v := (-1)) hx hb dX7_beside_30 (by decide) ?_
        exact hret ls 31 (-1) dX7_beside_31 (Option.some.inj hf)
      · have hf := ite_f c_17 hf
        refine lv_iload_n hx hb dX7_beside_21 rfl (lv_at hl 3 rfl) ?_
        refine lv_iconst (v := 0) hx hb dX7_beside_22 (by decide) ?_
        refine lv_iconst (v := 1) hx hb dX7_beside_23 (by decide) ?_
        obtain ⟨r_6, h_5, hf⟩ := bd_s hf
        refine ca_S (As := [.int a3, .int 0, .int 1]) (rest := []) ⟨hx, hb, hml, hown, hts⟩ ⟨hK, hN⟩ hP (c_Dc_isWithin l E   a3 0 1 r_6 h_5) [] rfl gX7_beside_X7_isWithin rfl rfl rfl hd_Dc_isWithin ⟨(Nat.le_of_ble_eq_true rfl), (Nat.le_of_ble_eq_true rfl)⟩ rfl hl.1 rfl (Nat.le_of_ble_eq_true rfl) dX7_beside_24 ⟨(Nat.zero_le _), (Nat.zero_le _)⟩ ?_
        refine lv_if_ne (tgt := 32) hx hb dX7_beside_27 (by decide) (fun c_16 => ?_) (fun c_16 => ?_)
        · have hf := ite_f c_16 hf
          refine lv_aload_n hx hb dX7_beside_32 rfl (lv_at hl 0 rfl) ?_
          refine va_get (D := E.1) (ci := 7) (v := .ref pr0) (C := RX7) (T := TX7) (N := 7) hx hb hts in_X7_beside_X7 hown hK hP 0 rfl rfl 4 (by decide) q_0 (fun _ h9 => h9) rfl dX7_beside_33 ?_
          refine lv_iload_n hx hb dX7_beside_36 rfl (lv_at hl 1 rfl) ?_
          obtain ⟨r_8, h_7, hf⟩ := bd_s hf
          refine ca_V (As := [.int a1]) (rest := []) ⟨hx, hb, hml, hown, hts⟩ ⟨hK, hN⟩ hP (c_Cl_headNumbered l E pr0 pr1 pr2 pr3 pl0 pl1 pl2 pl3 pl4 pa0 pa1 pr_greatestDelay pr_delays pr_fractions pr_heads pl_places pl_links pl_mostDrawn pl_ofTen pl_z pl_lengths pl_told pl_delays pl_fractions pa_sums a1 r_8 h_7) [17, 18, 19, 20, 10, 11, 12, 13, 14, 15, 16] rfl 1 17 rfl rfl rfl gX7_beside_X1_headNumbered rfl rfl rfl rfl hd_Cl_headNumbered ⟨(Nat.le_of_ble_eq_true rfl), (Nat.le_of_ble_eq_true rfl)⟩ rfl hl.1 rfl (Nat.le_of_ble_eq_true rfl) dX7_beside_37 ⟨(Nat.zero_le _), (Nat.zero_le _)⟩ ?_
          refine lv_istore (lv' := [(4, .int r_8), (0, .ref dc0), (1, .int a1), (2, .int a2), (3, .int a3)]) hx hb dX7_beside_40 hl (by decide) rfl (fun ls hl => ?_)
          refine lv_aload_n hx hb dX7_beside_42 rfl (lv_at hl 1 rfl) ?_
          refine va_get (D := E.1) (ci := 7) (v := .ref pr0) (C := RX7) (T := TX7) (N := 7) hx hb hts in_X7_beside_X7 hown hK hP 0 rfl rfl 4 (by decide) q_0 (fun _ h9 => h9) rfl dX7_beside_43 ?_
          refine lv_iload_n hx hb dX7_beside_46 rfl (lv_at hl 3 rfl) ?_
          obtain ⟨r_10, h_9, hf⟩ := bd_s hf
          refine ca_V (As := [.int a2]) (rest := []) ⟨hx, hb, hml, hown, hts⟩ ⟨hK, hN⟩ hP (c_Cl_headNumbered l E pr0 pr1 pr2 pr3 pl0 pl1 pl2 pl3 pl4 pa0 pa1 pr_greatestDelay pr_delays pr_fractions pr_heads pl_places pl_links pl_mostDrawn pl_ofTen pl_z pl_lengths pl_told pl_delays pl_fractions pa_sums a2 r_10 h_9) [17, 18, 19, 20, 10, 11, 12, 13, 14, 15, 16] rfl 1 17 rfl rfl rfl gX7_beside_X1_headNumbered rfl rfl rfl rfl hd_Cl_headNumbered ⟨(Nat.le_of_ble_eq_true rfl), (Nat.le_of_ble_eq_true rfl)⟩ rfl hl.1 rfl (Nat.le_of_ble_eq_true rfl) dX7_beside_47 ⟨(Nat.zero_le _), (Nat.zero_le _)⟩ ?_
          refine lv_istore (lv' := [(5, .int r_10), (4, .int r_8), (0, .ref dc0), (1, .int a1), (2, .int a2), (3, .int a3)]) hx hb dX7_beside_50 hl (by decide) rfl (fun ls hl => ?_)
          refine lv_iload_n hx hb dX7_beside_52 rfl (lv_at hl 5 rfl) ?_
          refine lv_if_ne (tgt := 70) hx hb dX7_beside_53 (by decide) (fun c_15 => ?_) (fun c_15 => ?_)
          · have hf := ite_f c_15 hf
            refine lv_aload_n hx hb dX7_beside_70 rfl (lv_at hl 2 rfl) ?_
            refine va_get (D := E.1) (ci := 7) (v := .ref pr0) (C := RX7) (T := TX7) (N := 7) hx hb hts in_X7_beside_X7 hown hK hP 0 rfl rfl 4 (by decide) q_0 (fun _ h9 => h9) rfl dX7_beside_71 ?_
            refine lv_iload hx hb dX7_beside_74 (lv_at hl 1 rfl) ?_
            refine lv_iload hx hb dX7_beside_76 (lv_at hl 0 rfl) ?_
            obtain ⟨r_12, h_11, hf⟩ := bd_s hf
            refine ca_V (As := [.int r_8, .int r_10]) (rest := []) ⟨hx, hb, hml, hown, hts⟩ ⟨hK, hN⟩ hP (c_Cl_shortestBetween l E pr0 pr1 pr2 pr3 pl0 pl1 pl2 pl3 pl4 pa0 pa1 pr_greatestDelay pr_delays pr_fractions pr_heads pl_places pl_links pl_mostDrawn pl_ofTen pl_z pl_lengths pl_told pl_delays pl_fractions pa_sums r_8 r_10 r_12 h_11) [17, 18, 19, 20, 10, 11, 12, 13, 14, 15, 16] rfl 1 17 rfl rfl rfl gX7_beside_X1_shortestBetween rfl rfl rfl rfl hd_Cl_shortestBetween ⟨(Nat.le_of_ble_eq_true rfl), (Nat.le_of_ble_eq_true rfl)⟩ rfl hl.1 rfl (Nat.le_of_ble_eq_true rfl) dX7_beside_78 ⟨(Nat.zero_le _), (Nat.zero_le _)⟩ ?_
            exact hret ls 81 r_12 dX7_beside_81 (Option.some.inj hf)
          · have hf := ite_t c_15 hf
            refine lv_aload_n hx hb dX7_beside_56 rfl (lv_at hl 2 rfl) ?_
            refine va_get (D := E.1) (ci := 7) (v := .ref pr0) (C := RX7) (T := TX7) (N := 7) hx hb hts in_X7_beside_X7 hown hK hP 0 rfl rfl 4 (by decide) q_0 (fun _ h9 => h9) rfl dX7_beside_57 ?_
            refine lv_iload hx hb dX7_beside_60 (lv_at hl 1 rfl) ?_
            refine lv_iload hx hb dX7_beside_62 (lv_at hl 0 rfl) ?_
            obtain ⟨r_14, h_13, hf⟩ := bd_s hf
            refine ca_V (As := [.int r_8, .int r_10]) (rest := []) ⟨hx, hb, hml, hown, hts⟩ ⟨hK, hN⟩ hP (c_Cl_cutLinksBetween l E pr0 pr1 pr2 pr3 pl0 pl1 pl2 pl3 pl4 pa0 pa1 pr_greatestDelay pr_delays pr_fractions pr_heads pl_places pl_links pl_mostDrawn pl_ofTen pl_z pl_lengths pl_told pl_delays pl_fractions pa_sums r_8 r_10 r_14 h_13) [17, 18, 19, 20, 10, 11, 12, 13, 14, 15, 16] rfl 1 17 rfl rfl rfl gX7_beside_X1_cutLinksBetween rfl rfl rfl rfl hd_Cl_cutLinksBetween ⟨(Nat.le_of_ble_eq_true rfl), (Nat.le_of_ble_eq_true rfl)⟩ rfl hl.1 rfl (Nat.le_of_ble_eq_true rfl) dX7_beside_64 ⟨(Nat.zero_le _), (Nat.zero_le _)⟩ ?_
            refine lv_goto (tgt := 81) hx hb dX7_beside_67 (by decide) ?_
            exact hret ls 81 r_14 dX7_beside_81 (Option.some.inj hf)
        · have hf := ite_t c_16 hf
          refine lv_iconst (v := (-1)) hx hb dX7_beside_30 (by decide) ?_
          exact hret ls 31 (-1) dX7_beside_31 (Option.some.inj hf)
abbrev rm_Dc_tried : Room := { frames := 4, cells := 0, slots := 0, locals := 91 }
theorem hd_Dc_tried : hdOK yX7_tried 2 := by decide +kernel
theorem in_X7_tried_X7 : ∀ w ∈ wsX70, w ∈ wsX7_tried := by decide +kernel
set_option maxRecDepth 100000 in
set_option maxHeartbeats 4000000 in
theorem c_Dc_tried (l : Launch) (E : En4) (dc0 le0 le1 rd0 rd1 dr0 dr1 dr2 dr3 dr4 pl0 pl1 pl2 pl3 pl4 pa0 pa1 pr0 pr1 pr2 pr3 tr0 tr1 tr2 tr3 pt0 pt1 ca0 cb0 cc0 cd0 : Nat) (sz : Nat) (le_length : Int32) (le_signs : Nat → Int32) (rd_numbers : Nat → Int32) (dr_places : Int32) (dr_links : Int32) (dr_mostDrawn : Int32) (dr_ofTen : Int32) (dr_z : Int32) (dr_lengths : Nat → Int32) (dr_told : Nat → Int32) (dr_delays : Nat → Int32) (dr_fractions : Nat → Int32) (pl_places : Int32) (pl_links : Int32) (pl_mostDrawn : Int32) (pl_ofTen : Int32) (pl_z : Int32) (pl_lengths : Nat → Int32) (pl_told : Nat → Int32) (pl_delays : Nat → Int32) (pl_fractions : Nat → Int32) (pa_sums : Nat → Int32) (pr_greatestDelay : Int32) (pr_delays : Nat → Int32) (pr_fractions : Nat → Int32) (pr_heads : Nat → Int32) (tr_greatestDelay : Int32) (tr_delays : Nat → Int32) (tr_fractions : Nat → Int32) (tr_heads : Nat → Int32) (pt_next : Int32) (pt_kept : Int32) (hk_kind : Nat → Int32) (hk_i : Nat → Int32) (hk_j : Nat → Int32) (hk_length : Nat → Int32) (hk_wasTold : Nat → Int32) (hk_d : Nat → Int32) (hk_f : Nat → Int32) (hk_z : Nat → Int32) (a1 : Int32) (a2 : Int32)  (res : Int32 × Int32 × (Nat → Int32) × (Nat → Int32) × (Nat → Int32)) (hf : Dc_tried pl_places pl_mostDrawn pl_ofTen pl_lengths pl_told pl_delays pl_fractions pa_sums tr_greatestDelay tr_delays tr_fractions tr_heads a1 a2 = some res) : Met l yX7_tried wsX7_tried rm_Dc_tried (pcM [.ref dc0, .int a1, .int a2] E sz (w_Dc E dc0 le0 le1 rd0 rd1 dr0 dr1 dr2 dr3 dr4 pl0 pl1 pl2 pl3 pl4 pa0 pa1 pr0 pr1 pr2 pr3 tr0 tr1 tr2 tr3 pt0 pt1 ca0 cb0 cc0 cd0 le_length le_signs rd_numbers dr_places dr_links dr_mostDrawn dr_ofTen dr_z dr_lengths dr_told dr_delays dr_fractions pl_places pl_links pl_mostDrawn pl_ofTen pl_z pl_lengths pl_told pl_delays pl_fractions pa_sums pr_greatestDelay pr_delays pr_fractions pr_heads tr_greatestDelay tr_delays tr_fractions tr_heads pt_next pt_kept hk_kind hk_i hk_j hk_length hk_wasTold hk_d hk_f hk_z)) (QMi E sz (w_Dc E dc0 le0 le1 rd0 rd1 dr0 dr1 dr2 dr3 dr4 pl0 pl1 pl2 pl3 pl4 pa0 pa1 pr0 pr1 pr2 pr3 tr0 tr1 tr2 tr3 pt0 pt1 ca0 cb0 cc0 cd0 le_length le_signs rd_numbers dr_places dr_links dr_mostDrawn dr_ofTen dr_z dr_lengths dr_told dr_delays dr_fractions pl_places pl_links pl_mostDrawn pl_ofTen pl_z pl_lengths pl_told pl_delays pl_fractions pa_sums pr_greatestDelay pr_delays pr_fractions pr_heads tr_greatestDelay tr_delays tr_fractions tr_heads pt_next pt_kept hk_kind hk_i hk_j hk_length hk_wasTold hk_d hk_f hk_z) (fun (u : Int32 × (Nat → Int32) × (Nat → Int32) × (Nat → Int32)) => (w_Dc E dc0 le0 le1 rd0 rd1 dr0 dr1 dr2 dr3 dr4 pl0 pl1 pl2 pl3 pl4 pa0 pa1 pr0 pr1 pr2 pr3 tr0 tr1 tr2 tr3 pt0 pt1 ca0 cb0 cc0 cd0 le_length le_signs rd_numbers dr_places dr_links dr_mostDrawn dr_ofTen dr_z dr_lengths dr_told dr_delays dr_fractions pl_places pl_links pl_mostDrawn pl_ofTen pl_z pl_lengths pl_told pl_delays pl_fractions pa_sums pr_greatestDelay pr_delays pr_fractions pr_heads u.1 u.2.1 u.2.2.1 u.2.2.2 pt_next pt_kept hk_kind hk_i hk_j hk_length hk_wasTold hk_d hk_f hk_z)) res) 0 0 (va_A (w_Dc E dc0 le0 le1 rd0 rd1 dr0 dr1 dr2 dr3 dr4 pl0 pl1 pl2 pl3 pl4 pa0 pa1 pr0 pr1 pr2 pr3 tr0 tr1 tr2 tr3 pt0 pt1 ca0 cb0 cc0 cd0 le_length le_signs rd_numbers dr_places dr_links dr_mostDrawn dr_ofTen dr_z dr_lengths dr_told dr_delays dr_fractions pl_places pl_links pl_mostDrawn pl_ofTen pl_z pl_lengths pl_told pl_delays pl_fractions pa_sums pr_greatestDelay pr_delays pr_fractions pr_heads tr_greatestDelay tr_delays tr_fractions tr_heads pt_next pt_kept hk_kind hk_i hk_j hk_length hk_wasTold hk_d hk_f hk_z) sz) := by
  refine mk_Mi (cc := cX7_tried) (maxL := 3) (by decide) rfl (Nat.le_of_ble_eq_true rfl) ?_
  intro p e s m args below meth c Q A S hKN hA hret H locs ls hP hD hS hl
  obtain ⟨hx, hb, hml, hown, hts⟩ := S
  obtain ⟨hK, hN⟩ := hKN
  have hl : lv_has ls 3 [(0, .ref dc0), (1, .int a1), (2, .int a2)] := hl
  have q_0 := hts (.fieldLink RX7 46 "DelayClusters" "trial" "LDelayClusters$Clustering;") (by decide +kernel)
  unfold Dc_tried at hf
  refine lv_iload_n hx hb dX7_tried_0 rfl (lv_at hl 1 rfl) ?_
  refine lv_iconst (v := 0) hx hb dX7_tried_1 (by decide) ?_
  refine lv_sipush (v := 9999) hx hb dX7_tried_2 (by decide) ?_
  obtain ⟨r_2, h_1, hf⟩ := bd_s hf
  refine ca_S (As := [.int a1, .int 0, .int 9999]) (rest := []) ⟨hx, hb, hml, hown, hts⟩ ⟨hK, hN⟩ hP (c_Dc_isWithin l E   a1 0 9999 r_2 h_1) [] rfl gX7_tried_X7_isWithin rfl rfl rfl hd_Dc_isWithin ⟨(Nat.le_of_ble_eq_true rfl), (Nat.le_of_ble_eq_true rfl)⟩ rfl hl.1 rfl (Nat.le_of_ble_eq_true rfl) dX7_tried_5 ⟨(Nat.zero_le _), (Nat.zero_le _)⟩ ?_
  refine lv_if_eq (tgt := 20) hx hb dX7_tried_8 (by decide) (fun c_22 => ?_) (fun c_22 => ?_)
  · have hf := ite_t c_22 hf
    refine lv_iconst (v := (-1)) hx hb dX7_tried_20 (by decide) ?_
    exact hret H locs ls 21 (-1) (tr_greatestDelay, tr_delays, tr_fractions, tr_heads) dX7_tried_21 (Option.some.inj hf) hP hD hS
  · have hf := ite_f c_22 hf
    refine lv_iload_n hx hb dX7_tried_11 rfl (lv_at hl 2 rfl) ?_
    refine lv_iconst (v := 0) hx hb dX7_tried_12 (by decide) ?_
    refine lv_iconst (v := 3) hx hb dX7_tried_13 (by decide) ?_
    obtain ⟨r_4, h_3, hf⟩ := bd_s hf
    refine ca_S (As := [.int a2, .int 0, .int 3]) (rest := []) ⟨hx, hb, hml, hown, hts⟩ ⟨hK, hN⟩ hP (c_Dc_isWithin l E   a2 0 3 r_4 h_3) [] rfl gX7_tried_X7_isWithin rfl rfl rfl hd_Dc_isWithin ⟨(Nat.le_of_ble_eq_true rfl), (Nat.le_of_ble_eq_true rfl)⟩ rfl hl.1 rfl (Nat.le_of_ble_eq_true rfl) dX7_tried_14 ⟨(Nat.zero_le _), (Nat.zero_le _)⟩ ?_
    refine lv_if_ne (tgt := 22) hx hb dX7_tried_17 (by decide) (fun c_21 => ?_) (fun c_21 => ?_)
    · have hf := ite_f c_21 hf
      refine lv_aload_n hx hb dX7_tried_22 rfl (lv_at hl 0 rfl) ?_
      refine va_get (D := E.1) (ci := 7) (v := .ref tr0) (C := RX7) (T := TX7) (N := 7) hx hb hts in_X7_tried_X7 hown hK hP 0 rfl rfl 5 (by decide) q_0 (fun _ h9 => h9) rfl dX7_tried_23 ?_
      refine lv_iload_n hx hb dX7_tried_26 rfl (lv_at hl 1 rfl) ?_
      obtain ⟨⟨tr_greatestDelay_6, tr_delays_7, tr_fractions_8, tr_heads_9⟩, h_5, hf⟩ := bd_s hf
      try dsimp only at hf
      refine ca_Mv (w2 := (w_Dc E dc0 le0 le1 rd0 rd1 dr0 dr1 dr2 dr3 dr4 pl0 pl1 pl2 pl3 pl4 pa0 pa1 pr0 pr1 pr2 pr3 tr0 tr1 tr2 tr3 pt0 pt1 ca0 cb0 cc0 cd0 le_length le_signs rd_numbers dr_places dr_links dr_mostDrawn dr_ofTen dr_z dr_lengths dr_told dr_delays dr_fractions pl_places pl_links pl_mostDrawn pl_ofTen pl_z pl_lengths pl_told pl_delays pl_fractions pa_sums pr_greatestDelay pr_delays pr_fractions pr_heads tr_greatestDelay_6 tr_delays_7 tr_fractions_8 tr_heads_9 pt_next pt_kept hk_kind hk_i hk_j hk_length hk_wasTold hk_d hk_f hk_z)) (As := [.int a1]) (rest := []) ⟨hx, hb, hml, hown, hts⟩ ⟨hK, hN⟩ hP hD hS hA (c_Cl_settleBy l E tr0 tr1 tr2 tr3 pl0 pl1 pl2 pl3 pl4 pa0 pa1 H.size tr_greatestDelay tr_delays tr_fractions tr_heads pl_places pl_links pl_mostDrawn pl_ofTen pl_z pl_lengths pl_told pl_delays pl_fractions pa_sums a1 (tr_greatestDelay_6, tr_delays_7, tr_fractions_8, tr_heads_9) h_5) [21, 22, 23, 24, 10, 11, 12, 13, 14, 15, 16] [0, 1, 2, 3, 4, 5, 6, 7, 8, 9, 17, 18, 19, 20, 25, 26, 27, 28, 29, 30] [0, 1, 2, 3, 4, 5, 6, 7, 8, 9, 24, 25, 26, 27, 28, 29, 30, 10, 11, 12, 13, 20, 21, 22, 23, 14, 15, 16, 17, 18, 19] rfl rfl rfl rfl (by decide) rfl rfl 1 21 rfl rfl rfl gX7_tried_X1_settleBy rfl rfl rfl rfl hd_Cl_settleBy ⟨(Nat.le_of_ble_eq_true rfl), (Nat.le_of_ble_eq_true rfl)⟩ rfl hl.1 rfl (Nat.le_of_ble_eq_true rfl) dX7_tried_27 ⟨(Nat.zero_le _), (Nat.zero_le _)⟩ (fun H locs hP hD hS => ?_)
      refine lv_iload_n hx hb dX7_tried_30 rfl (lv_at hl 2 rfl) ?_
      by_cases c_12 : a2 = 0
      · have hf := ite_t c_12 hf
        refine lv_tableIn (off := 25) (tgt := 56) hx hb dX7_tried_31 (by rw [c_12]; decide) (by rw [c_12]; decide) (by rw [c_12]; rfl) (by decide) ?_
        refine lv_aload_n hx hb dX7_tried_56 rfl (lv_at hl 0 rfl) ?_
        refine va_get (D := E.1) (ci := 7) (v := .ref tr0) (C := RX7) (T := TX7) (N := 7) hx hb hts in_X7_tried_X7 hown hK hP 0 rfl rfl 5 (by decide) q_0 (fun _ h9 => h9) rfl dX7_tried_57 ?_
        obtain ⟨r_11, h_10, hf⟩ := bd_s hf
        refine ca_V (As := []) (rest := []) ⟨hx, hb, hml, hown, hts⟩ ⟨hK, hN⟩ hP (c_Cl_clusters l E tr0 tr1 tr2 tr3 pl0 pl1 pl2 pl3 pl4 pa0 pa1 tr_greatestDelay_6 tr_delays_7 tr_fractions_8 tr_heads_9 pl_places pl_links pl_mostDrawn pl_ofTen pl_z pl_lengths pl_told pl_delays pl_fractions pa_sums r_11 h_10) [21, 22, 23, 24, 10, 11, 12, 13, 14, 15, 16] rfl 1 21 rfl rfl rfl gX7_tried_X1_clusters rfl rfl rfl rfl hd_Cl_clusters ⟨(Nat.le_of_ble_eq_true rfl), (Nat.le_of_ble_eq_true rfl)⟩ rfl hl.1 rfl (Nat.le_of_ble_eq_true rfl) dX7_tried_60 ⟨(Nat.zero_le _), (Nat.zero_le _)⟩ ?_
        refine lv_goto (tgt := 93) hx hb dX7_tried_63 (by decide) ?_
        exact hret H locs ls 93 r_11 (tr_greatestDelay_6, tr_delays_7, tr_fractions_8, tr_heads_9) dX7_tried_93 (Option.some.inj hf) hP hD hS
      · have hf := ite_f c_12 hf
        by_cases c_15 : a2 = 1
        · have hf := ite_t c_15 hf
          refine lv_tableIn (off := 35) (tgt := 66) hx hb dX7_tried_31 (by rw [c_15]; decide) (by rw [c_15]; decide) (by rw [c_15]; rfl) (by decide) ?_
          refine lv_aload_n hx hb dX7_tried_66 rfl (lv_at hl 0 rfl) ?_
          refine va_get (D := E.1) (ci := 7) (v := .ref tr0) (C := RX7) (T := TX7) (N := 7) hx hb hts in_X7_tried_X7 hown hK hP 0 rfl rfl 5 (by decide) q_0 (fun _ h9 => h9) rfl dX7_tried_67 ?_
          obtain ⟨r_14, h_13, hf⟩ := bd_s hf
          refine ca_V (As := []) (rest := []) ⟨hx, hb, hml, hown, hts⟩ ⟨hK, hN⟩ hP (c_Cl_cutLinks l E tr0 tr1 tr2 tr3 pl0 pl1 pl2 pl3 pl4 pa0 pa1 tr_greatestDelay_6 tr_delays_7 tr_fractions_8 tr_heads_9 pl_places pl_links pl_mostDrawn pl_ofTen pl_z pl_lengths pl_told pl_delays pl_fractions pa_sums r_14 h_13) [21, 22, 23, 24, 10, 11, 12, 13, 14, 15, 16] rfl 1 21 rfl rfl rfl gX7_tried_X1_cutLinks rfl rfl rfl rfl hd_Cl_cutLinks ⟨(Nat.le_of_ble_eq_true rfl), (Nat.le_of_ble_eq_true rfl)⟩ rfl hl.1 rfl (Nat.le_of_ble_eq_true rfl) dX7_tried_70 ⟨(Nat.zero_le _), (Nat.zero_le _)⟩ ?_
          refine lv_goto (tgt := 93) hx hb dX7_tried_73 (by decide) ?_
          exact hret H locs ls 93 r_14 (tr_greatestDelay_6, tr_delays_7, tr_fractions_8, tr_heads_9) dX7_tried_93 (Option.some.inj hf) hP hD hS
        · have hf := ite_f c_15 hf
          by_cases c_18 : a2 = 2
          · have hf := ite_t c_18 hf
            refine lv_tableIn (off := 45) (tgt := 76) hx hb dX7_tried_31 (by rw [c_18]; decide) (by rw [c_18]; decide) (by rw [c_18]; rfl) (by decide) ?_
            refine lv_aload_n hx hb dX7_tried_76 rfl (lv_at hl 0 rfl) ?_
            refine va_get (D := E.1) (ci := 7) (v := .ref tr0) (C := RX7) (T := TX7) (N := 7) hx hb hts in_X7_tried_X7 hown hK hP 0 rfl rfl 5 (by decide) q_0 (fun _ h9 => h9) rfl dX7_tried_77 ?_
            obtain ⟨r_17, h_16, hf⟩ := bd_s hf
            refine ca_V (As := []) (rest := []) ⟨hx, hb, hml, hown, hts⟩ ⟨hK, hN⟩ hP (c_Cl_greatestWide l E tr0 tr1 tr2 tr3 pl0 pl1 pl2 pl3 pl4 pa0 pa1 tr_greatestDelay_6 tr_delays_7 tr_fractions_8 tr_heads_9 pl_places pl_links pl_mostDrawn pl_ofTen pl_z pl_lengths pl_told pl_delays pl_fractions pa_sums r_17 h_16) [21, 22, 23, 24, 10, 11, 12, 13, 14, 15, 16] rfl 1 21 rfl rfl rfl gX7_tried_X1_greatestWide rfl rfl rfl rfl hd_Cl_greatestWide ⟨(Nat.le_of_ble_eq_true rfl), (Nat.le_of_ble_eq_true rfl)⟩ rfl hl.1 rfl (Nat.le_of_ble_eq_true rfl) dX7_tried_80 ⟨(Nat.zero_le _), (Nat.zero_le _)⟩ ?_
            refine lv_goto (tgt := 93) hx hb dX7_tried_83 (by decide) ?_
            exact hret H locs ls 93 r_17 (tr_greatestDelay_6, tr_delays_7, tr_fractions_8, tr_heads_9) dX7_tried_93 (Option.some.inj hf) hP hD hS
          · have hf := ite_f c_18 hf
            refine lv_tableOut (tgt := 86) hx hb dX7_tried_31 (by have e_12 := lv_neT (a := 0) c_12 (by decide); have e_15 := lv_neT (a := 1) c_15 (by decide); have e_18 := lv_neT (a := 2) c_18 (by decide); omega) (by decide) ?_
            refine lv_aload_n hx hb dX7_tried_86 rfl (lv_at hl 0 rfl) ?_
            refine va_get (D := E.1) (ci := 7) (v := .ref tr0) (C := RX7) (T := TX7) (N := 7) hx hb hts in_X7_tried_X7 hown hK hP 0 rfl rfl 5 (by decide) q_0 (fun _ h9 => h9) rfl dX7_tried_87 ?_
            obtain ⟨r_20, h_19, hf⟩ := bd_s hf
            refine ca_V (As := []) (rest := []) ⟨hx, hb, hml, hown, hts⟩ ⟨hK, hN⟩ hP (c_Cl_lastHour l E tr0 tr1 tr2 tr3 pl0 pl1 pl2 pl3 pl4 pa0 pa1 tr_greatestDelay_6 tr_delays_7 tr_fractions_8 tr_heads_9 pl_places pl_links pl_mostDrawn pl_ofTen pl_z pl_lengths pl_told pl_delays pl_fractions pa_sums r_20 h_19) [21, 22, 23, 24, 10, 11, 12, 13, 14, 15, 16] rfl 1 21 rfl rfl rfl gX7_tried_X1_lastHour rfl rfl rfl rfl hd_Cl_lastHour ⟨(Nat.le_of_ble_eq_true rfl), (Nat.le_of_ble_eq_true rfl)⟩ rfl hl.1 rfl (Nat.le_of_ble_eq_true rfl) dX7_tried_90 ⟨(Nat.zero_le _), (Nat.zero_le _)⟩ ?_
            exact hret H locs ls 93 r_20 (tr_greatestDelay_6, tr_delays_7, tr_fractions_8, tr_heads_9) dX7_tried_93 (Option.some.inj hf) hP hD hS
    · have hf := ite_t c_21 hf
      refine lv_iconst (v := (-1)) hx hb dX7_tried_20 (by decide) ?_
      exact hret H locs ls 21 (-1) (tr_greatestDelay, tr_delays, tr_fractions, tr_heads) dX7_tried_21 (Option.some.inj hf) hP hD hS
abbrev rm_Dc_best : Room := { frames := 4, cells := 0, slots := 0, locals := 91 }
theorem hd_Dc_best : hdOK yX7_best 3 := by decide +kernel
theorem in_X7_best_X7 : ∀ w ∈ wsX70, w ∈ wsX7_best := by decide +kernel
set_option maxRecDepth 100000 in
set_option maxHeartbeats 4000000 in
theorem c_Dc_best (l : Launch) (E : En4) (dc0 le0 le1 rd0 rd1 dr0 dr1 dr2 dr3 dr4 pl0 pl1 pl2 pl3 pl4 pa0 pa1 pr0 pr1 pr2 pr3 tr0 tr1 tr2 tr3 pt0 pt1 ca0 cb0 cc0 cd0 : Nat) (sz : Nat) (le_length : Int32) (le_signs : Nat → Int32) (rd_numbers : Nat → Int32) (dr_places : Int32) (dr_links : Int32) (dr_mostDrawn : Int32) (dr_ofTen : Int32) (dr_z : Int32) (dr_lengths : Nat → Int32) (dr_told : Nat → Int32) (dr_delays : Nat → Int32) (dr_fractions : Nat → Int32) (pl_places : Int32) (pl_links : Int32) (pl_mostDrawn : Int32) (pl_ofTen : Int32) (pl_z : Int32) (pl_lengths : Nat → Int32) (pl_told : Nat → Int32) (pl_delays : Nat → Int32) (pl_fractions : Nat → Int32) (pa_sums : Nat → Int32) (pr_greatestDelay : Int32) (pr_delays : Nat → Int32) (pr_fractions : Nat → Int32) (pr_heads : Nat → Int32) (tr_greatestDelay : Int32) (tr_delays : Nat → Int32) (tr_fractions : Nat → Int32) (tr_heads : Nat → Int32) (pt_next : Int32) (pt_kept : Int32) (hk_kind : Nat → Int32) (hk_i : Nat → Int32) (hk_j : Nat → Int32) (hk_length : Nat → Int32) (hk_wasTold : Nat → Int32) (hk_d : Nat → Int32) (hk_f : Nat → Int32) (hk_z : Nat → Int32) (a1 : Int32) (a2 : Int32) (a3 : Int32)  (res : Int32 × Int32 × (Nat → Int32) × (Nat → Int32) × (Nat → Int32)) (hf : Dc_best pl_places pl_mostDrawn pl_ofTen pl_lengths pl_told pl_delays pl_fractions pa_sums tr_greatestDelay tr_delays tr_fractions tr_heads a1 a2 a3 = some res) : Met l yX7_best wsX7_best rm_Dc_best (pcM [.ref dc0, .int a1, .int a2, .int a3] E sz (w_Dc E dc0 le0 le1 rd0 rd1 dr0 dr1 dr2 dr3 dr4 pl0 pl1 pl2 pl3 pl4 pa0 pa1 pr0 pr1 pr2 pr3 tr0 tr1 tr2 tr3 pt0 pt1 ca0 cb0 cc0 cd0 le_length le_signs rd_numbers dr_places dr_links dr_mostDrawn dr_ofTen dr_z dr_lengths dr_told dr_delays dr_fractions pl_places pl_links pl_mostDrawn pl_ofTen pl_z pl_lengths pl_told pl_delays pl_fractions pa_sums pr_greatestDelay pr_delays pr_fractions pr_heads tr_greatestDelay tr_delays tr_fractions tr_heads pt_next pt_kept hk_kind hk_i hk_j hk_length hk_wasTold hk_d hk_f hk_z)) (QMi E sz (w_Dc E dc0 le0 le1 rd0 rd1 dr0 dr1 dr2 dr3 dr4 pl0 pl1 pl2 pl3 pl4 pa0 pa1 pr0 pr1 pr2 pr3 tr0 tr1 tr2 tr3 pt0 pt1 ca0 cb0 cc0 cd0 le_length le_signs rd_numbers dr_places dr_links dr_mostDrawn dr_ofTen dr_z dr_lengths dr_told dr_delays dr_fractions pl_places pl_links pl_mostDrawn pl_ofTen pl_z pl_lengths pl_told pl_delays pl_fractions pa_sums pr_greatestDelay pr_delays pr_fractions pr_heads tr_greatestDelay tr_delays tr_fractions tr_heads pt_next pt_kept hk_kind hk_i hk_j hk_length hk_wasTold hk_d hk_f hk_z) (fun (u : Int32 × (Nat → Int32) × (Nat → Int32) × (Nat → Int32)) => (w_Dc E dc0 le0 le1 rd0 rd1 dr0 dr1 dr2 dr3 dr4 pl0 pl1 pl2 pl3 pl4 pa0 pa1 pr0 pr1 pr2 pr3 tr0 tr1 tr2 tr3 pt0 pt1 ca0 cb0 cc0 cd0 le_length le_signs rd_numbers dr_places dr_links dr_mostDrawn dr_ofTen dr_z dr_lengths dr_told dr_delays dr_fractions pl_places pl_links pl_mostDrawn pl_ofTen pl_z pl_lengths pl_told pl_delays pl_fractions pa_sums pr_greatestDelay pr_delays pr_fractions pr_heads u.1 u.2.1 u.2.2.1 u.2.2.2 pt_next pt_kept hk_kind hk_i hk_j hk_length hk_wasTold hk_d hk_f hk_z)) res) 0 0 (va_A (w_Dc E dc0 le0 le1 rd0 rd1 dr0 dr1 dr2 dr3 dr4 pl0 pl1 pl2 pl3 pl4 pa0 pa1 pr0 pr1 pr2 pr3 tr0 tr1 tr2 tr3 pt0 pt1 ca0 cb0 cc0 cd0 le_length le_signs rd_numbers dr_places dr_links dr_mostDrawn dr_ofTen dr_z dr_lengths dr_told dr_delays dr_fractions pl_places pl_links pl_mostDrawn pl_ofTen pl_z pl_lengths pl_told pl_delays pl_fractions pa_sums pr_greatestDelay pr_delays pr_fractions pr_heads tr_greatestDelay tr_delays tr_fractions tr_heads pt_next pt_kept hk_kind hk_i hk_j hk_length hk_wasTold hk_d hk_f hk_z) sz) := by
  refine mk_Mi (cc := cX7_best) (maxL := 8) (by decide) rfl (Nat.le_of_ble_eq_true rfl) ?_
  intro p e s m args below meth c Q A S hKN hA hret H locs ls hP hD hS hl
  obtain ⟨hx, hb, hml, hown, hts⟩ := S
  obtain ⟨hK, hN⟩ := hKN
  have hl : lv_has ls 8 [(0, .ref dc0), (1, .int a1), (2, .int a2), (3, .int a3)] := hl
  have q_0 := hts (.fieldLink RX7 46 "DelayClusters" "trial" "LDelayClusters$Clustering;") (by decide +kernel)
  unfold Dc_best at hf
  refine lv_iload_n hx hb dX7_best_0 rfl (lv_at hl 1 rfl) ?_
  refine lv_iconst (v := 1) hx hb dX7_best_1 (by decide) ?_
  refine lv_bipush (v := 60) hx hb dX7_best_2 (by decide) ?_
  obtain ⟨r_2, h_1, hf⟩ := bd_s hf
  refine ca_S (As := [.int a1, .int 1, .int 60]) (rest := []) ⟨hx, hb, hml, hown, hts⟩ ⟨hK, hN⟩ hP (c_Dc_isWithin l E   a1 1 60 r_2 h_1) [] rfl gX7_best_X7_isWithin rfl rfl rfl hd_Dc_isWithin ⟨(Nat.le_of_ble_eq_true rfl), (Nat.le_of_ble_eq_true rfl)⟩ rfl hl.1 rfl (Nat.le_of_ble_eq_true rfl) dX7_best_4 ⟨(Nat.zero_le _), (Nat.zero_le _)⟩ ?_
  refine lv_if_eq (tgt := 30) hx hb dX7_best_7 (by decide) (fun c_36 => ?_) (fun c_36 => ?_)
  · have hf := ite_t c_36 hf
    refine lv_iconst (v := (-1)) hx hb dX7_best_30 (by decide) ?_
    exact hret H locs ls 31 (-1) (tr_greatestDelay, tr_delays, tr_fractions, tr_heads) dX7_best_31 (Option.some.inj hf) hP hD hS
  · have hf := ite_f c_36 hf
    refine lv_iload_n hx hb dX7_best_10 rfl (lv_at hl 2 rfl) ?_
    refine lv_iconst (v := 0) hx hb dX7_best_11 (by decide) ?_
    refine lv_sipush (v := 200) hx hb dX7_best_12 (by decide) ?_
    obtain ⟨r_4, h_3, hf⟩ := bd_s hf
    refine ca_S (As := [.int a2, .int 0, .int 200]) (rest := []) ⟨hx, hb, hml, hown, hts⟩ ⟨hK, hN⟩ hP (c_Dc_isWithin l E   a2 0 200 r_4 h_3) [] rfl gX7_best_X7_isWithin rfl rfl rfl hd_Dc_isWithin ⟨(Nat.le_of_ble_eq_true rfl), (Nat.le_of_ble_eq_true rfl)⟩ rfl hl.1 rfl (Nat.le_of_ble_eq_true rfl) dX7_best_15 ⟨(Nat.zero_le _), (Nat.zero_le _)⟩ ?_
    refine lv_if_eq (tgt := 30) hx hb dX7_best_18 (by decide) (fun c_35 => ?_) (fun c_35 => ?_)
    · have hf := ite_t c_35 hf
      refine lv_iconst (v := (-1)) hx hb dX7_best_30 (by decide) ?_
      exact hret H locs ls 31 (-1) (tr_greatestDelay, tr_delays, tr_fractions, tr_heads) dX7_best_31 (Option.some.inj hf) hP hD hS
    · have hf := ite_f c_35 hf
      refine lv_iload_n hx hb dX7_best_21 rfl (lv_at hl 3 rfl) ?_
      refine lv_iconst (v := 0) hx hb dX7_best_22 (by decide) ?_
      refine lv_iconst (v := 1) hx hb dX7_best_23 (by decide) ?_
      obtain ⟨r_6, h_5, hf⟩ := bd_s hf
      refine ca_S (As := [.int a3, .int 0, .int 1]) (rest := []) ⟨hx, hb, hml, hown, hts⟩ ⟨hK, hN⟩ hP (c_Dc_isWithin l E   a3 0 1 r_6 h_5) [] rfl gX7_best_X7_isWithin rfl rfl rfl hd_Dc_isWithin ⟨(Nat.le_of_ble_eq_true rfl), (Nat.le_of_ble_eq_true rfl)⟩ rfl hl.1 rfl (Nat.le_of_ble_eq_true rfl) dX7_best_24 ⟨(Nat.zero_le _), (Nat.zero_le _)⟩ ?_
      refine lv_if_ne (tgt := 32) hx hb dX7_best_27 (by decide) (fun c_34 => ?_) (fun c_34 => ?_)
      · have hf := ite_f c_34 hf
        refine lv_bipush (v := (-4)) hx hb dX7_best_32 (by decide) ?_
        refine lv_istore (lv' := [(4, .int (-4)), (0, .ref dc0), (1, .int a1), (2, .int a2), (3, .int a3)]) hx hb dX7_best_34 hl (by decide) rfl (fun ls hl => ?_)
        refine lv_bipush (v := (-4)) hx hb dX7_best_36 (by decide) ?_
        refine lv_istore (lv' := [(5, .int (-4)), (4, .int (-4)), (0, .ref dc0), (1, .int a1), (2, .int a2), (3, .int a3)]) hx hb dX7_best_38 hl (by decide) rfl (fun ls hl => ?_)
        refine lv_iconst (v := 0) hx hb dX7_best_40 (by decide) ?_
        refine lv_istore (lv' := [(6, .int 0), (5, .int (-4)), (4, .int (-4)), (0, .ref dc0), (1, .int a1), (2, .int a2), (3, .int a3)]) hx hb dX7_best_41 hl (by decide) rfl (fun ls hl => ?_)
        obtain ⟨w_43, i_43, hf⟩ := bd_s hf
        have KX_43 : ∀ (v4_27 : Int32) (v5_28 : Int32) (tr_greatestDelay_29 : Int32) (tr_delays_30 : Nat → Int32) (tr_fractions_31 : Nat → Int32) (tr_heads_32 : Nat → Int32), (v4_27, v5_28, tr_greatestDelay_29, tr_delays_30, tr_fractions_31, tr_heads_32) = w_43 → ∀ (H : Heap) (locs : List Loc) (ls : Array Slot), va_P E.1 vwCl (w_Dc E dc0 le0 le1 rd0 rd1 dr0 dr1 dr2 dr3 dr4 pl0 pl1 pl2 pl3 pl4 pa0 pa1 pr0 pr1 pr2 pr3 tr0 tr1 tr2 tr3 pt0 pt1 ca0 cb0 cc0 cd0 le_length le_signs rd_numbers dr_places dr_links dr_mostDrawn dr_ofTen dr_z dr_lengths dr_told dr_delays dr_fractions pl_places pl_links pl_mostDrawn pl_ofTen pl_z pl_lengths pl_told pl_delays pl_fractions pa_sums pr_greatestDelay pr_delays pr_fractions pr_heads tr_greatestDelay_29 tr_delays_30 tr_fractions_31 tr_heads_32 pt_next pt_kept hk_kind hk_i hk_j hk_length hk_wasTold hk_d hk_f hk_z) H → va_D A (w_Dc E dc0 le0 le1 rd0 rd1 dr0 dr1 dr2 dr3 dr4 pl0 pl1 pl2 pl3 pl4 pa0 pa1 pr0 pr1 pr2 pr3 tr0 tr1 tr2 tr3 pt0 pt1 ca0 cb0 cc0 cd0 le_length le_signs rd_numbers dr_places dr_links dr_mostDrawn dr_ofTen dr_z dr_lengths dr_told dr_delays dr_fractions pl_places pl_links pl_mostDrawn pl_ofTen pl_z pl_lengths pl_told pl_delays pl_fractions pa_sums pr_greatestDelay pr_delays pr_fractions pr_heads tr_greatestDelay_29 tr_delays_30 tr_fractions_31 tr_heads_32 pt_next pt_kept hk_kind hk_i hk_j hk_length hk_wasTold hk_d hk_f hk_z) → va_S A s.heap H locs → lv_has ls 8 [(3, .int a3), (4, .int v4_27), (5, .int v5_28)] → W p l e rm_Dc_best s m args below meth c H locs 0 0 Q (F0 m 106 ls []) := by
          intro v4_27 v5_28 tr_greatestDelay_29 tr_delays_30 tr_fractions_31 tr_heads_32 e_
          subst e_
          try dsimp only at hf
          intro H locs ls hP hD hS hl
          refine lv_iload_n hx hb dX7_best_106 rfl (lv_at hl 0 rfl) ?_
          refine lv_if_ne (tgt := 115) hx hb dX7_best_107 (by decide) (fun c_33 => ?_) (fun c_33 => ?_)
          · have hf := ite_f c_33 hf
            refine lv_iload hx hb dX7_best_115 (lv_at hl 2 rfl) ?_
            exact hret H locs ls 117 v5_28 (tr_greatestDelay_29, tr_delays_30, tr_fractions_31, tr_heads_32) dX7_best_117 (Option.some.inj hf) hP hD hS
          · have hf := ite_t c_33 hf
            refine lv_iload hx hb dX7_best_110 (lv_at hl 1 rfl) ?_
            refine lv_goto (tgt := 117) hx hb dX7_best_112 (by decide) ?_
            exact hret H locs ls 117 v4_27 (tr_greatestDelay_29, tr_delays_30, tr_fractions_31, tr_heads_32) dX7_best_117 (Option.some.inj hf) hP hD hS
        have KL_43 : ∀ (n_ : Nat) (v4_7 : Int32) (v5_8 : Int32) (v6_9 : Int32) (tr_greatestDelay_10 : Int32) (tr_delays_11 : Nat → Int32) (tr_fractions_12 : Nat → Int32) (tr_heads_13 : Nat → Int32), it (Dc_best_L43 pl_places pl_mostDrawn pl_ofTen pl_lengths pl_told pl_delays pl_fractions pa_sums a1 a2) n_ (v4_7, v5_8, v6_9, tr_greatestDelay_10, tr_delays_11, tr_fractions_12, tr_heads_13) = some w_43 → ∀ (H : Heap) (locs : List Loc) (ls : Array Slot), va_P E.1 vwCl (w_Dc E dc0 le0 le1 rd0 rd1 dr0 dr1 dr2 dr3 dr4 pl0 pl1 pl2 pl3 pl4 pa0 pa1 pr0 pr1 pr2 pr3 tr0 tr1 tr2 tr3 pt0 pt1 ca0 cb0 cc0 cd0 le_length le_signs rd_numbers dr_places dr_links dr_mostDrawn dr_ofTen dr_z dr_lengths dr_told dr_delays dr_fractions pl_places pl_links pl_mostDrawn pl_ofTen pl_z pl_lengths pl_told pl_delays pl_fractions pa_sums pr_greatestDelay pr_delays pr_fractions pr_heads tr_greatestDelay_10 tr_delays_11 tr_fractions_12 tr_heads_13 pt_next pt_kept hk_kind hk_i hk_j hk_length hk_wasTold hk_d hk_f hk_z) H → va_D A (w_Dc E dc0 le0 le1 rd0 rd1 dr0 dr1 dr2 dr3 dr4 pl0 pl1 pl2 pl3 pl4 pa0 pa1 pr0 pr1 pr2 pr3 tr0 tr1 tr2 tr3 pt0 pt1 ca0 cb0 cc0 cd0 le_length le_signs rd_numbers dr_places dr_links dr_mostDrawn dr_ofTen dr_z dr_lengths dr_told dr_delays dr_fractions pl_places pl_links pl_mostDrawn pl_ofTen pl_z pl_lengths pl_told pl_delays pl_fractions pa_sums pr_greatestDelay pr_delays pr_fractions pr_heads tr_greatestDelay_10 tr_delays_11 tr_fractions_12 tr_heads_13 pt_next pt_kept hk_kind hk_i hk_j hk_length hk_wasTold hk_d hk_f hk_z) → va_S A s.heap H locs → lv_has ls 8 [(0, .ref dc0), (1, .int a1), (2, .int a2), (3, .int a3), (4, .int v4_7), (5, .int v5_8), (6, .int v6_9)] → W p l e rm_Dc_best s m args below meth c H locs 0 0 Q (F0 m 43 ls []) := by
          intro n_
          induction n_ with
          | zero => intro v4_7 v5_8 v6_9 tr_greatestDelay_10 tr_delays_11 tr_fractions_12 tr_heads_13 hit; exact (it_z hit).elim
          | succ n_43 ih_43 =>
            intro v4_7 v5_8 v6_9 tr_greatestDelay_10 tr_delays_11 tr_fractions_12 tr_heads_13 hit
            intro H locs ls hP hD hS hl
            obtain ⟨x_43, hf, hc_43, hq_43⟩ := it_s hit
            dsimp only [Dc_best_L43] at hf
            refine lv_iload hx hb dX7_best_43 (lv_at hl 6 rfl) ?_
            refine lv_iload_n hx hb dX7_best_45 rfl (lv_at hl 1 rfl) ?_
            refine lv_icmp_ge (tgt := 106) hx hb dX7_best_46 (by decide) (fun c_26 => ?_) (fun c_26 => ?_)
            · have hf := ite_t c_26 hf
              exact KX_43 v4_7 v5_8 tr_greatestDelay_10 tr_delays_11 tr_fractions_12 tr_heads_13 (hq_43 _ (Option.some.inj hf).symm) H locs _ hP hD hS (lv_sub hl [3, 4, 5] rfl)
            · have hf := ite_f c_26 hf
              refine lv_aload_n hx hb dX7_best_49 rfl (lv_at hl 0 rfl) ?_
              refine va_get (D := E.1) (ci := 7) (v := .ref tr0) (C := RX7) (T := TX7) (N := 7) hx hb hts in_X7_best_X7 hown hK hP 0 rfl rfl 5 (by decide) q_0 (fun _ h9 => h9) rfl dX7_best_50 ?_
              refine lv_iload hx hb dX7_best_53 (lv_at hl 6 rfl) ?_
              obtain ⟨⟨tr_greatestDelay_15, tr_delays_16, tr_fractions_17, tr_heads_18⟩, h_14, hf⟩ := bd_s hf
              try dsimp only at hf
              refine ca_Mv (w2 := (w_Dc E dc0 le0 le1 rd0 rd1 dr0 dr1 dr2 dr3 dr4 pl0 pl1 pl2 pl3 pl4 pa0 pa1 pr0 pr1 pr2 pr3 tr0 tr1 tr2 tr3 pt0 pt1 ca0 cb0 cc0 cd0 le_length le_signs rd_numbers dr_places dr_links dr_mostDrawn dr_ofTen dr_z dr_lengths dr_told dr_delays dr_fractions pl_places pl_links pl_mostDrawn pl_ofTen pl_z pl_lengths pl_told pl_delays pl_fractions pa_sums pr_greatestDelay pr_delays pr_fractions pr_heads tr_greatestDelay_15 tr_delays_16 tr_fractions_17 tr_heads_18 pt_next pt_kept hk_kind hk_i hk_j hk_length hk_wasTold hk_d hk_f hk_z)) (As := [.int v6_9]) (rest := []) ⟨hx, hb, hml, hown, hts⟩ ⟨hK, hN⟩ hP hD hS hA (c_Cl_settleBy l E tr0 tr1 tr2 tr3 pl0 pl1 pl2 pl3 pl4 pa0 pa1 H.size tr_greatestDelay_10 tr_delays_11 tr_fractions_12 tr_heads_13 pl_places pl_links pl_mostDrawn pl_ofTen pl_z pl_lengths pl_told pl_delays pl_fractions pa_sums v6_9 (tr_greatestDelay_15, tr_delays_16, tr_fractions_17, tr_heads_18) h_14) [21, 22, 23, 24, 10, 11, 12, 13, 14, 15, 16] [0, 1, 2, 3, 4, 5, 6, 7, 8, 9, 17, 18, 19, 20, 25, 26, 27, 28, 29, 30] [0, 1, 2, 3, 4, 5, 6, 7, 8, 9, 24, 25, 26, 27, 28, 29, 30, 10, 11, 12, 13, 20, 21, 22, 23, 14, 15, 16, 17, 18, 19] rfl rfl rfl rfl (by decide) rfl rfl 1 21 rfl rfl rfl gX7_best_X1_settleBy rfl rfl rfl rfl hd_Cl_settleBy ⟨(Nat.le_of_ble_eq_true rfl), (Nat.le_of_ble_eq_true rfl)⟩ rfl hl.1 rfl (Nat.le_of_ble_eq_true rfl) dX7_best_55 ⟨(Nat.zero_le _), (Nat.zero_le _)⟩ (fun H locs hP hD hS => ?_)
              refine lv_aload_n hx hb dX7_best_58 rfl (lv_at hl 0 rfl) ?_
              refine va_get (D := E.1) (ci := 7) (v := .ref tr0) (C := RX7) (T := TX7) (N := 7) hx hb hts in_X7_best_X7 hown hK hP 0 rfl rfl 5 (by decide) q_0 (fun _ h9 => h9) rfl dX7_best_59 ?_
              obtain ⟨r_20, h_19, hf⟩ := bd_s hf
              refine ca_V (As := []) (rest := []) ⟨hx, hb, hml, hown, hts⟩ ⟨hK, hN⟩ hP (c_Cl_greatestWide l E tr0 tr1 tr2 tr3 pl0 pl1 pl2 pl3 pl4 pa0 pa1 tr_greatestDelay_15 tr_delays_16 tr_fractions_17 tr_heads_18 pl_places pl_links pl_mostDrawn pl_ofTen pl_z pl_lengths pl_told pl_delays pl_fractions pa_sums r_20 h_19) [21, 22, 23, 24, 10, 11, 12, 13, 14, 15, 16] rfl 1 21 rfl rfl rfl gX7_best_X1_greatestWide rfl rfl rfl rfl hd_Cl_greatestWide ⟨(Nat.le_of_ble_eq_true rfl), (Nat.le_of_ble_eq_true rfl)⟩ rfl hl.1 rfl (Nat.le_of_ble_eq_true rfl) dX7_best_62 ⟨(Nat.zero_le _), (Nat.zero_le _)⟩ ?_
              refine lv_iload_n hx hb dX7_best_65 rfl (lv_at hl 2 rfl) ?_
              refine lv_icmp_gt (tgt := 100) hx hb dX7_best_66 (by decide) (fun c_25 => ?_) (fun c_25 => ?_)
              · have hf := ite_t c_25 hf
                refine lv_iinc (v := (v6_9 + 1)) (lv' := [(6, .int (v6_9 + 1)), (0, .ref dc0), (1, .int a1), (2, .int a2), (3, .int a3), (4, .int v4_7), (5, .int v5_8)]) hx hb dX7_best_100 hl (k := 6) rfl rfl (by decide) rfl (fun ls hl => ?_)
                refine lv_goto (tgt := 43) hx hb dX7_best_103 (by decide) ?_
                exact ih_43 v4_7 v5_8 (v6_9 + 1) tr_greatestDelay_15 tr_delays_16 tr_fractions_17 tr_heads_18 (hc_43 _ (Option.some.inj hf).symm) H locs _ hP hD hS (lv_sub hl [1, 2, 3, 4, 5, 6, 0] rfl)
              · have hf := ite_f c_25 hf
                refine lv_aload_n hx hb dX7_best_69 rfl (lv_at hl 0 rfl) ?_
                refine va_get (D := E.1) (ci := 7) (v := .ref tr0) (C := RX7) (T := TX7) (N := 7) hx hb hts in_X7_best_X7 hown hK hP 0 rfl rfl 5 (by decide) q_0 (fun _ h9 => h9) rfl dX7_best_70 ?_
                obtain ⟨r_22, h_21, hf⟩ := bd_s hf
                refine ca_V (As := []) (rest := []) ⟨hx, hb, hml, hown, hts⟩ ⟨hK, hN⟩ hP (c_Cl_cutLinks l E tr0 tr1 tr2 tr3 pl0 pl1 pl2 pl3 pl4 pa0 pa1 tr_greatestDelay_15 tr_delays_16 tr_fractions_17 tr_heads_18 pl_places pl_links pl_mostDrawn pl_ofTen pl_z pl_lengths pl_told pl_delays pl_fractions pa_sums r_22 h_21) [21, 22, 23, 24, 10, 11, 12, 13, 14, 15, 16] rfl 1 21 rfl rfl rfl gX7_best_X1_cutLinks rfl rfl rfl rfl hd_Cl_cutLinks ⟨(Nat.le_of_ble_eq_true rfl), (Nat.le_of_ble_eq_true rfl)⟩ rfl hl.1 rfl (Nat.le_of_ble_eq_true rfl) dX7_best_73 ⟨(Nat.zero_le _), (Nat.zero_le _)⟩ ?_
                refine lv_istore (lv' := [(7, .int r_22), (0, .ref dc0), (1, .int a1), (2, .int a2), (3, .int a3), (4, .int v4_7), (5, .int v5_8), (6, .int v6_9)]) hx hb dX7_best_76 hl (by decide) rfl (fun ls hl => ?_)
                refine lv_iload hx hb dX7_best_78 (lv_at hl 5 rfl) ?_
                refine lv_bipush (v := (-4)) hx hb dX7_best_80 (by decide) ?_
                refine lv_icmp_eq (tgt := 92) hx hb dX7_best_82 (by decide) (fun c_24 => ?_) (fun c_24 => ?_)
                · have hf := ite_t c_24 hf
                  refine lv_iload hx hb dX7_best_92 (lv_at hl 7 rfl) ?_
                  refine lv_istore (lv' := [(4, .int v6_9), (7, .int r_22), (0, .ref dc0), (1, .int a1), (2, .int a2), (3, .int a3), (5, .int v5_8), (6, .int v6_9)]) hx hb dX7_best_94 hl (by decide) rfl (fun ls hl => ?_)
                  refine lv_iload hx hb dX7_best_96 (lv_at hl 1 rfl) ?_
                  refine lv_istore (lv' := [(5, .int r_22), (4, .int v6_9), (7, .int r_22), (0, .ref dc0), (1, .int a1), (2, .int a2), (3, .int a3), (6, .int v6_9)]) hx hb dX7_best_98 hl (by decide) rfl (fun ls hl => ?_)
                  refine lv_iinc (v := (v6_9 + 1)) (lv' := [(6, .int (v6_9 + 1)), (5, .int r_22), (4, .int v6_9), (7, .int r_22), (0, .ref dc0), (1, .int a1), (2, .int a2), (3, .int a3)]) hx hb dX7_best_100 hl (k := 7) rfl rfl (by decide) rfl (fun ls hl => ?_)
                  refine lv_goto (tgt := 43) hx hb dX7_best_103 (by decide) ?_
                  exact ih_43 v6_9 r_22 (v6_9 + 1) tr_greatestDelay_15 tr_delays_16 tr_fractions_17 tr_heads_18 (hc_43 _ (Option.some.inj hf).symm) H locs _ hP hD hS (lv_sub hl [4, 5, 6, 7, 2, 1, 0] rfl)
                · have hf := ite_f c_24 hf
                  refine lv_iload hx hb dX7_best_85 (lv_at hl 0 rfl) ?_
                  refine lv_iload hx hb dX7_best_87 (lv_at hl 6 rfl) ?_
                  refine lv_icmp_ge (tgt := 100) hx hb dX7_best_89 (by decide) (fun c_23 => ?_) (fun c_23 => ?_)
                  · have hf := ite_t c_23 hf
                    refine lv_iinc (v := (v6_9 + 1)) (lv' := [(6, .int (v6_9 + 1)), (7, .int r_22), (0, .ref dc0), (1, .int a1), (2, .int a2), (3, .int a3), (4, .int v4_7), (5, .int v5_8)]) hx hb dX7_best_100 hl (k := 7) rfl rfl (by decide) rfl (fun ls hl => ?_)
                    refine lv_goto (tgt := 43) hx hb dX7_best_103 (by decide) ?_
                    exact ih_43 v4_7 v5_8 (v6_9 + 1) tr_greatestDelay_15 tr_delays_16 tr_fractions_17 tr_heads_18 (hc_43 _ (Option.some.inj hf).symm) H locs _ hP hD hS (lv_sub hl [2, 3, 4, 5, 6, 7, 0] rfl)
                  · have hf := ite_f c_23 hf
                    refine lv_iload hx hb dX7_best_92 (lv_at hl 7 rfl) ?_
                    refine lv_istore (lv' := [(4, .int v6_9), (7, .int r_22), (0, .ref dc0), (1, .int a1), (2, .int a2), (3, .int a3), (5, .int v5_8), (6, .int v6_9)]) hx hb dX7_best_94 hl (by decide) rfl (fun ls hl => ?_)
                    refine lv_iload hx hb dX7_best_96 (lv_at hl 1 rfl) ?_
                    refine lv_istore (lv' := [(5, .int r_22), (4, .int v6_9), (7, .int r_22), (0, .ref dc0), (1, .int a1), (2, .int a2), (3, .int a3), (6, .int v6_9)]) hx hb dX7_best_98 hl (by decide) rfl (fun ls hl => ?_)
                    refine lv_iinc (v := (v6_9 + 1)) (lv' := [(6, .int (v6_9 + 1)), (5, .int r_22), (4, .int v6_9), (7, .int r_22), (0, .ref dc0), (1, .int a1), (2, .int a2), (3, .int a3)]) hx hb dX7_best_100 hl (k := 7) rfl rfl (by decide) rfl (fun ls hl => ?_)
                    refine lv_goto (tgt := 43) hx hb dX7_best_103 (by decide) ?_
                    exact ih_43 v6_9 r_22 (v6_9 + 1) tr_greatestDelay_15 tr_delays_16 tr_fractions_17 tr_heads_18 (hc_43 _ (Option.some.inj hf).symm) H locs _ hP hD hS (lv_sub hl [4, 5, 6, 7, 2, 1, 0] rfl)
        exact KL_43 _ (-4) (-4) 0 tr_greatestDelay tr_delays tr_fractions tr_heads i_43 H locs _ hP hD hS (lv_sub hl [3, 4, 5, 6, 2, 1, 0] rfl)
      · have hf := ite_t c_34 hf
        refine lv_iconst (v := (-1)) hx hb dX7_best_30 (by decide) ?_
        exact hret H locs ls 31 (-1) (tr_greatestDelay, tr_delays, tr_fractions, tr_heads) dX7_best_31 (Option.some.inj hf) hP hD hS
abbrev rm_Dc_inLowestTerms : Room := { frames := 0, cells := 0, slots := 0, locals := 0 }
theorem hd_Dc_inLowestTerms : hdOK yX7_inLowestTerms 3 := by decide +kernel
set_option maxRecDepth 100000 in
set_option maxHeartbeats 4000000 in
theorem c_Dc_inLowestTerms (l : Launch) (E : En4) (a0 : Int32) (a1 : Int32) (a2 : Int32)  (res : Int32) (hf : Dc_inLowestTerms a0 a1 a2 = some res) : Met l yX7_inLowestTerms wsX7_inLowestTerms rm_Dc_inLowestTerms (pcR [.int a0, .int a1, .int a2] E (w_No E)) (vp_Si (fun r => r = res)) 0 0 (fun _ => False) := by
  refine mk_Ri (cc := cX7_inLowestTerms) (maxL := 4) (by decide) rfl (Nat.le_of_ble_eq_true rfl) ?_
  intro p e s m args below meth c Q S hKN hP hret ls hl
  obtain ⟨hx, hb, hml, hown, hts⟩ := S
  obtain ⟨hK, hN⟩ := hKN
  have hl : lv_has ls 4 [(0, .int a0), (1, .int a1), (2, .int a2)] := hl
  unfold Dc_inLowestTerms at hf
  refine lv_bipush (v := 60) hx hb dX7_inLowestTerms_0 (by decide) ?_
  refine lv_istore_n (lv' := [(3, .int 60), (0, .int a0), (1, .int a1), (2, .int a2)]) hx hb dX7_inLowestTerms_2 rfl hl (by decide) rfl (fun ls hl => ?_)
  obtain ⟨w_3, i_3, hf⟩ := bd_s hf
  have KE_3 : ∀ y_, Sum.inr y_ = w_3 → some y_ = some res := by intro y_ e_; subst e_; exact hf
  have KX_3 : Sum.inl () = w_3 → ∀ (ls : Array Slot), lv_has ls 4 [(0, .int a0)] → W p l e rm_Dc_inLowestTerms s m args below meth c s.heap [] 0 0 Q (F0 m 30 ls []) := by
    intro e_
    subst e_
    try dsimp only at hf
    intro ls hl
    refine lv_iload_n hx hb dX7_inLowestTerms_30 rfl (lv_at hl 0 rfl) ?_
    exact hret ls 31 a0 dX7_inLowestTerms_31 (Option.some.inj hf)
  have KL_3 : ∀ (n_ : Nat) (v3_1 : Int32), it (Dc_inLowestTerms_L3 a0 a1 a2) n_ v3_1 = some w_3 → ∀ (ls : Array Slot), lv_has ls 4 [(0, .int a0), (1, .int a1), (2, .int a2), (3, .int v3_1)] → W p l e rm_Dc_inLowestTerms s m args below meth c s.heap [] 0 0 Q (F0 m 3 ls []) := by
    intro n_
    induction n_ with
    | zero => intro v3_1 hit; exact (it_z hit).elim
    | succ n_3 ih_3 =>
      intro v3_1 hit
      intro ls hl
      obtain ⟨x_3, hf, hc_3, hq_3⟩ := it_s hit
      dsimp only [Dc_inLowestTerms_L3] at hf
      refine lv_iload_n hx hb dX7_inLowestTerms_3 rfl (lv_at hl 3 rfl) ?_
      refine lv_iconst (v := 1) hx hb dX7_inLowestTerms_4 (by decide) ?_
      refine lv_icmp_le (tgt := 30) hx hb dX7_inLowestTerms_5 (by decide) (fun c_7 => ?_) (fun c_7 => ?_)
      · have hf := ite_t c_7 hf
        exact KX_3 (hq_3 _ (Option.some.inj hf).symm) _ (lv_sub hl [0] rfl)
      · have hf := ite_f c_7 hf
        refine lv_iload_n hx hb dX7_inLowestTerms_8 rfl (lv_at hl 1 rfl) ?_
        refine lv_iload_n hx hb dX7_inLowestTerms_9 rfl (lv_at hl 3 rfl) ?_
        obtain ⟨g_2, hf⟩ := gz_s hf
        refine lv_irem hx hb dX7_inLowestTerms_10 g_2 ?_
        refine lv_if_ne (tgt := 24) hx hb dX7_inLowestTerms_11 (by decide) (fun c_6 => ?_) (fun c_6 => ?_)
        · have hf := ite_f c_6 hf
          refine lv_iinc (v := (v3_1 + (-1))) (lv' := [(3, .int (v3_1 + (-1))), (0, .int a0), (1, .int a1), (2, .int a2)]) hx hb dX7_inLowestTerms_24 hl (k := 3) rfl rfl (by decide) rfl (fun ls hl => ?_)
          refine lv_goto (tgt := 3) hx hb dX7_inLowestTerms_27 (by decide) ?_
          exact ih_3 (v3_1 + (-1)) (hc_3 _ (Option.some.inj hf).symm) _ (lv_sub hl [1, 2, 3, 0] rfl)
        · have hf := ite_t c_6 hf
          refine lv_iload_n hx hb dX7_inLowestTerms_14 rfl (lv_at hl 2 rfl) ?_
          refine lv_iload_n hx hb dX7_inLowestTerms_15 rfl (lv_at hl 3 rfl) ?_
          obtain ⟨g_3, hf⟩ := gz_s hf
          refine lv_irem hx hb dX7_inLowestTerms_16 g_3 ?_
          refine lv_if_ne (tgt := 24) hx hb dX7_inLowestTerms_17 (by decide) (fun c_5 => ?_) (fun c_5 => ?_)
          · have hf := ite_f c_5 hf
            refine lv_iinc (v := (v3_1 + (-1))) (lv' := [(3, .int (v3_1 + (-1))), (0, .int a0), (1, .int a1), (2, .int a2)]) hx hb dX7_inLowestTerms_24 hl (k := 3) rfl rfl (by decide) rfl (fun ls hl => ?_)
            refine lv_goto (tgt := 3) hx hb dX7_inLowestTerms_27 (by decide) ?_
            exact ih_3 (v3_1 + (-1)) (hc_3 _ (Option.some.inj hf).symm) _ (lv_sub hl [1, 2, 3, 0] rfl)
          · have hf := ite_t c_5 hf
            refine lv_iload_n hx hb dX7_inLowestTerms_20 rfl (lv_at hl 0 rfl) ?_
            refine lv_iload_n hx hb dX7_inLowestTerms_21 rfl (lv_at hl 3 rfl) ?_
            obtain ⟨g_4, hf⟩ := gz_s hf
            refine lv_idiv hx hb dX7_inLowestTerms_22 g_4 ?_
            have hf := KE_3 _ (hq_3 _ (Option.some.inj hf).symm)
            exact hret ls 23 (a0 / v3_1) dX7_inLowestTerms_23 (Option.some.inj hf)
  exact KL_3 _ 60 i_3 _ (lv_sub hl [1, 2, 3, 0] rfl)
abbrev rm_Dc_chance : Room := { frames := 4, cells := 0, slots := 0, locals := 91 }
theorem hd_Dc_chance : hdOK yX7_chance 4 := by decide +kernel
theorem in_X7_chance_X7 : ∀ w ∈ wsX70, w ∈ wsX7_chance := by decide +kernel
set_option maxRecDepth 100000 in
set_option maxHeartbeats 4000000 in
theorem c_Dc_chance (l : Launch) (E : En4) (dc0 le0 le1 rd0 rd1 dr0 dr1 dr2 dr3 dr4 pl0 pl1 pl2 pl3 pl4 pa0 pa1 pr0 pr1 pr2 pr3 tr0 tr1 tr2 tr3 pt0 pt1 ca0 cb0 cc0 cd0 : Nat) (sz : Nat) (le_length : Int32) (le_signs : Nat → Int32) (rd_numbers : Nat → Int32) (dr_places : Int32) (dr_links : Int32) (dr_mostDrawn : Int32) (dr_ofTen : Int32) (dr_z : Int32) (dr_lengths : Nat → Int32) (dr_told : Nat → Int32) (dr_delays : Nat → Int32) (dr_fractions : Nat → Int32) (pl_places : Int32) (pl_links : Int32) (pl_mostDrawn : Int32) (pl_ofTen : Int32) (pl_z : Int32) (pl_lengths : Nat → Int32) (pl_told : Nat → Int32) (pl_delays : Nat → Int32) (pl_fractions : Nat → Int32) (pa_sums : Nat → Int32) (pr_greatestDelay : Int32) (pr_delays : Nat → Int32) (pr_fractions : Nat → Int32) (pr_heads : Nat → Int32) (tr_greatestDelay : Int32) (tr_delays : Nat → Int32) (tr_fractions : Nat → Int32) (tr_heads : Nat → Int32) (pt_next : Int32) (pt_kept : Int32) (hk_kind : Nat → Int32) (hk_i : Nat → Int32) (hk_j : Nat → Int32) (hk_length : Nat → Int32) (hk_wasTold : Nat → Int32) (hk_d : Nat → Int32) (hk_f : Nat → Int32) (hk_z : Nat → Int32) (a1 : Int32) (a2 : Int32) (a3 : Int32) (a4 : Int32)  (res : Int32 × Int32 × (Nat → Int32) × (Nat → Int32) × (Nat → Int32)) (hf : Dc_chance pl_places pl_mostDrawn pl_ofTen pl_lengths pl_told pl_delays pl_fractions pa_sums tr_greatestDelay tr_delays tr_fractions tr_heads a1 a2 a3 a4 = some res) : Met l yX7_chance wsX7_chance rm_Dc_chance (pcM [.ref dc0, .int a1, .int a2, .int a3, .int a4] E sz (w_Dc E dc0 le0 le1 rd0 rd1 dr0 dr1 dr2 dr3 dr4 pl0 pl1 pl2 pl3 pl4 pa0 pa1 pr0 pr1 pr2 pr3 tr0 tr1 tr2 tr3 pt0 pt1 ca0 cb0 cc0 cd0 le_length le_signs rd_numbers dr_places dr_links dr_mostDrawn dr_ofTen dr_z dr_lengths dr_told dr_delays dr_fractions pl_places pl_links pl_mostDrawn pl_ofTen pl_z pl_lengths pl_told pl_delays pl_fractions pa_sums pr_greatestDelay pr_delays pr_fractions pr_heads tr_greatestDelay tr_delays tr_fractions tr_heads pt_next pt_kept hk_kind hk_i hk_j hk_length hk_wasTold hk_d hk_f hk_z)) (QMi E sz (w_Dc E dc0 le0 le1 rd0 rd1 dr0 dr1 dr2 dr3 dr4 pl0 pl1 pl2 pl3 pl4 pa0 pa1 pr0 pr1 pr2 pr3 tr0 tr1 tr2 tr3 pt0 pt1 ca0 cb0 cc0 cd0 le_length le_signs rd_numbers dr_places dr_links dr_mostDrawn dr_ofTen dr_z dr_lengths dr_told dr_delays dr_fractions pl_places pl_links pl_mostDrawn pl_ofTen pl_z pl_lengths pl_told pl_delays pl_fractions pa_sums pr_greatestDelay pr_delays pr_fractions pr_heads tr_greatestDelay tr_delays tr_fractions tr_heads pt_next pt_kept hk_kind hk_i hk_j hk_length hk_wasTold hk_d hk_f hk_z) (fun (u : Int32 × (Nat → Int32) × (Nat → Int32) × (Nat → Int32)) => (w_Dc E dc0 le0 le1 rd0 rd1 dr0 dr1 dr2 dr3 dr4 pl0 pl1 pl2 pl3 pl4 pa0 pa1 pr0 pr1 pr2 pr3 tr0 tr1 tr2 tr3 pt0 pt1 ca0 cb0 cc0 cd0 le_length le_signs rd_numbers dr_places dr_links dr_mostDrawn dr_ofTen dr_z dr_lengths dr_told dr_delays dr_fractions pl_places pl_links pl_mostDrawn pl_ofTen pl_z pl_lengths pl_told pl_delays pl_fractions pa_sums pr_greatestDelay pr_delays pr_fractions pr_heads u.1 u.2.1 u.2.2.1 u.2.2.2 pt_next pt_kept hk_kind hk_i hk_j hk_length hk_wasTold hk_d hk_f hk_z)) res) 0 0 (va_A (w_Dc E dc0 le0 le1 rd0 rd1 dr0 dr1 dr2 dr3 dr4 pl0 pl1 pl2 pl3 pl4 pa0 pa1 pr0 pr1 pr2 pr3 tr0 tr1 tr2 tr3 pt0 pt1 ca0 cb0 cc0 cd0 le_length le_signs rd_numbers dr_places dr_links dr_mostDrawn dr_ofTen dr_z dr_lengths dr_told dr_delays dr_fractions pl_places pl_links pl_mostDrawn pl_ofTen pl_z pl_lengths pl_told pl_delays pl_fractions pa_sums pr_greatestDelay pr_delays pr_fractions pr_heads tr_greatestDelay tr_delays tr_fractions tr_heads pt_next pt_kept hk_kind hk_i hk_j hk_length hk_wasTold hk_d hk_f hk_z) sz) := by
  refine mk_Mi (cc := cX7_chance) (maxL := 7) (by decide) rfl (Nat.le_of_ble_eq_true rfl) ?_
  intro p e s m args below meth c Q A S hKN hA hret H locs ls hP hD hS hl
  obtain ⟨hx, hb, hml, hown, hts⟩ := S
  obtain ⟨hK, hN⟩ := hKN
  have hl : lv_has ls 7 [(0, .ref dc0), (1, .int a1), (2, .int a2), (3, .int a3), (4, .int a4)] := hl
  have q_0 := hts (.fieldLink RX7 26 "DelayClusters" "plan" "LDelayClusters$Plan;") (by decide +kernel)
  have q_1 := hts (.fieldLink RX7 46 "DelayClusters" "trial" "LDelayClusters$Clustering;") (by decide +kernel)
  unfold Dc_chance at hf
  refine lv_aload_n hx hb dX7_chance_0 rfl (lv_at hl 0 rfl) ?_
  refine va_get (D := E.1) (ci := 7) (v := .ref pl0) (C := RX7) (T := TX7) (N := 7) hx hb hts in_X7_chance_X7 hown hK hP 0 rfl rfl 2 (by decide) q_0 (fun _ h9 => h9) rfl dX7_chance_1 ?_
  refine lv_iload_n hx hb dX7_chance_4 rfl (lv_at hl 1 rfl) ?_
  refine lv_iload_n hx hb dX7_chance_5 rfl (lv_at hl 2 rfl) ?_
  obtain ⟨r_2, h_1, hf⟩ := bd_s hf
  refine ca_V (As := [.int a1, .int a2]) (rest := []) ⟨hx, hb, hml, hown, hts⟩ ⟨hK, hN⟩ hP (c_Pl_isPair l E pl0 pl1 pl2 pl3 pl4 pl_places pl_links pl_mostDrawn pl_ofTen pl_z pl_lengths pl_told pl_delays pl_fractions a1 a2 r_2 h_1) [10, 11, 12, 13, 14] rfl 5 10 rfl rfl rfl gX7_chance_X5_isPair rfl rfl rfl rfl hd_Pl_isPair ⟨(Nat.le_of_ble_eq_true rfl), (Nat.le_of_ble_eq_true rfl)⟩ rfl hl.1 rfl (Nat.le_of_ble_eq_true rfl) dX7_chance_6 ⟨(Nat.zero_le _), (Nat.zero_le _)⟩ ?_
  refine lv_if_eq (tgt := 32) hx hb dX7_chance_9 (by decide) (fun c_36 => ?_) (fun c_36 => ?_)
  · have hf := ite_t c_36 hf
    refine lv_iconst (v := (-1)) hx hb dX7_chance_32 (by decide) ?_
    exact hret H locs ls 33 (-1) (tr_greatestDelay, tr_delays, tr_fractions, tr_heads) dX7_chance_33 (Option.some.inj hf) hP hD hS
  · have hf := ite_f c_36 hf
    refine lv_iload_n hx hb dX7_chance_12 rfl (lv_at hl 3 rfl) ?_
    refine lv_iconst (v := 1) hx hb dX7_chance_13 (by decide) ?_
    refine lv_bipush (v := 60) hx hb dX7_chance_14 (by decide) ?_
    obtain ⟨r_4, h_3, hf⟩ := bd_s hf
    refine ca_S (As := [.int a3, .int 1, .int 60]) (rest := []) ⟨hx, hb, hml, hown, hts⟩ ⟨hK, hN⟩ hP (c_Dc_isWithin l E   a3 1 60 r_4 h_3) [] rfl gX7_chance_X7_isWithin rfl rfl rfl hd_Dc_isWithin ⟨(Nat.le_of_ble_eq_true rfl), (Nat.le_of_ble_eq_true rfl)⟩ rfl hl.1 rfl (Nat.le_of_ble_eq_true rfl) dX7_chance_16 ⟨(Nat.zero_le _), (Nat.zero_le _)⟩ ?_
    refine lv_if_eq (tgt := 32) hx hb dX7_chance_19 (by decide) (fun c_35 => ?_) (fun c_35 => ?_)
    · have hf := ite_t c_35 hf
      refine lv_iconst (v := (-1)) hx hb dX7_chance_32 (by decide) ?_
      exact hret H locs ls 33 (-1) (tr_greatestDelay, tr_delays, tr_fractions, tr_heads) dX7_chance_33 (Option.some.inj hf) hP hD hS
    · have hf := ite_f c_35 hf
      refine lv_iload hx hb dX7_chance_22 (lv_at hl 4 rfl) ?_
      refine lv_iconst (v := 0) hx hb dX7_chance_24 (by decide) ?_
      refine lv_iconst (v := 1) hx hb dX7_chance_25 (by decide) ?_
      obtain ⟨r_6, h_5, hf⟩ := bd_s hf
      refine ca_S (As := [.int a4, .int 0, .int 1]) (rest := []) ⟨hx, hb, hml, hown, hts⟩ ⟨hK, hN⟩ hP (c_Dc_isWithin l E   a4 0 1 r_6 h_5) [] rfl gX7_chance_X7_isWithin rfl rfl rfl hd_Dc_isWithin ⟨(Nat.le_of_ble_eq_true rfl), (Nat.le_of_ble_eq_true rfl)⟩ rfl hl.1 rfl (Nat.le_of_ble_eq_true rfl) dX7_chance_26 ⟨(Nat.zero_le _), (Nat.zero_le _)⟩ ?_
      refine lv_if_ne (tgt := 34) hx hb dX7_chance_29 (by decide) (fun c_34 => ?_) (fun c_34 => ?_)
      · have hf := ite_f c_34 hf
        refine lv_aload_n hx hb dX7_chance_34 rfl (lv_at hl 0 rfl) ?_
        refine va_get (D := E.1) (ci := 7) (v := .ref pl0) (C := RX7) (T := TX7) (N := 7) hx hb hts in_X7_chance_X7 hown hK hP 0 rfl rfl 2 (by decide) q_0 (fun _ h9 => h9) rfl dX7_chance_35 ?_
        refine lv_iload_n hx hb dX7_chance_38 rfl (lv_at hl 1 rfl) ?_
        refine lv_iload_n hx hb dX7_chance_39 rfl (lv_at hl 2 rfl) ?_
        obtain ⟨r_8, h_7, hf⟩ := bd_s hf
        refine ca_V (As := [.int a1, .int a2]) (rest := []) ⟨hx, hb, hml, hown, hts⟩ ⟨hK, hN⟩ hP (c_Pl_lengthOf l E pl0 pl1 pl2 pl3 pl4 pl_places pl_links pl_mostDrawn pl_ofTen pl_z pl_lengths pl_told pl_delays pl_fractions a1 a2 r_8 h_7) [10, 11, 12, 13, 14] rfl 5 10 rfl rfl rfl gX7_chance_X5_lengthOf rfl rfl rfl rfl hd_Pl_lengthOf ⟨(Nat.le_of_ble_eq_true rfl), (Nat.le_of_ble_eq_true rfl)⟩ rfl hl.1 rfl (Nat.le_of_ble_eq_true rfl) dX7_chance_40 ⟨(Nat.zero_le _), (Nat.zero_le _)⟩ ?_
        refine lv_if_ne (tgt := 49) hx hb dX7_chance_43 (by decide) (fun c_33 => ?_) (fun c_33 => ?_)
        · have hf := ite_f c_33 hf
          refine lv_iconst (v := 0) hx hb dX7_chance_49 (by decide) ?_
          refine lv_istore (lv' := [(5, .int 0), (0, .ref dc0), (1, .int a1), (2, .int a2), (3, .int a3), (4, .int a4)]) hx hb dX7_chance_50 hl (by decide) rfl (fun ls hl => ?_)
          refine lv_iconst (v := 0) hx hb dX7_chance_52 (by decide) ?_
          refine lv_istore (lv' := [(6, .int 0), (5, .int 0), (0, .ref dc0), (1, .int a1), (2, .int a2), (3, .int a3), (4, .int a4)]) hx hb dX7_chance_53 hl (by decide) rfl (fun ls hl => ?_)
          obtain ⟨w_55, i_55, hf⟩ := bd_s hf
          have KX_55 : ∀ (v5_24 : Int32) (tr_greatestDelay_25 : Int32) (tr_delays_26 : Nat → Int32) (tr_fractions_27 : Nat → Int32) (tr_heads_28 : Nat → Int32), (v5_24, tr_greatestDelay_25, tr_delays_26, tr_fractions_27, tr_heads_28) = w_55 → ∀ (H : Heap) (locs : List Loc) (ls : Array Slot), va_P E.1 vwCl (w_Dc E dc0 le0 le1 rd0 rd1 dr0 dr1 dr2 dr3 dr4 pl0 pl1 pl2 pl3 pl4 pa0 pa1 pr0 pr1 pr2 pr3 tr0 tr1 tr2 tr3 pt0 pt1 ca0 cb0 cc0 cd0 le_length le_signs rd_numbers dr_places dr_links dr_mostDrawn dr_ofTen dr_z dr_lengths dr_told dr_delays dr_fractions pl_places pl_links pl_mostDrawn pl_ofTen pl_z pl_lengths pl_told pl_delays pl_fractions pa_sums pr_greatestDelay pr_delays pr_fractions pr_heads tr_greatestDelay_25 tr_delays_26 tr_fractions_27 tr_heads_28 pt_next pt_kept hk_kind hk_i hk_j hk_length hk_wasTold hk_d hk_f hk_z) H → va_D A (w_Dc E dc0 le0 le1 rd0 rd1 dr0 dr1 dr2 dr3 dr4 pl0 pl1 pl2 pl3 pl4 pa0 pa1 pr0 pr1 pr2 pr3 tr0 tr1 tr2 tr3 pt0 pt1 ca0 cb0 cc0 cd0 le_length le_signs rd_numbers dr_places dr_links dr_mostDrawn dr_ofTen dr_z dr_lengths dr_told dr_delays dr_fractions pl_places pl_links pl_mostDrawn pl_ofTen pl_z pl_lengths pl_told pl_delays pl_fractions pa_sums pr_greatestDelay pr_delays pr_fractions pr_heads tr_greatestDelay_25 tr_delays_26 tr_fractions_27 tr_heads_28 pt_next pt_kept hk_kind hk_i hk_j hk_length hk_wasTold hk_d hk_f hk_z) → va_S A s.heap H locs → lv_has ls 7 [(3, .int a3), (4, .int a4), (5, .int v5_24)] → W p l e rm_Dc_chance s m args below meth c H locs 0 0 Q (F0 m 91 ls []) := by
            intro v5_24 tr_greatestDelay_25 tr_delays_26 tr_fractions_27 tr_heads_28 e_
            subst e_
            try dsimp only at hf
            intro H locs ls hP hD hS hl
            refine lv_iload hx hb dX7_chance_91 (lv_at hl 1 rfl) ?_
            obtain ⟨j_93, b_93, hf⟩ := bd_s hf
            have KJ_93 : ∀ (t_30 : Int32), t_30 = j_93 → ∀ (H : Heap) (locs : List Loc) (ls : Array Slot), va_P E.1 vwCl (w_Dc E dc0 le0 le1 rd0 rd1 dr0 dr1 dr2 dr3 dr4 pl0 pl1 pl2 pl3 pl4 pa0 pa1 pr0 pr1 pr2 pr3 tr0 tr1 tr2 tr3 pt0 pt1 ca0 cb0 cc0 cd0 le_length le_signs rd_numbers dr_places dr_links dr_mostDrawn dr_ofTen dr_z dr_lengths dr_told dr_delays dr_fractions pl_places pl_links pl_mostDrawn pl_ofTen pl_z pl_lengths pl_told pl_delays pl_fractions pa_sums pr_greatestDelay pr_delays pr_fractions pr_heads tr_greatestDelay_25 tr_delays_26 tr_fractions_27 tr_heads_28 pt_next pt_kept hk_kind hk_i hk_j hk_length hk_wasTold hk_d hk_f hk_z) H → va_D A (w_Dc E dc0 le0 le1 rd0 rd1 dr0 dr1 dr2 dr3 dr4 pl0 pl1 pl2 pl3 pl4 pa0 pa1 pr0 pr1 pr2 pr3 tr0 tr1 tr2 tr3 pt0 pt1 ca0 cb0 cc0 cd0 le_length le_signs rd_numbers dr_places dr_links dr_mostDrawn dr_ofTen dr_z dr_lengths dr_told dr_delays dr_fractions pl_places pl_links pl_mostDrawn pl_ofTen pl_z pl_lengths pl_told pl_delays pl_fractions pa_sums pr_greatestDelay pr_delays pr_fractions pr_heads tr_greatestDelay_25 tr_delays_26 tr_fractions_27 tr_heads_28 pt_next pt_kept hk_kind hk_i hk_j hk_length hk_wasTold hk_d hk_f hk_z) → va_S A s.heap H locs → lv_has ls 7 [(3, .int a3), (5, .int v5_24)] → W p l e rm_Dc_chance s m args below meth c H locs 0 0 Q (F0 m 102 ls [.int t_30]) := by
              intro t_30 e_
              subst e_
              try dsimp only at hf
              intro H locs ls hP hD hS hl
              refine lv_iload hx hb dX7_chance_102 (lv_at hl 1 rfl) ?_
              refine lv_iload_n hx hb dX7_chance_104 rfl (lv_at hl 0 rfl) ?_
              obtain ⟨r_32, h_31, hf⟩ := bd_s hf
              refine ca_S (As := [.int t_30, .int v5_24, .int a3]) (rest := []) ⟨hx, hb, hml, hown, hts⟩ ⟨hK, hN⟩ hP (c_Dc_inLowestTerms l E   t_30 v5_24 a3 r_32 h_31) [] rfl gX7_chance_X7_inLowestTerms rfl rfl rfl hd_Dc_inLowestTerms ⟨(Nat.le_of_ble_eq_true rfl), (Nat.le_of_ble_eq_true rfl)⟩ rfl hl.1 rfl (Nat.le_of_ble_eq_true rfl) dX7_chance_105 ⟨(Nat.zero_le _), (Nat.zero_le _)⟩ ?_
              exact hret H locs ls 108 r_32 (tr_greatestDelay_25, tr_delays_26, tr_fractions_27, tr_heads_28) dX7_chance_108 (Option.some.inj hf) hP hD hS
            have hf := b_93
            refine lv_if_ne (tgt := 101) hx hb dX7_chance_93 (by decide) (fun c_29 => ?_) (fun c_29 => ?_)
            · have hf := ite_f c_29 hf
              refine lv_iload_n hx hb dX7_chance_101 rfl (lv_at hl 0 rfl) ?_
              exact KJ_93 a3 (Option.some.inj hf) H locs _ hP hD hS (lv_sub hl [0, 2] rfl)
            · have hf := ite_t c_29 hf
              refine lv_iload hx hb dX7_chance_96 (lv_at hl 2 rfl) ?_
              refine lv_goto (tgt := 102) hx hb dX7_chance_98 (by decide) ?_
              exact KJ_93 v5_24 (Option.some.inj hf) H locs _ hP hD hS (lv_sub hl [0, 2] rfl)
          have KL_55 : ∀ (n_ : Nat) (v5_9 : Int32) (v6_10 : Int32) (tr_greatestDelay_11 : Int32) (tr_delays_12 : Nat → Int32) (tr_fractions_13 : Nat → Int32) (tr_heads_14 : Nat → Int32), it (Dc_chance_L55 pl_places pl_mostDrawn pl_ofTen pl_told pl_delays pl_fractions pa_sums a1 a2 a3) n_ (v5_9, v6_10, tr_greatestDelay_11, tr_delays_12, tr_fractions_13, tr_heads_14) = some w_55 → ∀ (H : Heap) (locs : List Loc) (ls : Array Slot), va_P E.1 vwCl (w_Dc E dc0 le0 le1 rd0 rd1 dr0 dr1 dr2 dr3 dr4 pl0 pl1 pl2 pl3 pl4 pa0 pa1 pr0 pr1 pr2 pr3 tr0 tr1 tr2 tr3 pt0 pt1 ca0 cb0 cc0 cd0 le_length le_signs rd_numbers dr_places dr_links dr_mostDrawn dr_ofTen dr_z dr_lengths dr_told dr_delays dr_fractions pl_places pl_links pl_mostDrawn pl_ofTen pl_z pl_lengths pl_told pl_delays pl_fractions pa_sums pr_greatestDelay pr_delays pr_fractions pr_heads tr_greatestDelay_11 tr_delays_12 tr_fractions_13 tr_heads_14 pt_next pt_kept hk_kind hk_i hk_j hk_length hk_wasTold hk_d hk_f hk_z) H → va_D A (w_Dc E dc0 le0 le1 rd0 rd1 dr0 dr1 dr2 dr3 dr4 pl0 pl1 pl2 pl3 pl4 pa0 pa1 pr0 pr1 pr2 pr3 tr0 tr1 tr2 tr3 pt0 pt1 ca0 cb0 cc0 cd0 le_length le_signs rd_numbers dr_places dr_links dr_mostDrawn dr_ofTen dr_z dr_lengths dr_told dr_delays dr_fractions pl_places pl_links pl_mostDrawn pl_ofTen pl_z pl_lengths pl_told pl_delays pl_fractions pa_sums pr_greatestDelay pr_delays pr_fractions pr_heads tr_greatestDelay_11 tr_delays_12 tr_fractions_13 tr_heads_14 pt_next pt_kept hk_kind hk_i hk_j hk_length hk_wasTold hk_d hk_f hk_z) → va_S A s.heap H locs → lv_has ls 7 [(0, .ref dc0), (1, .int a1), (2, .int a2), (3, .int a3), (4, .int a4), (5, .int v5_9), (6, .int v6_10)] → W p l e rm_Dc_chance s m args below meth c H locs 0 0 Q (F0 m 55 ls []) := by
            intro n_
            induction n_ with
            | zero => intro v5_9 v6_10 tr_greatestDelay_11 tr_delays_12 tr_fractions_13 tr_heads_14 hit; exact (it_z hit).elim
            | succ n_55 ih_55 =>
              intro v5_9 v6_10 tr_greatestDelay_11 tr_delays_12 tr_fractions_13 tr_heads_14 hit
              intro H locs ls hP hD hS hl
              obtain ⟨x_55, hf, hc_55, hq_55⟩ := it_s hit
              dsimp only [Dc_chance_L55] at hf
              refine lv_iload hx hb dX7_chance_55 (lv_at hl 6 rfl) ?_
              refine lv_iload_n hx hb dX7_chance_57 rfl (lv_at hl 3 rfl) ?_
              refine lv_icmp_ge (tgt := 91) hx hb dX7_chance_58 (by decide) (fun c_23 => ?_) (fun c_23 => ?_)
              · have hf := ite_t c_23 hf
                exact KX_55 v5_9 tr_greatestDelay_11 tr_delays_12 tr_fractions_13 tr_heads_14 (hq_55 _ (Option.some.inj hf).symm) H locs _ hP hD hS (lv_sub hl [3, 4, 5] rfl)
              · have hf := ite_f c_23 hf
                refine lv_aload_n hx hb dX7_chance_61 rfl (lv_at hl 0 rfl) ?_
                refine va_get (D := E.1) (ci := 7) (v := .ref tr0) (C := RX7) (T := TX7) (N := 7) hx hb hts in_X7_chance_X7 hown hK hP 0 rfl rfl 5 (by decide) q_1 (fun _ h9 => h9) rfl dX7_chance_62 ?_
                refine lv_iload hx hb dX7_chance_65 (lv_at hl 6 rfl) ?_
                obtain ⟨⟨tr_greatestDelay_16, tr_delays_17, tr_fractions_18, tr_heads_19⟩, h_15, hf⟩ := bd_s hf
                try dsimp only at hf
                refine ca_Mv (w2 := (w_Dc E dc0 le0 le1 rd0 rd1 dr0 dr1 dr2 dr3 dr4 pl0 pl1 pl2 pl3 pl4 pa0 pa1 pr0 pr1 pr2 pr3 tr0 tr1 tr2 tr3 pt0 pt1 ca0 cb0 cc0 cd0 le_length le_signs rd_numbers dr_places dr_links dr_mostDrawn dr_ofTen dr_z dr_lengths dr_told dr_delays dr_fractions pl_places pl_links pl_mostDrawn pl_ofTen pl_z pl_lengths pl_told pl_delays pl_fractions pa_sums pr_greatestDelay pr_delays pr_fractions pr_heads tr_greatestDelay_16 tr_delays_17 tr_fractions_18 tr_heads_19 pt_next pt_kept hk_kind hk_i hk_j hk_length hk_wasTold hk_d hk_f hk_z)) (As := [.int v6_10]) (rest := []) ⟨hx, hb, hml, hown, hts⟩ ⟨hK, hN⟩ hP hD hS hA (c_Cl_settleBy l E tr0 tr1 tr2 tr3 pl0 pl1 pl2 pl3 pl4 pa0 pa1 H.size tr_greatestDelay_11 tr_delays_12 tr_fractions_13 tr_heads_14 pl_places pl_links pl_mostDrawn pl_ofTen pl_z pl_lengths pl_told pl_delays pl_fractions pa_sums v6_10 (tr_greatestDelay_16, tr_delays_17, tr_fractions_18, tr_heads_19) h_15) [21, 22, 23, 24, 10, 11, 12, 13, 14, 15, 16] [0, 1, 2, 3, 4, 5, 6, 7, 8, 9, 17, 18, 19, 20, 25, 26, 27, 28, 29, 30] [0, 1, 2, 3, 4, 5, 6, 7, 8, 9, 24, 25, 26, 27, 28, 29, 30, 10, 11, 12, 13, 20, 21, 22, 23, 14, 15, 16, 17, 18, 19] rfl rfl rfl rfl (by decide) rfl rfl 1 21 rfl rfl rfl gX7_chance_X1_settleBy rfl rfl rfl rfl hd_Cl_settleBy ⟨(Nat.le_of_ble_eq_true rfl), (Nat.le_of_ble_eq_true rfl)⟩ rfl hl.1 rfl (Nat.le_of_ble_eq_true rfl) dX7_chance_67 ⟨(Nat.zero_le _), (Nat.zero_le _)⟩ (fun H locs hP hD hS => ?_)
                refine lv_aload_n hx hb dX7_chance_70 rfl (lv_at hl 0 rfl) ?_
                refine va_get (D := E.1) (ci := 7) (v := .ref tr0) (C := RX7) (T := TX7) (N := 7) hx hb hts in_X7_chance_X7 hown hK hP 0 rfl rfl 5 (by decide) q_1 (fun _ h9 => h9) rfl dX7_chance_71 ?_
                refine lv_iload_n hx hb dX7_chance_74 rfl (lv_at hl 1 rfl) ?_
                refine lv_iload_n hx hb dX7_chance_75 rfl (lv_at hl 2 rfl) ?_
                obtain ⟨r_21, h_20, hf⟩ := bd_s hf
                refine ca_V (As := [.int a1, .int a2]) (rest := []) ⟨hx, hb, hml, hown, hts⟩ ⟨hK, hN⟩ hP (c_Cl_isCut l E tr0 tr1 tr2 tr3 pl0 pl1 pl2 pl3 pl4 pa0 pa1 tr_greatestDelay_16 tr_delays_17 tr_fractions_18 tr_heads_19 pl_places pl_links pl_mostDrawn pl_ofTen pl_z pl_lengths pl_told pl_delays pl_fractions pa_sums a1 a2 r_21 h_20) [21, 22, 23, 24, 10, 11, 12, 13, 14, 15, 16] rfl 1 21 rfl rfl rfl gX7_chance_X1_isCut rfl rfl rfl rfl hd_Cl_isCut ⟨(Nat.le_of_ble_eq_true rfl), (Nat.le_of_ble_eq_true rfl)⟩ rfl hl.1 rfl (Nat.le_of_ble_eq_true rfl) dX7_chance_76 ⟨(Nat.zero_le _), (Nat.zero_le _)⟩ ?_
                refine lv_if_eq (tgt := 85) hx hb dX7_chance_79 (by decide) (fun c_22 => ?_) (fun c_22 => ?_)
                · have hf := ite_t c_22 hf
                  refine lv_iinc (v := (v6_10 + 1)) (lv' := [(6, .int (v6_10 + 1)), (0, .ref dc0), (1, .int a1), (2, .int a2), (3, .int a3), (4, .int a4), (5, .int v5_9)]) hx hb dX7_chance_85 hl (k := 6) rfl rfl (by decide) rfl (fun ls hl => ?_)
                  refine lv_goto (tgt := 55) hx hb dX7_chance_88 (by decide) ?_
                  exact ih_55 v5_9 (v6_10 + 1) tr_greatestDelay_16 tr_delays_17 tr_fractions_18 tr_heads_19 (hc_55 _ (Option.some.inj hf).symm) H locs _ hP hD hS (lv_sub hl [1, 2, 3, 4, 5, 6, 0] rfl)
                · have hf := ite_f c_22 hf
                  refine lv_iinc (v := (v5_9 + 1)) (lv' := [(5, .int (v5_9 + 1)), (0, .ref dc0), (1, .int a1), (2, .int a2), (3, .int a3), (4, .int a4), (6, .int v6_10)]) hx hb dX7_chance_82 hl (k := 5) rfl rfl (by decide) rfl (fun ls hl => ?_)
                  refine lv_iinc (v := (v6_10 + 1)) (lv' := [(6, .int (v6_10 + 1)), (5, .int (v5_9 + 1)), (0, .ref dc0), (1, .int a1), (2, .int a2), (3, .int a3), (4, .int a4)]) hx hb dX7_chance_85 hl (k := 6) rfl rfl (by decide) rfl (fun ls hl => ?_)
                  refine lv_goto (tgt := 55) hx hb dX7_chance_88 (by decide) ?_
                  exact ih_55 (v5_9 + 1) (v6_10 + 1) tr_greatestDelay_16 tr_delays_17 tr_fractions_18 tr_heads_19 (hc_55 _ (Option.some.inj hf).symm) H locs _ hP hD hS (lv_sub hl [2, 3, 4, 5, 6, 1, 0] rfl)
          exact KL_55 _ 0 0 tr_greatestDelay tr_delays tr_fractions tr_heads i_55 H locs _ hP hD hS (lv_sub hl [2, 3, 4, 5, 6, 1, 0] rfl)
        · have hf := ite_t c_33 hf
          refine lv_bipush (v := (-2)) hx hb dX7_chance_46 (by decide) ?_
          exact hret H locs ls 48 (-2) (tr_greatestDelay, tr_delays, tr_fractions, tr_heads) dX7_chance_48 (Option.some.inj hf) hP hD hS
      · have hf := ite_t c_34 hf
        refine lv_iconst (v := (-1)) hx hb dX7_chance_32 (by decide) ?_
        exact hret H locs ls 33 (-1) (tr_greatestDelay, tr_delays, tr_fractions, tr_heads) dX7_chance_33 (Option.some.inj hf) hP hD hS
abbrev rm_Dc_rise : Room := { frames := 4, cells := 0, slots := 0, locals := 91 }
theorem hd_Dc_rise : hdOK yX7_rise 1 := by decide +kernel
theorem in_X7_rise_X7 : ∀ w ∈ wsX70, w ∈ wsX7_rise := by decide +kernel
set_option maxRecDepth 100000 in
set_option maxHeartbeats 4000000 in
theorem c_Dc_rise (l : Launch) (E : En4) (dc0 le0 le1 rd0 rd1 dr0 dr1 dr2 dr3 dr4 pl0 pl1 pl2 pl3 pl4 pa0 pa1 pr0 pr1 pr2 pr3 tr0 tr1 tr2 tr3 pt0 pt1 ca0 cb0 cc0 cd0 : Nat) (sz : Nat) (le_length : Int32) (le_signs : Nat → Int32) (rd_numbers : Nat → Int32) (dr_places : Int32) (dr_links : Int32) (dr_mostDrawn : Int32) (dr_ofTen : Int32) (dr_z : Int32) (dr_lengths : Nat → Int32) (dr_told : Nat → Int32) (dr_delays : Nat → Int32) (dr_fractions : Nat → Int32) (pl_places : Int32) (pl_links : Int32) (pl_mostDrawn : Int32) (pl_ofTen : Int32) (pl_z : Int32) (pl_lengths : Nat → Int32) (pl_told : Nat → Int32) (pl_delays : Nat → Int32) (pl_fractions : Nat → Int32) (pa_sums : Nat → Int32) (pr_greatestDelay : Int32) (pr_delays : Nat → Int32) (pr_fractions : Nat → Int32) (pr_heads : Nat → Int32) (tr_greatestDelay : Int32) (tr_delays : Nat → Int32) (tr_fractions : Nat → Int32) (tr_heads : Nat → Int32) (pt_next : Int32) (pt_kept : Int32) (hk_kind : Nat → Int32) (hk_i : Nat → Int32) (hk_j : Nat → Int32) (hk_length : Nat → Int32) (hk_wasTold : Nat → Int32) (hk_d : Nat → Int32) (hk_f : Nat → Int32) (hk_z : Nat → Int32) (a1 : Int32)  (res : Int32 × Int32 × (Nat → Int32) × (Nat → Int32) × (Nat → Int32)) (hf : Dc_rise pl_places pl_mostDrawn pl_ofTen pl_z pl_told pl_delays pl_fractions pa_sums tr_greatestDelay tr_delays tr_fractions tr_heads a1 = some res) : Met l yX7_rise wsX7_rise rm_Dc_rise (pcM [.ref dc0, .int a1] E sz (w_Dc E dc0 le0 le1 rd0 rd1 dr0 dr1 dr2 dr3 dr4 pl0 pl1 pl2 pl3 pl4 pa0 pa1 pr0 pr1 pr2 pr3 tr0 tr1 tr2 tr3 pt0 pt1 ca0 cb0 cc0 cd0 le_length le_signs rd_numbers dr_places dr_links dr_mostDrawn dr_ofTen dr_z dr_lengths dr_told dr_delays dr_fractions pl_places pl_links pl_mostDrawn pl_ofTen pl_z pl_lengths pl_told pl_delays pl_fractions pa_sums pr_greatestDelay pr_delays pr_fractions pr_heads tr_greatestDelay tr_delays tr_fractions tr_heads pt_next pt_kept hk_kind hk_i hk_j hk_length hk_wasTold hk_d hk_f hk_z)) (QMi E sz (w_Dc E dc0 le0 le1 rd0 rd1 dr0 dr1 dr2 dr3 dr4 pl0 pl1 pl2 pl3 pl4 pa0 pa1 pr0 pr1 pr2 pr3 tr0 tr1 tr2 tr3 pt0 pt1 ca0 cb0 cc0 cd0 le_length le_signs rd_numbers dr_places dr_links dr_mostDrawn dr_ofTen dr_z dr_lengths dr_told dr_delays dr_fractions pl_places pl_links pl_mostDrawn pl_ofTen pl_z pl_lengths pl_told pl_delays pl_fractions pa_sums pr_greatestDelay pr_delays pr_fractions pr_heads tr_greatestDelay tr_delays tr_fractions tr_heads pt_next pt_kept hk_kind hk_i hk_j hk_length hk_wasTold hk_d hk_f hk_z) (fun (u : Int32 × (Nat → Int32) × (Nat → Int32) × (Nat → Int32)) => (w_Dc E dc0 le0 le1 rd0 rd1 dr0 dr1 dr2 dr3 dr4 pl0 pl1 pl2 pl3 pl4 pa0 pa1 pr0 pr1 pr2 pr3 tr0 tr1 tr2 tr3 pt0 pt1 ca0 cb0 cc0 cd0 le_length le_signs rd_numbers dr_places dr_links dr_mostDrawn dr_ofTen dr_z dr_lengths dr_told dr_delays dr_fractions pl_places pl_links pl_mostDrawn pl_ofTen pl_z pl_lengths pl_told pl_delays pl_fractions pa_sums pr_greatestDelay pr_delays pr_fractions pr_heads u.1 u.2.1 u.2.2.1 u.2.2.2 pt_next pt_kept hk_kind hk_i hk_j hk_length hk_wasTold hk_d hk_f hk_z)) res) 0 0 (va_A (w_Dc E dc0 le0 le1 rd0 rd1 dr0 dr1 dr2 dr3 dr4 pl0 pl1 pl2 pl3 pl4 pa0 pa1 pr0 pr1 pr2 pr3 tr0 tr1 tr2 tr3 pt0 pt1 ca0 cb0 cc0 cd0 le_length le_signs rd_numbers dr_places dr_links dr_mostDrawn dr_ofTen dr_z dr_lengths dr_told dr_delays dr_fractions pl_places pl_links pl_mostDrawn pl_ofTen pl_z pl_lengths pl_told pl_delays pl_fractions pa_sums pr_greatestDelay pr_delays pr_fractions pr_heads tr_greatestDelay tr_delays tr_fractions tr_heads pt_next pt_kept hk_kind hk_i hk_j hk_length hk_wasTold hk_d hk_f hk_z) sz) := by
  refine mk_Mi (cc := cX7_rise) (maxL := 3) (by decide) rfl (Nat.le_of_ble_eq_true rfl) ?_
  intro p e s m args below meth c Q A S hKN hA hret H locs ls hP hD hS hl
  obtain ⟨hx, hb, hml, hown, hts⟩ := S
  obtain ⟨hK, hN⟩ := hKN
  have hl : lv_has ls 3 [(0, .ref dc0), (1, .int a1)] := hl
  have q_0 := hts (.fieldLink RX7 26 "DelayClusters" "plan" "LDelayClusters$Plan;") (by decide +kernel)
  have q_1 := hts (.fieldLink RX7 46 "DelayClusters" "trial" "LDelayClusters$Clustering;") (by decide +kernel)
  unfold Dc_rise at hf
  refine lv_aload_n hx hb dX7_rise_0 rfl (lv_at hl 0 rfl) ?_
  refine va_get (D := E.1) (ci := 7) (v := .ref pl0) (C := RX7) (T := TX7) (N := 7) hx hb hts in_X7_rise_X7 hown hK hP 0 rfl rfl 2 (by decide) q_0 (fun _ h9 => h9) rfl dX7_rise_1 ?_
  refine lv_iload_n hx hb dX7_rise_4 rfl (lv_at hl 1 rfl) ?_
  obtain ⟨r_2, h_1, hf⟩ := bd_s hf
  refine ca_V (As := [.int a1]) (rest := []) ⟨hx, hb, hml, hown, hts⟩ ⟨hK, hN⟩ hP (c_Pl_isPlace l E pl0 pl1 pl2 pl3 pl4 pl_places pl_links pl_mostDrawn pl_ofTen pl_z pl_lengths pl_told pl_delays pl_fractions a1 r_2 h_1) [10, 11, 12, 13, 14] rfl 5 10 rfl rfl rfl gX7_rise_X5_isPlace rfl rfl rfl rfl hd_Pl_isPlace ⟨(Nat.le_of_ble_eq_true rfl), (Nat.le_of_ble_eq_true rfl)⟩ rfl hl.1 rfl (Nat.le_of_ble_eq_true rfl) dX7_rise_5 ⟨(Nat.zero_le _), (Nat.zero_le _)⟩ ?_
  refine lv_if_ne (tgt := 13) hx hb dX7_rise_8 (by decide) (fun c_22 => ?_) (fun c_22 => ?_)
  · have hf := ite_f c_22 hf
    refine lv_aload_n hx hb dX7_rise_13 rfl (lv_at hl 0 rfl) ?_
    refine va_get (D := E.1) (ci := 7) (v := .ref tr0) (C := RX7) (T := TX7) (N := 7) hx hb hts in_X7_rise_X7 hown hK hP 0 rfl rfl 5 (by decide) q_1 (fun _ h9 => h9) rfl dX7_rise_14 ?_
    refine lv_aload_n hx hb dX7_rise_17 rfl (lv_at hl 0 rfl) ?_
    refine va_get (D := E.1) (ci := 7) (v := .ref pl0) (C := RX7) (T := TX7) (N := 7) hx hb hts in_X7_rise_X7 hown hK hP 0 rfl rfl 2 (by decide) q_0 (fun _ h9 => h9) rfl dX7_rise_18 ?_
    obtain ⟨r_4, h_3, hf⟩ := bd_s hf
    refine ca_V (As := []) (rest := [.ref tr0]) ⟨hx, hb, hml, hown, hts⟩ ⟨hK, hN⟩ hP (c_Pl_z l E pl0 pl1 pl2 pl3 pl4 pl_places pl_links pl_mostDrawn pl_ofTen pl_z pl_lengths pl_told pl_delays pl_fractions r_4 h_3) [10, 11, 12, 13, 14] rfl 5 10 rfl rfl rfl gX7_rise_X5_z rfl rfl rfl rfl hd_Pl_z ⟨(Nat.le_of_ble_eq_true rfl), (Nat.le_of_ble_eq_true rfl)⟩ rfl hl.1 rfl (Nat.le_of_ble_eq_true rfl) dX7_rise_21 ⟨(Nat.zero_le _), (Nat.zero_le _)⟩ ?_
    obtain ⟨⟨tr_greatestDelay_6, tr_delays_7, tr_fractions_8, tr_heads_9⟩, h_5, hf⟩ := bd_s hf
    try dsimp only at hf
    refine ca_Mv (w2 := (w_Dc E dc0 le0 le1 rd0 rd1 dr0 dr1 dr2 dr3 dr4 pl0 pl1 pl2 pl3 pl4 pa0 pa1 pr0 pr1 pr2 pr3 tr0 tr1 tr2 tr3 pt0 pt1 ca0 cb0 cc0 cd0 le_length le_signs rd_numbers dr_places dr_links dr_mostDrawn dr_ofTen dr_z dr_lengths dr_told dr_delays dr_fractions pl_places pl_links pl_mostDrawn pl_ofTen pl_z pl_lengths pl_told pl_delays pl_fractions pa_sums pr_greatestDelay pr_delays pr_fractions pr_heads tr_greatestDelay_6 tr_delays_7 tr_fractions_8 tr_heads_9 pt_next pt_kept hk_kind hk_i hk_j hk_length hk_wasTold hk_d hk_f hk_z)) (As := [.int r_4]) (rest := []) ⟨hx, hb, hml, hown, hts⟩ ⟨hK, hN⟩ hP hD hS hA (c_Cl_settleBy l E tr0 tr1 tr2 tr3 pl0 pl1 pl2 pl3 pl4 pa0 pa1 H.size tr_greatestDelay tr_delays tr_fractions tr_heads pl_places pl_links pl_mostDrawn pl_ofTen pl_z pl_lengths pl_told pl_delays pl_fractions pa_sums r_4 (tr_greatestDelay_6, tr_delays_7, tr_fractions_8, tr_heads_9) h_5) [21, 22, 23, 24, 10, 11, 12, 13, 14, 15, 16] [0, 1, 2, 3, 4, 5, 6, 7, 8, 9, 17, 18, 19, 20, 25, 26, 27, 28, 29, 30] [0, 1, 2, 3, 4, 5, 6, 7, 8, 9, 24, 25, 26, 27, 28, 29, 30, 10, 11, 12, 13, 20, 21, 22, 23, 14, 15, 16, 17, 18, 19] rfl rfl rfl rfl (by decide) rfl rfl 1 21 rfl rfl rfl gX7_rise_X1_settleBy rfl rfl rfl rfl hd_Cl_settleBy ⟨(Nat.le_of_ble_eq_true rfl), (Nat.le_of_ble_eq_true rfl)⟩ rfl hl.1 rfl (Nat.le_of_ble_eq_true rfl) dX7_rise_24 ⟨(Nat.zero_le _), (Nat.zero_le _)⟩ (fun H locs hP hD hS => ?_)
    refine lv_iconst (v := 0) hx hb dX7_rise_27 (by decide) ?_
    refine lv_istore_n (lv' := [(2, .int 0), (0, .ref dc0), (1, .int a1)]) hx hb dX7_rise_28 rfl hl (by decide) rfl (fun ls hl => ?_)
    obtain ⟨w_29, i_29, hf⟩ := bd_s hf
    have KE_29 : ∀ y_, Sum.inr y_ = w_29 → some y_ = some res := by intro y_ e_; subst e_; exact hf
    have KX_29 : ∀ (tr_greatestDelay_20 : Int32) (tr_delays_21 : Nat → Int32), Sum.inl (tr_greatestDelay_20, tr_delays_21) = w_29 → ∀ (H : Heap) (locs : List Loc) (ls : Array Slot), va_P E.1 vwCl (w_Dc E dc0 le0 le1 rd0 rd1 dr0 dr1 dr2 dr3 dr4 pl0 pl1 pl2 pl3 pl4 pa0 pa1 pr0 pr1 pr2 pr3 tr0 tr1 tr2 tr3 pt0 pt1 ca0 cb0 cc0 cd0 le_length le_signs rd_numbers dr_places dr_links dr_mostDrawn dr_ofTen dr_z dr_lengths dr_told dr_delays dr_fractions pl_places pl_links pl_mostDrawn pl_ofTen pl_z pl_lengths pl_told pl_delays pl_fractions pa_sums pr_greatestDelay pr_delays pr_fractions pr_heads tr_greatestDelay_20 tr_delays_21 tr_fractions_8 tr_heads_9 pt_next pt_kept hk_kind hk_i hk_j hk_length hk_wasTold hk_d hk_f hk_z) H → va_D A (w_Dc E dc0 le0 le1 rd0 rd1 dr0 dr1 dr2 dr3 dr4 pl0 pl1 pl2 pl3 pl4 pa0 pa1 pr0 pr1 pr2 pr3 tr0 tr1 tr2 tr3 pt0 pt1 ca0 cb0 cc0 cd0 le_length le_signs rd_numbers dr_places dr_links dr_mostDrawn dr_ofTen dr_z dr_lengths dr_told dr_delays dr_fractions pl_places pl_links pl_mostDrawn pl_ofTen pl_z pl_lengths pl_told pl_delays pl_fractions pa_sums pr_greatestDelay pr_delays pr_fractions pr_heads tr_greatestDelay_20 tr_delays_21 tr_fractions_8 tr_heads_9 pt_next pt_kept hk_kind hk_i hk_j hk_length hk_wasTold hk_d hk_f hk_z) → va_S A s.heap H locs → lv_has ls 3 [] → W p l e rm_Dc_rise s m args below meth c H locs 0 0 Q (F0 m 64 ls []) := by
      intro tr_greatestDelay_20 tr_delays_21 e_
      subst e_
      try dsimp only at hf
      intro H locs ls hP hD hS hl
      refine lv_bipush (v := (-4)) hx hb dX7_rise_64 (by decide) ?_
      exact hret H locs ls 66 (-4) (tr_greatestDelay_20, tr_delays_21, tr_fractions_8, tr_heads_9) dX7_rise_66 (Option.some.inj hf) hP hD hS
    have KL_29 : ∀ (n_ : Nat) (v2_10 : Int32) (tr_greatestDelay_11 : Int32) (tr_delays_12 : Nat → Int32), it (Dc_rise_L29 pl_places pa_sums a1 tr_fractions_8 tr_heads_9) n_ (v2_10, tr_greatestDelay_11, tr_delays_12) = some w_29 → ∀ (H : Heap) (locs : List Loc) (ls : Array Slot), va_P E.1 vwCl (w_Dc E dc0 le0 le1 rd0 rd1 dr0 dr1 dr2 dr3 dr4 pl0 pl1 pl2 pl3 pl4 pa0 pa1 pr0 pr1 pr2 pr3 tr0 tr1 tr2 tr3 pt0 pt1 ca0 cb0 cc0 cd0 le_length le_signs rd_numbers dr_places dr_links dr_mostDrawn dr_ofTen dr_z dr_lengths dr_told dr_delays dr_fractions pl_places pl_links pl_mostDrawn pl_ofTen pl_z pl_lengths pl_told pl_delays pl_fractions pa_sums pr_greatestDelay pr_delays pr_fractions pr_heads tr_greatestDelay_11 tr_delays_12 tr_fractions_8 tr_heads_9 pt_next pt_kept hk_kind hk_i hk_j hk_length hk_wasTold hk_d hk_f hk_z) H → va_D A (w_Dc E dc0 le0 le1 rd0 rd1 dr0 dr1 dr2 dr3 dr4 pl0 pl1 pl2 pl3 pl4 pa0 pa1 pr0 pr1 pr2 pr3 tr0 tr1 tr2 tr3 pt0 pt1 ca0 cb0 cc0 cd0 le_length le_signs rd_numbers dr_places dr_links dr_mostDrawn dr_ofTen dr_z dr_lengths dr_told dr_delays dr_fractions pl_places pl_links pl_mostDrawn pl_ofTen pl_z pl_lengths pl_told pl_delays pl_fractions pa_sums pr_greatestDelay pr_delays pr_fractions pr_heads tr_greatestDelay_11 tr_delays_12 tr_fractions_8 tr_heads_9 pt_next pt_kept hk_kind hk_i hk_j hk_length hk_wasTold hk_d hk_f hk_z) → va_S A s.heap H locs → lv_has ls 3 [(0, .ref dc0), (1, .int a1), (2, .int v2_10)] → W p l e rm_Dc_rise s m args below meth c H locs 0 0 Q (F0 m 29 ls []) := by
      intro n_
      induction n_ with
      | zero => intro v2_10 tr_greatestDelay_11 tr_delays_12 hit; exact (it_z hit).elim
      | succ n_29 ih_29 =>
        intro v2_10 tr_greatestDelay_11 tr_delays_12 hit
        intro H locs ls hP hD hS hl
        obtain ⟨x_29, hf, hc_29, hq_29⟩ := it_s hit
        dsimp only [Dc_rise_L29] at hf
        refine lv_iload_n hx hb dX7_rise_29 rfl (lv_at hl 2 rfl) ?_
        refine lv_bipush (v := 30) hx hb dX7_rise_30 (by decide) ?_
        refine lv_icmp_gt (tgt := 64) hx hb dX7_rise_32 (by decide) (fun c_19 => ?_) (fun c_19 => ?_)
        · have hf := ite_t c_19 hf
          exact KX_29 tr_greatestDelay_11 tr_delays_12 (hq_29 _ (Option.some.inj hf).symm) H locs _ hP hD hS (lv_sub hl [] rfl)
        · have hf := ite_f c_19 hf
          refine lv_aload_n hx hb dX7_rise_35 rfl (lv_at hl 0 rfl) ?_
          refine va_get (D := E.1) (ci := 7) (v := .ref tr0) (C := RX7) (T := TX7) (N := 7) hx hb hts in_X7_rise_X7 hown hK hP 0 rfl rfl 5 (by decide) q_1 (fun _ h9 => h9) rfl dX7_rise_36 ?_
          refine lv_iload_n hx hb dX7_rise_39 rfl (lv_at hl 1 rfl) ?_
          refine lv_iload_n hx hb dX7_rise_40 rfl (lv_at hl 2 rfl) ?_
          obtain ⟨⟨tr_greatestDelay_14, tr_delays_15⟩, h_13, hf⟩ := bd_s hf
          try dsimp only at hf
          refine ca_Mv (w2 := (w_Dc E dc0 le0 le1 rd0 rd1 dr0 dr1 dr2 dr3 dr4 pl0 pl1 pl2 pl3 pl4 pa0 pa1 pr0 pr1 pr2 pr3 tr0 tr1 tr2 tr3 pt0 pt1 ca0 cb0 cc0 cd0 le_length le_signs rd_numbers dr_places dr_links dr_mostDrawn dr_ofTen dr_z dr_lengths dr_told dr_delays dr_fractions pl_places pl_links pl_mostDrawn pl_ofTen pl_z pl_lengths pl_told pl_delays pl_fractions pa_sums pr_greatestDelay pr_delays pr_fractions pr_heads tr_greatestDelay_14 tr_delays_15 tr_fractions_8 tr_heads_9 pt_next pt_kept hk_kind hk_i hk_j hk_length hk_wasTold hk_d hk_f hk_z)) (As := [.int a1, .int v2_10]) (rest := []) ⟨hx, hb, hml, hown, hts⟩ ⟨hK, hN⟩ hP hD hS hA (c_Cl_replaceDelay l E tr0 tr1 tr2 tr3 pl0 pl1 pl2 pl3 pl4 pa0 pa1 H.size tr_greatestDelay_11 tr_delays_12 tr_fractions_8 tr_heads_9 pl_places pl_links pl_mostDrawn pl_ofTen pl_z pl_lengths pl_told pl_delays pl_fractions pa_sums a1 v2_10 (tr_greatestDelay_14, tr_delays_15) h_13) [21, 22, 23, 24, 10, 11, 12, 13, 14, 15, 16] [0, 1, 2, 3, 4, 5, 6, 7, 8, 9, 17, 18, 19, 20, 25, 26, 27, 28, 29, 30] [0, 1, 2, 3, 4, 5, 6, 7, 8, 9, 24, 25, 26, 27, 28, 29, 30, 10, 11, 12, 13, 20, 21, 22, 23, 14, 15, 16, 17, 18, 19] rfl rfl rfl rfl (by decide) rfl rfl 1 21 rfl rfl rfl gX7_rise_X1_replaceDelay rfl rfl rfl rfl hd_Cl_replaceDelay ⟨(Nat.le_of_ble_eq_true rfl), (Nat.le_of_ble_eq_true rfl)⟩ rfl hl.1 rfl (Nat.le_of_ble_eq_true rfl) dX7_rise_41 ⟨(Nat.zero_le _), (Nat.zero_le _)⟩ (fun H locs hP hD hS => ?_)
          refine lv_aload_n hx hb dX7_rise_44 rfl (lv_at hl 0 rfl) ?_
          refine va_get (D := E.1) (ci := 7) (v := .ref tr0) (C := RX7) (T := TX7) (N := 7) hx hb hts in_X7_rise_X7 hown hK hP 0 rfl rfl 5 (by decide) q_1 (fun _ h9 => h9) rfl dX7_rise_45 ?_
          refine lv_iload_n hx hb dX7_rise_48 rfl (lv_at hl 1 rfl) ?_
          obtain ⟨r_17, h_16, hf⟩ := bd_s hf
          refine ca_V (As := [.int a1]) (rest := []) ⟨hx, hb, hml, hown, hts⟩ ⟨hK, hN⟩ hP (c_Cl_earliestAt l E tr0 tr1 tr2 tr3 pl0 pl1 pl2 pl3 pl4 pa0 pa1 tr_greatestDelay_14 tr_delays_15 tr_fractions_8 tr_heads_9 pl_places pl_links pl_mostDrawn pl_ofTen pl_z pl_lengths pl_told pl_delays pl_fractions pa_sums a1 r_17 h_16) [21, 22, 23, 24, 10, 11, 12, 13, 14, 15, 16] rfl 1 21 rfl rfl rfl gX7_rise_X1_earliestAt rfl rfl rfl rfl hd_Cl_earliestAt ⟨(Nat.le_of_ble_eq_true rfl), (Nat.le_of_ble_eq_true rfl)⟩ rfl hl.1 rfl (Nat.le_of_ble_eq_true rfl) dX7_rise_49 ⟨(Nat.zero_le _), (Nat.zero_le _)⟩ ?_
          refine lv_iload_n hx hb dX7_rise_52 rfl (lv_at hl 1 rfl) ?_
          refine lv_icmp_ne (tgt := 58) hx hb dX7_rise_53 (by decide) (fun c_18 => ?_) (fun c_18 => ?_)
          · have hf := ite_f c_18 hf
            refine lv_iinc (v := (v2_10 + 1)) (lv' := [(2, .int (v2_10 + 1)), (0, .ref dc0), (1, .int a1)]) hx hb dX7_rise_58 hl (k := 2) rfl rfl (by decide) rfl (fun ls hl => ?_)
            refine lv_goto (tgt := 29) hx hb dX7_rise_61 (by decide) ?_
            exact ih_29 (v2_10 + 1) tr_greatestDelay_14 tr_delays_15 (hc_29 _ (Option.some.inj hf).symm) H locs _ hP hD hS (lv_sub hl [1, 2, 0] rfl)
          · have hf := ite_t c_18 hf
            refine lv_iload_n hx hb dX7_rise_56 rfl (lv_at hl 2 rfl) ?_
            have hf := KE_29 _ (hq_29 _ (Option.some.inj hf).symm)
            exact hret H locs ls 57 v2_10 (tr_greatestDelay_14, tr_delays_15, tr_fractions_8, tr_heads_9) dX7_rise_57 (Option.some.inj hf) hP hD hS
    exact KL_29 _ 0 tr_greatestDelay_6 tr_delays_7 i_29 H locs _ hP hD hS (lv_sub hl [1, 2, 0] rfl)
  · have hf := ite_t c_22 hf
    refine lv_iconst (v := (-1)) hx hb dX7_rise_11 (by decide) ?_
    exact hret H locs ls 12 (-1) (tr_greatestDelay, tr_delays, tr_fractions, tr_heads) dX7_rise_12 (Option.some.inj hf) hP hD hS
abbrev rm_Dc_count : Room := { frames := 4, cells := 0, slots := 0, locals := 86 }
theorem hd_Dc_count : hdOK yX7_count 1 := by decide +kernel
theorem in_X7_count_X7 : ∀ w ∈ wsX70, w ∈ wsX7_count := by decide +kernel
set_option maxRecDepth 100000 in
set_option maxHeartbeats 4000000 in
theorem c_Dc_count (l : Launch) (E : En4) (dc0 le0 le1 rd0 rd1 dr0 dr1 dr2 dr3 dr4 pl0 pl1 pl2 pl3 pl4 pa0 pa1 pr0 pr1 pr2 pr3 tr0 tr1 tr2 tr3 pt0 pt1 ca0 cb0 cc0 cd0 : Nat) (le_length : Int32) (le_signs : Nat → Int32) (rd_numbers : Nat → Int32) (dr_places : Int32) (dr_links : Int32) (dr_mostDrawn : Int32) (dr_ofTen : Int32) (dr_z : Int32) (dr_lengths : Nat → Int32) (dr_told : Nat → Int32) (dr_delays : Nat → Int32) (dr_fractions : Nat → Int32) (pl_places : Int32) (pl_links : Int32) (pl_mostDrawn : Int32) (pl_ofTen : Int32) (pl_z : Int32) (pl_lengths : Nat → Int32) (pl_told : Nat → Int32) (pl_delays : Nat → Int32) (pl_fractions : Nat → Int32) (pa_sums : Nat → Int32) (pr_greatestDelay : Int32) (pr_delays : Nat → Int32) (pr_fractions : Nat → Int32) (pr_heads : Nat → Int32) (tr_greatestDelay : Int32) (tr_delays : Nat → Int32) (tr_fractions : Nat → Int32) (tr_heads : Nat → Int32) (pt_next : Int32) (pt_kept : Int32) (hk_kind : Nat → Int32) (hk_i : Nat → Int32) (hk_j : Nat → Int32) (hk_length : Nat → Int32) (hk_wasTold : Nat → Int32) (hk_d : Nat → Int32) (hk_f : Nat → Int32) (hk_z : Nat → Int32) (a1 : Int32)  (res : Int32) (hf : Dc_count le_length pl_places pl_links pl_mostDrawn pl_ofTen pl_z pl_lengths pl_told pa_sums pr_greatestDelay pr_delays pr_heads pt_kept a1 = some res) : Met l yX7_count wsX7_count rm_Dc_count (pcR [.ref dc0, .int a1] E (w_Dc E dc0 le0 le1 rd0 rd1 dr0 dr1 dr2 dr3 dr4 pl0 pl1 pl2 pl3 pl4 pa0 pa1 pr0 pr1 pr2 pr3 tr0 tr1 tr2 tr3 pt0 pt1 ca0 cb0 cc0 cd0 le_length le_signs rd_numbers dr_places dr_links dr_mostDrawn dr_ofTen dr_z dr_lengths dr_told dr_delays dr_fractions pl_places pl_links pl_mostDrawn pl_ofTen pl_z pl_lengths pl_told pl_delays pl_fractions pa_sums pr_greatestDelay pr_delays pr_fractions pr_heads tr_greatestDelay tr_delays tr_fractions tr_heads pt_next pt_kept hk_kind hk_i hk_j hk_length hk_wasTold hk_d hk_f hk_z)) (vp_Si (fun r => r = res)) 0 0 (fun _ => False) := by
  refine mk_Ri (cc := cX7_count) (maxL := 2) (by decide) rfl (Nat.le_of_ble_eq_true rfl) ?_
  intro p e s m args below meth c Q S hKN hP hret ls hl
  obtain ⟨hx, hb, hml, hown, hts⟩ := S
  obtain ⟨hK, hN⟩ := hKN
  have hl : lv_has ls 2 [(0, .ref dc0), (1, .int a1)] := hl
  have q_0 := hts (.fieldLink RX7 26 "DelayClusters" "plan" "LDelayClusters$Plan;") (by decide +kernel)
  have q_1 := hts (.fieldLink RX7 42 "DelayClusters" "present" "LDelayClusters$Clustering;") (by decide +kernel)
  have q_2 := hts (.fieldLink RX7 52 "DelayClusters" "past" "LDelayClusters$Past;") (by decide +kernel)
  have q_3 := hts (.fieldLink RX7 10 "DelayClusters" "text" "LDelayClusters$Letters;") (by decide +kernel)
  unfold Dc_count at hf
  refine lv_iload_n hx hb dX7_count_0 rfl (lv_at hl 1 rfl) ?_
  by_cases c_3 : a1 = 0
  · have hf := ite_t c_3 hf
    refine lv_tableIn (off := 67) (tgt := 68) hx hb dX7_count_1 (by rw [c_3]; decide) (by rw [c_3]; decide) (by rw [c_3]; rfl) (by decide) ?_
    refine lv_aload_n hx hb dX7_count_68 rfl (lv_at hl 0 rfl) ?_
    refine va_get (D := E.1) (ci := 7) (v := .ref pl0) (C := RX7) (T := TX7) (N := 7) hx hb hts in_X7_count_X7 hown hK hP 0 rfl rfl 2 (by decide) q_0 (fun _ h9 => h9) rfl dX7_count_69 ?_
    obtain ⟨r_2, h_1, hf⟩ := bd_s hf
    refine ca_V (As := []) (rest := []) ⟨hx, hb, hml, hown, hts⟩ ⟨hK, hN⟩ hP (c_Pl_places l E pl0 pl1 pl2 pl3 pl4 pl_places pl_links pl_mostDrawn pl_ofTen pl_z pl_lengths pl_told pl_delays pl_fractions r_2 h_1) [10, 11, 12, 13, 14] rfl 5 10 rfl rfl rfl gX7_count_X5_places rfl rfl rfl rfl hd_Pl_places ⟨(Nat.le_of_ble_eq_true rfl), (Nat.le_of_ble_eq_true rfl)⟩ rfl hl.1 rfl (Nat.le_of_ble_eq_true rfl) dX7_count_72 ⟨(Nat.zero_le _), (Nat.zero_le _)⟩ ?_
    refine lv_goto (tgt := 199) hx hb dX7_count_75 (by decide) ?_
    exact hret ls 199 r_2 dX7_count_199 (Option.some.inj hf)
  · have hf := ite_f c_3 hf
    by_cases c_6 : a1 = 1
    · have hf := ite_t c_6 hf
      refine lv_tableIn (off := 77) (tgt := 78) hx hb dX7_count_1 (by rw [c_6]; decide) (by rw [c_6]; decide) (by rw [c_6]; rfl) (by decide) ?_
      refine lv_aload_n hx hb dX7_count_78 rfl (lv_at hl 0 rfl) ?_
      refine va_get (D := E.1) (ci := 7) (v := .ref pl0) (C := RX7) (T := TX7) (N := 7) hx hb hts in_X7_count_X7 hown hK hP 0 rfl rfl 2 (by decide) q_0 (fun _ h9 => h9) rfl dX7_count_79 ?_
      obtain ⟨r_5, h_4, hf⟩ := bd_s hf
      refine ca_V (As := []) (rest := []) ⟨hx, hb, hml, hown, hts⟩ ⟨hK, hN⟩ hP (c_Pl_links l E pl0 pl1 pl2 pl3 pl4 pl_places pl_links pl_mostDrawn pl_ofTen pl_z pl_lengths pl_told pl_delays pl_fractions r_5 h_4) [10, 11, 12, 13, 14] rfl 5 10 rfl rfl rfl gX7_count_X5_links rfl rfl rfl rfl hd_Pl_links ⟨(Nat.le_of_ble_eq_true rfl), (Nat.le_of_ble_eq_true rfl)⟩ rfl hl.1 rfl (Nat.le_of_ble_eq_true rfl) dX7_count_82 ⟨(Nat.zero_le _), (Nat.zero_le _)⟩ ?_
      refine lv_goto (tgt := 199) hx hb dX7_count_85 (by decide) ?_
      exact hret ls 199 r_5 dX7_count_199 (Option.some.inj hf)
    · have hf := ite_f c_6 hf
      by_cases c_9 : a1 = 2
      · have hf := ite_t c_9 hf
        refine lv_tableIn (off := 87) (tgt := 88) hx hb dX7_count_1 (by rw [c_9]; decide) (by rw [c_9]; decide) (by rw [c_9]; rfl) (by decide) ?_
        refine lv_aload_n hx hb dX7_count_88 rfl (lv_at hl 0 rfl) ?_
        refine va_get (D := E.1) (ci := 7) (v := .ref pr0) (C := RX7) (T := TX7) (N := 7) hx hb hts in_X7_count_X7 hown hK hP 0 rfl rfl 4 (by decide) q_1 (fun _ h9 => h9) rfl dX7_count_89 ?_
        obtain ⟨r_8, h_7, hf⟩ := bd_s hf
        refine ca_V (As := []) (rest := []) ⟨hx, hb, hml, hown, hts⟩ ⟨hK, hN⟩ hP (c_Cl_clusters l E pr0 pr1 pr2 pr3 pl0 pl1 pl2 pl3 pl4 pa0 pa1 pr_greatestDelay pr_delays pr_fractions pr_heads pl_places pl_links pl_mostDrawn pl_ofTen pl_z pl_lengths pl_told pl_delays pl_fractions pa_sums r_8 h_7) [17, 18, 19, 20, 10, 11, 12, 13, 14, 15, 16] rfl 1 17 rfl rfl rfl gX7_count_X1_clusters rfl rfl rfl rfl hd_Cl_clusters ⟨(Nat.le_of_ble_eq_true rfl), (Nat.le_of_ble_eq_true rfl)⟩ rfl hl.1 rfl (Nat.le_of_ble_eq_true rfl) dX7_count_92 ⟨(Nat.zero_le _), (Nat.zero_le _)⟩ ?_
        refine lv_goto (tgt := 199) hx hb dX7_count_95 (by decide) ?_
        exact hret ls 199 r_8 dX7_count_199 (Option.some.inj hf)
      · have hf := ite_f c_9 hf
        by_cases c_12 : a1 = 3
        · have hf := ite_t c_12 hf
          refine lv_tableIn (off := 97) (tgt := 98) hx hb dX7_count_1 (by rw [c_12]; decide) (by rw [c_12]; decide) (by rw [c_12]; rfl) (by decide) ?_
          refine lv_aload_n hx hb dX7_count_98 rfl (lv_at hl 0 rfl) ?_
          refine va_get (D := E.1) (ci := 7) (v := .ref pr0) (C := RX7) (T := TX7) (N := 7) hx hb hts in_X7_count_X7 hown hK hP 0 rfl rfl 4 (by decide) q_1 (fun _ h9 => h9) rfl dX7_count_99 ?_
          obtain ⟨r_11, h_10, hf⟩ := bd_s hf
          refine ca_V (As := []) (rest := []) ⟨hx, hb, hml, hown, hts⟩ ⟨hK, hN⟩ hP (c_Cl_cutLinks l E pr0 pr1 pr2 pr3 pl0 pl1 pl2 pl3 pl4 pa0 pa1 pr_greatestDelay pr_delays pr_fractions pr_heads pl_places pl_links pl_mostDrawn pl_ofTen pl_z pl_lengths pl_told pl_delays pl_fractions pa_sums r_11 h_10) [17, 18, 19, 20, 10, 11, 12, 13, 14, 15, 16] rfl 1 17 rfl rfl rfl gX7_count_X1_cutLinks rfl rfl rfl rfl hd_Cl_cutLinks ⟨(Nat.le_of_ble_eq_true rfl), (Nat.le_of_ble_eq_true rfl)⟩ rfl hl.1 rfl (Nat.le_of_ble_eq_true rfl) dX7_count_102 ⟨(Nat.zero_le _), (Nat.zero_le _)⟩ ?_
          refine lv_goto (tgt := 199) hx hb dX7_count_105 (by decide) ?_
          exact hret ls 199 r_11 dX7_count_199 (Option.some.inj hf)
        · have hf := ite_f c_12 hf
          by_cases c_15 : a1 = 4
          · have hf := ite_t c_15 hf
            refine lv_tableIn (off := 107) (tgt := 108) hx hb dX7_count_1 (by rw [c_15]; decide) (by rw [c_15]; decide) (by rw [c_15]; rfl) (by decide) ?_
            refine lv_aload_n hx hb dX7_count_108 rfl (lv_at hl 0 rfl) ?_
            refine va_get (D := E.1) (ci := 7) (v := .ref pr0) (C := RX7) (T := TX7) (N := 7) hx hb hts in_X7_count_X7 hown hK hP 0 rfl rfl 4 (by decide) q_1 (fun _ h9 => h9) rfl dX7_count_109 ?_
            obtain ⟨r_14, h_13, hf⟩ := bd_s hf
            refine ca_V (As := []) (rest := []) ⟨hx, hb, hml, hown, hts⟩ ⟨hK, hN⟩ hP (c_Cl_spareLinks l E pr0 pr1 pr2 pr3 pl0 pl1 pl2 pl3 pl4 pa0 pa1 pr_greatestDelay pr_delays pr_fractions pr_heads pl_places pl_links pl_mostDrawn pl_ofTen pl_z pl_lengths pl_told pl_delays pl_fractions pa_sums r_14 h_13) [17, 18, 19, 20, 10, 11, 12, 13, 14, 15, 16] rfl 1 17 rfl rfl rfl gX7_count_X1_spareLinks rfl rfl rfl rfl hd_Cl_spareLinks ⟨(Nat.le_of_ble_eq_true rfl), (Nat.le_of_ble_eq_true rfl)⟩ rfl hl.1 rfl (Nat.le_of_ble_eq_true rfl) dX7_count_112 ⟨(Nat.zero_le _), (Nat.zero_le _)⟩ ?_
            refine lv_goto (tgt := 199) hx hb dX7_count_115 (by decide) ?_
            exact hret ls 199 r_14 dX7_count_199 (Option.some.inj hf)
          · have hf := ite_f c_15 hf
            by_cases c_18 : a1 = 5
            · have hf := ite_t c_18 hf
              refine lv_tableIn (off := 117) (tgt := 118) hx hb dX7_count_1 (by rw [c_18]; decide) (by rw [c_18]; decide) (by rw [c_18]; rfl) (by decide) ?_
              refine lv_aload_n hx hb dX7_count_118 rfl (lv_at hl 0 rfl) ?_
              refine va_get (D := E.1) (ci := 7) (v := .ref pr0) (C := RX7) (T := TX7) (N := 7) hx hb hts in_X7_count_X7 hown hK hP 0 rfl rfl 4 (by decide) q_1 (fun _ h9 => h9) rfl dX7_count_119 ?_
              obtain ⟨r_17, h_16, hf⟩ := bd_s hf
              refine ca_V (As := []) (rest := []) ⟨hx, hb, hml, hown, hts⟩ ⟨hK, hN⟩ hP (c_Cl_greatestWide l E pr0 pr1 pr2 pr3 pl0 pl1 pl2 pl3 pl4 pa0 pa1 pr_greatestDelay pr_delays pr_fractions pr_heads pl_places pl_links pl_mostDrawn pl_ofTen pl_z pl_lengths pl_told pl_delays pl_fractions pa_sums r_17 h_16) [17, 18, 19, 20, 10, 11, 12, 13, 14, 15, 16] rfl 1 17 rfl rfl rfl gX7_count_X1_greatestWide rfl rfl rfl rfl hd_Cl_greatestWide ⟨(Nat.le_of_ble_eq_true rfl), (Nat.le_of_ble_eq_true rfl)⟩ rfl hl.1 rfl (Nat.le_of_ble_eq_true rfl) dX7_count_122 ⟨(Nat.zero_le _), (Nat.zero_le _)⟩ ?_
              refine lv_goto (tgt := 199) hx hb dX7_count_125 (by decide) ?_
              exact hret ls 199 r_17 dX7_count_199 (Option.some.inj hf)
            · have hf := ite_f c_18 hf
              by_cases c_21 : a1 = 6
              · have hf := ite_t c_21 hf
                refine lv_tableIn (off := 127) (tgt := 128) hx hb dX7_count_1 (by rw [c_21]; decide) (by rw [c_21]; decide) (by rw [c_21]; rfl) (by decide) ?_
                refine lv_aload_n hx hb dX7_count_128 rfl (lv_at hl 0 rfl) ?_
                refine va_get (D := E.1) (ci := 7) (v := .ref pr0) (C := RX7) (T := TX7) (N := 7) hx hb hts in_X7_count_X7 hown hK hP 0 rfl rfl 4 (by decide) q_1 (fun _ h9 => h9) rfl dX7_count_129 ?_
                obtain ⟨r_20, h_19, hf⟩ := bd_s hf
                refine ca_V (As := []) (rest := []) ⟨hx, hb, hml, hown, hts⟩ ⟨hK, hN⟩ hP (c_Cl_lastHour l E pr0 pr1 pr2 pr3 pl0 pl1 pl2 pl3 pl4 pa0 pa1 pr_greatestDelay pr_delays pr_fractions pr_heads pl_places pl_links pl_mostDrawn pl_ofTen pl_z pl_lengths pl_told pl_delays pl_fractions pa_sums r_20 h_19) [17, 18, 19, 20, 10, 11, 12, 13, 14, 15, 16] rfl 1 17 rfl rfl rfl gX7_count_X1_lastHour rfl rfl rfl rfl hd_Cl_lastHour ⟨(Nat.le_of_ble_eq_true rfl), (Nat.le_of_ble_eq_true rfl)⟩ rfl hl.1 rfl (Nat.le_of_ble_eq_true rfl) dX7_count_132 ⟨(Nat.zero_le _), (Nat.zero_le _)⟩ ?_
                refine lv_goto (tgt := 199) hx hb dX7_count_135 (by decide) ?_
                exact hret ls 199 r_20 dX7_count_199 (Option.some.inj hf)
              · have hf := ite_f c_21 hf
                by_cases c_24 : a1 = 7
                · have hf := ite_t c_24 hf
                  refine lv_tableIn (off := 137) (tgt := 138) hx hb dX7_count_1 (by rw [c_24]; decide) (by rw [c_24]; decide) (by rw [c_24]; rfl) (by decide) ?_
                  refine lv_aload_n hx hb dX7_count_138 rfl (lv_at hl 0 rfl) ?_
                  refine va_get (D := E.1) (ci := 7) (v := .ref pl0) (C := RX7) (T := TX7) (N := 7) hx hb hts in_X7_count_X7 hown hK hP 0 rfl rfl 2 (by decide) q_0 (fun _ h9 => h9) rfl dX7_count_139 ?_
                  obtain ⟨r_23, h_22, hf⟩ := bd_s hf
                  refine ca_V (As := []) (rest := []) ⟨hx, hb, hml, hown, hts⟩ ⟨hK, hN⟩ hP (c_Pl_toldDelays l E pl0 pl1 pl2 pl3 pl4 pl_places pl_links pl_mostDrawn pl_ofTen pl_z pl_lengths pl_told pl_delays pl_fractions r_23 h_22) [10, 11, 12, 13, 14] rfl 5 10 rfl rfl rfl gX7_count_X5_toldDelays rfl rfl rfl rfl hd_Pl_toldDelays ⟨(Nat.le_of_ble_eq_true rfl), (Nat.le_of_ble_eq_true rfl)⟩ rfl hl.1 rfl (Nat.le_of_ble_eq_true rfl) dX7_count_142 ⟨(Nat.zero_le _), (Nat.zero_le _)⟩ ?_
                  refine lv_goto (tgt := 199) hx hb dX7_count_145 (by decide) ?_
                  exact hret ls 199 r_23 dX7_count_199 (Option.some.inj hf)
                · have hf := ite_f c_24 hf
                  by_cases c_27 : a1 = 8
                  · have hf := ite_t c_27 hf
                    refine lv_tableIn (off := 147) (tgt := 148) hx hb dX7_count_1 (by rw [c_27]; decide) (by rw [c_27]; decide) (by rw [c_27]; rfl) (by decide) ?_
                    refine lv_aload_n hx hb dX7_count_148 rfl (lv_at hl 0 rfl) ?_
                    refine va_get (D := E.1) (ci := 7) (v := .ref pl0) (C := RX7) (T := TX7) (N := 7) hx hb hts in_X7_count_X7 hown hK hP 0 rfl rfl 2 (by decide) q_0 (fun _ h9 => h9) rfl dX7_count_149 ?_
                    obtain ⟨r_26, h_25, hf⟩ := bd_s hf
                    refine ca_V (As := []) (rest := []) ⟨hx, hb, hml, hown, hts⟩ ⟨hK, hN⟩ hP (c_Pl_z l E pl0 pl1 pl2 pl3 pl4 pl_places pl_links pl_mostDrawn pl_ofTen pl_z pl_lengths pl_told pl_delays pl_fractions r_26 h_25) [10, 11, 12, 13, 14] rfl 5 10 rfl rfl rfl gX7_count_X5_z rfl rfl rfl rfl hd_Pl_z ⟨(Nat.le_of_ble_eq_true rfl), (Nat.le_of_ble_eq_true rfl)⟩ rfl hl.1 rfl (Nat.le_of_ble_eq_true rfl) dX7_count_152 ⟨(Nat.zero_le _), (Nat.zero_le _)⟩ ?_
                    refine lv_goto (tgt := 199) hx hb dX7_count_155 (by decide) ?_
                    exact hret ls 199 r_26 dX7_count_199 (Option.some.inj hf)
                  · have hf := ite_f c_27 hf
                    by_cases c_30 : a1 = 9
                    · have hf := ite_t c_30 hf
                      refine lv_tableIn (off := 157) (tgt := 158) hx hb dX7_count_1 (by rw [c_30]; decide) (by rw [c_30]; decide) (by rw [c_30]; rfl) (by decide) ?_
                      refine lv_aload_n hx hb dX7_count_158 rfl (lv_at hl 0 rfl) ?_
                      refine va_get (D := E.1) (ci := 7) (v := .ref pl0) (C := RX7) (T := TX7) (N := 7) hx hb hts in_X7_count_X7 hown hK hP 0 rfl rfl 2 (by decide) q_0 (fun _ h9 => h9) rfl dX7_count_159 ?_
                      obtain ⟨r_29, h_28, hf⟩ := bd_s hf
                      refine ca_V (As := []) (rest := []) ⟨hx, hb, hml, hown, hts⟩ ⟨hK, hN⟩ hP (c_Pl_mostDrawn l E pl0 pl1 pl2 pl3 pl4 pl_places pl_links pl_mostDrawn pl_ofTen pl_z pl_lengths pl_told pl_delays pl_fractions r_29 h_28) [10, 11, 12, 13, 14] rfl 5 10 rfl rfl rfl gX7_count_X5_mostDrawn rfl rfl rfl rfl hd_Pl_mostDrawn ⟨(Nat.le_of_ble_eq_true rfl), (Nat.le_of_ble_eq_true rfl)⟩ rfl hl.1 rfl (Nat.le_of_ble_eq_true rfl) dX7_count_162 ⟨(Nat.zero_le _), (Nat.zero_le _)⟩ ?_
                      refine lv_goto (tgt := 199) hx hb dX7_count_165 (by decide) ?_
                      exact hret ls 199 r_29 dX7_count_199 (Option.some.inj hf)
                    · have hf := ite_f c_30 hf
                      by_cases c_33 : a1 = 10
                      · have hf := ite_t c_33 hf
                        refine lv_tableIn (off := 167) (tgt := 168) hx hb dX7_count_1 (by rw [c_33]; decide) (by rw [c_33]; decide) (by rw [c_33]; rfl) (by decide) ?_
                        refine lv_aload_n hx hb dX7_count_168 rfl (lv_at hl 0 rfl) ?_
                        refine va_get (D := E.1) (ci := 7) (v := .ref pl0) (C := RX7) (T := TX7) (N := 7) hx hb hts in_X7_count_X7 hown hK hP 0 rfl rfl 2 (by decide) q_0 (fun _ h9 => h9) rfl dX7_count_169 ?_
                        obtain ⟨r_32, h_31, hf⟩ := bd_s hf
                        refine ca_V (As := []) (rest := []) ⟨hx, hb, hml, hown, hts⟩ ⟨hK, hN⟩ hP (c_Pl_ofTen l E pl0 pl1 pl2 pl3 pl4 pl_places pl_links pl_mostDrawn pl_ofTen pl_z pl_lengths pl_told pl_delays pl_fractions r_32 h_31) [10, 11, 12, 13, 14] rfl 5 10 rfl rfl rfl gX7_count_X5_ofTen rfl rfl rfl rfl hd_Pl_ofTen ⟨(Nat.le_of_ble_eq_true rfl), (Nat.le_of_ble_eq_true rfl)⟩ rfl hl.1 rfl (Nat.le_of_ble_eq_true rfl) dX7_count_172 ⟨(Nat.zero_le _), (Nat.zero_le _)⟩ ?_
                        refine lv_goto (tgt := 199) hx hb dX7_count_175 (by decide) ?_
                        exact hret ls 199 r_32 dX7_count_199 (Option.some.inj hf)
                      · have hf := ite_f c_33 hf
                        by_cases c_36 : a1 = 11
                        · have hf := ite_t c_36 hf
                          refine lv_tableIn (off := 177) (tgt := 178) hx hb dX7_count_1 (by rw [c_36]; decide) (by rw [c_36]; decide) (by rw [c_36]; rfl) (by decide) ?_
                          refine lv_aload_n hx hb dX7_count_178 rfl (lv_at hl 0 rfl) ?_
                          refine va_get (D := E.1) (ci := 7) (v := .ref pt0) (C := RX7) (T := TX7) (N := 7) hx hb hts in_X7_count_X7 hown hK hP 0 rfl rfl 6 (by decide) q_2 (fun _ h9 => h9) rfl dX7_count_179 ?_
                          obtain ⟨r_35, h_34, hf⟩ := bd_s hf
                          refine ca_V (As := []) (rest := []) ⟨hx, hb, hml, hown, hts⟩ ⟨hK, hN⟩ hP (c_Pt_kept l E pt0 pt1 ca0 cb0 cc0 cd0 pt_next pt_kept hk_kind hk_i hk_j hk_length hk_wasTold hk_d hk_f hk_z r_35 h_34) [25, 26, 27, 28, 29, 30] rfl 3 25 rfl rfl rfl gX7_count_X3_kept rfl rfl rfl rfl hd_Pt_kept ⟨(Nat.le_of_ble_eq_true rfl), (Nat.le_of_ble_eq_true rfl)⟩ rfl hl.1 rfl (Nat.le_of_ble_eq_true rfl) dX7_count_182 ⟨(Nat.zero_le _), (Nat.zero_le _)⟩ ?_
                          refine lv_goto (tgt := 199) hx hb dX7_count_185 (by decide) ?_
                          exact hret ls 199 r_35 dX7_count_199 (Option.some.inj hf)
                        · have hf := ite_f c_36 hf
                          by_cases c_39 : a1 = 12
                          · have hf := ite_t c_39 hf
                            refine lv_tableIn (off := 187) (tgt := 188) hx hb dX7_count_1 (by rw [c_39]; decide) (by rw [c_39]; decide) (by rw [c_39]; rfl) (by decide) ?_
                            refine lv_aload_n hx hb dX7_count_188 rfl (lv_at hl 0 rfl) ?_
                            refine va_get (D := E.1) (ci := 7) (v := .ref le0) (C := RX7) (T := TX7) (N := 7) hx hb hts in_X7_count_X7 hown hK hP 0 rfl rfl 0 (by decide) q_3 (fun _ h9 => h9) rfl dX7_count_189 ?_
                            obtain ⟨r_38, h_37, hf⟩ := bd_s hf
                            refine ca_V (As := []) (rest := []) ⟨hx, hb, hml, hown, hts⟩ ⟨hK, hN⟩ hP (c_Le_size l E le0 le1 le_length le_signs r_38 h_37) [1, 2] rfl 2 1 rfl rfl rfl gX7_count_X2_size rfl rfl rfl rfl hd_Le_size ⟨(Nat.le_of_ble_eq_true rfl), (Nat.le_of_ble_eq_true rfl)⟩ rfl hl.1 rfl (Nat.le_of_ble_eq_true rfl) dX7_count_192 ⟨(Nat.zero_le _), (Nat.zero_le _)⟩ ?_
                            refine lv_goto (tgt := 199) hx hb dX7_count_195 (by decide) ?_
                            exact hret ls 199 r_38 dX7_count_199 (Option.some.inj hf)
                          · have hf := ite_f c_39 hf
                            refine lv_tableOut (tgt := 198) hx hb dX7_count_1 (by have e_3 := lv_neT (a := 0) c_3 (by decide); have e_6 := lv_neT (a := 1) c_6 (by decide); have e_9 := lv_neT (a := 2) c_9 (by decide); have e_12 := lv_neT (a := 3) c_12 (by decide); have e_15 := lv_neT (a := 4) c_15 (by decide); have e_18 := lv_neT (a := 5) c_18 (by decide); have e_21 := lv_neT (a := 6) c_21 (by decide); have e_24 := lv_neT (a := 7) c_24 (by decide); have e_27 := lv_neT (a := 8) c_27 (by decide); have e_30 := lv_neT (a := 9) c_30 (by decide); have e_33 := lv_neT (a := 10) c_33 (by decide); have e_36 := lv_neT (a := 11) c_36 (by decide); have e_39 := lv_neT (a := 12) c_39 (by decide); omega) (by decide) ?_
                            refine lv_iconst (v := (-1)) hx hb dX7_count_198 (by decide) ?_
                            exact hret ls 199 (-1) dX7_count_199 (Option.some.inj hf)
