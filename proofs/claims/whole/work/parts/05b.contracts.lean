abbrev rm_Rd_draft : Room := { frames := 0, cells := 0, slots := 0, locals := 0 }
theorem hd_Rd_draft : hdOK yX6_draft 0 := by decide +kernel
theorem in_X6_draft_X6 : ∀ w ∈ wsX60, w ∈ wsX6_draft := by decide +kernel
set_option maxRecDepth 100000 in
set_option maxHeartbeats 4000000 in
theorem c_Rd_draft (l : Launch) (E : En4) (rd0 rd1 dr0 dr1 dr2 dr3 dr4 : Nat) (rd_numbers : Nat → Int32) (dr_places : Int32) (dr_links : Int32) (dr_mostDrawn : Int32) (dr_ofTen : Int32) (dr_z : Int32) (dr_lengths : Nat → Int32) (dr_told : Nat → Int32) (dr_delays : Nat → Int32) (dr_fractions : Nat → Int32) : Met l yX6_draft wsX6_draft rm_Rd_draft (pcR [.ref rd0] E (w_Re E rd0 rd1 dr0 dr1 dr2 dr3 dr4 rd_numbers dr_places dr_links dr_mostDrawn dr_ofTen dr_z dr_lengths dr_told dr_delays dr_fractions)) (va_Sr (fun k => k = 0) (fun _ => .ref dr0)) 0 0 (fun _ => False) := by
  refine mk_Rr (cc := cX6_draft) (maxL := 1) (n := "DelayClusters$Plan") (by decide) rfl (Nat.le_of_ble_eq_true rfl) ?_
  intro p e s m args below meth c Q S hKN hP hret ls hl
  obtain ⟨hx, hb, hml, hown, hts⟩ := S
  obtain ⟨hK, hN⟩ := hKN
  have hl : lv_has ls 1 [(0, .ref rd0)] := hl
  have q_0 := hts (.fieldLink RX6 12 "DelayClusters$Reader" "draft" "LDelayClusters$Plan;") (by decide +kernel)
  refine lv_aload_n hx hb dX6_draft_0 rfl (lv_at hl 0 rfl) ?_
  refine va_get (D := E.1) (ci := 6) (v := .ref dr0) (C := RX6) (T := TX6) (N := 2) hx hb hts in_X6_draft_X6 hown hK hP 0 rfl rfl 0 (by decide) q_0 (fun _ h9 => h9) rfl dX6_draft_1 ?_
  exact hret ls 4 dX6_draft_4
abbrev rm_Ch_rememberLink : Room := { frames := 1, cells := 0, slots := 0, locals := 22 }
theorem hd_Ch_rememberLink : hdOK yX0_rememberLink 3 := by decide +kernel
theorem in_X0_rememberLink_X0 : ∀ w ∈ wsX00, w ∈ wsX0_rememberLink := by decide +kernel
set_option maxRecDepth 100000 in
set_option maxHeartbeats 4000000 in
theorem c_Ch_rememberLink (l : Launch) (E : En4) (ch0 pl0 pl1 pl2 pl3 pl4 : Nat) (sz : Nat) (ch_kind : Int32) (ch_i : Int32) (ch_j : Int32) (ch_length : Int32) (ch_wasTold : Int32) (ch_d : Int32) (ch_f : Int32) (ch_z : Int32) (pl_places : Int32) (pl_links : Int32) (pl_mostDrawn : Int32) (pl_ofTen : Int32) (pl_z : Int32) (pl_lengths : Nat → Int32) (pl_told : Nat → Int32) (pl_delays : Nat → Int32) (pl_fractions : Nat → Int32) (a2 : Int32) (a3 : Int32)  (res : Int32 × Int32 × Int32 × Int32) (hf : Ch_rememberLink ch_kind ch_i ch_j ch_length pl_lengths a2 a3 = some res) : Met l yX0_rememberLink wsX0_rememberLink rm_Ch_rememberLink (pcM [.ref ch0, .ref pl0, .int a2, .int a3] E sz (w_Ch E ch0 pl0 pl1 pl2 pl3 pl4 ch_kind ch_i ch_j ch_length ch_wasTold ch_d ch_f ch_z pl_places pl_links pl_mostDrawn pl_ofTen pl_z pl_lengths pl_told pl_delays pl_fractions)) (QMv E sz (w_Ch E ch0 pl0 pl1 pl2 pl3 pl4 ch_kind ch_i ch_j ch_length ch_wasTold ch_d ch_f ch_z pl_places pl_links pl_mostDrawn pl_ofTen pl_z pl_lengths pl_told pl_delays pl_fractions) (fun (u : Int32 × Int32 × Int32 × Int32) => (w_Ch E ch0 pl0 pl1 pl2 pl3 pl4 u.1 u.2.1 u.2.2.1 u.2.2.2 ch_wasTold ch_d ch_f ch_z pl_places pl_links pl_mostDrawn pl_ofTen pl_z pl_lengths pl_told pl_delays pl_fractions)) res) 0 0 (va_A (w_Ch E ch0 pl0 pl1 pl2 pl3 pl4 ch_kind ch_i ch_j ch_length ch_wasTold ch_d ch_f ch_z pl_places pl_links pl_mostDrawn pl_ofTen pl_z pl_lengths pl_told pl_delays pl_fractions) sz) := by
  refine mk_Mv (cc := cX0_rememberLink) (maxL := 4) (by decide) rfl (Nat.le_of_ble_eq_true rfl) ?_
  intro p e s m args below meth c Q A S hKN hA hret H locs ls hP hD hS hl
  obtain ⟨hx, hb, hml, hown, hts⟩ := S
  obtain ⟨hK, hN⟩ := hKN
  have hl : lv_has ls 4 [(0, .ref ch0), (1, .ref pl0), (2, .int a2), (3, .int a3)] := hl
  have q_0 := hts (.fieldLink RX0 9 "DelayClusters$Change" "kind" "I") (by decide +kernel)
  have q_1 := hts (.fieldLink RX0 13 "DelayClusters$Change" "i" "I") (by decide +kernel)
  have q_2 := hts (.fieldLink RX0 16 "DelayClusters$Change" "j" "I") (by decide +kernel)
  have q_3 := hts (.fieldLink RX0 25 "DelayClusters$Change" "length" "I") (by decide +kernel)
  unfold Ch_rememberLink at hf
  refine lv_aload_n hx hb dX0_rememberLink_0 rfl (lv_at hl 0 rfl) ?_
  refine lv_iconst (v := 0) hx hb dX0_rememberLink_1 (by decide) ?_
  refine va_put (D := E.1) (ci := 0) (v := .int 0) (ty := .int) (C := RX0) (T := TX0) (N := 8) hx hb hts in_X0_rememberLink_X0 tyX0 tyX0_ok nmX0 hown hK hP hD hS 0 rfl rfl 0 (by decide) q_0 (fun _ h9 => h9) rfl (by decide +kernel) rfl rfl (Nat.le_of_ble_eq_true rfl) dX0_rememberLink_2 (fun H locs hP hD hS => ?_)
  have hP : va_P E.1 vwCl (w_Ch E ch0 pl0 pl1 pl2 pl3 pl4 0 ch_i ch_j ch_length ch_wasTold ch_d ch_f ch_z pl_places pl_links pl_mostDrawn pl_ofTen pl_z pl_lengths pl_told pl_delays pl_fractions) H := hP
  have hD : va_D A (w_Ch E ch0 pl0 pl1 pl2 pl3 pl4 0 ch_i ch_j ch_length ch_wasTold ch_d ch_f ch_z pl_places pl_links pl_mostDrawn pl_ofTen pl_z pl_lengths pl_told pl_delays pl_fractions) := hD
  refine lv_aload_n hx hb dX0_rememberLink_5 rfl (lv_at hl 0 rfl) ?_
  refine lv_iload_n hx hb dX0_rememberLink_6 rfl (lv_at hl 2 rfl) ?_
  refine va_put (D := E.1) (ci := 0) (v := .int a2) (ty := .int) (C := RX0) (T := TX0) (N := 8) hx hb hts in_X0_rememberLink_X0 tyX0 tyX0_ok nmX0 hown hK hP hD hS 0 rfl rfl 1 (by decide) q_1 (fun _ h9 => h9) rfl (by decide +kernel) rfl rfl (Nat.le_of_ble_eq_true rfl) dX0_rememberLink_7 (fun H locs hP hD hS => ?_)
  have hP : va_P E.1 vwCl (w_Ch E ch0 pl0 pl1 pl2 pl3 pl4 0 a2 ch_j ch_length ch_wasTold ch_d ch_f ch_z pl_places pl_links pl_mostDrawn pl_ofTen pl_z pl_lengths pl_told pl_delays pl_fractions) H := hP
  have hD : va_D A (w_Ch E ch0 pl0 pl1 pl2 pl3 pl4 0 a2 ch_j ch_length ch_wasTold ch_d ch_f ch_z pl_places pl_links pl_mostDrawn pl_ofTen pl_z pl_lengths pl_told pl_delays pl_fractions) := hD
  refine lv_aload_n hx hb dX0_rememberLink_10 rfl (lv_at hl 0 rfl) ?_
  refine lv_iload_n hx hb dX0_rememberLink_11 rfl (lv_at hl 3 rfl) ?_
  refine va_put (D := E.1) (ci := 0) (v := .int a3) (ty := .int) (C := RX0) (T := TX0) (N := 8) hx hb hts in_X0_rememberLink_X0 tyX0 tyX0_ok nmX0 hown hK hP hD hS 0 rfl rfl 2 (by decide) q_2 (fun _ h9 => h9) rfl (by decide +kernel) rfl rfl (Nat.le_of_ble_eq_true rfl) dX0_rememberLink_12 (fun H locs hP hD hS => ?_)
  have hP : va_P E.1 vwCl (w_Ch E ch0 pl0 pl1 pl2 pl3 pl4 0 a2 a3 ch_length ch_wasTold ch_d ch_f ch_z pl_places pl_links pl_mostDrawn pl_ofTen pl_z pl_lengths pl_told pl_delays pl_fractions) H := hP
  have hD : va_D A (w_Ch E ch0 pl0 pl1 pl2 pl3 pl4 0 a2 a3 ch_length ch_wasTold ch_d ch_f ch_z pl_places pl_links pl_mostDrawn pl_ofTen pl_z pl_lengths pl_told pl_delays pl_fractions) := hD
  refine lv_aload_n hx hb dX0_rememberLink_15 rfl (lv_at hl 0 rfl) ?_
  refine lv_aload_n hx hb dX0_rememberLink_16 rfl (lv_at hl 1 rfl) ?_
  refine lv_iload_n hx hb dX0_rememberLink_17 rfl (lv_at hl 2 rfl) ?_
  refine lv_iload_n hx hb dX0_rememberLink_18 rfl (lv_at hl 3 rfl) ?_
  obtain ⟨r_2, h_1, hf⟩ := bd_s hf
  refine ca_V (As := [.int a2, .int a3]) (rest := [.ref ch0]) ⟨hx, hb, hml, hown, hts⟩ ⟨hK, hN⟩ hP (c_Pl_lengthOf l E pl0 pl1 pl2 pl3 pl4 pl_places pl_links pl_mostDrawn pl_ofTen pl_z pl_lengths pl_told pl_delays pl_fractions a2 a3 r_2 h_1) [1, 2, 3, 4, 5] rfl 5 1 rfl rfl rfl gX0_rememberLink_X5_lengthOf rfl rfl rfl rfl hd_Pl_lengthOf ⟨(Nat.le_of_ble_eq_true rfl), (Nat.le_of_ble_eq_true rfl)⟩ rfl hl.1 rfl (Nat.le_of_ble_eq_true rfl) dX0_rememberLink_19 ⟨(Nat.zero_le _), (Nat.zero_le _)⟩ ?_
  refine va_put (D := E.1) (ci := 0) (v := .int r_2) (ty := .int) (C := RX0) (T := TX0) (N := 8) hx hb hts in_X0_rememberLink_X0 tyX0 tyX0_ok nmX0 hown hK hP hD hS 0 rfl rfl 3 (by decide) q_3 (fun _ h9 => h9) rfl (by decide +kernel) rfl rfl (Nat.le_of_ble_eq_true rfl) dX0_rememberLink_22 (fun H locs hP hD hS => ?_)
  have hP : va_P E.1 vwCl (w_Ch E ch0 pl0 pl1 pl2 pl3 pl4 0 a2 a3 r_2 ch_wasTold ch_d ch_f ch_z pl_places pl_links pl_mostDrawn pl_ofTen pl_z pl_lengths pl_told pl_delays pl_fractions) H := hP
  have hD : va_D A (w_Ch E ch0 pl0 pl1 pl2 pl3 pl4 0 a2 a3 r_2 ch_wasTold ch_d ch_f ch_z pl_places pl_links pl_mostDrawn pl_ofTen pl_z pl_lengths pl_told pl_delays pl_fractions) := hD
  exact hret H locs ls 25 (0, a2, a3, r_2) dX0_rememberLink_25 (Option.some.inj hf) hP hD hS
abbrev rm_Ch_rememberDelay : Room := { frames := 3, cells := 0, slots := 0, locals := 69 }
theorem hd_Ch_rememberDelay : hdOK yX0_rememberDelay 2 := by decide +kernel
theorem in_X0_rememberDelay_X0 : ∀ w ∈ wsX00, w ∈ wsX0_rememberDelay := by decide +kernel
set_option maxRecDepth 100000 in
set_option maxHeartbeats 4000000 in
theorem c_Ch_rememberDelay (l : Launch) (E : En4) (ch0 pl0 pl1 pl2 pl3 pl4 : Nat) (sz : Nat) (ch_kind : Int32) (ch_i : Int32) (ch_j : Int32) (ch_length : Int32) (ch_wasTold : Int32) (ch_d : Int32) (ch_f : Int32) (ch_z : Int32) (pl_places : Int32) (pl_links : Int32) (pl_mostDrawn : Int32) (pl_ofTen : Int32) (pl_z : Int32) (pl_lengths : Nat → Int32) (pl_told : Nat → Int32) (pl_delays : Nat → Int32) (pl_fractions : Nat → Int32) (a2 : Int32)  (res : Int32 × Int32 × Int32 × Int32 × Int32) (hf : Ch_rememberDelay ch_kind ch_i ch_wasTold ch_d ch_f pl_mostDrawn pl_ofTen pl_z pl_told pl_delays pl_fractions a2 = some res) : Met l yX0_rememberDelay wsX0_rememberDelay rm_Ch_rememberDelay (pcM [.ref ch0, .ref pl0, .int a2] E sz (w_Ch E ch0 pl0 pl1 pl2 pl3 pl4 ch_kind ch_i ch_j ch_length ch_wasTold ch_d ch_f ch_z pl_places pl_links pl_mostDrawn pl_ofTen pl_z pl_lengths pl_told pl_delays pl_fractions)) (QMv E sz (w_Ch E ch0 pl0 pl1 pl2 pl3 pl4 ch_kind ch_i ch_j ch_length ch_wasTold ch_d ch_f ch_z pl_places pl_links pl_mostDrawn pl_ofTen pl_z pl_lengths pl_told pl_delays pl_fractions) (fun (u : Int32 × Int32 × Int32 × Int32 × Int32) => (w_Ch E ch0 pl0 pl1 pl2 pl3 pl4 u.1 u.2.1 ch_j ch_length u.2.2.1 u.2.2.2.1 u.2.2.2.2 ch_z pl_places pl_links pl_mostDrawn pl_ofTen pl_z pl_lengths pl_told pl_delays pl_fractions)) res) 0 0 (va_A (w_Ch E ch0 pl0 pl1 pl2 pl3 pl4 ch_kind ch_i ch_j ch_length ch_wasTold ch_d ch_f ch_z pl_places pl_links pl_mostDrawn pl_ofTen pl_z pl_lengths pl_told pl_delays pl_fractions) sz) := by
  refine mk_Mv (cc := cX0_rememberDelay) (maxL := 3) (by decide) rfl (Nat.le_of_ble_eq_true rfl) ?_
  intro p e s m args below meth c Q A S hKN hA hret H locs ls hP hD hS hl
  obtain ⟨hx, hb, hml, hown, hts⟩ := S
  obtain ⟨hK, hN⟩ := hKN
  have hl : lv_has ls 3 [(0, .ref ch0), (1, .ref pl0), (2, .int a2)] := hl
  have q_0 := hts (.fieldLink RX0 9 "DelayClusters$Change" "kind" "I") (by decide +kernel)
  have q_1 := hts (.fieldLink RX0 13 "DelayClusters$Change" "i" "I") (by decide +kernel)
  have q_2 := hts (.fieldLink RX0 32 "DelayClusters$Change" "wasTold" "Z") (by decide +kernel)
  have q_3 := hts (.fieldLink RX0 43 "DelayClusters$Change" "d" "I") (by decide +kernel)
  have q_4 := hts (.fieldLink RX0 49 "DelayClusters$Change" "f" "I") (by decide +kernel)
  unfold Ch_rememberDelay at hf
  refine lv_aload_n hx hb dX0_rememberDelay_0 rfl (lv_at hl 0 rfl) ?_
  refine lv_iconst (v := 1) hx hb dX0_rememberDelay_1 (by decide) ?_
  refine va_put (D := E.1) (ci := 0) (v := .int 1) (ty := .int) (C := RX0) (T := TX0) (N := 8) hx hb hts in_X0_rememberDelay_X0 tyX0 tyX0_ok nmX0 hown hK hP hD hS 0 rfl rfl 0 (by decide) q_0 (fun _ h9 => h9) rfl (by decide +kernel) rfl rfl (Nat.le_of_ble_eq_true rfl) dX0_rememberDelay_2 (fun H locs hP hD hS => ?_)
  have hP : va_P E.1 vwCl (w_Ch E ch0 pl0 pl1 pl2 pl3 pl4 1 ch_i ch_j ch_length ch_wasTold ch_d ch_f ch_z pl_places pl_links pl_mostDrawn pl_ofTen pl_z pl_lengths pl_told pl_delays pl_fractions) H := hP
  have hD : va_D A (w_Ch E ch0 pl0 pl1 pl2 pl3 pl4 1 ch_i ch_j ch_length ch_wasTold ch_d ch_f ch_z pl_places pl_links pl_mostDrawn pl_ofTen pl_z pl_lengths pl_told pl_delays pl_fractions) := hD
  refine lv_aload_n hx hb dX0_rememberDelay_5 rfl (lv_at hl 0 rfl) ?_
  refine lv_iload_n hx hb dX0_rememberDelay_6 rfl (lv_at hl 2 rfl) ?_
  refine va_put (D := E.1) (ci := 0) (v := .int a2) (ty := .int) (C := RX0) (T := TX0) (N := 8) hx hb hts in_X0_rememberDelay_X0 tyX0 tyX0_ok nmX0 hown hK hP hD hS 0 rfl rfl 1 (by decide) q_1 (fun _ h9 => h9) rfl (by decide +kernel) rfl rfl (Nat.le_of_ble_eq_true rfl) dX0_rememberDelay_7 (fun H locs hP hD hS => ?_)
  have hP : va_P E.1 vwCl (w_Ch E ch0 pl0 pl1 pl2 pl3 pl4 1 a2 ch_j ch_length ch_wasTold ch_d ch_f ch_z pl_places pl_links pl_mostDrawn pl_ofTen pl_z pl_lengths pl_told pl_delays pl_fractions) H := hP
  have hD : va_D A (w_Ch E ch0 pl0 pl1 pl2 pl3 pl4 1 a2 ch_j ch_length ch_wasTold ch_d ch_f ch_z pl_places pl_links pl_mostDrawn pl_ofTen pl_z pl_lengths pl_told pl_delays pl_fractions) := hD
  refine lv_aload_n hx hb dX0_rememberDelay_10 rfl (lv_at hl 0 rfl) ?_
  refine lv_aload_n hx hb dX0_rememberDelay_11 rfl (lv_at hl 1 rfl) ?_
  refine lv_iload_n hx hb dX0_rememberDelay_12 rfl (lv_at hl 2 rfl) ?_
  obtain ⟨r_2, h_1, hf⟩ := bd_s hf
  refine ca_V (As := [.int a2]) (rest := [.ref ch0]) ⟨hx, hb, hml, hown, hts⟩ ⟨hK, hN⟩ hP (c_Pl_isTold l E pl0 pl1 pl2 pl3 pl4 pl_places pl_links pl_mostDrawn pl_ofTen pl_z pl_lengths pl_told pl_delays pl_fractions a2 r_2 h_1) [1, 2, 3, 4, 5] rfl 5 1 rfl rfl rfl gX0_rememberDelay_X5_isTold rfl rfl rfl rfl hd_Pl_isTold ⟨(Nat.le_of_ble_eq_true rfl), (Nat.le_of_ble_eq_true rfl)⟩ rfl hl.1 rfl (Nat.le_of_ble_eq_true rfl) dX0_rememberDelay_13 ⟨(Nat.zero_le _), (Nat.zero_le _)⟩ ?_
  obtain ⟨g_3, hf⟩ := gb_s hf
  refine va_put (D := E.1) (ci := 0) (v := .int r_2) (ty := .boolean) (C := RX0) (T := TX0) (N := 8) hx hb hts in_X0_rememberDelay_X0 tyX0 tyX0_ok nmX0 hown hK hP hD hS 0 rfl rfl 4 (by decide) q_2 (fun _ h9 => h9) rfl (by decide +kernel) (bz_n g_3) (bz_f g_3) (Nat.le_of_ble_eq_true rfl) dX0_rememberDelay_16 (fun H locs hP hD hS => ?_)
  have hP : va_P E.1 vwCl (w_Ch E ch0 pl0 pl1 pl2 pl3 pl4 1 a2 ch_j ch_length r_2 ch_d ch_f ch_z pl_places pl_links pl_mostDrawn pl_ofTen pl_z pl_lengths pl_told pl_delays pl_fractions) H := hP
  have hD : va_D A (w_Ch E ch0 pl0 pl1 pl2 pl3 pl4 1 a2 ch_j ch_length r_2 ch_d ch_f ch_z pl_places pl_links pl_mostDrawn pl_ofTen pl_z pl_lengths pl_told pl_delays pl_fractions) := hD
  refine lv_aload_n hx hb dX0_rememberDelay_19 rfl (lv_at hl 0 rfl) ?_
  refine lv_aload_n hx hb dX0_rememberDelay_20 rfl (lv_at hl 1 rfl) ?_
  refine lv_aload_n hx hb dX0_rememberDelay_21 rfl (lv_at hl 1 rfl) ?_
  obtain ⟨r_5, h_4, hf⟩ := bd_s hf
  refine ca_V (As := []) (rest := [.ref pl0, .ref ch0]) ⟨hx, hb, hml, hown, hts⟩ ⟨hK, hN⟩ hP (c_Pl_z l E pl0 pl1 pl2 pl3 pl4 pl_places pl_links pl_mostDrawn pl_ofTen pl_z pl_lengths pl_told pl_delays pl_fractions r_5 h_4) [1, 2, 3, 4, 5] rfl 5 1 rfl rfl rfl gX0_rememberDelay_X5_z rfl rfl rfl rfl hd_Pl_z ⟨(Nat.le_of_ble_eq_true rfl), (Nat.le_of_ble_eq_true rfl)⟩ rfl hl.1 rfl (Nat.le_of_ble_eq_true rfl) dX0_rememberDelay_22 ⟨(Nat.zero_le _), (Nat.zero_le _)⟩ ?_
  refine lv_iload_n hx hb dX0_rememberDelay_25 rfl (lv_at hl 2 rfl) ?_
  obtain ⟨r_7, h_6, hf⟩ := bd_s hf
  refine ca_V (As := [.int r_5, .int a2]) (rest := [.ref ch0]) ⟨hx, hb, hml, hown, hts⟩ ⟨hK, hN⟩ hP (c_Pl_delayBy l E pl0 pl1 pl2 pl3 pl4 pl_places pl_links pl_mostDrawn pl_ofTen pl_z pl_lengths pl_told pl_delays pl_fractions r_5 a2 r_7 h_6) [1, 2, 3, 4, 5] rfl 5 1 rfl rfl rfl gX0_rememberDelay_X5_delayBy rfl rfl rfl rfl hd_Pl_delayBy ⟨(Nat.le_of_ble_eq_true rfl), (Nat.le_of_ble_eq_true rfl)⟩ rfl hl.1 rfl (Nat.le_of_ble_eq_true rfl) dX0_rememberDelay_26 ⟨(Nat.zero_le _), (Nat.zero_le _)⟩ ?_
  refine va_put (D := E.1) (ci := 0) (v := .int r_7) (ty := .int) (C := RX0) (T := TX0) (N := 8) hx hb hts in_X0_rememberDelay_X0 tyX0 tyX0_ok nmX0 hown hK hP hD hS 0 rfl rfl 5 (by decide) q_3 (fun _ h9 => h9) rfl (by decide +kernel) rfl rfl (Nat.le_of_ble_eq_true rfl) dX0_rememberDelay_29 (fun H locs hP hD hS => ?_)
  have hP : va_P E.1 vwCl (w_Ch E ch0 pl0 pl1 pl2 pl3 pl4 1 a2 ch_j ch_length r_2 r_7 ch_f ch_z pl_places pl_links pl_mostDrawn pl_ofTen pl_z pl_lengths pl_told pl_delays pl_fractions) H := hP
  have hD : va_D A (w_Ch E ch0 pl0 pl1 pl2 pl3 pl4 1 a2 ch_j ch_length r_2 r_7 ch_f ch_z pl_places pl_links pl_mostDrawn pl_ofTen pl_z pl_lengths pl_told pl_delays pl_fractions) := hD
  refine lv_aload_n hx hb dX0_rememberDelay_32 rfl (lv_at hl 0 rfl) ?_
  refine lv_aload_n hx hb dX0_rememberDelay_33 rfl (lv_at hl 1 rfl) ?_
  refine lv_aload_n hx hb dX0_rememberDelay_34 rfl (lv_at hl 1 rfl) ?_
  obtain ⟨r_9, h_8, hf⟩ := bd_s hf
  refine ca_V (As := []) (rest := [.ref pl0, .ref ch0]) ⟨hx, hb, hml, hown, hts⟩ ⟨hK, hN⟩ hP (c_Pl_z l E pl0 pl1 pl2 pl3 pl4 pl_places pl_links pl_mostDrawn pl_ofTen pl_z pl_lengths pl_told pl_delays pl_fractions r_9 h_8) [1, 2, 3, 4, 5] rfl 5 1 rfl rfl rfl gX0_rememberDelay_X5_z rfl rfl rfl rfl hd_Pl_z ⟨(Nat.le_of_ble_eq_true rfl), (Nat.le_of_ble_eq_true rfl)⟩ rfl hl.1 rfl (Nat.le_of_ble_eq_true rfl) dX0_rememberDelay_35 ⟨(Nat.zero_le _), (Nat.zero_le _)⟩ ?_
  refine lv_iload_n hx hb dX0_rememberDelay_38 rfl (lv_at hl 2 rfl) ?_
  obtain ⟨r_11, h_10, hf⟩ := bd_s hf
  refine ca_V (As := [.int r_9, .int a2]) (rest := [.ref ch0]) ⟨hx, hb, hml, hown, hts⟩ ⟨hK, hN⟩ hP (c_Pl_fractionBy l E pl0 pl1 pl2 pl3 pl4 pl_places pl_links pl_mostDrawn pl_ofTen pl_z pl_lengths pl_told pl_delays pl_fractions r_9 a2 r_11 h_10) [1, 2, 3, 4, 5] rfl 5 1 rfl rfl rfl gX0_rememberDelay_X5_fractionBy rfl rfl rfl rfl hd_Pl_fractionBy ⟨(Nat.le_of_ble_eq_true rfl), (Nat.le_of_ble_eq_true rfl)⟩ rfl hl.1 rfl (Nat.le_of_ble_eq_true rfl) dX0_rememberDelay_39 ⟨(Nat.zero_le _), (Nat.zero_le _)⟩ ?_
  refine va_put (D := E.1) (ci := 0) (v := .int r_11) (ty := .int) (C := RX0) (T := TX0) (N := 8) hx hb hts in_X0_rememberDelay_X0 tyX0 tyX0_ok nmX0 hown hK hP hD hS 0 rfl rfl 6 (by decide) q_4 (fun _ h9 => h9) rfl (by decide +kernel) rfl rfl (Nat.le_of_ble_eq_true rfl) dX0_rememberDelay_42 (fun H locs hP hD hS => ?_)
  have hP : va_P E.1 vwCl (w_Ch E ch0 pl0 pl1 pl2 pl3 pl4 1 a2 ch_j ch_length r_2 r_7 r_11 ch_z pl_places pl_links pl_mostDrawn pl_ofTen pl_z pl_lengths pl_told pl_delays pl_fractions) H := hP
  have hD : va_D A (w_Ch E ch0 pl0 pl1 pl2 pl3 pl4 1 a2 ch_j ch_length r_2 r_7 r_11 ch_z pl_places pl_links pl_mostDrawn pl_ofTen pl_z pl_lengths pl_told pl_delays pl_fractions) := hD
  exact hret H locs ls 45 (1, a2, r_2, r_7, r_11) dX0_rememberDelay_45 (Option.some.inj hf) hP hD hS
abbrev rm_Ch_rememberZ : Room := { frames := 1, cells := 0, slots := 0, locals := 20 }
theorem hd_Ch_rememberZ : hdOK yX0_rememberZ 1 := by decide +kernel
theorem in_X0_rememberZ_X0 : ∀ w ∈ wsX00, w ∈ wsX0_rememberZ := by decide +kernel
set_option maxRecDepth 100000 in
set_option maxHeartbeats 4000000 in
theorem c_Ch_rememberZ (l : Launch) (E : En4) (ch0 pl0 pl1 pl2 pl3 pl4 : Nat) (sz : Nat) (ch_kind : Int32) (ch_i : Int32) (ch_j : Int32) (ch_length : Int32) (ch_wasTold : Int32) (ch_d : Int32) (ch_f : Int32) (ch_z : Int32) (pl_places : Int32) (pl_links : Int32) (pl_mostDrawn : Int32) (pl_ofTen : Int32) (pl_z : Int32) (pl_lengths : Nat → Int32) (pl_told : Nat → Int32) (pl_delays : Nat → Int32) (pl_fractions : Nat → Int32)  (res : Int32 × Int32) (hf : Ch_rememberZ ch_kind ch_z pl_z = some res) : Met l yX0_rememberZ wsX0_rememberZ rm_Ch_rememberZ (pcM [.ref ch0, .ref pl0] E sz (w_Ch E ch0 pl0 pl1 pl2 pl3 pl4 ch_kind ch_i ch_j ch_length ch_wasTold ch_d ch_f ch_z pl_places pl_links pl_mostDrawn pl_ofTen pl_z pl_lengths pl_told pl_delays pl_fractions)) (QMv E sz (w_Ch E ch0 pl0 pl1 pl2 pl3 pl4 ch_kind ch_i ch_j ch_length ch_wasTold ch_d ch_f ch_z pl_places pl_links pl_mostDrawn pl_ofTen pl_z pl_lengths pl_told pl_delays pl_fractions) (fun (u : Int32 × Int32) => (w_Ch E ch0 pl0 pl1 pl2 pl3 pl4 u.1 ch_i ch_j ch_length ch_wasTold ch_d ch_f u.2 pl_places pl_links pl_mostDrawn pl_ofTen pl_z pl_lengths pl_told pl_delays pl_fractions)) res) 0 0 (va_A (w_Ch E ch0 pl0 pl1 pl2 pl3 pl4 ch_kind ch_i ch_j ch_length ch_wasTold ch_d ch_f ch_z pl_places pl_links pl_mostDrawn pl_ofTen pl_z pl_lengths pl_told pl_delays pl_fractions) sz) := by
  refine mk_Mv (cc := cX0_rememberZ) (maxL := 2) (by decide) rfl (Nat.le_of_ble_eq_true rfl) ?_
  intro p e s m args below meth c Q A S hKN hA hret H locs ls hP hD hS hl
  obtain ⟨hx, hb, hml, hown, hts⟩ := S
  obtain ⟨hK, hN⟩ := hKN
  have hl : lv_has ls 2 [(0, .ref ch0), (1, .ref pl0)] := hl
  have q_0 := hts (.fieldLink RX0 9 "DelayClusters$Change" "kind" "I") (by decide +kernel)
  have q_1 := hts (.fieldLink RX0 52 "DelayClusters$Change" "z" "I") (by decide +kernel)
  unfold Ch_rememberZ at hf
  refine lv_aload_n hx hb dX0_rememberZ_0 rfl (lv_at hl 0 rfl) ?_
  refine lv_iconst (v := 2) hx hb dX0_rememberZ_1 (by decide) ?_
  refine va_put (D := E.1) (ci := 0) (v := .int 2) (ty := .int) (C := RX0) (T := TX0) (N := 8) hx hb hts in_X0_rememberZ_X0 tyX0 tyX0_ok nmX0 hown hK hP hD hS 0 rfl rfl 0 (by decide) q_0 (fun _ h9 => h9) rfl (by decide +kernel) rfl rfl (Nat.le_of_ble_eq_true rfl) dX0_rememberZ_2 (fun H locs hP hD hS => ?_)
  have hP : va_P E.1 vwCl (w_Ch E ch0 pl0 pl1 pl2 pl3 pl4 2 ch_i ch_j ch_length ch_wasTold ch_d ch_f ch_z pl_places pl_links pl_mostDrawn pl_ofTen pl_z pl_lengths pl_told pl_delays pl_fractions) H := hP
  have hD : va_D A (w_Ch E ch0 pl0 pl1 pl2 pl3 pl4 2 ch_i ch_j ch_length ch_wasTold ch_d ch_f ch_z pl_places pl_links pl_mostDrawn pl_ofTen pl_z pl_lengths pl_told pl_delays pl_fractions) := hD
  refine lv_aload_n hx hb dX0_rememberZ_5 rfl (lv_at hl 0 rfl) ?_
  refine lv_aload_n hx hb dX0_rememberZ_6 rfl (lv_at hl 1 rfl) ?_
  obtain ⟨r_2, h_1, hf⟩ := bd_s hf
  refine ca_V (As := []) (rest := [.ref ch0]) ⟨hx, hb, hml, hown, hts⟩ ⟨hK, hN⟩ hP (c_Pl_z l E pl0 pl1 pl2 pl3 pl4 pl_places pl_links pl_mostDrawn pl_ofTen pl_z pl_lengths pl_told pl_delays pl_fractions r_2 h_1) [1, 2, 3, 4, 5] rfl 5 1 rfl rfl rfl gX0_rememberZ_X5_z rfl rfl rfl rfl hd_Pl_z ⟨(Nat.le_of_ble_eq_true rfl), (Nat.le_of_ble_eq_true rfl)⟩ rfl hl.1 rfl (Nat.le_of_ble_eq_true rfl) dX0_rememberZ_7 ⟨(Nat.zero_le _), (Nat.zero_le _)⟩ ?_
  refine va_put (D := E.1) (ci := 0) (v := .int r_2) (ty := .int) (C := RX0) (T := TX0) (N := 8) hx hb hts in_X0_rememberZ_X0 tyX0 tyX0_ok nmX0 hown hK hP hD hS 0 rfl rfl 7 (by decide) q_1 (fun _ h9 => h9) rfl (by decide +kernel) rfl rfl (Nat.le_of_ble_eq_true rfl) dX0_rememberZ_10 (fun H locs hP hD hS => ?_)
  have hP : va_P E.1 vwCl (w_Ch E ch0 pl0 pl1 pl2 pl3 pl4 2 ch_i ch_j ch_length ch_wasTold ch_d ch_f r_2 pl_places pl_links pl_mostDrawn pl_ofTen pl_z pl_lengths pl_told pl_delays pl_fractions) H := hP
  have hD : va_D A (w_Ch E ch0 pl0 pl1 pl2 pl3 pl4 2 ch_i ch_j ch_length ch_wasTold ch_d ch_f r_2 pl_places pl_links pl_mostDrawn pl_ofTen pl_z pl_lengths pl_told pl_delays pl_fractions) := hD
  exact hret H locs ls 13 (2, r_2) dX0_rememberZ_13 (Option.some.inj hf) hP hD hS
abbrev rm_Ch_restore : Room := { frames := 2, cells := 0, slots := 0, locals := 45 }
theorem hd_Ch_restore : hdOK yX0_restore 1 := by decide +kernel
theorem in_X0_restore_X0 : ∀ w ∈ wsX00, w ∈ wsX0_restore := by decide +kernel
set_option maxRecDepth 100000 in
set_option maxHeartbeats 4000000 in
theorem c_Ch_restore (l : Launch) (E : En4) (ch0 pl0 pl1 pl2 pl3 pl4 : Nat) (sz : Nat) (ch_kind : Int32) (ch_i : Int32) (ch_j : Int32) (ch_length : Int32) (ch_wasTold : Int32) (ch_d : Int32) (ch_f : Int32) (ch_z : Int32) (pl_places : Int32) (pl_links : Int32) (pl_mostDrawn : Int32) (pl_ofTen : Int32) (pl_z : Int32) (pl_lengths : Nat → Int32) (pl_told : Nat → Int32) (pl_delays : Nat → Int32) (pl_fractions : Nat → Int32)  (res : Int32 × Int32 × (Nat → Int32) × (Nat → Int32) × (Nat → Int32) × (Nat → Int32)) (hf : Ch_restore ch_kind ch_i ch_j ch_length ch_wasTold ch_d ch_f ch_z pl_links pl_z pl_lengths pl_told pl_delays pl_fractions = some res) : Met l yX0_restore wsX0_restore rm_Ch_restore (pcM [.ref ch0, .ref pl0] E sz (w_Ch E ch0 pl0 pl1 pl2 pl3 pl4 ch_kind ch_i ch_j ch_length ch_wasTold ch_d ch_f ch_z pl_places pl_links pl_mostDrawn pl_ofTen pl_z pl_lengths pl_told pl_delays pl_fractions)) (QMv E sz (w_Ch E ch0 pl0 pl1 pl2 pl3 pl4 ch_kind ch_i ch_j ch_length ch_wasTold ch_d ch_f ch_z pl_places pl_links pl_mostDrawn pl_ofTen pl_z pl_lengths pl_told pl_delays pl_fractions) (fun (u : Int32 × Int32 × (Nat → Int32) × (Nat → Int32) × (Nat → Int32) × (Nat → Int32)) => (w_Ch E ch0 pl0 pl1 pl2 pl3 pl4 ch_kind ch_i ch_j ch_length ch_wasTold ch_d ch_f ch_z pl_places u.1 pl_mostDrawn pl_ofTen u.2.1 u.2.2.1 u.2.2.2.1 u.2.2.2.2.1 u.2.2.2.2.2)) res) 0 0 (va_A (w_Ch E ch0 pl0 pl1 pl2 pl3 pl4 ch_kind ch_i ch_j ch_length ch_wasTold ch_d ch_f ch_z pl_places pl_links pl_mostDrawn pl_ofTen pl_z pl_lengths pl_told pl_delays pl_fractions) sz) := by
  refine mk_Mv (cc := cX0_restore) (maxL := 2) (by decide) rfl (Nat.le_of_ble_eq_true rfl) ?_
  intro p e s m args below meth c Q A S hKN hA hret H locs ls hP hD hS hl
  obtain ⟨hx, hb, hml, hown, hts⟩ := S
  obtain ⟨hK, hN⟩ := hKN
  have hl : lv_has ls 2 [(0, .ref ch0), (1, .ref pl0)] := hl
  have q_0 := hts (.fieldLink RX0 9 "DelayClusters$Change" "kind" "I") (by decide +kernel)
  have q_1 := hts (.fieldLink RX0 32 "DelayClusters$Change" "wasTold" "Z") (by decide +kernel)
  have q_2 := hts (.fieldLink RX0 13 "DelayClusters$Change" "i" "I") (by decide +kernel)
  have q_3 := hts (.fieldLink RX0 43 "DelayClusters$Change" "d" "I") (by decide +kernel)
  have q_4 := hts (.fieldLink RX0 49 "DelayClusters$Change" "f" "I") (by decide +kernel)
  have q_5 := hts (.fieldLink RX0 52 "DelayClusters$Change" "z" "I") (by decide +kernel)
  have q_6 := hts (.fieldLink RX0 16 "DelayClusters$Change" "j" "I") (by decide +kernel)
  have q_7 := hts (.fieldLink RX0 25 "DelayClusters$Change" "length" "I") (by decide +kernel)
  unfold Ch_restore at hf
  refine lv_aload_n hx hb dX0_restore_0 rfl (lv_at hl 0 rfl) ?_
  refine va_get (D := E.1) (ci := 0) (v := .int ch_kind) (C := RX0) (T := TX0) (N := 8) hx hb hts in_X0_restore_X0 hown hK hP 0 rfl rfl 0 (by decide) q_0 (fun _ h9 => h9) rfl dX0_restore_1 ?_
  refine lv_if_ne (tgt := 26) hx hb dX0_restore_4 (by decide) (fun c_16 => ?_) (fun c_16 => ?_)
  · have hf := ite_f c_16 hf
    refine lv_aload_n hx hb dX0_restore_26 rfl (lv_at hl 0 rfl) ?_
    refine va_get (D := E.1) (ci := 0) (v := .int ch_kind) (C := RX0) (T := TX0) (N := 8) hx hb hts in_X0_restore_X0 hown hK hP 0 rfl rfl 0 (by decide) q_0 (fun _ h9 => h9) rfl dX0_restore_27 ?_
    refine lv_iconst (v := 2) hx hb dX0_restore_30 (by decide) ?_
    refine lv_icmp_ne (tgt := 45) hx hb dX0_restore_31 (by decide) (fun c_12 => ?_) (fun c_12 => ?_)
    · have hf := ite_f c_12 hf
      refine lv_aload_n hx hb dX0_restore_45 rfl (lv_at hl 0 rfl) ?_
      refine va_get (D := E.1) (ci := 0) (v := .int ch_wasTold) (C := RX0) (T := TX0) (N := 8) hx hb hts in_X0_restore_X0 hown hK hP 0 rfl rfl 4 (by decide) q_1 (fun _ h9 => h9) rfl dX0_restore_46 ?_
      refine lv_if_eq (tgt := 71) hx hb dX0_restore_49 (by decide) (fun c_9 => ?_) (fun c_9 => ?_)
      · have hf := ite_t c_9 hf
        refine lv_aload_n hx hb dX0_restore_71 rfl (lv_at hl 1 rfl) ?_
        refine lv_aload_n hx hb dX0_restore_72 rfl (lv_at hl 0 rfl) ?_
        refine va_get (D := E.1) (ci := 0) (v := .int ch_i) (C := RX0) (T := TX0) (N := 8) hx hb hts in_X0_restore_X0 hown hK hP 0 rfl rfl 1 (by decide) q_2 (fun _ h9 => h9) rfl dX0_restore_73 ?_
        obtain ⟨⟨pl_told_2, pl_delays_3, pl_fractions_4⟩, h_1, hf⟩ := bd_s hf
        try dsimp only at hf
        refine ca_Mv (w2 := (w_Ch E ch0 pl0 pl1 pl2 pl3 pl4 ch_kind ch_i ch_j ch_length ch_wasTold ch_d ch_f ch_z pl_places pl_links pl_mostDrawn pl_ofTen pl_z pl_lengths pl_told_2 pl_delays_3 pl_fractions_4)) (As := [.int ch_i]) (rest := []) ⟨hx, hb, hml, hown, hts⟩ ⟨hK, hN⟩ hP hD hS hA (c_Pl_untell l E pl0 pl1 pl2 pl3 pl4 H.size pl_places pl_links pl_mostDrawn pl_ofTen pl_z pl_lengths pl_told pl_delays pl_fractions ch_i (pl_told_2, pl_delays_3, pl_fractions_4) h_1) [1, 2, 3, 4, 5] [0] [0, 1, 2, 3, 4, 5] rfl rfl rfl rfl (by decide) rfl rfl 5 1 rfl rfl rfl gX0_restore_X5_untell rfl rfl rfl rfl hd_Pl_untell ⟨(Nat.le_of_ble_eq_true rfl), (Nat.le_of_ble_eq_true rfl)⟩ rfl hl.1 rfl (Nat.le_of_ble_eq_true rfl) dX0_restore_76 ⟨(Nat.zero_le _), (Nat.zero_le _)⟩ (fun H locs hP hD hS => ?_)
        exact hret H locs ls 79 (pl_links, pl_z, pl_lengths, pl_told_2, pl_delays_3, pl_fractions_4) dX0_restore_79 (Option.some.inj hf) hP hD hS
      · have hf := ite_f c_9 hf
        refine lv_aload_n hx hb dX0_restore_52 rfl (lv_at hl 1 rfl) ?_
        refine lv_aload_n hx hb dX0_restore_53 rfl (lv_at hl 0 rfl) ?_
        refine va_get (D := E.1) (ci := 0) (v := .int ch_i) (C := RX0) (T := TX0) (N := 8) hx hb hts in_X0_restore_X0 hown hK hP 0 rfl rfl 1 (by decide) q_2 (fun _ h9 => h9) rfl dX0_restore_54 ?_
        refine lv_aload_n hx hb dX0_restore_57 rfl (lv_at hl 0 rfl) ?_
        refine va_get (D := E.1) (ci := 0) (v := .int ch_d) (C := RX0) (T := TX0) (N := 8) hx hb hts in_X0_restore_X0 hown hK hP 0 rfl rfl 5 (by decide) q_3 (fun _ h9 => h9) rfl dX0_restore_58 ?_
        refine lv_aload_n hx hb dX0_restore_61 rfl (lv_at hl 0 rfl) ?_
        refine va_get (D := E.1) (ci := 0) (v := .int ch_f) (C := RX0) (T := TX0) (N := 8) hx hb hts in_X0_restore_X0 hown hK hP 0 rfl rfl 6 (by decide) q_4 (fun _ h9 => h9) rfl dX0_restore_62 ?_
        obtain ⟨⟨pl_told_6, pl_delays_7, pl_fractions_8⟩, h_5, hf⟩ := bd_s hf
        try dsimp only at hf
        refine ca_Mv (w2 := (w_Ch E ch0 pl0 pl1 pl2 pl3 pl4 ch_kind ch_i ch_j ch_length ch_wasTold ch_d ch_f ch_z pl_places pl_links pl_mostDrawn pl_ofTen pl_z pl_lengths pl_told_6 pl_delays_7 pl_fractions_8)) (As := [.int ch_i, .int ch_d, .int ch_f]) (rest := []) ⟨hx, hb, hml, hown, hts⟩ ⟨hK, hN⟩ hP hD hS hA (c_Pl_tell l E pl0 pl1 pl2 pl3 pl4 H.size pl_places pl_links pl_mostDrawn pl_ofTen pl_z pl_lengths pl_told pl_delays pl_fractions ch_i ch_d ch_f (pl_told_6, pl_delays_7, pl_fractions_8) h_5) [1, 2, 3, 4, 5] [0] [0, 1, 2, 3, 4, 5] rfl rfl rfl rfl (by decide) rfl rfl 5 1 rfl rfl rfl gX0_restore_X5_tell rfl rfl rfl rfl hd_Pl_tell ⟨(Nat.le_of_ble_eq_true rfl), (Nat.le_of_ble_eq_true rfl)⟩ rfl hl.1 rfl (Nat.le_of_ble_eq_true rfl) dX0_restore_65 ⟨(Nat.zero_le _), (Nat.zero_le _)⟩ (fun H locs hP hD hS => ?_)
        refine lv_goto (tgt := 79) hx hb dX0_restore_68 (by decide) ?_
        exact hret H locs ls 79 (pl_links, pl_z, pl_lengths, pl_told_6, pl_delays_7, pl_fractions_8) dX0_restore_79 (Option.some.inj hf) hP hD hS
    · have hf := ite_t c_12 hf
      refine lv_aload_n hx hb dX0_restore_34 rfl (lv_at hl 1 rfl) ?_
      refine lv_aload_n hx hb dX0_restore_35 rfl (lv_at hl 0 rfl) ?_
      refine va_get (D := E.1) (ci := 0) (v := .int ch_z) (C := RX0) (T := TX0) (N := 8) hx hb hts in_X0_restore_X0 hown hK hP 0 rfl rfl 7 (by decide) q_5 (fun _ h9 => h9) rfl dX0_restore_36 ?_
      obtain ⟨pl_z_11, h_10, hf⟩ := bd_s hf
      try dsimp only at hf
      refine ca_Mv (w2 := (w_Ch E ch0 pl0 pl1 pl2 pl3 pl4 ch_kind ch_i ch_j ch_length ch_wasTold ch_d ch_f ch_z pl_places pl_links pl_mostDrawn pl_ofTen pl_z_11 pl_lengths pl_told pl_delays pl_fractions)) (As := [.int ch_z]) (rest := []) ⟨hx, hb, hml, hown, hts⟩ ⟨hK, hN⟩ hP hD hS hA (c_Pl_setZ l E pl0 pl1 pl2 pl3 pl4 H.size pl_places pl_links pl_mostDrawn pl_ofTen pl_z pl_lengths pl_told pl_delays pl_fractions ch_z pl_z_11 h_10) [1, 2, 3, 4, 5] [0] [0, 1, 2, 3, 4, 5] rfl rfl rfl rfl (by decide) rfl rfl 5 1 rfl rfl rfl gX0_restore_X5_setZ rfl rfl rfl rfl hd_Pl_setZ ⟨(Nat.le_of_ble_eq_true rfl), (Nat.le_of_ble_eq_true rfl)⟩ rfl hl.1 rfl (Nat.le_of_ble_eq_true rfl) dX0_restore_39 ⟨(Nat.zero_le _), (Nat.zero_le _)⟩ (fun H locs hP hD hS => ?_)
      refine lv_goto (tgt := 79) hx hb dX0_restore_42 (by decide) ?_
      exact hret H locs ls 79 (pl_links, pl_z_11, pl_lengths, pl_told, pl_delays, pl_fractions) dX0_restore_79 (Option.some.inj hf) hP hD hS
  · have hf := ite_t c_16 hf
    refine lv_aload_n hx hb dX0_restore_7 rfl (lv_at hl 1 rfl) ?_
    refine lv_aload_n hx hb dX0_restore_8 rfl (lv_at hl 0 rfl) ?_
    refine va_get (D := E.1) (ci := 0) (v := .int ch_i) (C := RX0) (T := TX0) (N := 8) hx hb hts in_X0_restore_X0 hown hK hP 0 rfl rfl 1 (by decide) q_2 (fun _ h9 => h9) rfl dX0_restore_9 ?_
    refine lv_aload_n hx hb dX0_restore_12 rfl (lv_at hl 0 rfl) ?_
    refine va_get (D := E.1) (ci := 0) (v := .int ch_j) (C := RX0) (T := TX0) (N := 8) hx hb hts in_X0_restore_X0 hown hK hP 0 rfl rfl 2 (by decide) q_6 (fun _ h9 => h9) rfl dX0_restore_13 ?_
    refine lv_aload_n hx hb dX0_restore_16 rfl (lv_at hl 0 rfl) ?_
    refine va_get (D := E.1) (ci := 0) (v := .int ch_length) (C := RX0) (T := TX0) (N := 8) hx hb hts in_X0_restore_X0 hown hK hP 0 rfl rfl 3 (by decide) q_7 (fun _ h9 => h9) rfl dX0_restore_17 ?_
    obtain ⟨⟨pl_links_14, pl_lengths_15⟩, h_13, hf⟩ := bd_s hf
    try dsimp only at hf
    refine ca_Mv (w2 := (w_Ch E ch0 pl0 pl1 pl2 pl3 pl4 ch_kind ch_i ch_j ch_length ch_wasTold ch_d ch_f ch_z pl_places pl_links_14 pl_mostDrawn pl_ofTen pl_z pl_lengths_15 pl_told pl_delays pl_fractions)) (As := [.int ch_i, .int ch_j, .int ch_length]) (rest := []) ⟨hx, hb, hml, hown, hts⟩ ⟨hK, hN⟩ hP hD hS hA (c_Pl_setLength l E pl0 pl1 pl2 pl3 pl4 H.size pl_places pl_links pl_mostDrawn pl_ofTen pl_z pl_lengths pl_told pl_delays pl_fractions ch_i ch_j ch_length (pl_links_14, pl_lengths_15) h_13) [1, 2, 3, 4, 5] [0] [0, 1, 2, 3, 4, 5] rfl rfl rfl rfl (by decide) rfl rfl 5 1 rfl rfl rfl gX0_restore_X5_setLength rfl rfl rfl rfl hd_Pl_setLength ⟨(Nat.le_of_ble_eq_true rfl), (Nat.le_of_ble_eq_true rfl)⟩ rfl hl.1 rfl (Nat.le_of_ble_eq_true rfl) dX0_restore_20 ⟨(Nat.zero_le _), (Nat.zero_le _)⟩ (fun H locs hP hD hS => ?_)
    refine lv_goto (tgt := 79) hx hb dX0_restore_23 (by decide) ?_
    exact hret H locs ls 79 (pl_links_14, pl_z, pl_lengths_15, pl_told, pl_delays, pl_fractions) dX0_restore_79 (Option.some.inj hf) hP hD hS
abbrev rm_Pt_kept : Room := { frames := 0, cells := 0, slots := 0, locals := 0 }
theorem hd_Pt_kept : hdOK yX3_kept 0 := by decide +kernel
theorem in_X3_kept_X3 : ∀ w ∈ wsX30, w ∈ wsX3_kept := by decide +kernel
set_option maxRecDepth 100000 in
set_option maxHeartbeats 4000000 in
theorem c_Pt_kept (l : Launch) (E : En4) (pt0 pt1 ca0 cb0 cc0 cd0 : Nat) (pt_next : Int32) (pt_kept : Int32) (hk_kind : Nat → Int32) (hk_i : Nat → Int32) (hk_j : Nat → Int32) (hk_length : Nat → Int32) (hk_wasTold : Nat → Int32) (hk_d : Nat → Int32) (hk_f : Nat → Int32) (hk_z : Nat → Int32)  (res : Int32) (hf : Pt_kept pt_kept = some res) : Met l yX3_kept wsX3_kept rm_Pt_kept (pcR [.ref pt0] E (w_Pn E pt0 pt1 ca0 cb0 cc0 cd0 pt_next pt_kept hk_kind hk_i hk_j hk_length hk_wasTold hk_d hk_f hk_z)) (vp_Si (fun r => r = res)) 0 0 (fun _ => False) := by
  refine mk_Ri (cc := cX3_kept) (maxL := 1) (by decide) rfl (Nat.le_of_ble_eq_true rfl) ?_
  intro p e s m args below meth c Q S hKN hP hret ls hl
  obtain ⟨hx, hb, hml, hown, hts⟩ := S
  obtain ⟨hK, hN⟩ := hKN
  have hl : lv_has ls 1 [(0, .ref pt0)] := hl
  have q_0 := hts (.fieldLink RX3 18 "DelayClusters$Past" "kept" "I") (by decide +kernel)
  unfold Pt_kept at hf
  refine lv_aload_n hx hb dX3_kept_0 rfl (lv_at hl 0 rfl) ?_
  refine va_get (D := E.1) (ci := 3) (v := .int pt_kept) (C := RX3) (T := TX3) (N := 3) hx hb hts in_X3_kept_X3 hown hK hP 0 rfl rfl 2 (by decide) q_0 (fun _ h9 => h9) rfl dX3_kept_1 ?_
  exact hret ls 4 pt_kept dX3_kept_4 (Option.some.inj hf)
abbrev rm_Pt_forget : Room := { frames := 0, cells := 0, slots := 0, locals := 0 }
theorem hd_Pt_forget : hdOK yX3_forget 0 := by decide +kernel
theorem in_X3_forget_X3 : ∀ w ∈ wsX30, w ∈ wsX3_forget := by decide +kernel
set_option maxRecDepth 100000 in
set_option maxHeartbeats 4000000 in
theorem c_Pt_forget (l : Launch) (E : En4) (pt0 pt1 ca0 cb0 cc0 cd0 : Nat) (sz : Nat) (pt_next : Int32) (pt_kept : Int32) (hk_kind : Nat → Int32) (hk_i : Nat → Int32) (hk_j : Nat → Int32) (hk_length : Nat → Int32) (hk_wasTold : Nat → Int32) (hk_d : Nat → Int32) (hk_f : Nat → Int32) (hk_z : Nat → Int32)  (res : Int32) (hf : Pt_forget pt_kept = some res) : Met l yX3_forget wsX3_forget rm_Pt_forget (pcM [.ref pt0] E sz (w_Pn E pt0 pt1 ca0 cb0 cc0 cd0 pt_next pt_kept hk_kind hk_i hk_j hk_length hk_wasTold hk_d hk_f hk_z)) (QMv E sz (w_Pn E pt0 pt1 ca0 cb0 cc0 cd0 pt_next pt_kept hk_kind hk_i hk_j hk_length hk_wasTold hk_d hk_f hk_z) (fun (u : Int32) => (w_Pn E pt0 pt1 ca0 cb0 cc0 cd0 pt_next u hk_kind hk_i hk_j hk_length hk_wasTold hk_d hk_f hk_z)) res) 0 0 (va_A (w_Pn E pt0 pt1 ca0 cb0 cc0 cd0 pt_next pt_kept hk_kind hk_i hk_j hk_length hk_wasTold hk_d hk_f hk_z) sz) := by
  refine mk_Mv (cc := cX3_forget) (maxL := 1) (by decide) rfl (Nat.le_of_ble_eq_true rfl) ?_
  intro p e s m args below meth c Q A S hKN hA hret H locs ls hP hD hS hl
  obtain ⟨hx, hb, hml, hown, hts⟩ := S
  obtain ⟨hK, hN⟩ := hKN
  have hl : lv_has ls 1 [(0, .ref pt0)] := hl
  have q_0 := hts (.fieldLink RX3 18 "DelayClusters$Past" "kept" "I") (by decide +kernel)
  unfold Pt_forget at hf
  refine lv_aload_n hx hb dX3_forget_0 rfl (lv_at hl 0 rfl) ?_
  refine lv_iconst (v := 0) hx hb dX3_forget_1 (by decide) ?_
  refine va_put (D := E.1) (ci := 3) (v := .int 0) (ty := .int) (C := RX3) (T := TX3) (N := 3) hx hb hts in_X3_forget_X3 tyX3 tyX3_ok nmX3 hown hK hP hD hS 0 rfl rfl 2 (by decide) q_0 (fun _ h9 => h9) rfl (by decide +kernel) rfl rfl (Nat.le_of_ble_eq_true rfl) dX3_forget_2 (fun H locs hP hD hS => ?_)
  have hP : va_P E.1 vwCl (w_Pn E pt0 pt1 ca0 cb0 cc0 cd0 pt_next 0 hk_kind hk_i hk_j hk_length hk_wasTold hk_d hk_f hk_z) H := hP
  have hD : va_D A (w_Pn E pt0 pt1 ca0 cb0 cc0 cd0 pt_next 0 hk_kind hk_i hk_j hk_length hk_wasTold hk_d hk_f hk_z) := hD
  exact hret H locs ls 5 0 dX3_forget_5 (Option.some.inj hf) hP hD hS
abbrev rm_Pt_freshChange : Room := { frames := 1, cells := 0, slots := 0, locals := 48 }
theorem hd_Pt_freshChange : hdOK yX3_freshChange 0 := by decide +kernel
theorem in_X3_freshChange_X3 : ∀ w ∈ wsX30, w ∈ wsX3_freshChange := by decide +kernel
set_option maxRecDepth 100000 in
set_option maxHeartbeats 4000000 in
theorem c_Pt_freshChange (l : Launch) (E : En4) (pt0 pt1 ca0 cb0 cc0 cd0 : Nat) (sz : Nat) (pt_next : Int32) (pt_kept : Int32) (hk_kind : Nat → Int32) (hk_i : Nat → Int32) (hk_j : Nat → Int32) (hk_length : Nat → Int32) (hk_wasTold : Nat → Int32) (hk_d : Nat → Int32) (hk_f : Nat → Int32) (hk_z : Nat → Int32)  (res : Int32 × Int32 × Int32) (hf : Pt_freshChange pt_next pt_kept = some res) : Met l yX3_freshChange wsX3_freshChange rm_Pt_freshChange (pcM [.ref pt0] E sz (w_Pn E pt0 pt1 ca0 cb0 cc0 cd0 pt_next pt_kept hk_kind hk_i hk_j hk_length hk_wasTold hk_d hk_f hk_z)) (QMr E sz (w_Pn E pt0 pt1 ca0 cb0 cc0 cd0 pt_next pt_kept hk_kind hk_i hk_j hk_length hk_wasTold hk_d hk_f hk_z) (fun (u : Int32 × Int32) => (w_Pn E pt0 pt1 ca0 cb0 cc0 cd0 u.1 u.2 hk_kind hk_i hk_j hk_length hk_wasTold hk_d hk_f hk_z)) (adC ca0 cb0 cc0 cd0) res) 0 0 (va_A (w_Pn E pt0 pt1 ca0 cb0 cc0 cd0 pt_next pt_kept hk_kind hk_i hk_j hk_length hk_wasTold hk_d hk_f hk_z) sz) := by
  refine mk_Mr (n := "DelayClusters$Change") (cc := cX3_freshChange) (maxL := 2) (by decide) rfl (Nat.le_of_ble_eq_true rfl) ?_
  intro p e s m args below meth c Q A S hKN hA hret H locs ls hP hD hS hl
  obtain ⟨hx, hb, hml, hown, hts⟩ := S
  obtain ⟨hK, hN⟩ := hKN
  have hl : lv_has ls 2 [(0, .ref pt0)] := hl
  have q_0 := hts (.fieldLink RX3 11 "DelayClusters$Past" "changes" "[LDelayClusters$Change;") (by decide +kernel)
  have q_1 := hts (.fieldLink RX3 38 "DelayClusters$Past" "next" "I") (by decide +kernel)
  have q_2 := hts (.fieldLink RX3 18 "DelayClusters$Past" "kept" "I") (by decide +kernel)
  have q_3 := hts (.methodLink RX3 41 Lib.Math.min.name) (by decide +kernel)
  have q_4 := hts (.static Lib.Math.min.name) (by decide +kernel)
  have q_5 := hts (.initialized "java/lang/Math") (by decide +kernel)
  have q_6 := hts (.code Lib.Math.min.name Lib.Math.min.code 2 (some .int)) (by decide +kernel)
  unfold Pt_freshChange at hf
  refine lv_aload_n hx hb dX3_freshChange_0 rfl (lv_at hl 0 rfl) ?_
  refine va_get (D := E.1) (ci := 3) (v := .ref pt1) (C := RX3) (T := TX3) (N := 3) hx hb hts in_X3_freshChange_X3 hown hK hP 0 rfl rfl 0 (by decide) q_0 (fun _ h9 => h9) rfl dX3_freshChange_1 ?_
  refine lv_aload_n hx hb dX3_freshChange_4 rfl (lv_at hl 0 rfl) ?_
  refine va_get (D := E.1) (ci := 3) (v := .int pt_next) (C := RX3) (T := TX3) (N := 3) hx hb hts in_X3_freshChange_X3 hown hK hP 0 rfl rfl 1 (by decide) q_1 (fun _ h9 => h9) rfl dX3_freshChange_5 ?_
  by_cases c_1 : pt_next = 0
  · have hf := ite_t c_1 hf
    rw [c_1]
    refine va_aldq hx hb hK hP 1 3 rfl rfl (ck_in (by decide)) dX3_freshChange_8 ?_
    refine W.eq (g2 := F0 m 9 ls [.ref ca0]) rfl ?_
    refine lv_astore_n (lv' := [(1, .ref ca0), (0, .ref pt0)]) hx hb dX3_freshChange_9 rfl hl (by decide) rfl (fun ls hl => ?_)
    refine lv_aload_n hx hb dX3_freshChange_10 rfl (lv_at hl 1 rfl) ?_
    refine lv_aload_n hx hb dX3_freshChange_11 rfl (lv_at hl 1 rfl) ?_
    refine va_get (D := E.1) (ci := 3) (v := .int pt_next) (C := RX3) (T := TX3) (N := 3) hx hb hts in_X3_freshChange_X3 hown hK hP 0 rfl rfl 1 (by decide) q_1 (fun _ h9 => h9) rfl dX3_freshChange_12 ?_
    refine lv_iconst (v := 1) hx hb dX3_freshChange_15 (by decide) ?_
    refine lv_iadd hx hb dX3_freshChange_16 ?_
    refine lv_iconst (v := 4) hx hb dX3_freshChange_17 (by decide) ?_
    refine lv_irem hx hb dX3_freshChange_18 (by decide) ?_
    refine va_put (D := E.1) (ci := 3) (v := .int ((pt_next + 1) - (pt_next + 1) / 4 * 4)) (ty := .int) (C := RX3) (T := TX3) (N := 3) hx hb hts in_X3_freshChange_X3 tyX3 tyX3_ok nmX3 hown hK hP hD hS 0 rfl rfl 1 (by decide) q_1 (fun _ h9 => h9) rfl (by decide +kernel) rfl rfl (Nat.le_of_ble_eq_true rfl) dX3_freshChange_19 (fun H locs hP hD hS => ?_)
    have hP : va_P E.1 vwCl (w_Pn E pt0 pt1 ca0 cb0 cc0 cd0 ((pt_next + 1) - (pt_next + 1) / 4 * 4) pt_kept hk_kind hk_i hk_j hk_length hk_wasTold hk_d hk_f hk_z) H := hP
    have hD : va_D A (w_Pn E pt0 pt1 ca0 cb0 cc0 cd0 ((pt_next + 1) - (pt_next + 1) / 4 * 4) pt_kept hk_kind hk_i hk_j hk_length hk_wasTold hk_d hk_f hk_z) := hD
    refine lv_aload_n hx hb dX3_freshChange_22 rfl (lv_at hl 1 rfl) ?_
    refine lv_aload_n hx hb dX3_freshChange_23 rfl (lv_at hl 1 rfl) ?_
    refine va_get (D := E.1) (ci := 3) (v := .int pt_kept) (C := RX3) (T := TX3) (N := 3) hx hb hts in_X3_freshChange_X3 hown hK hP 0 rfl rfl 2 (by decide) q_2 (fun _ h9 => h9) rfl dX3_freshChange_24 ?_
    refine lv_iconst (v := 1) hx hb dX3_freshChange_27 (by decide) ?_
    refine lv_iadd hx hb dX3_freshChange_28 ?_
    refine lv_iconst (v := 4) hx hb dX3_freshChange_29 (by decide) ?_
    refine va_mmin hx hb (by rw [hml]; exact hl.1.symm) hown q_3 q_4 q_5 q_6 (Nat.le_of_ble_eq_true rfl) (Nat.le_of_ble_eq_true rfl) (Nat.zero_le _) (Nat.zero_le _) dX3_freshChange_30 ?_
    refine va_put (D := E.1) (ci := 3) (v := .int (if 4 < (pt_kept + 1) then 4 else (pt_kept + 1))) (ty := .int) (C := RX3) (T := TX3) (N := 3) hx hb hts in_X3_freshChange_X3 tyX3 tyX3_ok nmX3 hown hK hP hD hS 0 rfl rfl 2 (by decide) q_2 (fun _ h9 => h9) rfl (by decide +kernel) rfl rfl (Nat.le_of_ble_eq_true rfl) dX3_freshChange_33 (fun H locs hP hD hS => ?_)
    have hP : va_P E.1 vwCl (w_Pn E pt0 pt1 ca0 cb0 cc0 cd0 ((pt_next + 1) - (pt_next + 1) / 4 * 4) (if 4 < (pt_kept + 1) then 4 else (pt_kept + 1)) hk_kind hk_i hk_j hk_length hk_wasTold hk_d hk_f hk_z) H := hP
    have hD : va_D A (w_Pn E pt0 pt1 ca0 cb0 cc0 cd0 ((pt_next + 1) - (pt_next + 1) / 4 * 4) (if 4 < (pt_kept + 1) then 4 else (pt_kept + 1)) hk_kind hk_i hk_j hk_length hk_wasTold hk_d hk_f hk_z) := hD
    refine lv_aload_n hx hb dX3_freshChange_36 rfl (lv_at hl 0 rfl) ?_
    exact hret H locs ls 37 0 (((pt_next + 1) - (pt_next + 1) / 4 * 4), (if 4 < (pt_kept + 1) then 4 else (pt_kept + 1))) dX3_freshChange_37 (Option.some.inj hf) hP hD hS
  · have hf := ite_f c_1 hf
    by_cases c_2 : pt_next = 1
    · have hf := ite_t c_2 hf
      rw [c_2]
      refine va_aldq hx hb hK hP 1 3 rfl rfl (ck_in (by decide)) dX3_freshChange_8 ?_
      refine W.eq (g2 := F0 m 9 ls [.ref cb0]) rfl ?_
      refine lv_astore_n (lv' := [(1, .ref cb0), (0, .ref pt0)]) hx hb dX3_freshChange_9 rfl hl (by decide) rfl (fun ls hl => ?_)
      refine lv_aload_n hx hb dX3_freshChange_10 rfl (lv_at hl 1 rfl) ?_
      refine lv_aload_n hx hb dX3_freshChange_11 rfl (lv_at hl 1 rfl) ?_
      refine va_get (D := E.1) (ci := 3) (v := .int pt_next) (C := RX3) (T := TX3) (N := 3) hx hb hts in_X3_freshChange_X3 hown hK hP 0 rfl rfl 1 (by decide) q_1 (fun _ h9 => h9) rfl dX3_freshChange_12 ?_
      refine lv_iconst (v := 1) hx hb dX3_freshChange_15 (by decide) ?_
      refine lv_iadd hx hb dX3_freshChange_16 ?_
      refine lv_iconst (v := 4) hx hb dX3_freshChange_17 (by decide) ?_
      refine lv_irem hx hb dX3_freshChange_18 (by decide) ?_
      refine va_put (D := E.1) (ci := 3) (v := .int ((pt_next + 1) - (pt_next + 1) / 4 * 4)) (ty := .int) (C := RX3) (T := TX3) (N := 3) hx hb hts in_X3_freshChange_X3 tyX3 tyX3_ok nmX3 hown hK hP hD hS 0 rfl rfl 1 (by decide) q_1 (fun _ h9 => h9) rfl (by decide +kernel) rfl rfl (Nat.le_of_ble_eq_true rfl) dX3_freshChange_19 (fun H locs hP hD hS => ?_)
      have hP : va_P E.1 vwCl (w_Pn E pt0 pt1 ca0 cb0 cc0 cd0 ((pt_next + 1) - (pt_next + 1) / 4 * 4) pt_kept hk_kind hk_i hk_j hk_length hk_wasTold hk_d hk_f hk_z) H := hP
      have hD : va_D A (w_Pn E pt0 pt1 ca0 cb0 cc0 cd0 ((pt_next + 1) - (pt_next + 1) / 4 * 4) pt_kept hk_kind hk_i hk_j hk_length hk_wasTold hk_d hk_f hk_z) := hD
      refine lv_aload_n hx hb dX3_freshChange_22 rfl (lv_at hl 1 rfl) ?_
      refine lv_aload_n hx hb dX3_freshChange_23 rfl (lv_at hl 1 rfl) ?_
      refine va_get (D := E.1) (ci := 3) (v := .int pt_kept) (C := RX3) (T := TX3) (N := 3) hx hb hts in_X3_freshChange_X3 hown hK hP 0 rfl rfl 2 (by decide) q_2 (fun _ h9 => h9) rfl dX3_freshChange_24 ?_
      refine lv_iconst (v := 1) hx hb dX3_freshChange_27 (by decide) ?_
      refine lv_iadd hx hb dX3_freshChange_28 ?_
      refine lv_iconst (v := 4) hx hb dX3_freshChange_29 (by decide) ?_
      refine va_mmin hx hb (by rw [hml]; exact hl.1.symm) hown q_3 q_4 q_5 q_6 (Nat.le_of_ble_eq_true rfl) (Nat.le_of_ble_eq_true rfl) (Nat.zero_le _) (Nat.zero_le _) dX3_freshChange_30 ?_
      refine va_put (D := E.1) (ci := 3) (v := .int (if 4 < (pt_kept + 1) then 4 else (pt_kept + 1))) (ty := .int) (C := RX3) (T := TX3) (N := 3) hx hb hts in_X3_freshChange_X3 tyX3 tyX3_ok nmX3 hown hK hP hD hS 0 rfl rfl 2 (by decide) q_2 (fun _ h9 => h9) rfl (by decide +kernel) rfl rfl (Nat.le_of_ble_eq_true rfl) dX3_freshChange_33 (fun H locs hP hD hS => ?_)
      have hP : va_P E.1 vwCl (w_Pn E pt0 pt1 ca0 cb0 cc0 cd0 ((pt_next + 1) - (pt_next + 1) / 4 * 4) (if 4 < (pt_kept + 1) then 4 else (pt_kept + 1)) hk_kind hk_i hk_j hk_length hk_wasTold hk_d hk_f hk_z) H := hP
      have hD : va_D A (w_Pn E pt0 pt1 ca0 cb0 cc0 cd0 ((pt_next + 1) - (pt_next + 1) / 4 * 4) (if 4 < (pt_kept + 1) then 4 else (pt_kept + 1)) hk_kind hk_i hk_j hk_length hk_wasTold hk_d hk_f hk_z) := hD
      refine lv_aload_n hx hb dX3_freshChange_36 rfl (lv_at hl 0 rfl) ?_
      exact hret H locs ls 37 1 (((pt_next + 1) - (pt_next + 1) / 4 * 4), (if 4 < (pt_kept + 1) then 4 else (pt_kept + 1))) dX3_freshChange_37 (Option.some.inj hf) hP hD hS
    · have hf := ite_f c_2 hf
      by_cases c_3 : pt_next = 2
      · have hf := ite_t c_3 hf
        rw [c_3]
        refine va_aldq hx hb hK hP 1 3 rfl rfl (ck_in (by decide)) dX3_freshChange_8 ?_
        refine W.eq (g2 := F0 m 9 ls [.ref cc0]) rfl ?_
        refine lv_astore_n (lv' := [(1, .ref cc0), (0, .ref pt0)]) hx hb dX3_freshChange_9 rfl hl (by decide) rfl (fun ls hl => ?_)
        refine lv_aload_n hx hb dX3_freshChange_10 rfl (lv_at hl 1 rfl) ?_
        refine lv_aload_n hx hb dX3_freshChange_11 rfl (lv_at hl 1 rfl) ?_
        refine va_get (D := E.1) (ci := 3) (v := .int pt_next) (C := RX3) (T := TX3) (N := 3) hx hb hts in_X3_freshChange_X3 hown hK hP 0 rfl rfl 1 (by decide) q_1 (fun _ h9 => h9) rfl dX3_freshChange_12 ?_
        refine lv_iconst (v := 1) hx hb dX3_freshChange_15 (by decide) ?_
        refine lv_iadd hx hb dX3_freshChange_16 ?_
        refine lv_iconst (v := 4) hx hb dX3_freshChange_17 (by decide) ?_
        refine lv_irem hx hb dX3_freshChange_18 (by decide) ?_
        refine va_put (D := E.1) (ci := 3) (v := .int ((pt_next + 1) - (pt_next + 1) / 4 * 4)) (ty := .int) (C := RX3) (T := TX3) (N := 3) hx hb hts in_X3_freshChange_X3 tyX3 tyX3_ok nmX3 hown hK hP hD hS 0 rfl rfl 1 (by decide) q_1 (fun _ h9 => h9) rfl (by decide +kernel) rfl rfl (Nat.le_of_ble_eq_true rfl) dX3_freshChange_19 (fun H locs hP hD hS => ?_)
        have hP : va_P E.1 vwCl (w_Pn E pt0 pt1 ca0 cb0 cc0 cd0 ((pt_next + 1) - (pt_next + 1) / 4 * 4) pt_kept hk_kind hk_i hk_j hk_length hk_wasTold hk_d hk_f hk_z) H := hP
        have hD : va_D A (w_Pn E pt0 pt1 ca0 cb0 cc0 cd0 ((pt_next + 1) - (pt_next + 1) / 4 * 4) pt_kept hk_kind hk_i hk_j hk_length hk_wasTold hk_d hk_f hk_z) := hD
        refine lv_aload_n hx hb dX3_freshChange_22 rfl (lv_at hl 1 rfl) ?_
        refine lv_aload_n hx hb dX3_freshChange_23 rfl (lv_at hl 1 rfl) ?_
        refine va_get (D := E.1) (ci := 3) (v := .int pt_kept) (C := RX3) (T := TX3) (N := 3) hx hb hts in_X3_freshChange_X3 hown hK hP 0 rfl rfl 2 (by decide) q_2 (fun _ h9 => h9) rfl dX3_freshChange_24 ?_
        refine lv_iconst (v := 1) hx hb dX3_freshChange_27 (by decide) ?_
        refine lv_iadd hx hb dX3_freshChange_28 ?_
        refine lv_iconst (v := 4) hx hb dX3_freshChange_29 (by decide) ?_
        refine va_mmin hx hb (by rw [hml]; exact hl.1.symm) hown q_3 q_4 q_5 q_6 (Nat.le_of_ble_eq_true rfl) (Nat.le_of_ble_eq_true rfl) (Nat.zero_le _) (Nat.zero_le _) dX3_freshChange_30 ?_
        refine va_put (D := E.1) (ci := 3) (v := .int (if 4 < (pt_kept + 1) then 4 else (pt_kept + 1))) (ty := .int) (C := RX3) (T := TX3) (N := 3) hx hb hts in_X3_freshChange_X3 tyX3 tyX3_ok nmX3 hown hK hP hD hS 0 rfl rfl 2 (by decide) q_2 (fun _ h9 => h9) rfl (by decide +kernel) rfl rfl (Nat.le_of_ble_eq_true rfl) dX3_freshChange_33 (fun H locs hP hD hS => ?_)
        have hP : va_P E.1 vwCl (w_Pn E pt0 pt1 ca0 cb0 cc0 cd0 ((pt_next + 1) - (pt_next + 1) / 4 * 4) (if 4 < (pt_kept + 1) then 4 else (pt_kept + 1)) hk_kind hk_i hk_j hk_length hk_wasTold hk_d hk_f hk_z) H := hP
        have hD : va_D A (w_Pn E pt0 pt1 ca0 cb0 cc0 cd0 ((pt_next + 1) - (pt_next + 1) / 4 * 4) (if 4 < (pt_kept + 1) then 4 else (pt_kept + 1)) hk_kind hk_i hk_j hk_length hk_wasTold hk_d hk_f hk_z) := hD
        refine lv_aload_n hx hb dX3_freshChange_36 rfl (lv_at hl 0 rfl) ?_
        exact hret H locs ls 37 2 (((pt_next + 1) - (pt_next + 1) / 4 * 4), (if 4 < (pt_kept + 1) then 4 else (pt_kept + 1))) dX3_freshChange_37 (Option.some.inj hf) hP hD hS
      · have hf := ite_f c_3 hf
        by_cases c_4 : pt_next = 3
        · have hf := ite_t c_4 hf
          rw [c_4]
          refine va_aldq hx hb hK hP 1 3 rfl rfl (ck_in (by decide)) dX3_freshChange_8 ?_
          refine W.eq (g2 := F0 m 9 ls [.ref cd0]) rfl ?_
          refine lv_astore_n (lv' := [(1, .ref cd0), (0, .ref pt0)]) hx hb dX3_freshChange_9 rfl hl (by decide) rfl (fun ls hl => ?_)
          refine lv_aload_n hx hb dX3_freshChange_10 rfl (lv_at hl 1 rfl) ?_
          refine lv_aload_n hx hb dX3_freshChange_11 rfl (lv_at hl 1 rfl) ?_
          refine va_get (D := E.1) (ci := 3) (v := .int pt_next) (C := RX3) (T := TX3) (N := 3) hx hb hts in_X3_freshChange_X3 hown hK hP 0 rfl rfl 1 (by decide) q_1 (fun _ h9 => h9) rfl dX3_freshChange_12 ?_
          refine lv_iconst (v := 1) hx hb dX3_freshChange_15 (by decide) ?_
          refine lv_iadd hx hb dX3_freshChange_16 ?_
          refine lv_iconst (v := 4) hx hb dX3_freshChange_17 (by decide) ?_
          refine lv_irem hx hb dX3_freshChange_18 (by decide) ?_
          refine va_put (D := E.1) (ci := 3) (v := .int ((pt_next + 1) - (pt_next + 1) / 4 * 4)) (ty := .int) (C := RX3) (T := TX3) (N := 3) hx hb hts in_X3_freshChange_X3 tyX3 tyX3_ok nmX3 hown hK hP hD hS 0 rfl rfl 1 (by decide) q_1 (fun _ h9 => h9) rfl (by decide +kernel) rfl rfl (Nat.le_of_ble_eq_true rfl) dX3_freshChange_19 (fun H locs hP hD hS => ?_)
          have hP : va_P E.1 vwCl (w_Pn E pt0 pt1 ca0 cb0 cc0 cd0 ((pt_next + 1) - (pt_next + 1) / 4 * 4) pt_kept hk_kind hk_i hk_j hk_length hk_wasTold hk_d hk_f hk_z) H := hP
          have hD : va_D A (w_Pn E pt0 pt1 ca0 cb0 cc0 cd0 ((pt_next + 1) - (pt_next + 1) / 4 * 4) pt_kept hk_kind hk_i hk_j hk_length hk_wasTold hk_d hk_f hk_z) := hD
          refine lv_aload_n hx hb dX3_freshChange_22 rfl (lv_at hl 1 rfl) ?_
          refine lv_aload_n hx hb dX3_freshChange_23 rfl (lv_at hl 1 rfl) ?_
          refine va_get (D := E.1) (ci := 3) (v := .int pt_kept) (C := RX3) (T := TX3) (N := 3) hx hb hts in_X3_freshChange_X3 hown hK hP 0 rfl rfl 2 (by decide) q_2 (fun _ h9 => h9) rfl dX3_freshChange_24 ?_
          refine lv_iconst (v := 1) hx hb dX3_freshChange_27 (by decide) ?_
          refine lv_iadd hx hb dX3_freshChange_28 ?_
          refine lv_iconst (v := 4) hx hb dX3_freshChange_29 (by decide) ?_
          refine va_mmin hx hb (by rw [hml]; exact hl.1.symm) hown q_3 q_4 q_5 q_6 (Nat.le_of_ble_eq_true rfl) (Nat.le_of_ble_eq_true rfl) (Nat.zero_le _) (Nat.zero_le _) dX3_freshChange_30 ?_
          refine va_put (D := E.1) (ci := 3) (v := .int (if 4 < (pt_kept + 1) then 4 else (pt_kept + 1))) (ty := .int) (C := RX3) (T := TX3) (N := 3) hx hb hts in_X3_freshChange_X3 tyX3 tyX3_ok nmX3 hown hK hP hD hS 0 rfl rfl 2 (by decide) q_2 (fun _ h9 => h9) rfl (by decide +kernel) rfl rfl (Nat.le_of_ble_eq_true rfl) dX3_freshChange_33 (fun H locs hP hD hS => ?_)
          have hP : va_P E.1 vwCl (w_Pn E pt0 pt1 ca0 cb0 cc0 cd0 ((pt_next + 1) - (pt_next + 1) / 4 * 4) (if 4 < (pt_kept + 1) then 4 else (pt_kept + 1)) hk_kind hk_i hk_j hk_length hk_wasTold hk_d hk_f hk_z) H := hP
          have hD : va_D A (w_Pn E pt0 pt1 ca0 cb0 cc0 cd0 ((pt_next + 1) - (pt_next + 1) / 4 * 4) (if 4 < (pt_kept + 1) then 4 else (pt_kept + 1)) hk_kind hk_i hk_j hk_length hk_wasTold hk_d hk_f hk_z) := hD
          refine lv_aload_n hx hb dX3_freshChange_36 rfl (lv_at hl 0 rfl) ?_
          exact hret H locs ls 37 3 (((pt_next + 1) - (pt_next + 1) / 4 * 4), (if 4 < (pt_kept + 1) then 4 else (pt_kept + 1))) dX3_freshChange_37 (Option.some.inj hf) hP hD hS
        · have hf := ite_f c_4 hf
          cases hf
abbrev rm_Pt_keepLink : Room := { frames := 2, cells := 0, slots := 0, locals := 69 }
theorem hd_Pt_keepLink : hdOK yX3_keepLink 3 := by decide +kernel
set_option maxRecDepth 100000 in
set_option maxHeartbeats 4000000 in
theorem c_Pt_keepLink (l : Launch) (E : En4) (pt0 pt1 ca0 cb0 cc0 cd0 pl0 pl1 pl2 pl3 pl4 : Nat) (sz : Nat) (pt_next : Int32) (pt_kept : Int32) (hk_kind : Nat → Int32) (hk_i : Nat → Int32) (hk_j : Nat → Int32) (hk_length : Nat → Int32) (hk_wasTold : Nat → Int32) (hk_d : Nat → Int32) (hk_f : Nat → Int32) (hk_z : Nat → Int32) (pl_places : Int32) (pl_links : Int32) (pl_mostDrawn : Int32) (pl_ofTen : Int32) (pl_z : Int32) (pl_lengths : Nat → Int32) (pl_told : Nat → Int32) (pl_delays : Nat → Int32) (pl_fractions : Nat → Int32) (a2 : Int32) (a3 : Int32)  (res : Int32 × Int32 × (Nat → Int32) × (Nat → Int32) × (Nat → Int32) × (Nat → Int32)) (hf : Pt_keepLink pt_next pt_kept hk_kind hk_i hk_j hk_length pl_lengths a2 a3 = some res) : Met l yX3_keepLink wsX3_keepLink rm_Pt_keepLink (pcM [.ref pt0, .ref pl0, .int a2, .int a3] E sz (w_Pt E pt0 pt1 ca0 cb0 cc0 cd0 pl0 pl1 pl2 pl3 pl4 pt_next pt_kept hk_kind hk_i hk_j hk_length hk_wasTold hk_d hk_f hk_z pl_places pl_links pl_mostDrawn pl_ofTen pl_z pl_lengths pl_told pl_delays pl_fractions)) (QMv E sz (w_Pt E pt0 pt1 ca0 cb0 cc0 cd0 pl0 pl1 pl2 pl3 pl4 pt_next pt_kept hk_kind hk_i hk_j hk_length hk_wasTold hk_d hk_f hk_z pl_places pl_links pl_mostDrawn pl_ofTen pl_z pl_lengths pl_told pl_delays pl_fractions) (fun (u : Int32 × Int32 × (Nat → Int32) × (Nat → Int32) × (Nat → Int32) × (Nat → Int32)) => (w_Pt E pt0 pt1 ca0 cb0 cc0 cd0 pl0 pl1 pl2 pl3 pl4 u.1 u.2.1 u.2.2.1 u.2.2.2.1 u.2.2.2.2.1 u.2.2.2.2.2 hk_wasTold hk_d hk_f hk_z pl_places pl_links pl_mostDrawn pl_ofTen pl_z pl_lengths pl_told pl_delays pl_fractions)) res) 0 0 (va_A (w_Pt E pt0 pt1 ca0 cb0 cc0 cd0 pl0 pl1 pl2 pl3 pl4 pt_next pt_kept hk_kind hk_i hk_j hk_length hk_wasTold hk_d hk_f hk_z pl_places pl_links pl_mostDrawn pl_ofTen pl_z pl_lengths pl_told pl_delays pl_fractions) sz) := by
  refine mk_Mv (cc := cX3_keepLink) (maxL := 4) (by decide) rfl (Nat.le_of_ble_eq_true rfl) ?_
  intro p e s m args below meth c Q A S hKN hA hret H locs ls hP hD hS hl
  obtain ⟨hx, hb, hml, hown, hts⟩ := S
  obtain ⟨hK, hN⟩ := hKN
  have hl : lv_has ls 4 [(0, .ref pt0), (1, .ref pl0), (2, .int a2), (3, .int a3)] := hl
  unfold Pt_keepLink at hf
  refine lv_aload_n hx hb dX3_keepLink_0 rfl (lv_at hl 0 rfl) ?_
  obtain ⟨⟨r_2, pt_next_3, pt_kept_4⟩, h_1, hf⟩ := bd_s hf
  try dsimp only at hf
  refine ca_Mr (w2 := (w_Pt E pt0 pt1 ca0 cb0 cc0 cd0 pl0 pl1 pl2 pl3 pl4 pt_next_3 pt_kept_4 hk_kind hk_i hk_j hk_length hk_wasTold hk_d hk_f hk_z pl_places pl_links pl_mostDrawn pl_ofTen pl_z pl_lengths pl_told pl_delays pl_fractions)) (As := []) (rest := []) ⟨hx, hb, hml, hown, hts⟩ ⟨hK, hN⟩ hP hD hS hA (c_Pt_freshChange l E pt0 pt1 ca0 cb0 cc0 cd0 H.size pt_next pt_kept hk_kind hk_i hk_j hk_length hk_wasTold hk_d hk_f hk_z (r_2, pt_next_3, pt_kept_4) h_1) [0, 1, 2, 3, 4, 5] [6, 7, 8, 9, 10] [5, 6, 7, 8, 9, 10, 0, 1, 2, 3, 4] rfl rfl rfl rfl (by decide) rfl rfl 3 0 rfl rfl rfl gX3_keepLink_X3_freshChange rfl rfl rfl rfl hd_Pt_freshChange ⟨(Nat.le_of_ble_eq_true rfl), (Nat.le_of_ble_eq_true rfl)⟩ rfl hl.1 rfl (Nat.le_of_ble_eq_true rfl) dX3_keepLink_1 ⟨(Nat.zero_le _), (Nat.zero_le _)⟩ (fun H locs hP hD hS => ?_)
  by_cases c_5 : r_2 = 0
  · have hf := ite_t c_5 hf
    rw [c_5]
    refine W.eq (g2 := F0 m 4 ls [.ref ca0]) rfl ?_
    refine lv_aload_n hx hb dX3_keepLink_4 rfl (lv_at hl 1 rfl) ?_
    refine lv_iload_n hx hb dX3_keepLink_5 rfl (lv_at hl 2 rfl) ?_
    refine lv_iload_n hx hb dX3_keepLink_6 rfl (lv_at hl 3 rfl) ?_
    obtain ⟨⟨hk_kind_7, hk_i_8, hk_j_9, hk_length_10⟩, h_6, hf⟩ := bd_s hf
    try dsimp only at hf
    refine ca_Mv (w2 := (w_Pt E pt0 pt1 ca0 cb0 cc0 cd0 pl0 pl1 pl2 pl3 pl4 pt_next_3 pt_kept_4 (upd hk_kind 0 hk_kind_7) (upd hk_i 0 hk_i_8) (upd hk_j 0 hk_j_9) (upd hk_length 0 hk_length_10) hk_wasTold hk_d hk_f hk_z pl_places pl_links pl_mostDrawn pl_ofTen pl_z pl_lengths pl_told pl_delays pl_fractions)) (As := [.ref pl0, .int a2, .int a3]) (rest := []) ⟨hx, hb, hml, hown, hts⟩ ⟨hK, hN⟩ hP hD hS hA (c_Ch_rememberLink l E ca0 pl0 pl1 pl2 pl3 pl4 H.size (hk_kind 0) (hk_i 0) (hk_j 0) (hk_length 0) (hk_wasTold 0) (hk_d 0) (hk_f 0) (hk_z 0) pl_places pl_links pl_mostDrawn pl_ofTen pl_z pl_lengths pl_told pl_delays pl_fractions a2 a3 (hk_kind_7, hk_i_8, hk_j_9, hk_length_10) h_6) [2, 6, 7, 8, 9, 10] [0, 1, 3, 4, 5] [0, 1, 5, 2, 3, 4, 6, 7, 8, 9, 10] rfl rfl rfl rfl (by decide) rfl rfl 0 2 rfl rfl rfl gX3_keepLink_X0_rememberLink rfl rfl rfl rfl hd_Ch_rememberLink ⟨(Nat.le_of_ble_eq_true rfl), (Nat.le_of_ble_eq_true rfl)⟩ rfl hl.1 rfl (Nat.le_of_ble_eq_true rfl) dX3_keepLink_7 ⟨(Nat.zero_le _), (Nat.zero_le _)⟩ (fun H locs hP hD hS => ?_)
    exact hret H locs ls 10 (pt_next_3, pt_kept_4, (upd hk_kind 0 hk_kind_7), (upd hk_i 0 hk_i_8), (upd hk_j 0 hk_j_9), (upd hk_length 0 hk_length_10)) dX3_keepLink_10 (Option.some.inj hf) hP hD hS
  · have hf := ite_f c_5 hf
    by_cases c_11 : r_2 = 1
    · have hf := ite_t c_11 hf
      rw [c_11]
      refine W.eq (g2 := F0 m 4 ls [.ref cb0]) rfl ?_
      refine lv_aload_n hx hb dX3_keepLink_4 rfl (lv_at hl 1 rfl) ?_
      refine lv_iload_n hx hb dX3_keepLink_5 rfl (lv_at hl 2 rfl) ?_
      refine lv_iload_n hx hb dX3_keepLink_6 rfl (lv_at hl 3 rfl) ?_
      obtain ⟨⟨hk_kind_13, hk_i_14, hk_j_15, hk_length_16⟩, h_12, hf⟩ := bd_s hf
      try dsimp only at hf
      refine ca_Mv (w2 := (w_Pt E pt0 pt1 ca0 cb0 cc0 cd0 pl0 pl1 pl2 pl3 pl4 pt_next_3 pt_kept_4 (upd hk_kind 1 hk_kind_13) (upd hk_i 1 hk_i_14) (upd hk_j 1 hk_j_15) (upd hk_length 1 hk_length_16) hk_wasTold hk_d hk_f hk_z pl_places pl_links pl_mostDrawn pl_ofTen pl_z pl_lengths pl_told pl_delays pl_fractions)) (As := [.ref pl0, .int a2, .int a3]) (rest := []) ⟨hx, hb, hml, hown, hts⟩ ⟨hK, hN⟩ hP hD hS hA (c_Ch_rememberLink l E cb0 pl0 pl1 pl2 pl3 pl4 H.size (hk_kind 1) (hk_i 1) (hk_j 1) (hk_length 1) (hk_wasTold 1) (hk_d 1) (hk_f 1) (hk_z 1) pl_places pl_links pl_mostDrawn pl_ofTen pl_z pl_lengths pl_told pl_delays pl_fractions a2 a3 (hk_kind_13, hk_i_14, hk_j_15, hk_length_16) h_12) [3, 6, 7, 8, 9, 10] [0, 1, 2, 4, 5] [0, 1, 2, 5, 3, 4, 6, 7, 8, 9, 10] rfl rfl rfl rfl (by decide) rfl rfl 0 3 rfl rfl rfl gX3_keepLink_X0_rememberLink rfl rfl rfl rfl hd_Ch_rememberLink ⟨(Nat.le_of_ble_eq_true rfl), (Nat.le_of_ble_eq_true rfl)⟩ rfl hl.1 rfl (Nat.le_of_ble_eq_true rfl) dX3_keepLink_7 ⟨(Nat.zero_le _), (Nat.zero_le _)⟩ (fun H locs hP hD hS => ?_)
      exact hret H locs ls 10 (pt_next_3, pt_kept_4, (upd hk_kind 1 hk_kind_13), (upd hk_i 1 hk_i_14), (upd hk_j 1 hk_j_15), (upd hk_length 1 hk_length_16)) dX3_keepLink_10 (Option.some.inj hf) hP hD hS
    · have hf := ite_f c_11 hf
      by_cases c_17 : r_2 = 2
      · have hf := ite_t c_17 hf
        rw [c_17]
        refine W.eq (g2 := F0 m 4 ls [.ref cc0]) rfl ?_
        refine lv_aload_n hx hb dX3_keepLink_4 rfl (lv_at hl 1 rfl) ?_
        refine lv_iload_n hx hb dX3_keepLink_5 rfl (lv_at hl 2 rfl) ?_
        refine lv_iload_n hx hb dX3_keepLink_6 rfl (lv_at hl 3 rfl) ?_
        obtain ⟨⟨hk_kind_19, hk_i_20, hk_j_21, hk_length_22⟩, h_18, hf⟩ := bd_s hf
        try dsimp only at hf
        refine ca_Mv (w2 := (w_Pt E pt0 pt1 ca0 cb0 cc0 cd0 pl0 pl1 pl2 pl3 pl4 pt_next_3 pt_kept_4 (upd hk_kind 2 hk_kind_19) (upd hk_i 2 hk_i_20) (upd hk_j 2 hk_j_21) (upd hk_length 2 hk_length_22) hk_wasTold hk_d hk_f hk_z pl_places pl_links pl_mostDrawn pl_ofTen pl_z pl_lengths pl_told pl_delays pl_fractions)) (As := [.ref pl0, .int a2, .int a3]) (rest := []) ⟨hx, hb, hml, hown, hts⟩ ⟨hK, hN⟩ hP hD hS hA (c_Ch_rememberLink l E cc0 pl0 pl1 pl2 pl3 pl4 H.size (hk_kind 2) (hk_i 2) (hk_j 2) (hk_length 2) (hk_wasTold 2) (hk_d 2) (hk_f 2) (hk_z 2) pl_places pl_links pl_mostDrawn pl_ofTen pl_z pl_lengths pl_told pl_delays pl_fractions a2 a3 (hk_kind_19, hk_i_20, hk_j_21, hk_length_22) h_18) [4, 6, 7, 8, 9, 10] [0, 1, 2, 3, 5] [0, 1, 2, 3, 5, 4, 6, 7, 8, 9, 10] rfl rfl rfl rfl (by decide) rfl rfl 0 4 rfl rfl rfl gX3_keepLink_X0_rememberLink rfl rfl rfl rfl hd_Ch_rememberLink ⟨(Nat.le_of_ble_eq_true rfl), (Nat.le_of_ble_eq_true rfl)⟩ rfl hl.1 rfl (Nat.le_of_ble_eq_true rfl) dX3_keepLink_7 ⟨(Nat.zero_le _), (Nat.zero_le _)⟩ (fun H locs hP hD hS => ?_)
        exact hret H locs ls 10 (pt_next_3, pt_kept_4, (upd hk_kind 2 hk_kind_19), (upd hk_i 2 hk_i_20), (upd hk_j 2 hk_j_21), (upd hk_length 2 hk_length_22)) dX3_keepLink_10 (Option.some.inj hf) hP hD hS
      · have hf := ite_f c_17 hf
        by_cases c_23 : r_2 = 3
        · have hf := ite_t c_23 hf
          rw [c_23]
          refine W.eq (g2 := F0 m 4 ls [.ref cd0]) rfl ?_
          refine lv_aload_n hx hb dX3_keepLink_4 rfl (lv_at hl 1 rfl) ?_
          refine lv_iload_n hx hb dX3_keepLink_5 rfl (lv_at hl 2 rfl) ?_
          refine lv_iload_n hx hb dX3_keepLink_6 rfl (lv_at hl 3 rfl) ?_
          obtain ⟨⟨hk_kind_25, hk_i_26, hk_j_27, hk_length_28⟩, h_24, hf⟩ := bd_s hf
          try dsimp only at hf
          refine ca_Mv (w2 := (w_Pt E pt0 pt1 ca0 cb0 cc0 cd0 pl0 pl1 pl2 pl3 pl4 pt_next_3 pt_kept_4 (upd hk_kind 3 hk_kind_25) (upd hk_i 3 hk_i_26) (upd hk_j 3 hk_j_27) (upd hk_length 3 hk_length_28) hk_wasTold hk_d hk_f hk_z pl_places pl_links pl_mostDrawn pl_ofTen pl_z pl_lengths pl_told pl_delays pl_fractions)) (As := [.ref pl0, .int a2, .int a3]) (rest := []) ⟨hx, hb, hml, hown, hts⟩ ⟨hK, hN⟩ hP hD hS hA (c_Ch_rememberLink l E cd0 pl0 pl1 pl2 pl3 pl4 H.size (hk_kind 3) (hk_i 3) (hk_j 3) (hk_length 3) (hk_wasTold 3) (hk_d 3) (hk_f 3) (hk_z 3) pl_places pl_links pl_mostDrawn pl_ofTen pl_z pl_lengths pl_told pl_delays pl_fractions a2 a3 (hk_kind_25, hk_i_26, hk_j_27, hk_length_28) h_24) [5, 6, 7, 8, 9, 10] [0, 1, 2, 3, 4] [0, 1, 2, 3, 4, 5, 6, 7, 8, 9, 10] rfl rfl rfl rfl (by decide) rfl rfl 0 5 rfl rfl rfl gX3_keepLink_X0_rememberLink rfl rfl rfl rfl hd_Ch_rememberLink ⟨(Nat.le_of_ble_eq_true rfl), (Nat.le_of_ble_eq_true rfl)⟩ rfl hl.1 rfl (Nat.le_of_ble_eq_true rfl) dX3_keepLink_7 ⟨(Nat.zero_le _), (Nat.zero_le _)⟩ (fun H locs hP hD hS => ?_)
          exact hret H locs ls 10 (pt_next_3, pt_kept_4, (upd hk_kind 3 hk_kind_25), (upd hk_i 3 hk_i_26), (upd hk_j 3 hk_j_27), (upd hk_length 3 hk_length_28)) dX3_keepLink_10 (Option.some.inj hf) hP hD hS
        · have hf := ite_f c_23 hf
          cases hf
abbrev rm_Pt_keepDelay : Room := { frames := 4, cells := 0, slots := 0, locals := 91 }
theorem hd_Pt_keepDelay : hdOK yX3_keepDelay 2 := by decide +kernel
set_option maxRecDepth 100000 in
set_option maxHeartbeats 4000000 in
theorem c_Pt_keepDelay (l : Launch) (E : En4) (pt0 pt1 ca0 cb0 cc0 cd0 pl0 pl1 pl2 pl3 pl4 : Nat) (sz : Nat) (pt_next : Int32) (pt_kept : Int32) (hk_kind : Nat → Int32) (hk_i : Nat → Int32) (hk_j : Nat → Int32) (hk_length : Nat → Int32) (hk_wasTold : Nat → Int32) (hk_d : Nat → Int32) (hk_f : Nat → Int32) (hk_z : Nat → Int32) (pl_places : Int32) (pl_links : Int32) (pl_mostDrawn : Int32) (pl_ofTen : Int32) (pl_z : Int32) (pl_lengths : Nat → Int32) (pl_told : Nat → Int32) (pl_delays : Nat → Int32) (pl_fractions : Nat → Int32) (a2 : Int32)  (res : Int32 × Int32 × (Nat → Int32) × (Nat → Int32) × (Nat → Int32) × (Nat → Int32) × (Nat → Int32)) (hf : Pt_keepDelay pt_next pt_kept hk_kind hk_i hk_wasTold hk_d hk_f pl_mostDrawn pl_ofTen pl_z pl_told pl_delays pl_fractions a2 = some res) : Met l yX3_keepDelay wsX3_keepDelay rm_Pt_keepDelay (pcM [.ref pt0, .ref pl0, .int a2] E sz (w_Pt E pt0 pt1 ca0 cb0 cc0 cd0 pl0 pl1 pl2 pl3 pl4 pt_next pt_kept hk_kind hk_i hk_j hk_length hk_wasTold hk_d hk_f hk_z pl_places pl_links pl_mostDrawn pl_ofTen pl_z pl_lengths pl_told pl_delays pl_fractions)) (QMv E sz (w_Pt E pt0 pt1 ca0 cb0 cc0 cd0 pl0 pl1 pl2 pl3 pl4 pt_next pt_kept hk_kind hk_i hk_j hk_length hk_wasTold hk_d hk_f hk_z pl_places pl_links pl_mostDrawn pl_ofTen pl_z pl_lengths pl_told pl_delays pl_fractions) (fun (u : Int32 × Int32 × (Nat → Int32) × (Nat → Int32) × (Nat → Int32) × (Nat → Int32) × (Nat → Int32)) => (w_Pt E pt0 pt1 ca0 cb0 cc0 cd0 pl0 pl1 pl2 pl3 pl4 u.1 u.2.1 u.2.2.1 u.2.2.2.1 hk_j hk_length u.2.2.2.2.1 u.2.2.2.2.2.1 u.2.2.2.2.2.2 hk_z pl_places pl_links pl_mostDrawn pl_ofTen pl_z pl_lengths pl_told pl_delays pl_fractions)) res) 0 0 (va_A (w_Pt E pt0 pt1 ca0 cb0 cc0 cd0 pl0 pl1 pl2 pl3 pl4 pt_next pt_kept hk_kind hk_i hk_j hk_length hk_wasTold hk_d hk_f hk_z pl_places pl_links pl_mostDrawn pl_ofTen pl_z pl_lengths pl_told pl_delays pl_fractions) sz) := by
  refine mk_Mv (cc := cX3_keepDelay) (maxL := 3) (by decide) rfl (Nat.le_of_ble_eq_true rfl) ?_
  intro p e s m args below meth c Q A S hKN hA hret H locs ls hP hD hS hl
  obtain ⟨hx, hb, hml, hown, hts⟩ := S
  obtain ⟨hK, hN⟩ := hKN
  have hl : lv_has ls 3 [(0, .ref pt0), (1, .ref pl0), (2, .int a2)] := hl
  unfold Pt_keepDelay at hf
  refine lv_aload_n hx hb dX3_keepDelay_0 rfl (lv_at hl 0 rfl) ?_
  obtain ⟨⟨r_2, pt_next_3, pt_kept_4⟩, h_1, hf⟩ := bd_s hf
  try dsimp only at hf
  refine ca_Mr (w2 := (w_Pt E pt0 pt1 ca0 cb0 cc0 cd0 pl0 pl1 pl2 pl3 pl4 pt_next_3 pt_kept_4 hk_kind hk_i hk_j hk_length hk_wasTold hk_d hk_f hk_z pl_places pl_links pl_mostDrawn pl_ofTen pl_z pl_lengths pl_told pl_delays pl_fractions)) (As := []) (rest := []) ⟨hx, hb, hml, hown, hts⟩ ⟨hK, hN⟩ hP hD hS hA (c_Pt_freshChange l E pt0 pt1 ca0 cb0 cc0 cd0 H.size pt_next pt_kept hk_kind hk_i hk_j hk_length hk_wasTold hk_d hk_f hk_z (r_2, pt_next_3, pt_kept_4) h_1) [0, 1, 2, 3, 4, 5] [6, 7, 8, 9, 10] [5, 6, 7, 8, 9, 10, 0, 1, 2, 3, 4] rfl rfl rfl rfl (by decide) rfl rfl 3 0 rfl rfl rfl gX3_keepDelay_X3_freshChange rfl rfl rfl rfl hd_Pt_freshChange ⟨(Nat.le_of_ble_eq_true rfl), (Nat.le_of_ble_eq_true rfl)⟩ rfl hl.1 rfl (Nat.le_of_ble_eq_true rfl) dX3_keepDelay_1 ⟨(Nat.zero_le _), (Nat.zero_le _)⟩ (fun H locs hP hD hS => ?_)
  by_cases c_5 : r_2 = 0
  · have hf := ite_t c_5 hf
    rw [c_5]
    refine W.eq (g2 := F0 m 4 ls [.ref ca0]) rfl ?_
    refine lv_aload_n hx hb dX3_keepDelay_4 rfl (lv_at hl 1 rfl) ?_
    refine lv_iload_n hx hb dX3_keepDelay_5 rfl (lv_at hl 2 rfl) ?_
    obtain ⟨⟨hk_kind_7, hk_i_8, hk_wasTold_9, hk_d_10, hk_f_11⟩, h_6, hf⟩ := bd_s hf
    try dsimp only at hf
    refine ca_Mv (w2 := (w_Pt E pt0 pt1 ca0 cb0 cc0 cd0 pl0 pl1 pl2 pl3 pl4 pt_next_3 pt_kept_4 (upd hk_kind 0 hk_kind_7) (upd hk_i 0 hk_i_8) hk_j hk_length (upd hk_wasTold 0 hk_wasTold_9) (upd hk_d 0 hk_d_10) (upd hk_f 0 hk_f_11) hk_z pl_places pl_links pl_mostDrawn pl_ofTen pl_z pl_lengths pl_told pl_delays pl_fractions)) (As := [.ref pl0, .int a2]) (rest := []) ⟨hx, hb, hml, hown, hts⟩ ⟨hK, hN⟩ hP hD hS hA (c_Ch_rememberDelay l E ca0 pl0 pl1 pl2 pl3 pl4 H.size (hk_kind 0) (hk_i 0) (hk_j 0) (hk_length 0) (hk_wasTold 0) (hk_d 0) (hk_f 0) (hk_z 0) pl_places pl_links pl_mostDrawn pl_ofTen pl_z pl_lengths pl_told pl_delays pl_fractions a2 (hk_kind_7, hk_i_8, hk_wasTold_9, hk_d_10, hk_f_11) h_6) [2, 6, 7, 8, 9, 10] [0, 1, 3, 4, 5] [0, 1, 5, 2, 3, 4, 6, 7, 8, 9, 10] rfl rfl rfl rfl (by decide) rfl rfl 0 2 rfl rfl rfl gX3_keepDelay_X0_rememberDelay rfl rfl rfl rfl hd_Ch_rememberDelay ⟨(Nat.le_of_ble_eq_true rfl), (Nat.le_of_ble_eq_true rfl)⟩ rfl hl.1 rfl (Nat.le_of_ble_eq_true rfl) dX3_keepDelay_6 ⟨(Nat.zero_le _), (Nat.zero_le _)⟩ (fun H locs hP hD hS => ?_)
    exact hret H locs ls 9 (pt_next_3, pt_kept_4, (upd hk_kind 0 hk_kind_7), (upd hk_i 0 hk_i_8), (upd hk_wasTold 0 hk_wasTold_9), (upd hk_d 0 hk_d_10), (upd hk_f 0 hk_f_11)) dX3_keepDelay_9 (Option.some.inj hf) hP hD hS
  · have hf := ite_f c_5 hf
    by_cases c_12 : r_2 = 1
    · have hf := ite_t c_12 hf
      rw [c_12]
      refine W.eq (g2 := F0 m 4 ls [.ref cb0]) rfl ?_
      refine lv_aload_n hx hb dX3_keepDelay_4 rfl (lv_at hl 1 rfl) ?_
      refine lv_iload_n hx hb dX3_keepDelay_5 rfl (lv_at hl 2 rfl) ?_
      obtain ⟨⟨hk_kind_14, hk_i_15, hk_wasTold_16, hk_d_17, hk_f_18⟩, h_13, hf⟩ := bd_s hf
      try dsimp only at hf
      refine ca_Mv (w2 := (w_Pt E pt0 pt1 ca0 cb0 cc0 cd0 pl0 pl1 pl2 pl3 pl4 pt_next_3 pt_kept_4 (upd hk_kind 1 hk_kind_14) (upd hk_i 1 hk_i_15) hk_j hk_length (upd hk_wasTold 1 hk_wasTold_16) (upd hk_d 1 hk_d_17) (upd hk_f 1 hk_f_18) hk_z pl_places pl_links pl_mostDrawn pl_ofTen pl_z pl_lengths pl_told pl_delays pl_fractions)) (As := [.ref pl0, .int a2]) (rest := []) ⟨hx, hb, hml, hown, hts⟩ ⟨hK, hN⟩ hP hD hS hA (c_Ch_rememberDelay l E cb0 pl0 pl1 pl2 pl3 pl4 H.size (hk_kind 1) (hk_i 1) (hk_j 1) (hk_length 1) (hk_wasTold 1) (hk_d 1) (hk_f 1) (hk_z 1) pl_places pl_links pl_mostDrawn pl_ofTen pl_z pl_lengths pl_told pl_delays pl_fractions a2 (hk_kind_14, hk_i_15, hk_wasTold_16, hk_d_17, hk_f_18) h_13) [3, 6, 7, 8, 9, 10] [0, 1, 2, 4, 5] [0, 1, 2, 5, 3, 4, 6, 7, 8, 9, 10] rfl rfl rfl rfl (by decide) rfl rfl 0 3 rfl rfl rfl gX3_keepDelay_X0_rememberDelay rfl rfl rfl rfl hd_Ch_rememberDelay ⟨(Nat.le_of_ble_eq_true rfl), (Nat.le_of_ble_eq_true rfl)⟩ rfl hl.1 rfl (Nat.le_of_ble_eq_true rfl) dX3_keepDelay_6 ⟨(Nat.zero_le _), (Nat.zero_le _)⟩ (fun H locs hP hD hS => ?_)
      exact hret H locs ls 9 (pt_next_3, pt_kept_4, (upd hk_kind 1 hk_kind_14), (upd hk_i 1 hk_i_15), (upd hk_wasTold 1 hk_wasTold_16), (upd hk_d 1 hk_d_17), (upd hk_f 1 hk_f_18)) dX3_keepDelay_9 (Option.some.inj hf) hP hD hS
    · have hf := ite_f c_12 hf
      by_cases c_19 : r_2 = 2
      · have hf := ite_t c_19 hf
        rw [c_19]
        refine W.eq (g2 := F0 m 4 ls [.ref cc0]) rfl ?_
        refine lv_aload_n hx hb dX3_keepDelay_4 rfl (lv_at hl 1 rfl) ?_
        refine lv_iload_n hx hb dX3_keepDelay_5 rfl (lv_at hl 2 rfl) ?_
        obtain ⟨⟨hk_kind_21, hk_i_22, hk_wasTold_23, hk_d_24, hk_f_25⟩, h_20, hf⟩ := bd_s hf
        try dsimp only at hf
        refine ca_Mv (w2 := (w_Pt E pt0 pt1 ca0 cb0 cc0 cd0 pl0 pl1 pl2 pl3 pl4 pt_next_3 pt_kept_4 (upd hk_kind 2 hk_kind_21) (upd hk_i 2 hk_i_22) hk_j hk_length (upd hk_wasTold 2 hk_wasTold_23) (upd hk_d 2 hk_d_24) (upd hk_f 2 hk_f_25) hk_z pl_places pl_links pl_mostDrawn pl_ofTen pl_z pl_lengths pl_told pl_delays pl_fractions)) (As := [.ref pl0, .int a2]) (rest := []) ⟨hx, hb, hml, hown, hts⟩ ⟨hK, hN⟩ hP hD hS hA (c_Ch_rememberDelay l E cc0 pl0 pl1 pl2 pl3 pl4 H.size (hk_kind 2) (hk_i 2) (hk_j 2) (hk_length 2) (hk_wasTold 2) (hk_d 2) (hk_f 2) (hk_z 2) pl_places pl_links pl_mostDrawn pl_ofTen pl_z pl_lengths pl_told pl_delays pl_fractions a2 (hk_kind_21, hk_i_22, hk_wasTold_23, hk_d_24, hk_f_25) h_20) [4, 6, 7, 8, 9, 10] [0, 1, 2, 3, 5] [0, 1, 2, 3, 5, 4, 6, 7, 8, 9, 10] rfl rfl rfl rfl (by decide) rfl rfl 0 4 rfl rfl rfl gX3_keepDelay_X0_rememberDelay rfl rfl rfl rfl hd_Ch_rememberDelay ⟨(Nat.le_of_ble_eq_true rfl), (Nat.le_of_ble_eq_true rfl)⟩ rfl hl.1 rfl (Nat.le_of_ble_eq_true rfl) dX3_keepDelay_6 ⟨(Nat.zero_le _), (Nat.zero_le _)⟩ (fun H locs hP hD hS => ?_)
        exact hret H locs ls 9 (pt_next_3, pt_kept_4, (upd hk_kind 2 hk_kind_21), (upd hk_i 2 hk_i_22), (upd hk_wasTold 2 hk_wasTold_23), (upd hk_d 2 hk_d_24), (upd hk_f 2 hk_f_25)) dX3_keepDelay_9 (Option.some.inj hf) hP hD hS
      · have hf := ite_f c_19 hf
        by_cases c_26 : r_2 = 3
        · have hf := ite_t c_26 hf
          rw [c_26]
          refine W.eq (g2 := F0 m 4 ls [.ref cd0]) rfl ?_
          refine lv_aload_n hx hb dX3_keepDelay_4 rfl (lv_at hl 1 rfl) ?_
          refine lv_iload_n hx hb dX3_keepDelay_5 rfl (lv_at hl 2 rfl) ?_
          obtain ⟨⟨hk_kind_28, hk_i_29, hk_wasTold_30, hk_d_31, hk_f_32⟩, h_27, hf⟩ := bd_s hf
          try dsimp only at hf
          refine ca_Mv (w2 := (w_Pt E pt0 pt1 ca0 cb0 cc0 cd0 pl0 pl1 pl2 pl3 pl4 pt_next_3 pt_kept_4 (upd hk_kind 3 hk_kind_28) (upd hk_i 3 hk_i_29) hk_j hk_length (upd hk_wasTold 3 hk_wasTold_30) (upd hk_d 3 hk_d_31) (upd hk_f 3 hk_f_32) hk_z pl_places pl_links pl_mostDrawn pl_ofTen pl_z pl_lengths pl_told pl_delays pl_fractions)) (As := [.ref pl0, .int a2]) (rest := []) ⟨hx, hb, hml, hown, hts⟩ ⟨hK, hN⟩ hP hD hS hA (c_Ch_rememberDelay l E cd0 pl0 pl1 pl2 pl3 pl4 H.size (hk_kind 3) (hk_i 3) (hk_j 3) (hk_length 3) (hk_wasTold 3) (hk_d 3) (hk_f 3) (hk_z 3) pl_places pl_links pl_mostDrawn pl_ofTen pl_z pl_lengths pl_told pl_delays pl_fractions a2 (hk_kind_28, hk_i_29, hk_wasTold_30, hk_d_31, hk_f_32) h_27) [5, 6, 7, 8, 9, 10] [0, 1, 2, 3, 4] [0, 1, 2, 3, 4, 5, 6, 7, 8, 9, 10] rfl rfl rfl rfl (by decide) rfl rfl 0 5 rfl rfl rfl gX3_keepDelay_X0_rememberDelay rfl rfl rfl rfl hd_Ch_rememberDelay ⟨(Nat.le_of_ble_eq_true rfl), (Nat.le_of_ble_eq_true rfl)⟩ rfl hl.1 rfl (Nat.le_of_ble_eq_true rfl) dX3_keepDelay_6 ⟨(Nat.zero_le _), (Nat.zero_le _)⟩ (fun H locs hP hD hS => ?_)
          exact hret H locs ls 9 (pt_next_3, pt_kept_4, (upd hk_kind 3 hk_kind_28), (upd hk_i 3 hk_i_29), (upd hk_wasTold 3 hk_wasTold_30), (upd hk_d 3 hk_d_31), (upd hk_f 3 hk_f_32)) dX3_keepDelay_9 (Option.some.inj hf) hP hD hS
        · have hf := ite_f c_26 hf
          cases hf
abbrev rm_Pt_keepZ : Room := { frames := 2, cells := 0, slots := 0, locals := 69 }
theorem hd_Pt_keepZ : hdOK yX3_keepZ 1 := by decide +kernel
set_option maxRecDepth 100000 in
set_option maxHeartbeats 4000000 in
theorem c_Pt_keepZ (l : Launch) (E : En4) (pt0 pt1 ca0 cb0 cc0 cd0 pl0 pl1 pl2 pl3 pl4 : Nat) (sz : Nat) (pt_next : Int32) (pt_kept : Int32) (hk_kind : Nat → Int32) (hk_i : Nat → Int32) (hk_j : Nat → Int32) (hk_length : Nat → Int32) (hk_wasTold : Nat → Int32) (hk_d : Nat → Int32) (hk_f : Nat → Int32) (hk_z : Nat → Int32) (pl_places : Int32) (pl_links : Int32) (pl_mostDrawn : Int32) (pl_ofTen : Int32) (pl_z : Int32) (pl_lengths : Nat → Int32) (pl_told : Nat → Int32) (pl_delays : Nat → Int32) (pl_fractions : Nat → Int32)  (res : Int32 × Int32 × (Nat → Int32) × (Nat → Int32)) (hf : Pt_keepZ pt_next pt_kept hk_kind hk_z pl_z = some res) : Met l yX3_keepZ wsX3_keepZ rm_Pt_keepZ (pcM [.ref pt0, .ref pl0] E sz (w_Pt E pt0 pt1 ca0 cb0 cc0 cd0 pl0 pl1 pl2 pl3 pl4 pt_next pt_kept hk_kind hk_i hk_j hk_length hk_wasTold hk_d hk_f hk_z pl_places pl_links pl_mostDrawn pl_ofTen pl_z pl_lengths pl_told pl_delays pl_fractions)) (QMv E sz (w_Pt E pt0 pt1 ca0 cb0 cc0 cd0 pl0 pl1 pl2 pl3 pl4 pt_next pt_kept hk_kind hk_i hk_j hk_length hk_wasTold hk_d hk_f hk_z pl_places pl_links pl_mostDrawn pl_ofTen pl_z pl_lengths pl_told pl_delays pl_fractions) (fun (u : Int32 × Int32 × (Nat → Int32) × (Nat → Int32)) => (w_Pt E pt0 pt1 ca0 cb0 cc0 cd0 pl0 pl1 pl2 pl3 pl4 u.1 u.2.1 u.2.2.1 hk_i hk_j hk_length hk_wasTold hk_d hk_f u.2.2.2 pl_places pl_links pl_mostDrawn pl_ofTen pl_z pl_lengths pl_told pl_delays pl_fractions)) res) 0 0 (va_A (w_Pt E pt0 pt1 ca0 cb0 cc0 cd0 pl0 pl1 pl2 pl3 pl4 pt_next pt_kept hk_kind hk_i hk_j hk_length hk_wasTold hk_d hk_f hk_z pl_places pl_links pl_mostDrawn pl_ofTen pl_z pl_lengths pl_told pl_delays pl_fractions) sz) := by
  refine mk_Mv (cc := cX3_keepZ) (maxL := 2) (by decide) rfl (Nat.le_of_ble_eq_true rfl) ?_
  intro p e s m args below meth c Q A S hKN hA hret H locs ls hP hD hS hl
  obtain ⟨hx, hb, hml, hown, hts⟩ := S
  obtain ⟨hK, hN⟩ := hKN
  have hl : lv_has ls 2 [(0, .ref pt0), (1, .ref pl0)] := hl
  unfold Pt_keepZ at hf
  refine lv_aload_n hx hb dX3_keepZ_0 rfl (lv_at hl 0 rfl) ?_
  obtain ⟨⟨r_2, pt_next_3, pt_kept_4⟩, h_1, hf⟩ := bd_s hf
  try dsimp only at hf
  refine ca_Mr (w2 := (w_Pt E pt0 pt1 ca0 cb0 cc0 cd0 pl0 pl1 pl2 pl3 pl4 pt_next_3 pt_kept_4 hk_kind hk_i hk_j hk_length hk_wasTold hk_d hk_f hk_z pl_places pl_links pl_mostDrawn pl_ofTen pl_z pl_lengths pl_told pl_delays pl_fractions)) (As := []) (rest := []) ⟨hx, hb, hml, hown, hts⟩ ⟨hK, hN⟩ hP hD hS hA (c_Pt_freshChange l E pt0 pt1 ca0 cb0 cc0 cd0 H.size pt_next pt_kept hk_kind hk_i hk_j hk_length hk_wasTold hk_d hk_f hk_z (r_2, pt_next_3, pt_kept_4) h_1) [0, 1, 2, 3, 4, 5] [6, 7, 8, 9, 10] [5, 6, 7, 8, 9, 10, 0, 1, 2, 3, 4] rfl rfl rfl rfl (by decide) rfl rfl 3 0 rfl rfl rfl gX3_keepZ_X3_freshChange rfl rfl rfl rfl hd_Pt_freshChange ⟨(Nat.le_of_ble_eq_true rfl), (Nat.le_of_ble_eq_true rfl)⟩ rfl hl.1 rfl (Nat.le_of_ble_eq_true rfl) dX3_keepZ_1 ⟨(Nat.zero_le _), (Nat.zero_le _)⟩ (fun H locs hP hD hS => ?_)
  by_cases c_5 : r_2 = 0
  · have hf := ite_t c_5 hf
    rw [c_5]
    refine W.eq (g2 := F0 m 4 ls [.ref ca0]) rfl ?_
    refine lv_aload_n hx hb dX3_keepZ_4 rfl (lv_at hl 1 rfl) ?_
    obtain ⟨⟨hk_kind_7, hk_z_8⟩, h_6, hf⟩ := bd_s hf
    try dsimp only at hf
    refine ca_Mv (w2 := (w_Pt E pt0 pt1 ca0 cb0 cc0 cd0 pl0 pl1 pl2 pl3 pl4 pt_next_3 pt_kept_4 (upd hk_kind 0 hk_kind_7) hk_i hk_j hk_length hk_wasTold hk_d hk_f (upd hk_z 0 hk_z_8) pl_places pl_links pl_mostDrawn pl_ofTen pl_z pl_lengths pl_told pl_delays pl_fractions)) (As := [.ref pl0]) (rest := []) ⟨hx, hb, hml, hown, hts⟩ ⟨hK, hN⟩ hP hD hS hA (c_Ch_rememberZ l E ca0 pl0 pl1 pl2 pl3 pl4 H.size (hk_kind 0) (hk_i 0) (hk_j 0) (hk_length 0) (hk_wasTold 0) (hk_d 0) (hk_f 0) (hk_z 0) pl_places pl_links pl_mostDrawn pl_ofTen pl_z pl_lengths pl_told pl_delays pl_fractions (hk_kind_7, hk_z_8) h_6) [2, 6, 7, 8, 9, 10] [0, 1, 3, 4, 5] [0, 1, 5, 2, 3, 4, 6, 7, 8, 9, 10] rfl rfl rfl rfl (by decide) rfl rfl 0 2 rfl rfl rfl gX3_keepZ_X0_rememberZ rfl rfl rfl rfl hd_Ch_rememberZ ⟨(Nat.le_of_ble_eq_true rfl), (Nat.le_of_ble_eq_true rfl)⟩ rfl hl.1 rfl (Nat.le_of_ble_eq_true rfl) dX3_keepZ_5 ⟨(Nat.zero_le _), (Nat.zero_le _)⟩ (fun H locs hP hD hS => ?_)
    exact hret H locs ls 8 (pt_next_3, pt_kept_4, (upd hk_kind 0 hk_kind_7), (upd hk_z 0 hk_z_8)) dX3_keepZ_8 (Option.some.inj hf) hP hD hS
  · have hf := ite_f c_5 hf
    by_cases c_9 : r_2 = 1
    · have hf := ite_t c_9 hf
      rw [c_9]
      refine W.eq (g2 := F0 m 4 ls [.ref cb0]) rfl ?_
      refine lv_aload_n hx hb dX3_keepZ_4 rfl (lv_at hl 1 rfl) ?_
      obtain ⟨⟨hk_kind_11, hk_z_12⟩, h_10, hf⟩ := bd_s hf
      try dsimp only at hf
      refine ca_Mv (w2 := (w_Pt E pt0 pt1 ca0 cb0 cc0 cd0 pl0 pl1 pl2 pl3 pl4 pt_next_3 pt_kept_4 (upd hk_kind 1 hk_kind_11) hk_i hk_j hk_length hk_wasTold hk_d hk_f (upd hk_z 1 hk_z_12) pl_places pl_links pl_mostDrawn pl_ofTen pl_z pl_lengths pl_told pl_delays pl_fractions)) (As := [.ref pl0]) (rest := []) ⟨hx, hb, hml, hown, hts⟩ ⟨hK, hN⟩ hP hD hS hA (c_Ch_rememberZ l E cb0 pl0 pl1 pl2 pl3 pl4 H.size (hk_kind 1) (hk_i 1) (hk_j 1) (hk_length 1) (hk_wasTold 1) (hk_d 1) (hk_f 1) (hk_z 1) pl_places pl_links pl_mostDrawn pl_ofTen pl_z pl_lengths pl_told pl_delays pl_fractions (hk_kind_11, hk_z_12) h_10) [3, 6, 7, 8, 9, 10] [0, 1, 2, 4, 5] [0, 1, 2, 5, 3, 4, 6, 7, 8, 9, 10] rfl rfl rfl rfl (by decide) rfl rfl 0 3 rfl rfl rfl gX3_keepZ_X0_rememberZ rfl rfl rfl rfl hd_Ch_rememberZ ⟨(Nat.le_of_ble_eq_true rfl), (Nat.le_of_ble_eq_true rfl)⟩ rfl hl.1 rfl (Nat.le_of_ble_eq_true rfl) dX3_keepZ_5 ⟨(Nat.zero_le _), (Nat.zero_le _)⟩ (fun H locs hP hD hS => ?_)
      exact hret H locs ls 8 (pt_next_3, pt_kept_4, (upd hk_kind 1 hk_kind_11), (upd hk_z 1 hk_z_12)) dX3_keepZ_8 (Option.some.inj hf) hP hD hS
    · have hf := ite_f c_9 hf
      by_cases c_13 : r_2 = 2
      · have hf := ite_t c_13 hf
        rw [c_13]
        refine W.eq (g2 := F0 m 4 ls [.ref cc0]) rfl ?_
        refine lv_aload_n hx hb dX3_keepZ_4 rfl (lv_at hl 1 rfl) ?_
        obtain ⟨⟨hk_kind_15, hk_z_16⟩, h_14, hf⟩ := bd_s hf
        try dsimp only at hf
        refine ca_Mv (w2 := (w_Pt E pt0 pt1 ca0 cb0 cc0 cd0 pl0 pl1 pl2 pl3 pl4 pt_next_3 pt_kept_4 (upd hk_kind 2 hk_kind_15) hk_i hk_j hk_length hk_wasTold hk_d hk_f (upd hk_z 2 hk_z_16) pl_places pl_links pl_mostDrawn pl_ofTen pl_z pl_lengths pl_told pl_delays pl_fractions)) (As := [.ref pl0]) (rest := []) ⟨hx, hb, hml, hown, hts⟩ ⟨hK, hN⟩ hP hD hS hA (c_Ch_rememberZ l E cc0 pl0 pl1 pl2 pl3 pl4 H.size (hk_kind 2) (hk_i 2) (hk_j 2) (hk_length 2) (hk_wasTold 2) (hk_d 2) (hk_f 2) (hk_z 2) pl_places pl_links pl_mostDrawn pl_ofTen pl_z pl_lengths pl_told pl_delays pl_fractions (hk_kind_15, hk_z_16) h_14) [4, 6, 7, 8, 9, 10] [0, 1, 2, 3, 5] [0, 1, 2, 3, 5, 4, 6, 7, 8, 9, 10] rfl rfl rfl rfl (by decide) rfl rfl 0 4 rfl rfl rfl gX3_keepZ_X0_rememberZ rfl rfl rfl rfl hd_Ch_rememberZ ⟨(Nat.le_of_ble_eq_true rfl), (Nat.le_of_ble_eq_true rfl)⟩ rfl hl.1 rfl (Nat.le_of_ble_eq_true rfl) dX3_keepZ_5 ⟨(Nat.zero_le _), (Nat.zero_le _)⟩ (fun H locs hP hD hS => ?_)
        exact hret H locs ls 8 (pt_next_3, pt_kept_4, (upd hk_kind 2 hk_kind_15), (upd hk_z 2 hk_z_16)) dX3_keepZ_8 (Option.some.inj hf) hP hD hS
      · have hf := ite_f c_13 hf
        by_cases c_17 : r_2 = 3
        · have hf := ite_t c_17 hf
          rw [c_17]
          refine W.eq (g2 := F0 m 4 ls [.ref cd0]) rfl ?_
          refine lv_aload_n hx hb dX3_keepZ_4 rfl (lv_at hl 1 rfl) ?_
          obtain ⟨⟨hk_kind_19, hk_z_20⟩, h_18, hf⟩ := bd_s hf
          try dsimp only at hf
          refine ca_Mv (w2 := (w_Pt E pt0 pt1 ca0 cb0 cc0 cd0 pl0 pl1 pl2 pl3 pl4 pt_next_3 pt_kept_4 (upd hk_kind 3 hk_kind_19) hk_i hk_j hk_length hk_wasTold hk_d hk_f (upd hk_z 3 hk_z_20) pl_places pl_links pl_mostDrawn pl_ofTen pl_z pl_lengths pl_told pl_delays pl_fractions)) (As := [.ref pl0]) (rest := []) ⟨hx, hb, hml, hown, hts⟩ ⟨hK, hN⟩ hP hD hS hA (c_Ch_rememberZ l E cd0 pl0 pl1 pl2 pl3 pl4 H.size (hk_kind 3) (hk_i 3) (hk_j 3) (hk_length 3) (hk_wasTold 3) (hk_d 3) (hk_f 3) (hk_z 3) pl_places pl_links pl_mostDrawn pl_ofTen pl_z pl_lengths pl_told pl_delays pl_fractions (hk_kind_19, hk_z_20) h_18) [5, 6, 7, 8, 9, 10] [0, 1, 2, 3, 4] [0, 1, 2, 3, 4, 5, 6, 7, 8, 9, 10] rfl rfl rfl rfl (by decide) rfl rfl 0 5 rfl rfl rfl gX3_keepZ_X0_rememberZ rfl rfl rfl rfl hd_Ch_rememberZ ⟨(Nat.le_of_ble_eq_true rfl), (Nat.le_of_ble_eq_true rfl)⟩ rfl hl.1 rfl (Nat.le_of_ble_eq_true rfl) dX3_keepZ_5 ⟨(Nat.zero_le _), (Nat.zero_le _)⟩ (fun H locs hP hD hS => ?_)
          exact hret H locs ls 8 (pt_next_3, pt_kept_4, (upd hk_kind 3 hk_kind_19), (upd hk_z 3 hk_z_20)) dX3_keepZ_8 (Option.some.inj hf) hP hD hS
        · have hf := ite_f c_17 hf
          cases hf
abbrev rm_Pt_takeBack : Room := { frames := 3, cells := 0, slots := 0, locals := 66 }
theorem hd_Pt_takeBack : hdOK yX3_takeBack 1 := by decide +kernel
theorem in_X3_takeBack_X3 : ∀ w ∈ wsX30, w ∈ wsX3_takeBack := by decide +kernel
set_option maxRecDepth 100000 in
set_option maxHeartbeats 4000000 in
theorem c_Pt_takeBack (l : Launch) (E : En4) (pt0 pt1 ca0 cb0 cc0 cd0 pl0 pl1 pl2 pl3 pl4 : Nat) (sz : Nat) (pt_next : Int32) (pt_kept : Int32) (hk_kind : Nat → Int32) (hk_i : Nat → Int32) (hk_j : Nat → Int32) (hk_length : Nat → Int32) (hk_wasTold : Nat → Int32) (hk_d : Nat → Int32) (hk_f : Nat → Int32) (hk_z : Nat → Int32) (pl_places : Int32) (pl_links : Int32) (pl_mostDrawn : Int32) (pl_ofTen : Int32) (pl_z : Int32) (pl_lengths : Nat → Int32) (pl_told : Nat → Int32) (pl_delays : Nat → Int32) (pl_fractions : Nat → Int32)  (res : Int32 × Int32 × Int32 × Int32 × (Nat → Int32) × (Nat → Int32) × (Nat → Int32) × (Nat → Int32)) (hf : Pt_takeBack pt_next pt_kept hk_kind hk_i hk_j hk_length hk_wasTold hk_d hk_f hk_z pl_links pl_z pl_lengths pl_told pl_delays pl_fractions = some res) : Met l yX3_takeBack wsX3_takeBack rm_Pt_takeBack (pcM [.ref pt0, .ref pl0] E sz (w_Pt E pt0 pt1 ca0 cb0 cc0 cd0 pl0 pl1 pl2 pl3 pl4 pt_next pt_kept hk_kind hk_i hk_j hk_length hk_wasTold hk_d hk_f hk_z pl_places pl_links pl_mostDrawn pl_ofTen pl_z pl_lengths pl_told pl_delays pl_fractions)) (QMv E sz (w_Pt E pt0 pt1 ca0 cb0 cc0 cd0 pl0 pl1 pl2 pl3 pl4 pt_next pt_kept hk_kind hk_i hk_j hk_length hk_wasTold hk_d hk_f hk_z pl_places pl_links pl_mostDrawn pl_ofTen pl_z pl_lengths pl_told pl_delays pl_fractions) (fun (u : Int32 × Int32 × Int32 × Int32 × (Nat → Int32) × (Nat → Int32) × (Nat → Int32) × (Nat → Int32)) => (w_Pt E pt0 pt1 ca0 cb0 cc0 cd0 pl0 pl1 pl2 pl3 pl4 u.1 u.2.1 hk_kind hk_i hk_j hk_length hk_wasTold hk_d hk_f hk_z pl_places u.2.2.1 pl_mostDrawn pl_ofTen u.2.2.2.1 u.2.2.2.2.1 u.2.2.2.2.2.1 u.2.2.2.2.2.2.1 u.2.2.2.2.2.2.2)) res) 0 0 (va_A (w_Pt E pt0 pt1 ca0 cb0 cc0 cd0 pl0 pl1 pl2 pl3 pl4 pt_next pt_kept hk_kind hk_i hk_j hk_length hk_wasTold hk_d hk_f hk_z pl_places pl_links pl_mostDrawn pl_ofTen pl_z pl_lengths pl_told pl_delays pl_fractions) sz) := by
  refine mk_Mv (cc := cX3_takeBack) (maxL := 2) (by decide) rfl (Nat.le_of_ble_eq_true rfl) ?_
  intro p e s m args below meth c Q A S hKN hA hret H locs ls hP hD hS hl
  obtain ⟨hx, hb, hml, hown, hts⟩ := S
  obtain ⟨hK, hN⟩ := hKN
  have hl : lv_has ls 2 [(0, .ref pt0), (1, .ref pl0)] := hl
  have q_0 := hts (.fieldLink RX3 18 "DelayClusters$Past" "kept" "I") (by decide +kernel)
  have q_1 := hts (.fieldLink RX3 38 "DelayClusters$Past" "next" "I") (by decide +kernel)
  have q_2 := hts (.fieldLink RX3 11 "DelayClusters$Past" "changes" "[LDelayClusters$Change;") (by decide +kernel)
  unfold Pt_takeBack at hf
  refine lv_aload_n hx hb dX3_takeBack_0 rfl (lv_at hl 0 rfl) ?_
  refine va_get (D := E.1) (ci := 3) (v := .int pt_kept) (C := RX3) (T := TX3) (N := 3) hx hb hts in_X3_takeBack_X3 hown hK hP 0 rfl rfl 2 (by decide) q_0 (fun _ h9 => h9) rfl dX3_takeBack_1 ?_
  refine lv_if_le (tgt := 44) hx hb dX3_takeBack_4 (by decide) (fun c_33 => ?_) (fun c_33 => ?_)
  · have hf := ite_t c_33 hf
    exact hret H locs ls 44 (pt_next, pt_kept, pl_links, pl_z, pl_lengths, pl_told, pl_delays, pl_fractions) dX3_takeBack_44 (Option.some.inj hf) hP hD hS
  · have hf := ite_f c_33 hf
    refine lv_aload_n hx hb dX3_takeBack_7 rfl (lv_at hl 0 rfl) ?_
    refine lv_dup hx hb dX3_takeBack_8 rfl ?_
    refine va_get (D := E.1) (ci := 3) (v := .int pt_kept) (C := RX3) (T := TX3) (N := 3) hx hb hts in_X3_takeBack_X3 hown hK hP 0 rfl rfl 2 (by decide) q_0 (fun _ h9 => h9) rfl dX3_takeBack_9 ?_
    refine lv_iconst (v := 1) hx hb dX3_takeBack_12 (by decide) ?_
    refine lv_isub hx hb dX3_takeBack_13 ?_
    refine va_put (D := E.1) (ci := 3) (v := .int (pt_kept - 1)) (ty := .int) (C := RX3) (T := TX3) (N := 3) hx hb hts in_X3_takeBack_X3 tyX3 tyX3_ok nmX3 hown hK hP hD hS 0 rfl rfl 2 (by decide) q_0 (fun _ h9 => h9) rfl (by decide +kernel) rfl rfl (Nat.le_of_ble_eq_true rfl) dX3_takeBack_14 (fun H locs hP hD hS => ?_)
    have hP : va_P E.1 vwCl (w_Pt E pt0 pt1 ca0 cb0 cc0 cd0 pl0 pl1 pl2 pl3 pl4 pt_next (pt_kept - 1) hk_kind hk_i hk_j hk_length hk_wasTold hk_d hk_f hk_z pl_places pl_links pl_mostDrawn pl_ofTen pl_z pl_lengths pl_told pl_delays pl_fractions) H := hP
    have hD : va_D A (w_Pt E pt0 pt1 ca0 cb0 cc0 cd0 pl0 pl1 pl2 pl3 pl4 pt_next (pt_kept - 1) hk_kind hk_i hk_j hk_length hk_wasTold hk_d hk_f hk_z pl_places pl_links pl_mostDrawn pl_ofTen pl_z pl_lengths pl_told pl_delays pl_fractions) := hD
    refine lv_aload_n hx hb dX3_takeBack_17 rfl (lv_at hl 0 rfl) ?_
    refine lv_aload_n hx hb dX3_takeBack_18 rfl (lv_at hl 0 rfl) ?_
    refine va_get (D := E.1) (ci := 3) (v := .int pt_next) (C := RX3) (T := TX3) (N := 3) hx hb hts in_X3_takeBack_X3 hown hK hP 0 rfl rfl 1 (by decide) q_1 (fun _ h9 => h9) rfl dX3_takeBack_19 ?_
    refine lv_iconst (v := 4) hx hb dX3_takeBack_22 (by decide) ?_
    refine lv_iadd hx hb dX3_takeBack_23 ?_
    refine lv_iconst (v := 1) hx hb dX3_takeBack_24 (by decide) ?_
    refine lv_isub hx hb dX3_takeBack_25 ?_
    refine lv_iconst (v := 4) hx hb dX3_takeBack_26 (by decide) ?_
    refine lv_irem hx hb dX3_takeBack_27 (by decide) ?_
    refine va_put (D := E.1) (ci := 3) (v := .int (((pt_next + 4) - 1) - ((pt_next + 4) - 1) / 4 * 4)) (ty := .int) (C := RX3) (T := TX3) (N := 3) hx hb hts in_X3_takeBack_X3 tyX3 tyX3_ok nmX3 hown hK hP hD hS 0 rfl rfl 1 (by decide) q_1 (fun _ h9 => h9) rfl (by decide +kernel) rfl rfl (Nat.le_of_ble_eq_true rfl) dX3_takeBack_28 (fun H locs hP hD hS => ?_)
    have hP : va_P E.1 vwCl (w_Pt E pt0 pt1 ca0 cb0 cc0 cd0 pl0 pl1 pl2 pl3 pl4 (((pt_next + 4) - 1) - ((pt_next + 4) - 1) / 4 * 4) (pt_kept - 1) hk_kind hk_i hk_j hk_length hk_wasTold hk_d hk_f hk_z pl_places pl_links pl_mostDrawn pl_ofTen pl_z pl_lengths pl_told pl_delays pl_fractions) H := hP
    have hD : va_D A (w_Pt E pt0 pt1 ca0 cb0 cc0 cd0 pl0 pl1 pl2 pl3 pl4 (((pt_next + 4) - 1) - ((pt_next + 4) - 1) / 4 * 4) (pt_kept - 1) hk_kind hk_i hk_j hk_length hk_wasTold hk_d hk_f hk_z pl_places pl_links pl_mostDrawn pl_ofTen pl_z pl_lengths pl_told pl_delays pl_fractions) := hD
    refine lv_aload_n hx hb dX3_takeBack_31 rfl (lv_at hl 0 rfl) ?_
    refine va_get (D := E.1) (ci := 3) (v := .ref pt1) (C := RX3) (T := TX3) (N := 3) hx hb hts in_X3_takeBack_X3 hown hK hP 0 rfl rfl 0 (by decide) q_2 (fun _ h9 => h9) rfl dX3_takeBack_32 ?_
    refine lv_aload_n hx hb dX3_takeBack_35 rfl (lv_at hl 0 rfl) ?_
    refine va_get (D := E.1) (ci := 3) (v := .int (((pt_next + 4) - 1) - ((pt_next + 4) - 1) / 4 * 4)) (C := RX3) (T := TX3) (N := 3) hx hb hts in_X3_takeBack_X3 hown hK hP 0 rfl rfl 1 (by decide) q_1 (fun _ h9 => h9) rfl dX3_takeBack_36 ?_
    by_cases c_1 : (((pt_next + 4) - 1) - ((pt_next + 4) - 1) / 4 * 4) = 0
    · have hf := ite_t c_1 hf
      rw [c_1]
      refine va_aldq hx hb hK hP 1 3 rfl rfl (ck_in (by decide)) dX3_takeBack_39 ?_
      refine W.eq (g2 := F0 m 40 ls [.ref ca0]) rfl ?_
      refine lv_aload_n hx hb dX3_takeBack_40 rfl (lv_at hl 1 rfl) ?_
      obtain ⟨⟨pl_links_3, pl_z_4, pl_lengths_5, pl_told_6, pl_delays_7, pl_fractions_8⟩, h_2, hf⟩ := bd_s hf
      try dsimp only at hf
      refine ca_Mv (w2 := (w_Pt E pt0 pt1 ca0 cb0 cc0 cd0 pl0 pl1 pl2 pl3 pl4 (((pt_next + 4) - 1) - ((pt_next + 4) - 1) / 4 * 4) (pt_kept - 1) hk_kind hk_i hk_j hk_length hk_wasTold hk_d hk_f hk_z pl_places pl_links_3 pl_mostDrawn pl_ofTen pl_z_4 pl_lengths_5 pl_told_6 pl_delays_7 pl_fractions_8)) (As := [.ref pl0]) (rest := []) ⟨hx, hb, hml, hown, hts⟩ ⟨hK, hN⟩ hP hD hS hA (c_Ch_restore l E ca0 pl0 pl1 pl2 pl3 pl4 H.size (hk_kind 0) (hk_i 0) (hk_j 0) (hk_length 0) (hk_wasTold 0) (hk_d 0) (hk_f 0) (hk_z 0) pl_places pl_links pl_mostDrawn pl_ofTen pl_z pl_lengths pl_told pl_delays pl_fractions (pl_links_3, pl_z_4, pl_lengths_5, pl_told_6, pl_delays_7, pl_fractions_8) h_2) [2, 6, 7, 8, 9, 10] [0, 1, 3, 4, 5] [0, 1, 5, 2, 3, 4, 6, 7, 8, 9, 10] rfl rfl rfl rfl (by decide) rfl rfl 0 2 rfl rfl rfl gX3_takeBack_X0_restore rfl rfl rfl rfl hd_Ch_restore ⟨(Nat.le_of_ble_eq_true rfl), (Nat.le_of_ble_eq_true rfl)⟩ rfl hl.1 rfl (Nat.le_of_ble_eq_true rfl) dX3_takeBack_41 ⟨(Nat.zero_le _), (Nat.zero_le _)⟩ (fun H locs hP hD hS => ?_)
      exact hret H locs ls 44 ((((pt_next + 4) - 1) - ((pt_next + 4) - 1) / 4 * 4), (pt_kept - 1), pl_links_3, pl_z_4, pl_lengths_5, pl_told_6, pl_delays_7, pl_fractions_8) dX3_takeBack_44 (Option.some.inj hf) hP hD hS
    · have hf := ite_f c_1 hf
      by_cases c_9 : (((pt_next + 4) - 1) - ((pt_next + 4) - 1) / 4 * 4) = 1
      · have hf := ite_t c_9 hf
        rw [c_9]
        refine va_aldq hx hb hK hP 1 3 rfl rfl (ck_in (by decide)) dX3_takeBack_39 ?_
        refine W.eq (g2 := F0 m 40 ls [.ref cb0]) rfl ?_
        refine lv_aload_n hx hb dX3_takeBack_40 rfl (lv_at hl 1 rfl) ?_
        obtain ⟨⟨pl_links_11, pl_z_12, pl_lengths_13, pl_told_14, pl_delays_15, pl_fractions_16⟩, h_10, hf⟩ := bd_s hf
        try dsimp only at hf
        refine ca_Mv (w2 := (w_Pt E pt0 pt1 ca0 cb0 cc0 cd0 pl0 pl1 pl2 pl3 pl4 (((pt_next + 4) - 1) - ((pt_next + 4) - 1) / 4 * 4) (pt_kept - 1) hk_kind hk_i hk_j hk_length hk_wasTold hk_d hk_f hk_z pl_places pl_links_11 pl_mostDrawn pl_ofTen pl_z_12 pl_lengths_13 pl_told_14 pl_delays_15 pl_fractions_16)) (As := [.ref pl0]) (rest := []) ⟨hx, hb, hml, hown, hts⟩ ⟨hK, hN⟩ hP hD hS hA (c_Ch_restore l E cb0 pl0 pl1 pl2 pl3 pl4 H.size (hk_kind 1) (hk_i 1) (hk_j 1) (hk_length 1) (hk_wasTold 1) (hk_d 1) (hk_f 1) (hk_z 1) pl_places pl_links pl_mostDrawn pl_ofTen pl_z pl_lengths pl_told pl_delays pl_fractions (pl_links_11, pl_z_12, pl_lengths_13, pl_told_14, pl_delays_15, pl_fractions_16) h_10) [3, 6, 7, 8, 9, 10] [0, 1, 2, 4, 5] [0, 1, 2, 5, 3, 4, 6, 7, 8, 9, 10] rfl rfl rfl rfl (by decide) rfl rfl 0 3 rfl rfl rfl gX3_takeBack_X0_restore rfl rfl rfl rfl hd_Ch_restore ⟨(Nat.le_of_ble_eq_true rfl), (Nat.le_of_ble_eq_true rfl)⟩ rfl hl.1 rfl (Nat.le_of_ble_eq_true rfl) dX3_takeBack_41 ⟨(Nat.zero_le _), (Nat.zero_le _)⟩ (fun H locs hP hD hS => ?_)
        exact hret H locs ls 44 ((((pt_next + 4) - 1) - ((pt_next + 4) - 1) / 4 * 4), (pt_kept - 1), pl_links_11, pl_z_12, pl_lengths_13, pl_told_14, pl_delays_15, pl_fractions_16) dX3_takeBack_44 (Option.some.inj hf) hP hD hS
      · have hf := ite_f c_9 hf
        by_cases c_17 : (((pt_next + 4) - 1) - ((pt_next + 4) - 1) / 4 * 4) = 2
        · have hf := ite_t c_17 hf
          rw [c_17]
          refine va_aldq hx hb hK hP 1 3 rfl rfl (ck_in (by decide)) dX3_takeBack_39 ?_
          refine W.eq (g2 := F0 m 40 ls [.ref cc0]) rfl ?_
          refine lv_aload_n hx hb dX3_takeBack_40 rfl (lv_at hl 1 rfl) ?_
          obtain ⟨⟨pl_links_19, pl_z_20, pl_lengths_21, pl_told_22, pl_delays_23, pl_fractions_24⟩, h_18, hf⟩ := bd_s hf
          try dsimp only at hf
          refine ca_Mv (w2 := (w_Pt E pt0 pt1 ca0 cb0 cc0 cd0 pl0 pl1 pl2 pl3 pl4 (((pt_next + 4) - 1) - ((pt_next + 4) - 1) / 4 * 4) (pt_kept - 1) hk_kind hk_i hk_j hk_length hk_wasTold hk_d hk_f hk_z pl_places pl_links_19 pl_mostDrawn pl_ofTen pl_z_20 pl_lengths_21 pl_told_22 pl_delays_23 pl_fractions_24)) (As := [.ref pl0]) (rest := []) ⟨hx, hb, hml, hown, hts⟩ ⟨hK, hN⟩ hP hD hS hA (c_Ch_restore l E cc0 pl0 pl1 pl2 pl3 pl4 H.size (hk_kind 2) (hk_i 2) (hk_j 2) (hk_length 2) (hk_wasTold 2) (hk_d 2) (hk_f 2) (hk_z 2) pl_places pl_links pl_mostDrawn pl_ofTen pl_z pl_lengths pl_told pl_delays pl_fractions (pl_links_19, pl_z_20, pl_lengths_21, pl_told_22, pl_delays_23, pl_fractions_24) h_18) [4, 6, 7, 8, 9, 10] [0, 1, 2, 3, 5] [0, 1, 2, 3, 5, 4, 6, 7, 8, 9, 10] rfl rfl rfl rfl (by decide) rfl rfl 0 4 rfl rfl rfl gX3_takeBack_X0_restore rfl rfl rfl rfl hd_Ch_restore ⟨(Nat.le_of_ble_eq_true rfl), (Nat.le_of_ble_eq_true rfl)⟩ rfl hl.1 rfl (Nat.le_of_ble_eq_true rfl) dX3_takeBack_41 ⟨(Nat.zero_le _), (Nat.zero_le _)⟩ (fun H locs hP hD hS => ?_)
          exact hret H locs ls 44 ((((pt_next + 4) - 1) - ((pt_next + 4) - 1) / 4 * 4), (pt_kept - 1), pl_links_19, pl_z_20, pl_lengths_21, pl_told_22, pl_delays_23, pl_fractions_24) dX3_takeBack_44 (Option.some.inj hf) hP hD hS
        · have hf := ite_f c_17 hf
          by_cases c_25 : (((pt_next + 4) - 1) - ((pt_next + 4) - 1) / 4 * 4) = 3
          · have hf := ite_t c_25 hf
            rw [c_25]
            refine va_aldq hx hb hK hP 1 3 rfl rfl (ck_in (by decide)) dX3_takeBack_39 ?_
            refine W.eq (g2 := F0 m 40 ls [.ref cd0]) rfl ?_
            refine lv_aload_n hx hb dX3_takeBack_40 rfl (lv_at hl 1 rfl) ?_
            obtain ⟨⟨pl_links_27, pl_z_28, pl_lengths_29, pl_told_30, pl_delays_31, pl_fractions_32⟩, h_26, hf⟩ := bd_s hf
            try dsimp only at hf
            refine ca_Mv (w2 := (w_Pt E pt0 pt1 ca0 cb0 cc0 cd0 pl0 pl1 pl2 pl3 pl4 (((pt_next + 4) - 1) - ((pt_next + 4) - 1) / 4 * 4) (pt_kept - 1) hk_kind hk_i hk_j hk_length hk_wasTold hk_d hk_f hk_z pl_places pl_links_27 pl_mostDrawn pl_ofTen pl_z_28 pl_lengths_29 pl_told_30 pl_delays_31 pl_fractions_32)) (As := [.ref pl0]) (rest := []) ⟨hx, hb, hml, hown, hts⟩ ⟨hK, hN⟩ hP hD hS hA (c_Ch_restore l E cd0 pl0 pl1 pl2 pl3 pl4 H.size (hk_kind 3) (hk_i 3) (hk_j 3) (hk_length 3) (hk_wasTold 3) (hk_d 3) (hk_f 3) (hk_z 3) pl_places pl_links pl_mostDrawn pl_ofTen pl_z pl_lengths pl_told pl_delays pl_fractions (pl_links_27, pl_z_28, pl_lengths_29, pl_told_30, pl_delays_31, pl_fractions_32) h_26) [5, 6, 7, 8, 9, 10] [0, 1, 2, 3, 4] [0, 1, 2, 3, 4, 5, 6, 7, 8, 9, 10] rfl rfl rfl rfl (by decide) rfl rfl 0 5 rfl rfl rfl gX3_takeBack_X0_restore rfl rfl rfl rfl hd_Ch_restore ⟨(Nat.le_of_ble_eq_true rfl), (Nat.le_of_ble_eq_true rfl)⟩ rfl hl.1 rfl (Nat.le_of_ble_eq_true rfl) dX3_takeBack_41 ⟨(Nat.zero_le _), (Nat.zero_le _)⟩ (fun H locs hP hD hS => ?_)
            exact hret H locs ls 44 ((((pt_next + 4) - 1) - ((pt_next + 4) - 1) / 4 * 4), (pt_kept - 1), pl_links_27, pl_z_28, pl_lengths_29, pl_told_30, pl_delays_31, pl_fractions_32) dX3_takeBack_44 (Option.some.inj hf) hP hD hS
          · have hf := ite_f c_25 hf
            cases hf
abbrev rm_Rd_numbersNeeded : Room := { frames := 0, cells := 0, slots := 0, locals := 0 }
theorem hd_Rd_numbersNeeded : hdOK yX6_numbersNeeded 1 := by decide +kernel
set_option maxRecDepth 100000 in
set_option maxHeartbeats 4000000 in
theorem c_Rd_numbersNeeded (l : Launch) (E : En4) (a0 : Int32)  (res : Int32) (hf : Rd_numbersNeeded a0 = some res) : Met l yX6_numbersNeeded wsX6_numbersNeeded rm_Rd_numbersNeeded (pcR [.int a0] E (w_No E)) (vp_Si (fun r => r = res)) 0 0 (fun _ => False) := by
  refine mk_Ri (cc := cX6_numbersNeeded) (maxL := 1) (by decide) rfl (Nat.le_of_ble_eq_true rfl) ?_
  intro p e s m args below meth c Q S hKN hP hret ls hl
  obtain ⟨hx, hb, hml, hown, hts⟩ := S
  obtain ⟨hK, hN⟩ := hKN
  have hl : lv_has ls 1 [(0, .int a0)] := hl
  unfold Rd_numbersNeeded at hf
  refine lv_iload_n hx hb dX6_numbersNeeded_0 rfl (lv_at hl 0 rfl) ?_
  by_cases c_1 : a0 = 100
  · have hf := ite_t c_1 hf
    refine lv_lookup (off := 59) (tgt := 60) hx hb dX6_numbersNeeded_1 (by decide) (by rw [c_1]; rfl) (by decide) ?_
    refine lv_iconst (v := 3) hx hb dX6_numbersNeeded_60 (by decide) ?_
    refine lv_goto (tgt := 65) hx hb dX6_numbersNeeded_61 (by decide) ?_
    exact hret ls 65 3 dX6_numbersNeeded_65 (Option.some.inj hf)
  · have hf := ite_f c_1 hf
    by_cases c_2 : a0 = 108
    · have hf := ite_t c_2 hf
      refine lv_lookup (off := 59) (tgt := 60) hx hb dX6_numbersNeeded_1 (by decide) (by rw [c_2]; rfl) (by decide) ?_
      refine lv_iconst (v := 3) hx hb dX6_numbersNeeded_60 (by decide) ?_
      refine lv_goto (tgt := 65) hx hb dX6_numbersNeeded_61 (by decide) ?_
      exact hret ls 65 3 dX6_numbersNeeded_65 (Option.some.inj hf)
    · have hf := ite_f c_2 hf
      by_cases c_3 : a0 = 109
      · have hf := ite_t c_3 hf
        refine lv_lookup (off := 55) (tgt := 56) hx hb dX6_numbersNeeded_1 (by decide) (by rw [c_3]; rfl) (by decide) ?_
        refine lv_iconst (v := 2) hx hb dX6_numbersNeeded_56 (by decide) ?_
        refine lv_goto (tgt := 65) hx hb dX6_numbersNeeded_57 (by decide) ?_
        exact hret ls 65 2 dX6_numbersNeeded_65 (Option.some.inj hf)
      · have hf := ite_f c_3 hf
        by_cases c_4 : a0 = 110
        · have hf := ite_t c_4 hf
          refine lv_lookup (off := 51) (tgt := 52) hx hb dX6_numbersNeeded_1 (by decide) (by rw [c_4]; rfl) (by decide) ?_
          refine lv_iconst (v := 1) hx hb dX6_numbersNeeded_52 (by decide) ?_
          refine lv_goto (tgt := 65) hx hb dX6_numbersNeeded_53 (by decide) ?_
          exact hret ls 65 1 dX6_numbersNeeded_65 (Option.some.inj hf)
        · have hf := ite_f c_4 hf
          by_cases c_5 : a0 = 122
          · have hf := ite_t c_5 hf
            refine lv_lookup (off := 51) (tgt := 52) hx hb dX6_numbersNeeded_1 (by decide) (by rw [c_5]; rfl) (by decide) ?_
            refine lv_iconst (v := 1) hx hb dX6_numbersNeeded_52 (by decide) ?_
            refine lv_goto (tgt := 65) hx hb dX6_numbersNeeded_53 (by decide) ?_
            exact hret ls 65 1 dX6_numbersNeeded_65 (Option.some.inj hf)
          · have hf := ite_f c_5 hf
            refine lv_lookup (off := 63) (tgt := 64) hx hb dX6_numbersNeeded_1 (by decide) (by show Op.lookupswitch.offset [(100, 59), (108, 59), (109, 55), (110, 51), (122, 51)] _ _ = _; rw [lv_osw c_1 (by decide), lv_osw c_2 (by decide), lv_osw c_3 (by decide), lv_osw c_4 (by decide), lv_osw c_5 (by decide)]; rfl) (by decide) ?_
            refine lv_iconst (v := 0) hx hb dX6_numbersNeeded_64 (by decide) ?_
            exact hret ls 65 0 dX6_numbersNeeded_65 (Option.some.inj hf)
abbrev rm_Rd_behindNumber : Room := { frames := 2, cells := 0, slots := 0, locals := 43 }
theorem hd_Rd_behindNumber : hdOK yX6_behindNumber 3 := by decide +kernel
theorem in_X6_behindNumber_X6 : ∀ w ∈ wsX60, w ∈ wsX6_behindNumber := by decide +kernel
set_option maxRecDepth 100000 in
set_option maxHeartbeats 4000000 in
theorem c_Rd_behindNumber (l : Launch) (E : En4) (rd0 rd1 dr0 dr1 dr2 dr3 dr4 le0 le1 : Nat) (sz : Nat) (rd_numbers : Nat → Int32) (dr_places : Int32) (dr_links : Int32) (dr_mostDrawn : Int32) (dr_ofTen : Int32) (dr_z : Int32) (dr_lengths : Nat → Int32) (dr_told : Nat → Int32) (dr_delays : Nat → Int32) (dr_fractions : Nat → Int32) (le_length : Int32) (le_signs : Nat → Int32) (a2 : Int32) (a3 : Int32)  (res : Int32 × (Nat → Int32)) (hf : Rd_behindNumber rd_numbers le_length le_signs a2 a3 = some res) : Met l yX6_behindNumber wsX6_behindNumber rm_Rd_behindNumber (pcM [.ref rd0, .ref le0, .int a2, .int a3] E sz (w_Rd E rd0 rd1 dr0 dr1 dr2 dr3 dr4 le0 le1 rd_numbers dr_places dr_links dr_mostDrawn dr_ofTen dr_z dr_lengths dr_told dr_delays dr_fractions le_length le_signs)) (QMi E sz (w_Rd E rd0 rd1 dr0 dr1 dr2 dr3 dr4 le0 le1 rd_numbers dr_places dr_links dr_mostDrawn dr_ofTen dr_z dr_lengths dr_told dr_delays dr_fractions le_length le_signs) (fun (u : (Nat → Int32)) => (w_Rd E rd0 rd1 dr0 dr1 dr2 dr3 dr4 le0 le1 u dr_places dr_links dr_mostDrawn dr_ofTen dr_z dr_lengths dr_told dr_delays dr_fractions le_length le_signs)) res) 0 0 (va_A (w_Rd E rd0 rd1 dr0 dr1 dr2 dr3 dr4 le0 le1 rd_numbers dr_places dr_links dr_mostDrawn dr_ofTen dr_z dr_lengths dr_told dr_delays dr_fractions le_length le_signs) sz) := by
  refine mk_Mi (cc := cX6_behindNumber) (maxL := 6) (by decide) rfl (Nat.le_of_ble_eq_true rfl) ?_
  intro p e s m args below meth c Q A S hKN hA hret H locs ls hP hD hS hl
  obtain ⟨hx, hb, hml, hown, hts⟩ := S
  obtain ⟨hK, hN⟩ := hKN
  have hl : lv_has ls 6 [(0, .ref rd0), (1, .ref le0), (2, .int a2), (3, .int a3)] := hl
  have q_0 := hts (.static yX7_isWithin) (by decide +kernel)
  have q_1 := hts (.initialized RX7) (by decide +kernel)
  have q_2 := hts (.fieldLink RX6 18 "DelayClusters$Reader" "numbers" "[I") (by decide +kernel)
  unfold Rd_behindNumber at hf
  refine lv_iconst (v := 0) hx hb dX6_behindNumber_0 (by decide) ?_
  refine lv_istore (lv' := [(4, .int 0), (0, .ref rd0), (1, .ref le0), (2, .int a2), (3, .int a3)]) hx hb dX6_behindNumber_1 hl (by decide) rfl (fun ls hl => ?_)
  refine lv_iconst (v := 0) hx hb dX6_behindNumber_3 (by decide) ?_
  refine lv_istore (lv' := [(5, .int 0), (4, .int 0), (0, .ref rd0), (1, .ref le0), (2, .int a2), (3, .int a3)]) hx hb dX6_behindNumber_4 hl (by decide) rfl (fun ls hl => ?_)
  obtain ⟨w_6, i_6, hf⟩ := bd_s hf
  have KX_6 : ∀ (v4_11 : Int32) (v5_12 : Int32), (v4_11, v5_12) = w_6 → ∀ (H : Heap) (locs : List Loc) (ls : Array Slot), va_P E.1 vwCl (w_Rd E rd0 rd1 dr0 dr1 dr2 dr3 dr4 le0 le1 rd_numbers dr_places dr_links dr_mostDrawn dr_ofTen dr_z dr_lengths dr_told dr_delays dr_fractions le_length le_signs) H → va_D A (w_Rd E rd0 rd1 dr0 dr1 dr2 dr3 dr4 le0 le1 rd_numbers dr_places dr_links dr_mostDrawn dr_ofTen dr_z dr_lengths dr_told dr_delays dr_fractions le_length le_signs) → va_S A s.heap H locs → lv_has ls 6 [(0, .ref rd0), (2, .int a2), (3, .int a3), (4, .int v4_11), (5, .int v5_12)] → W p l e rm_Rd_behindNumber s m args below meth c H locs 0 0 Q (F0 m 55 ls []) := by
    intro v4_11 v5_12 e_
    subst e_
    try dsimp only at hf
    intro H locs ls hP hD hS hl
    refine lv_aload_n hx hb dX6_behindNumber_55 rfl (lv_at hl 0 rfl) ?_
    refine va_get (D := E.1) (ci := 6) (v := .ref rd1) (C := RX6) (T := TX6) (N := 2) hx hb hts in_X6_behindNumber_X6 hown hK hP 0 rfl rfl 1 (by decide) q_2 (fun _ h9 => h9) rfl dX6_behindNumber_56 ?_
    refine lv_iload_n hx hb dX6_behindNumber_59 rfl (lv_at hl 2 rfl) ?_
    refine lv_iload hx hb dX6_behindNumber_60 (lv_at hl 3 rfl) ?_
    obtain ⟨g_13, hf⟩ := gk_s hf
    refine va_iast hx hb hK hP hD hS 1 0 rfl rfl g_13 dX6_behindNumber_62 (fun H locs hP hD hS => ?_)
    have hP : va_P E.1 vwCl (w_Rd E rd0 rd1 dr0 dr1 dr2 dr3 dr4 le0 le1 (upd rd_numbers a3.toNatClampNeg v4_11) dr_places dr_links dr_mostDrawn dr_ofTen dr_z dr_lengths dr_told dr_delays dr_fractions le_length le_signs) H := hP
    have hD : va_D A (w_Rd E rd0 rd1 dr0 dr1 dr2 dr3 dr4 le0 le1 (upd rd_numbers a3.toNatClampNeg v4_11) dr_places dr_links dr_mostDrawn dr_ofTen dr_z dr_lengths dr_told dr_delays dr_fractions le_length le_signs) := hD
    refine lv_iload hx hb dX6_behindNumber_63 (lv_at hl 4 rfl) ?_
    refine lv_if_ne (tgt := 73) hx hb dX6_behindNumber_65 (by decide) (fun c_14 => ?_) (fun c_14 => ?_)
    · have hf := ite_f c_14 hf
      refine lv_iload_n hx hb dX6_behindNumber_73 rfl (lv_at hl 1 rfl) ?_
      refine lv_iload hx hb dX6_behindNumber_74 (lv_at hl 4 rfl) ?_
      refine lv_iadd hx hb dX6_behindNumber_76 ?_
      exact hret H locs ls 77 (a2 + v5_12) (upd rd_numbers a3.toNatClampNeg v4_11) dX6_behindNumber_77 (Option.some.inj hf) hP hD hS
    · have hf := ite_t c_14 hf
      refine lv_bipush (v := (-4)) hx hb dX6_behindNumber_68 (by decide) ?_
      refine lv_goto (tgt := 77) hx hb dX6_behindNumber_70 (by decide) ?_
      exact hret H locs ls 77 (-4) (upd rd_numbers a3.toNatClampNeg v4_11) dX6_behindNumber_77 (Option.some.inj hf) hP hD hS
  have KL_6 : ∀ (n_ : Nat) (v4_1 : Int32) (v5_2 : Int32), it (Rd_behindNumber_L6 le_length le_signs a2) n_ (v4_1, v5_2) = some w_6 → ∀ (H : Heap) (locs : List Loc) (ls : Array Slot), va_P E.1 vwCl (w_Rd E rd0 rd1 dr0 dr1 dr2 dr3 dr4 le0 le1 rd_numbers dr_places dr_links dr_mostDrawn dr_ofTen dr_z dr_lengths dr_told dr_delays dr_fractions le_length le_signs) H → va_D A (w_Rd E rd0 rd1 dr0 dr1 dr2 dr3 dr4 le0 le1 rd_numbers dr_places dr_links dr_mostDrawn dr_ofTen dr_z dr_lengths dr_told dr_delays dr_fractions le_length le_signs) → va_S A s.heap H locs → lv_has ls 6 [(0, .ref rd0), (1, .ref le0), (2, .int a2), (3, .int a3), (4, .int v4_1), (5, .int v5_2)] → W p l e rm_Rd_behindNumber s m args below meth c H locs 0 0 Q (F0 m 6 ls []) := by
    intro n_
    induction n_ with
    | zero => intro v4_1 v5_2 hit; exact (it_z hit).elim
    | succ n_6 ih_6 =>
      intro v4_1 v5_2 hit
      intro H locs ls hP hD hS hl
      obtain ⟨x_6, hf, hc_6, hq_6⟩ := it_s hit
      dsimp only [Rd_behindNumber_L6] at hf
      refine lv_iload hx hb dX6_behindNumber_6 (lv_at hl 5 rfl) ?_
      refine lv_iconst (v := 4) hx hb dX6_behindNumber_8 (by decide) ?_
      refine lv_icmp_ge (tgt := 55) hx hb dX6_behindNumber_9 (by decide) (fun c_10 => ?_) (fun c_10 => ?_)
      · have hf := ite_t c_10 hf
        exact KX_6 v4_1 v5_2 (hq_6 _ (Option.some.inj hf).symm) H locs _ hP hD hS (lv_sub hl [0, 2, 3, 4, 5] rfl)
      · have hf := ite_f c_10 hf
        refine lv_aload_n hx hb dX6_behindNumber_12 rfl (lv_at hl 1 rfl) ?_
        refine lv_iload_n hx hb dX6_behindNumber_13 rfl (lv_at hl 2 rfl) ?_
        refine lv_iload hx hb dX6_behindNumber_14 (lv_at hl 5 rfl) ?_
        refine lv_iadd hx hb dX6_behindNumber_16 ?_
        obtain ⟨r_4, h_3, hf⟩ := bd_s hf
        refine ca_V (As := [.int (a2 + v5_2)]) (rest := []) ⟨hx, hb, hml, hown, hts⟩ ⟨hK, hN⟩ hP (c_Le_at l E le0 le1 le_length le_signs (a2 + v5_2) r_4 h_3) [7, 8] rfl 2 7 rfl rfl rfl gX6_behindNumber_X2_at rfl rfl rfl rfl hd_Le_at ⟨(Nat.le_of_ble_eq_true rfl), (Nat.le_of_ble_eq_true rfl)⟩ rfl hl.1 rfl (Nat.le_of_ble_eq_true rfl) dX6_behindNumber_17 ⟨(Nat.zero_le _), (Nat.zero_le _)⟩ ?_
        refine lv_bipush (v := 48) hx hb dX6_behindNumber_20 (by decide) ?_
        refine lv_bipush (v := 57) hx hb dX6_behindNumber_22 (by decide) ?_
        obtain ⟨r_6, h_5, hf⟩ := bd_s hf
        refine ca_N (host := RX7) (As := [.int r_4, .int 48, .int 57]) (rest := []) ⟨hx, hb, hml, hown, hts⟩ ⟨hK, hN⟩ hP (c_Dc_isWithin l E   r_4 48 57 r_6 h_5) [] rfl (by decide +kernel) gX6_behindNumber_X7_isWithin_n50 rfl rfl rfl q_0 q_1 hd_Dc_isWithin ⟨(Nat.le_of_ble_eq_true rfl), (Nat.le_of_ble_eq_true rfl)⟩ rfl hl.1 rfl (Nat.le_of_ble_eq_true rfl) dX6_behindNumber_24 ⟨(Nat.zero_le _), (Nat.zero_le _)⟩ ?_
        refine lv_if_eq (tgt := 55) hx hb dX6_behindNumber_27 (by decide) (fun c_9 => ?_) (fun c_9 => ?_)
        · have hf := ite_t c_9 hf
          exact KX_6 v4_1 v5_2 (hq_6 _ (Option.some.inj hf).symm) H locs _ hP hD hS (lv_sub hl [0, 2, 3, 4, 5] rfl)
        · have hf := ite_f c_9 hf
          refine lv_iload hx hb dX6_behindNumber_30 (lv_at hl 4 rfl) ?_
          refine lv_bipush (v := 10) hx hb dX6_behindNumber_32 (by decide) ?_
          refine lv_imul hx hb dX6_behindNumber_34 ?_
          refine lv_aload_n hx hb dX6_behindNumber_35 rfl (lv_at hl 1 rfl) ?_
          refine lv_iload_n hx hb dX6_behindNumber_36 rfl (lv_at hl 2 rfl) ?_
          refine lv_iload hx hb dX6_behindNumber_37 (lv_at hl 5 rfl) ?_
          refine lv_iadd hx hb dX6_behindNumber_39 ?_
          obtain ⟨r_8, h_7, hf⟩ := bd_s hf
          refine ca_V (As := [.int (a2 + v5_2)]) (rest := [.int (v4_1 * 10)]) ⟨hx, hb, hml, hown, hts⟩ ⟨hK, hN⟩ hP (c_Le_at l E le0 le1 le_length le_signs (a2 + v5_2) r_8 h_7) [7, 8] rfl 2 7 rfl rfl rfl gX6_behindNumber_X2_at rfl rfl rfl rfl hd_Le_at ⟨(Nat.le_of_ble_eq_true rfl), (Nat.le_of_ble_eq_true rfl)⟩ rfl hl.1 rfl (Nat.le_of_ble_eq_true rfl) dX6_behindNumber_40 ⟨(Nat.zero_le _), (Nat.zero_le _)⟩ ?_
          refine lv_iadd hx hb dX6_behindNumber_43 ?_
          refine lv_bipush (v := 48) hx hb dX6_behindNumber_44 (by decide) ?_
          refine lv_isub hx hb dX6_behindNumber_46 ?_
          refine lv_istore (lv' := [(4, .int (((v4_1 * 10) + r_8) - 48)), (0, .ref rd0), (1, .ref le0), (2, .int a2), (3, .int a3), (5, .int v5_2)]) hx hb dX6_behindNumber_47 hl (by decide) rfl (fun ls hl => ?_)
          refine lv_iinc (v := (v5_2 + 1)) (lv' := [(5, .int (v5_2 + 1)), (4, .int (((v4_1 * 10) + r_8) - 48)), (0, .ref rd0), (1, .ref le0), (2, .int a2), (3, .int a3)]) hx hb dX6_behindNumber_49 hl (k := 5) rfl rfl (by decide) rfl (fun ls hl => ?_)
          refine lv_goto (tgt := 6) hx hb dX6_behindNumber_52 (by decide) ?_
          exact ih_6 (((v4_1 * 10) + r_8) - 48) (v5_2 + 1) (hc_6 _ (Option.some.inj hf).symm) H locs _ hP hD hS (lv_sub hl [2, 3, 4, 5, 1, 0] rfl)
  exact KL_6 _ 0 0 i_6 H locs _ hP hD hS (lv_sub hl [2, 3, 4, 5, 1, 0] rfl)
abbrev rm_Rd_behindItem : Room := { frames := 3, cells := 0, slots := 0, locals := 68 }
theorem hd_Rd_behindItem : hdOK yX6_behindItem 2 := by decide +kernel
set_option maxRecDepth 100000 in
set_option maxHeartbeats 4000000 in
theorem c_Rd_behindItem (l : Launch) (E : En4) (rd0 rd1 dr0 dr1 dr2 dr3 dr4 le0 le1 : Nat) (sz : Nat) (rd_numbers : Nat → Int32) (dr_places : Int32) (dr_links : Int32) (dr_mostDrawn : Int32) (dr_ofTen : Int32) (dr_z : Int32) (dr_lengths : Nat → Int32) (dr_told : Nat → Int32) (dr_delays : Nat → Int32) (dr_fractions : Nat → Int32) (le_length : Int32) (le_signs : Nat → Int32) (a2 : Int32)  (res : Int32 × (Nat → Int32)) (hf : Rd_behindItem rd_numbers le_length le_signs a2 = some res) : Met l yX6_behindItem wsX6_behindItem rm_Rd_behindItem (pcM [.ref rd0, .ref le0, .int a2] E sz (w_Rd E rd0 rd1 dr0 dr1 dr2 dr3 dr4 le0 le1 rd_numbers dr_places dr_links dr_mostDrawn dr_ofTen dr_z dr_lengths dr_told dr_delays dr_fractions le_length le_signs)) (QMi E sz (w_Rd E rd0 rd1 dr0 dr1 dr2 dr3 dr4 le0 le1 rd_numbers dr_places dr_links dr_mostDrawn dr_ofTen dr_z dr_lengths dr_told dr_delays dr_fractions le_length le_signs) (fun (u : (Nat → Int32)) => (w_Rd E rd0 rd1 dr0 dr1 dr2 dr3 dr4 le0 le1 u dr_places dr_links dr_mostDrawn dr_ofTen dr_z dr_lengths dr_told dr_delays dr_fractions le_length le_signs)) res) 0 0 (va_A (w_Rd E rd0 rd1 dr0 dr1 dr2 dr3 dr4 le0 le1 rd_numbers dr_places dr_links dr_mostDrawn dr_ofTen dr_z dr_lengths dr_told dr_delays dr_fractions le_length le_signs) sz) := by
  refine mk_Mi (cc := cX6_behindItem) (maxL := 6) (by decide) rfl (Nat.le_of_ble_eq_true rfl) ?_
  intro p e s m args below meth c Q A S hKN hA hret H locs ls hP hD hS hl
  obtain ⟨hx, hb, hml, hown, hts⟩ := S
  obtain ⟨hK, hN⟩ := hKN
  have hl : lv_has ls 6 [(0, .ref rd0), (1, .ref le0), (2, .int a2)] := hl
  unfold Rd_behindItem at hf
  refine lv_aload_n hx hb dX6_behindItem_0 rfl (lv_at hl 1 rfl) ?_
  refine lv_iload_n hx hb dX6_behindItem_1 rfl (lv_at hl 2 rfl) ?_
  obtain ⟨r_2, h_1, hf⟩ := bd_s hf
  refine ca_V (As := [.int a2]) (rest := []) ⟨hx, hb, hml, hown, hts⟩ ⟨hK, hN⟩ hP (c_Le_at l E le0 le1 le_length le_signs a2 r_2 h_1) [7, 8] rfl 2 7 rfl rfl rfl gX6_behindItem_X2_at rfl rfl rfl rfl hd_Le_at ⟨(Nat.le_of_ble_eq_true rfl), (Nat.le_of_ble_eq_true rfl)⟩ rfl hl.1 rfl (Nat.le_of_ble_eq_true rfl) dX6_behindItem_2 ⟨(Nat.zero_le _), (Nat.zero_le _)⟩ ?_
  obtain ⟨r_4, h_3, hf⟩ := bd_s hf
  refine ca_S (As := [.int r_2]) (rest := []) ⟨hx, hb, hml, hown, hts⟩ ⟨hK, hN⟩ hP (c_Rd_numbersNeeded l E   r_2 r_4 h_3) [] rfl gX6_behindItem_X6_numbersNeeded rfl rfl rfl hd_Rd_numbersNeeded ⟨(Nat.le_of_ble_eq_true rfl), (Nat.le_of_ble_eq_true rfl)⟩ rfl hl.1 rfl (Nat.le_of_ble_eq_true rfl) dX6_behindItem_5 ⟨(Nat.zero_le _), (Nat.zero_le _)⟩ ?_
  refine lv_istore_n (lv' := [(3, .int r_4), (0, .ref rd0), (1, .ref le0), (2, .int a2)]) hx hb dX6_behindItem_8 rfl hl (by decide) rfl (fun ls hl => ?_)
  refine lv_iload_n hx hb dX6_behindItem_9 rfl (lv_at hl 3 rfl) ?_
  refine lv_iconst (v := 1) hx hb dX6_behindItem_10 (by decide) ?_
  refine lv_iadd hx hb dX6_behindItem_11 ?_
  refine lv_istore (lv' := [(4, .int (a2 + 1)), (3, .int r_4), (0, .ref rd0), (1, .ref le0), (2, .int a2)]) hx hb dX6_behindItem_12 hl (by decide) rfl (fun ls hl => ?_)
  refine lv_iconst (v := 0) hx hb dX6_behindItem_14 (by decide) ?_
  refine lv_istore (lv' := [(5, .int 0), (4, .int (a2 + 1)), (3, .int r_4), (0, .ref rd0), (1, .ref le0), (2, .int a2)]) hx hb dX6_behindItem_15 hl (by decide) rfl (fun ls hl => ?_)
  obtain ⟨w_17, i_17, hf⟩ := bd_s hf
  have KE_17 : ∀ y_, Sum.inr y_ = w_17 → some y_ = some res := by intro y_ e_; subst e_; exact hf
  have KX_17 : ∀ (v4_18 : Int32) (rd_numbers_19 : Nat → Int32), Sum.inl (v4_18, rd_numbers_19) = w_17 → ∀ (H : Heap) (locs : List Loc) (ls : Array Slot), va_P E.1 vwCl (w_Rd E rd0 rd1 dr0 dr1 dr2 dr3 dr4 le0 le1 rd_numbers_19 dr_places dr_links dr_mostDrawn dr_ofTen dr_z dr_lengths dr_told dr_delays dr_fractions le_length le_signs) H → va_D A (w_Rd E rd0 rd1 dr0 dr1 dr2 dr3 dr4 le0 le1 rd_numbers_19 dr_places dr_links dr_mostDrawn dr_ofTen dr_z dr_lengths dr_told dr_delays dr_fractions le_length le_signs) → va_S A s.heap H locs → lv_has ls 6 [(3, .int r_4), (4, .int v4_18)] → W p l e rm_Rd_behindItem s m args below meth c H locs 0 0 Q (F0 m 77 ls []) := by
    intro v4_18 rd_numbers_19 e_
    subst e_
    try dsimp only at hf
    intro H locs ls hP hD hS hl
    refine lv_iload_n hx hb dX6_behindItem_77 rfl (lv_at hl 0 rfl) ?_
    refine lv_if_ne (tgt := 86) hx hb dX6_behindItem_78 (by decide) (fun c_20 => ?_) (fun c_20 => ?_)
    · have hf := ite_f c_20 hf
      refine lv_iload hx hb dX6_behindItem_86 (lv_at hl 1 rfl) ?_
      exact hret H locs ls 88 v4_18 rd_numbers_19 dX6_behindItem_88 (Option.some.inj hf) hP hD hS
    · have hf := ite_t c_20 hf
      refine lv_bipush (v := (-4)) hx hb dX6_behindItem_81 (by decide) ?_
      refine lv_goto (tgt := 88) hx hb dX6_behindItem_83 (by decide) ?_
      exact hret H locs ls 88 (-4) rd_numbers_19 dX6_behindItem_88 (Option.some.inj hf) hP hD hS
  have KL_17 : ∀ (n_ : Nat) (v4_5 : Int32) (v5_6 : Int32) (rd_numbers_7 : Nat → Int32), it (Rd_behindItem_L17 le_length le_signs r_4) n_ (v4_5, v5_6, rd_numbers_7) = some w_17 → ∀ (H : Heap) (locs : List Loc) (ls : Array Slot), va_P E.1 vwCl (w_Rd E rd0 rd1 dr0 dr1 dr2 dr3 dr4 le0 le1 rd_numbers_7 dr_places dr_links dr_mostDrawn dr_ofTen dr_z dr_lengths dr_told dr_delays dr_fractions le_length le_signs) H → va_D A (w_Rd E rd0 rd1 dr0 dr1 dr2 dr3 dr4 le0 le1 rd_numbers_7 dr_places dr_links dr_mostDrawn dr_ofTen dr_z dr_lengths dr_told dr_delays dr_fractions le_length le_signs) → va_S A s.heap H locs → lv_has ls 6 [(0, .ref rd0), (1, .ref le0), (3, .int r_4), (4, .int v4_5), (5, .int v5_6)] → W p l e rm_Rd_behindItem s m args below meth c H locs 0 0 Q (F0 m 17 ls []) := by
    intro n_
    induction n_ with
    | zero => intro v4_5 v5_6 rd_numbers_7 hit; exact (it_z hit).elim
    | succ n_17 ih_17 =>
      intro v4_5 v5_6 rd_numbers_7 hit
      intro H locs ls hP hD hS hl
      obtain ⟨x_17, hf, hc_17, hq_17⟩ := it_s hit
      dsimp only [Rd_behindItem_L17] at hf
      refine lv_iload hx hb dX6_behindItem_17 (lv_at hl 4 rfl) ?_
      refine lv_iload_n hx hb dX6_behindItem_19 rfl (lv_at hl 2 rfl) ?_
      refine lv_icmp_ge (tgt := 77) hx hb dX6_behindItem_20 (by decide) (fun c_17 => ?_) (fun c_17 => ?_)
      · have hf := ite_t c_17 hf
        exact KX_17 v4_5 rd_numbers_7 (hq_17 _ (Option.some.inj hf).symm) H locs _ hP hD hS (lv_sub hl [2, 3] rfl)
      · have hf := ite_f c_17 hf
        refine lv_aload_n hx hb dX6_behindItem_23 rfl (lv_at hl 0 rfl) ?_
        refine lv_aload_n hx hb dX6_behindItem_24 rfl (lv_at hl 1 rfl) ?_
        refine lv_iload hx hb dX6_behindItem_25 (lv_at hl 3 rfl) ?_
        refine lv_iload hx hb dX6_behindItem_27 (lv_at hl 4 rfl) ?_
        obtain ⟨⟨r_9, rd_numbers_10⟩, h_8, hf⟩ := bd_s hf
        try dsimp only at hf
        refine ca_Mi (w2 := (w_Rd E rd0 rd1 dr0 dr1 dr2 dr3 dr4 le0 le1 rd_numbers_10 dr_places dr_links dr_mostDrawn dr_ofTen dr_z dr_lengths dr_told dr_delays dr_fractions le_length le_signs)) (As := [.ref le0, .int v4_5, .int v5_6]) (rest := []) ⟨hx, hb, hml, hown, hts⟩ ⟨hK, hN⟩ hP hD hS hA (c_Rd_behindNumber l E rd0 rd1 dr0 dr1 dr2 dr3 dr4 le0 le1 H.size rd_numbers_7 dr_places dr_links dr_mostDrawn dr_ofTen dr_z dr_lengths dr_told dr_delays dr_fractions le_length le_signs v4_5 v5_6 (r_9, rd_numbers_10) h_8) [0, 1, 2, 3, 4, 5, 6, 7, 8] [] [0, 1, 2, 3, 4, 5, 6, 7, 8] rfl rfl rfl rfl (by decide) rfl rfl 6 0 rfl rfl rfl gX6_behindItem_X6_behindNumber rfl rfl rfl rfl hd_Rd_behindNumber ⟨(Nat.le_of_ble_eq_true rfl), (Nat.le_of_ble_eq_true rfl)⟩ rfl hl.1 rfl (Nat.le_of_ble_eq_true rfl) dX6_behindItem_29 ⟨(Nat.zero_le _), (Nat.zero_le _)⟩ (fun H locs hP hD hS => ?_)
        refine lv_istore (lv' := [(4, .int r_9), (0, .ref rd0), (1, .ref le0), (3, .int r_4), (5, .int v5_6)]) hx hb dX6_behindItem_32 hl (by decide) rfl (fun ls hl => ?_)
        refine lv_iload hx hb dX6_behindItem_34 (lv_at hl 0 rfl) ?_
        refine lv_bipush (v := (-4)) hx hb dX6_behindItem_36 (by decide) ?_
        refine lv_icmp_eq (tgt := 65) hx hb dX6_behindItem_38 (by decide) (fun c_16 => ?_) (fun c_16 => ?_)
        · have hf := ite_t c_16 hf
          refine lv_bipush (v := (-4)) hx hb dX6_behindItem_65 (by decide) ?_
          have hf := KE_17 _ (hq_17 _ (Option.some.inj hf).symm)
          exact hret H locs ls 67 (-4) rd_numbers_10 dX6_behindItem_67 (Option.some.inj hf) hP hD hS
        · have hf := ite_f c_16 hf
          refine lv_aload_n hx hb dX6_behindItem_41 rfl (lv_at hl 2 rfl) ?_
          refine lv_iload hx hb dX6_behindItem_42 (lv_at hl 0 rfl) ?_
          obtain ⟨r_12, h_11, hf⟩ := bd_s hf
          refine ca_V (As := [.int r_9]) (rest := []) ⟨hx, hb, hml, hown, hts⟩ ⟨hK, hN⟩ hP (c_Le_at l E le0 le1 le_length le_signs r_9 r_12 h_11) [7, 8] rfl 2 7 rfl rfl rfl gX6_behindItem_X2_at rfl rfl rfl rfl hd_Le_at ⟨(Nat.le_of_ble_eq_true rfl), (Nat.le_of_ble_eq_true rfl)⟩ rfl hl.1 rfl (Nat.le_of_ble_eq_true rfl) dX6_behindItem_44 ⟨(Nat.zero_le _), (Nat.zero_le _)⟩ ?_
          refine lv_iload hx hb dX6_behindItem_47 (lv_at hl 4 rfl) ?_
          refine lv_iload_n hx hb dX6_behindItem_49 rfl (lv_at hl 3 rfl) ?_
          refine lv_iconst (v := 1) hx hb dX6_behindItem_50 (by decide) ?_
          refine lv_isub hx hb dX6_behindItem_51 ?_
          obtain ⟨j_52, b_52, hf⟩ := bd_s hf
          have KJ_52 : ∀ (t_14 : Int32), t_14 = j_52 → ∀ (H : Heap) (locs : List Loc) (ls : Array Slot), va_P E.1 vwCl (w_Rd E rd0 rd1 dr0 dr1 dr2 dr3 dr4 le0 le1 rd_numbers_10 dr_places dr_links dr_mostDrawn dr_ofTen dr_z dr_lengths dr_told dr_delays dr_fractions le_length le_signs) H → va_D A (w_Rd E rd0 rd1 dr0 dr1 dr2 dr3 dr4 le0 le1 rd_numbers_10 dr_places dr_links dr_mostDrawn dr_ofTen dr_z dr_lengths dr_told dr_delays dr_fractions le_length le_signs) → va_S A s.heap H locs → lv_has ls 6 [(0, .ref rd0), (1, .ref le0), (3, .int r_4), (4, .int r_9), (5, .int v5_6)] → W p l e rm_Rd_behindItem s m args below meth c H locs 0 0 Q (F0 m 62 ls [.int t_14, .int r_12]) := by
            intro t_14 e_
            subst e_
            try dsimp only at hf
            intro H locs ls hP hD hS hl
            refine lv_icmp_eq (tgt := 68) hx hb dX6_behindItem_62 (by decide) (fun c_15 => ?_) (fun c_15 => ?_)
            · have hf := ite_t c_15 hf
              refine lv_iinc (v := (r_9 + 1)) (lv' := [(4, .int (r_9 + 1)), (0, .ref rd0), (1, .ref le0), (3, .int r_4), (5, .int v5_6)]) hx hb dX6_behindItem_68 hl (k := 3) rfl rfl (by decide) rfl (fun ls hl => ?_)
              refine lv_iinc (v := (v5_6 + 1)) (lv' := [(5, .int (v5_6 + 1)), (4, .int (r_9 + 1)), (0, .ref rd0), (1, .ref le0), (3, .int r_4)]) hx hb dX6_behindItem_71 hl (k := 4) rfl rfl (by decide) rfl (fun ls hl => ?_)
              refine lv_goto (tgt := 17) hx hb dX6_behindItem_74 (by decide) ?_
              exact ih_17 (r_9 + 1) (v5_6 + 1) rd_numbers_10 (hc_17 _ (Option.some.inj hf).symm) H locs _ hP hD hS (lv_sub hl [2, 3, 4, 1, 0] rfl)
            · have hf := ite_f c_15 hf
              refine lv_bipush (v := (-4)) hx hb dX6_behindItem_65 (by decide) ?_
              have hf := KE_17 _ (hq_17 _ (Option.some.inj hf).symm)
              exact hret H locs ls 67 (-4) rd_numbers_10 dX6_behindItem_67 (Option.some.inj hf) hP hD hS
          have hf := b_52
          refine lv_icmp_ne (tgt := 60) hx hb dX6_behindItem_52 (by decide) (fun c_13 => ?_) (fun c_13 => ?_)
          · have hf := ite_f c_13 hf
            refine lv_bipush (v := 44) hx hb dX6_behindItem_60 (by decide) ?_
            exact KJ_52 44 (Option.some.inj hf) H locs _ hP hD hS (lv_sub hl [1, 2, 3, 0, 4] rfl)
          · have hf := ite_t c_13 hf
            refine lv_bipush (v := 59) hx hb dX6_behindItem_55 (by decide) ?_
            refine lv_goto (tgt := 62) hx hb dX6_behindItem_57 (by decide) ?_
            exact KJ_52 59 (Option.some.inj hf) H locs _ hP hD hS (lv_sub hl [1, 2, 3, 0, 4] rfl)
  exact KL_17 _ (a2 + 1) 0 rd_numbers i_17 H locs _ hP hD hS (lv_sub hl [3, 4, 2, 1, 0] rfl)
abbrev rm_Rd_takesZ : Room := { frames := 1, cells := 0, slots := 0, locals := 22 }
theorem hd_Rd_takesZ : hdOK yX6_takesZ 1 := by decide +kernel
theorem in_X6_takesZ_X6 : ∀ w ∈ wsX60, w ∈ wsX6_takesZ := by decide +kernel
set_option maxRecDepth 100000 in
set_option maxHeartbeats 4000000 in
theorem c_Rd_takesZ (l : Launch) (E : En4) (rd0 rd1 dr0 dr1 dr2 dr3 dr4 : Nat) (sz : Nat) (rd_numbers : Nat → Int32) (dr_places : Int32) (dr_links : Int32) (dr_mostDrawn : Int32) (dr_ofTen : Int32) (dr_z : Int32) (dr_lengths : Nat → Int32) (dr_told : Nat → Int32) (dr_delays : Nat → Int32) (dr_fractions : Nat → Int32) (a1 : Int32)  (res : Int32 × Int32) (hf : Rd_takesZ dr_z a1 = some res) : Met l yX6_takesZ wsX6_takesZ rm_Rd_takesZ (pcM [.ref rd0, .int a1] E sz (w_Re E rd0 rd1 dr0 dr1 dr2 dr3 dr4 rd_numbers dr_places dr_links dr_mostDrawn dr_ofTen dr_z dr_lengths dr_told dr_delays dr_fractions)) (QMi E sz (w_Re E rd0 rd1 dr0 dr1 dr2 dr3 dr4 rd_numbers dr_places dr_links dr_mostDrawn dr_ofTen dr_z dr_lengths dr_told dr_delays dr_fractions) (fun (u : Int32) => (w_Re E rd0 rd1 dr0 dr1 dr2 dr3 dr4 rd_numbers dr_places dr_links dr_mostDrawn dr_ofTen u dr_lengths dr_told dr_delays dr_fractions)) res) 0 0 (va_A (w_Re E rd0 rd1 dr0 dr1 dr2 dr3 dr4 rd_numbers dr_places dr_links dr_mostDrawn dr_ofTen dr_z dr_lengths dr_told dr_delays dr_fractions) sz) := by
  refine mk_Mz (cc := cX6_takesZ) (maxL := 2) (by decide) rfl (Nat.le_of_ble_eq_true rfl) ?_
  intro p e s m args below meth c Q A S hKN hA hret H locs ls hP hD hS hl
  obtain ⟨hx, hb, hml, hown, hts⟩ := S
  obtain ⟨hK, hN⟩ := hKN
  have hl : lv_has ls 2 [(0, .ref rd0), (1, .int a1)] := hl
  have q_0 := hts (.static yX7_isWithin) (by decide +kernel)
  have q_1 := hts (.initialized RX7) (by decide +kernel)
  have q_2 := hts (.fieldLink RX6 12 "DelayClusters$Reader" "draft" "LDelayClusters$Plan;") (by decide +kernel)
  unfold Rd_takesZ at hf
  refine lv_iload_n hx hb dX6_takesZ_0 rfl (lv_at hl 1 rfl) ?_
  refine lv_iconst (v := 0) hx hb dX6_takesZ_1 (by decide) ?_
  refine lv_sipush (v := 9999) hx hb dX6_takesZ_2 (by decide) ?_
  obtain ⟨r_2, h_1, hf⟩ := bd_s hf
  refine ca_N (host := RX7) (As := [.int a1, .int 0, .int 9999]) (rest := []) ⟨hx, hb, hml, hown, hts⟩ ⟨hK, hN⟩ hP (c_Dc_isWithin l E   a1 0 9999 r_2 h_1) [] rfl (by decide +kernel) gX6_takesZ_X7_isWithin_n50 rfl rfl rfl q_0 q_1 hd_Dc_isWithin ⟨(Nat.le_of_ble_eq_true rfl), (Nat.le_of_ble_eq_true rfl)⟩ rfl hl.1 rfl (Nat.le_of_ble_eq_true rfl) dX6_takesZ_5 ⟨(Nat.zero_le _), (Nat.zero_le _)⟩ ?_
  refine lv_if_ne (tgt := 13) hx hb dX6_takesZ_8 (by decide) (fun c_5 => ?_) (fun c_5 => ?_)
  · have hf := ite_f c_5 hf
    refine lv_aload_n hx hb dX6_takesZ_13 rfl (lv_at hl 0 rfl) ?_
    refine va_get (D := E.1) (ci := 6) (v := .ref dr0) (C := RX6) (T := TX6) (N := 2) hx hb hts in_X6_takesZ_X6 hown hK hP 0 rfl rfl 0 (by decide) q_2 (fun _ h9 => h9) rfl dX6_takesZ_14 ?_
    refine lv_iload_n hx hb dX6_takesZ_17 rfl (lv_at hl 1 rfl) ?_
    obtain ⟨dr_z_4, h_3, hf⟩ := bd_s hf
    try dsimp only at hf
    refine ca_Mv (w2 := (w_Re E rd0 rd1 dr0 dr1 dr2 dr3 dr4 rd_numbers dr_places dr_links dr_mostDrawn dr_ofTen dr_z_4 dr_lengths dr_told dr_delays dr_fractions)) (As := [.int a1]) (rest := []) ⟨hx, hb, hml, hown, hts⟩ ⟨hK, hN⟩ hP hD hS hA (c_Pl_setZ l E dr0 dr1 dr2 dr3 dr4 H.size dr_places dr_links dr_mostDrawn dr_ofTen dr_z dr_lengths dr_told dr_delays dr_fractions a1 dr_z_4 h_3) [2, 3, 4, 5, 6] [0, 1] [0, 1, 2, 3, 4, 5, 6] rfl rfl rfl rfl (by decide) rfl rfl 5 2 rfl rfl rfl gX6_takesZ_X5_setZ rfl rfl rfl rfl hd_Pl_setZ ⟨(Nat.le_of_ble_eq_true rfl), (Nat.le_of_ble_eq_true rfl)⟩ rfl hl.1 rfl (Nat.le_of_ble_eq_true rfl) dX6_takesZ_18 ⟨(Nat.zero_le _), (Nat.zero_le _)⟩ (fun H locs hP hD hS => ?_)
    refine lv_iconst (v := 1) hx hb dX6_takesZ_21 (by decide) ?_
    exact hret H locs ls 22 1 dr_z_4 dX6_takesZ_22 (by decide) (Option.some.inj hf) hP hD hS
  · have hf := ite_t c_5 hf
    refine lv_iconst (v := 0) hx hb dX6_takesZ_11 (by decide) ?_
    exact hret H locs ls 12 0 dr_z dX6_takesZ_12 (by decide) (Option.some.inj hf) hP hD hS
abbrev rm_Rd_takesDrawing : Room := { frames := 1, cells := 0, slots := 0, locals := 22 }
theorem hd_Rd_takesDrawing : hdOK yX6_takesDrawing 2 := by decide +kernel
theorem in_X6_takesDrawing_X6 : ∀ w ∈ wsX60, w ∈ wsX6_takesDrawing := by decide +kernel
set_option maxRecDepth 100000 in
set_option maxHeartbeats 4000000 in
theorem c_Rd_takesDrawing (l : Launch) (E : En4) (rd0 rd1 dr0 dr1 dr2 dr3 dr4 : Nat) (sz : Nat) (rd_numbers : Nat → Int32) (dr_places : Int32) (dr_links : Int32) (dr_mostDrawn : Int32) (dr_ofTen : Int32) (dr_z : Int32) (dr_lengths : Nat → Int32) (dr_told : Nat → Int32) (dr_delays : Nat → Int32) (dr_fractions : Nat → Int32) (a1 : Int32) (a2 : Int32)  (res : Int32 × Int32 × Int32) (hf : Rd_takesDrawing dr_mostDrawn dr_ofTen a1 a2 = some res) : Met l yX6_takesDrawing wsX6_takesDrawing rm_Rd_takesDrawing (pcM [.ref rd0, .int a1, .int a2] E sz (w_Re E rd0 rd1 dr0 dr1 dr2 dr3 dr4 rd_numbers dr_places dr_links dr_mostDrawn dr_ofTen dr_z dr_lengths dr_told dr_delays dr_fractions)) (QMi E sz (w_Re E rd0 rd1 dr0 dr1 dr2 dr3 dr4 rd_numbers dr_places dr_links dr_mostDrawn dr_ofTen dr_z dr_lengths dr_told dr_delays dr_fractions) (fun (u : Int32 × Int32) => (w_Re E rd0 rd1 dr0 dr1 dr2 dr3 dr4 rd_numbers dr_places dr_links u.1 u.2 dr_z dr_lengths dr_told dr_delays dr_fractions)) res) 0 0 (va_A (w_Re E rd0 rd1 dr0 dr1 dr2 dr3 dr4 rd_numbers dr_places dr_links dr_mostDrawn dr_ofTen dr_z dr_lengths dr_told dr_delays dr_fractions) sz) := by
  refine mk_Mz (cc := cX6_takesDrawing) (maxL := 3) (by decide) rfl (Nat.le_of_ble_eq_true rfl) ?_
  intro p e s m args below meth c Q A S hKN hA hret H locs ls hP hD hS hl
  obtain ⟨hx, hb, hml, hown, hts⟩ := S
  obtain ⟨hK, hN⟩ := hKN
  have hl : lv_has ls 3 [(0, .ref rd0), (1, .int a1), (2, .int a2)] := hl
  have q_0 := hts (.static yX7_isWithin) (by decide +kernel)
  have q_1 := hts (.initialized RX7) (by decide +kernel)
  have q_2 := hts (.fieldLink RX6 12 "DelayClusters$Reader" "draft" "LDelayClusters$Plan;") (by decide +kernel)
  unfold Rd_takesDrawing at hf
  refine lv_iload_n hx hb dX6_takesDrawing_0 rfl (lv_at hl 1 rfl) ?_
  refine lv_iconst (v := 1) hx hb dX6_takesDrawing_1 (by decide) ?_
  refine lv_bipush (v := 30) hx hb dX6_takesDrawing_2 (by decide) ?_
  obtain ⟨r_2, h_1, hf⟩ := bd_s hf
  refine ca_N (host := RX7) (As := [.int a1, .int 1, .int 30]) (rest := []) ⟨hx, hb, hml, hown, hts⟩ ⟨hK, hN⟩ hP (c_Dc_isWithin l E   a1 1 30 r_2 h_1) [] rfl (by decide +kernel) gX6_takesDrawing_X7_isWithin_n50 rfl rfl rfl q_0 q_1 hd_Dc_isWithin ⟨(Nat.le_of_ble_eq_true rfl), (Nat.le_of_ble_eq_true rfl)⟩ rfl hl.1 rfl (Nat.le_of_ble_eq_true rfl) dX6_takesDrawing_4 ⟨(Nat.zero_le _), (Nat.zero_le _)⟩ ?_
  refine lv_if_eq (tgt := 20) hx hb dX6_takesDrawing_7 (by decide) (fun c_9 => ?_) (fun c_9 => ?_)
  · have hf := ite_t c_9 hf
    refine lv_iconst (v := 0) hx hb dX6_takesDrawing_20 (by decide) ?_
    exact hret H locs ls 21 0 (dr_mostDrawn, dr_ofTen) dX6_takesDrawing_21 (by decide) (Option.some.inj hf) hP hD hS
  · have hf := ite_f c_9 hf
    refine lv_iload_n hx hb dX6_takesDrawing_10 rfl (lv_at hl 2 rfl) ?_
    refine lv_iconst (v := 0) hx hb dX6_takesDrawing_11 (by decide) ?_
    refine lv_bipush (v := 10) hx hb dX6_takesDrawing_12 (by decide) ?_
    obtain ⟨r_4, h_3, hf⟩ := bd_s hf
    refine ca_N (host := RX7) (As := [.int a2, .int 0, .int 10]) (rest := []) ⟨hx, hb, hml, hown, hts⟩ ⟨hK, hN⟩ hP (c_Dc_isWithin l E   a2 0 10 r_4 h_3) [] rfl (by decide +kernel) gX6_takesDrawing_X7_isWithin_n50 rfl rfl rfl q_0 q_1 hd_Dc_isWithin ⟨(Nat.le_of_ble_eq_true rfl), (Nat.le_of_ble_eq_true rfl)⟩ rfl hl.1 rfl (Nat.le_of_ble_eq_true rfl) dX6_takesDrawing_14 ⟨(Nat.zero_le _), (Nat.zero_le _)⟩ ?_
    refine lv_if_ne (tgt := 22) hx hb dX6_takesDrawing_17 (by decide) (fun c_8 => ?_) (fun c_8 => ?_)
    · have hf := ite_f c_8 hf
      refine lv_aload_n hx hb dX6_takesDrawing_22 rfl (lv_at hl 0 rfl) ?_
      refine va_get (D := E.1) (ci := 6) (v := .ref dr0) (C := RX6) (T := TX6) (N := 2) hx hb hts in_X6_takesDrawing_X6 hown hK hP 0 rfl rfl 0 (by decide) q_2 (fun _ h9 => h9) rfl dX6_takesDrawing_23 ?_
      refine lv_iload_n hx hb dX6_takesDrawing_26 rfl (lv_at hl 1 rfl) ?_
      refine lv_iload_n hx hb dX6_takesDrawing_27 rfl (lv_at hl 2 rfl) ?_
      obtain ⟨⟨dr_mostDrawn_6, dr_ofTen_7⟩, h_5, hf⟩ := bd_s hf
      try dsimp only at hf
      refine ca_Mv (w2 := (w_Re E rd0 rd1 dr0 dr1 dr2 dr3 dr4 rd_numbers dr_places dr_links dr_mostDrawn_6 dr_ofTen_7 dr_z dr_lengths dr_told dr_delays dr_fractions)) (As := [.int a1, .int a2]) (rest := []) ⟨hx, hb, hml, hown, hts⟩ ⟨hK, hN⟩ hP hD hS hA (c_Pl_setDrawing l E dr0 dr1 dr2 dr3 dr4 H.size dr_places dr_links dr_mostDrawn dr_ofTen dr_z dr_lengths dr_told dr_delays dr_fractions a1 a2 (dr_mostDrawn_6, dr_ofTen_7) h_5) [2, 3, 4, 5, 6] [0, 1] [0, 1, 2, 3, 4, 5, 6] rfl rfl rfl rfl (by decide) rfl rfl 5 2 rfl rfl rfl gX6_takesDrawing_X5_setDrawing rfl rfl rfl rfl hd_Pl_setDrawing ⟨(Nat.le_of_ble_eq_true rfl), (Nat.le_of_ble_eq_true rfl)⟩ rfl hl.1 rfl (Nat.le_of_ble_eq_true rfl) dX6_takesDrawing_28 ⟨(Nat.zero_le _), (Nat.zero_le _)⟩ (fun H locs hP hD hS => ?_)
      refine lv_iconst (v := 1) hx hb dX6_takesDrawing_31 (by decide) ?_
      exact hret H locs ls 32 1 (dr_mostDrawn_6, dr_ofTen_7) dX6_takesDrawing_32 (by decide) (Option.some.inj hf) hP hD hS
    · have hf := ite_t c_8 hf
      refine lv_iconst (v := 0) hx hb dX6_takesDrawing_20 (by decide) ?_
      exact hret H locs ls 21 0 (dr_mostDrawn, dr_ofTen) dX6_takesDrawing_21 (by decide) (Option.some.inj hf) hP hD hS
abbrev rm_Rd_takesDelay : Room := { frames := 1, cells := 0, slots := 0, locals := 23 }
theorem hd_Rd_takesDelay : hdOK yX6_takesDelay 3 := by decide +kernel
theorem in_X6_takesDelay_X6 : ∀ w ∈ wsX60, w ∈ wsX6_takesDelay := by decide +kernel
set_option maxRecDepth 100000 in
set_option maxHeartbeats 4000000 in
theorem c_Rd_takesDelay (l : Launch) (E : En4) (rd0 rd1 dr0 dr1 dr2 dr3 dr4 : Nat) (sz : Nat) (rd_numbers : Nat → Int32) (dr_places : Int32) (dr_links : Int32) (dr_mostDrawn : Int32) (dr_ofTen : Int32) (dr_z : Int32) (dr_lengths : Nat → Int32) (dr_told : Nat → Int32) (dr_delays : Nat → Int32) (dr_fractions : Nat → Int32) (a1 : Int32) (a2 : Int32) (a3 : Int32)  (res : Int32 × (Nat → Int32) × (Nat → Int32) × (Nat → Int32)) (hf : Rd_takesDelay dr_places dr_told dr_delays dr_fractions a1 a2 a3 = some res) : Met l yX6_takesDelay wsX6_takesDelay rm_Rd_takesDelay (pcM [.ref rd0, .int a1, .int a2, .int a3] E sz (w_Re E rd0 rd1 dr0 dr1 dr2 dr3 dr4 rd_numbers dr_places dr_links dr_mostDrawn dr_ofTen dr_z dr_lengths dr_told dr_delays dr_fractions)) (QMi E sz (w_Re E rd0 rd1 dr0 dr1 dr2 dr3 dr4 rd_numbers dr_places dr_links dr_mostDrawn dr_ofTen dr_z dr_lengths dr_told dr_delays dr_fractions) (fun (u : (Nat → Int32) × (Nat → Int32) × (Nat → Int32)) => (w_Re E rd0 rd1 dr0 dr1 dr2 dr3 dr4 rd_numbers dr_places dr_links dr_mostDrawn dr_ofTen dr_z dr_lengths u.1 u.2.1 u.2.2)) res) 0 0 (va_A (w_Re E rd0 rd1 dr0 dr1 dr2 dr3 dr4 rd_numbers dr_places dr_links dr_mostDrawn dr_ofTen dr_z dr_lengths dr_told dr_delays dr_fractions) sz) := by
  refine mk_Mz (cc := cX6_takesDelay) (maxL := 4) (by decide) rfl (Nat.le_of_ble_eq_true rfl) ?_
  intro p e s m args below meth c Q A S hKN hA hret H locs ls hP hD hS hl
  obtain ⟨hx, hb, hml, hown, hts⟩ := S
  obtain ⟨hK, hN⟩ := hKN
  have hl : lv_has ls 4 [(0, .ref rd0), (1, .int a1), (2, .int a2), (3, .int a3)] := hl
  have q_0 := hts (.fieldLink RX6 12 "DelayClusters$Reader" "draft" "LDelayClusters$Plan;") (by decide +kernel)
  have q_1 := hts (.static yX7_isWithin) (by decide +kernel)
  have q_2 := hts (.initialized RX7) (by decide +kernel)
  unfold Rd_takesDelay at hf
  refine lv_aload_n hx hb dX6_takesDelay_0 rfl (lv_at hl 0 rfl) ?_
  refine va_get (D := E.1) (ci := 6) (v := .ref dr0) (C := RX6) (T := TX6) (N := 2) hx hb hts in_X6_takesDelay_X6 hown hK hP 0 rfl rfl 0 (by decide) q_0 (fun _ h9 => h9) rfl dX6_takesDelay_1 ?_
  refine lv_iload_n hx hb dX6_takesDelay_4 rfl (lv_at hl 1 rfl) ?_
  obtain ⟨r_2, h_1, hf⟩ := bd_s hf
  refine ca_V (As := [.int a1]) (rest := []) ⟨hx, hb, hml, hown, hts⟩ ⟨hK, hN⟩ hP (c_Pl_isPlace l E dr0 dr1 dr2 dr3 dr4 dr_places dr_links dr_mostDrawn dr_ofTen dr_z dr_lengths dr_told dr_delays dr_fractions a1 r_2 h_1) [2, 3, 4, 5, 6] rfl 5 2 rfl rfl rfl gX6_takesDelay_X5_isPlace rfl rfl rfl rfl hd_Pl_isPlace ⟨(Nat.le_of_ble_eq_true rfl), (Nat.le_of_ble_eq_true rfl)⟩ rfl hl.1 rfl (Nat.le_of_ble_eq_true rfl) dX6_takesDelay_5 ⟨(Nat.zero_le _), (Nat.zero_le _)⟩ ?_
  refine lv_if_eq (tgt := 32) hx hb dX6_takesDelay_8 (by decide) (fun c_13 => ?_) (fun c_13 => ?_)
  · have hf := ite_t c_13 hf
    refine lv_iconst (v := 0) hx hb dX6_takesDelay_32 (by decide) ?_
    exact hret H locs ls 33 0 (dr_told, dr_delays, dr_fractions) dX6_takesDelay_33 (by decide) (Option.some.inj hf) hP hD hS
  · have hf := ite_f c_13 hf
    refine lv_iload_n hx hb dX6_takesDelay_11 rfl (lv_at hl 2 rfl) ?_
    refine lv_iconst (v := 0) hx hb dX6_takesDelay_12 (by decide) ?_
    refine lv_bipush (v := 30) hx hb dX6_takesDelay_13 (by decide) ?_
    obtain ⟨r_4, h_3, hf⟩ := bd_s hf
    refine ca_N (host := RX7) (As := [.int a2, .int 0, .int 30]) (rest := []) ⟨hx, hb, hml, hown, hts⟩ ⟨hK, hN⟩ hP (c_Dc_isWithin l E   a2 0 30 r_4 h_3) [] rfl (by decide +kernel) gX6_takesDelay_X7_isWithin_n50 rfl rfl rfl q_1 q_2 hd_Dc_isWithin ⟨(Nat.le_of_ble_eq_true rfl), (Nat.le_of_ble_eq_true rfl)⟩ rfl hl.1 rfl (Nat.le_of_ble_eq_true rfl) dX6_takesDelay_15 ⟨(Nat.zero_le _), (Nat.zero_le _)⟩ ?_
    refine lv_if_eq (tgt := 32) hx hb dX6_takesDelay_18 (by decide) (fun c_12 => ?_) (fun c_12 => ?_)
    · have hf := ite_t c_12 hf
      refine lv_iconst (v := 0) hx hb dX6_takesDelay_32 (by decide) ?_
      exact hret H locs ls 33 0 (dr_told, dr_delays, dr_fractions) dX6_takesDelay_33 (by decide) (Option.some.inj hf) hP hD hS
    · have hf := ite_f c_12 hf
      refine lv_iload_n hx hb dX6_takesDelay_21 rfl (lv_at hl 3 rfl) ?_
      refine lv_iconst (v := 0) hx hb dX6_takesDelay_22 (by decide) ?_
      refine lv_sipush (v := 999) hx hb dX6_takesDelay_23 (by decide) ?_
      obtain ⟨r_6, h_5, hf⟩ := bd_s hf
      refine ca_N (host := RX7) (As := [.int a3, .int 0, .int 999]) (rest := []) ⟨hx, hb, hml, hown, hts⟩ ⟨hK, hN⟩ hP (c_Dc_isWithin l E   a3 0 999 r_6 h_5) [] rfl (by decide +kernel) gX6_takesDelay_X7_isWithin_n50 rfl rfl rfl q_1 q_2 hd_Dc_isWithin ⟨(Nat.le_of_ble_eq_true rfl), (Nat.le_of_ble_eq_true rfl)⟩ rfl hl.1 rfl (Nat.le_of_ble_eq_true rfl) dX6_takesDelay_26 ⟨(Nat.zero_le _), (Nat.zero_le _)⟩ ?_
      refine lv_if_ne (tgt := 34) hx hb dX6_takesDelay_29 (by decide) (fun c_11 => ?_) (fun c_11 => ?_)
      · have hf := ite_f c_11 hf
        refine lv_aload_n hx hb dX6_takesDelay_34 rfl (lv_at hl 0 rfl) ?_
        refine va_get (D := E.1) (ci := 6) (v := .ref dr0) (C := RX6) (T := TX6) (N := 2) hx hb hts in_X6_takesDelay_X6 hown hK hP 0 rfl rfl 0 (by decide) q_0 (fun _ h9 => h9) rfl dX6_takesDelay_35 ?_
        refine lv_iload_n hx hb dX6_takesDelay_38 rfl (lv_at hl 1 rfl) ?_
        refine lv_iload_n hx hb dX6_takesDelay_39 rfl (lv_at hl 2 rfl) ?_
        refine lv_iload_n hx hb dX6_takesDelay_40 rfl (lv_at hl 3 rfl) ?_
        obtain ⟨⟨dr_told_8, dr_delays_9, dr_fractions_10⟩, h_7, hf⟩ := bd_s hf
        try dsimp only at hf
        refine ca_Mv (w2 := (w_Re E rd0 rd1 dr0 dr1 dr2 dr3 dr4 rd_numbers dr_places dr_links dr_mostDrawn dr_ofTen dr_z dr_lengths dr_told_8 dr_delays_9 dr_fractions_10)) (As := [.int a1, .int a2, .int a3]) (rest := []) ⟨hx, hb, hml, hown, hts⟩ ⟨hK, hN⟩ hP hD hS hA (c_Pl_tell l E dr0 dr1 dr2 dr3 dr4 H.size dr_places dr_links dr_mostDrawn dr_ofTen dr_z dr_lengths dr_told dr_delays dr_fractions a1 a2 a3 (dr_told_8, dr_delays_9, dr_fractions_10) h_7) [2, 3, 4, 5, 6] [0, 1] [0, 1, 2, 3, 4, 5, 6] rfl rfl rfl rfl (by decide) rfl rfl 5 2 rfl rfl rfl gX6_takesDelay_X5_tell rfl rfl rfl rfl hd_Pl_tell ⟨(Nat.le_of_ble_eq_true rfl), (Nat.le_of_ble_eq_true rfl)⟩ rfl hl.1 rfl (Nat.le_of_ble_eq_true rfl) dX6_takesDelay_41 ⟨(Nat.zero_le _), (Nat.zero_le _)⟩ (fun H locs hP hD hS => ?_)
        refine lv_iconst (v := 1) hx hb dX6_takesDelay_44 (by decide) ?_
        exact hret H locs ls 45 1 (dr_told_8, dr_delays_9, dr_fractions_10) dX6_takesDelay_45 (by decide) (Option.some.inj hf) hP hD hS
      · have hf := ite_t c_11 hf
        refine lv_iconst (v := 0) hx hb dX6_takesDelay_32 (by decide) ?_
        exact hret H locs ls 33 0 (dr_told, dr_delays, dr_fractions) dX6_takesDelay_33 (by decide) (Option.some.inj hf) hP hD hS
abbrev rm_Rd_takesLink : Room := { frames := 2, cells := 0, slots := 0, locals := 45 }
theorem hd_Rd_takesLink : hdOK yX6_takesLink 3 := by decide +kernel
theorem in_X6_takesLink_X6 : ∀ w ∈ wsX60, w ∈ wsX6_takesLink := by decide +kernel
set_option maxRecDepth 100000 in
set_option maxHeartbeats 4000000 in
theorem c_Rd_takesLink (l : Launch) (E : En4) (rd0 rd1 dr0 dr1 dr2 dr3 dr4 : Nat) (sz : Nat) (rd_numbers : Nat → Int32) (dr_places : Int32) (dr_links : Int32) (dr_mostDrawn : Int32) (dr_ofTen : Int32) (dr_z : Int32) (dr_lengths : Nat → Int32) (dr_told : Nat → Int32) (dr_delays : Nat → Int32) (dr_fractions : Nat → Int32) (a1 : Int32) (a2 : Int32) (a3 : Int32)  (res : Int32 × Int32 × (Nat → Int32)) (hf : Rd_takesLink dr_places dr_links dr_lengths a1 a2 a3 = some res) : Met l yX6_takesLink wsX6_takesLink rm_Rd_takesLink (pcM [.ref rd0, .int a1, .int a2, .int a3] E sz (w_Re E rd0 rd1 dr0 dr1 dr2 dr3 dr4 rd_numbers dr_places dr_links dr_mostDrawn dr_ofTen dr_z dr_lengths dr_told dr_delays dr_fractions)) (QMi E sz (w_Re E rd0 rd1 dr0 dr1 dr2 dr3 dr4 rd_numbers dr_places dr_links dr_mostDrawn dr_ofTen dr_z dr_lengths dr_told dr_delays dr_fractions) (fun (u : Int32 × (Nat → Int32)) => (w_Re E rd0 rd1 dr0 dr1 dr2 dr3 dr4 rd_numbers dr_places u.1 dr_mostDrawn dr_ofTen dr_z u.2 dr_told dr_delays dr_fractions)) res) 0 0 (va_A (w_Re E rd0 rd1 dr0 dr1 dr2 dr3 dr4 rd_numbers dr_places dr_links dr_mostDrawn dr_ofTen dr_z dr_lengths dr_told dr_delays dr_fractions) sz) := by
  refine mk_Mz (cc := cX6_takesLink) (maxL := 4) (by decide) rfl (Nat.le_of_ble_eq_true rfl) ?_
  intro p e s m args below meth c Q A S hKN hA hret H locs ls hP hD hS hl
  obtain ⟨hx, hb, hml, hown, hts⟩ := S
  obtain ⟨hK, hN⟩ := hKN
  have hl : lv_has ls 4 [(0, .ref rd0), (1, .int a1), (2, .int a2), (3, .int a3)] := hl
  have q_0 := hts (.fieldLink RX6 12 "DelayClusters$Reader" "draft" "LDelayClusters$Plan;") (by decide +kernel)
  have q_1 := hts (.static yX7_isWithin) (by decide +kernel)
  have q_2 := hts (.initialized RX7) (by decide +kernel)
  unfold Rd_takesLink at hf
  refine lv_aload_n hx hb dX6_takesLink_0 rfl (lv_at hl 0 rfl) ?_
  refine va_get (D := E.1) (ci := 6) (v := .ref dr0) (C := RX6) (T := TX6) (N := 2) hx hb hts in_X6_takesLink_X6 hown hK hP 0 rfl rfl 0 (by decide) q_0 (fun _ h9 => h9) rfl dX6_takesLink_1 ?_
  refine lv_iload_n hx hb dX6_takesLink_4 rfl (lv_at hl 1 rfl) ?_
  refine lv_iload_n hx hb dX6_takesLink_5 rfl (lv_at hl 2 rfl) ?_
  obtain ⟨r_2, h_1, hf⟩ := bd_s hf
  refine ca_V (As := [.int a1, .int a2]) (rest := []) ⟨hx, hb, hml, hown, hts⟩ ⟨hK, hN⟩ hP (c_Pl_isPair l E dr0 dr1 dr2 dr3 dr4 dr_places dr_links dr_mostDrawn dr_ofTen dr_z dr_lengths dr_told dr_delays dr_fractions a1 a2 r_2 h_1) [2, 3, 4, 5, 6] rfl 5 2 rfl rfl rfl gX6_takesLink_X5_isPair rfl rfl rfl rfl hd_Pl_isPair ⟨(Nat.le_of_ble_eq_true rfl), (Nat.le_of_ble_eq_true rfl)⟩ rfl hl.1 rfl (Nat.le_of_ble_eq_true rfl) dX6_takesLink_6 ⟨(Nat.zero_le _), (Nat.zero_le _)⟩ ?_
  refine lv_if_eq (tgt := 22) hx hb dX6_takesLink_9 (by decide) (fun c_15 => ?_) (fun c_15 => ?_)
  · have hf := ite_t c_15 hf
    refine lv_iconst (v := 0) hx hb dX6_takesLink_22 (by decide) ?_
    exact hret H locs ls 23 0 (dr_links, dr_lengths) dX6_takesLink_23 (by decide) (Option.some.inj hf) hP hD hS
  · have hf := ite_f c_15 hf
    refine lv_iload_n hx hb dX6_takesLink_12 rfl (lv_at hl 3 rfl) ?_
    refine lv_iconst (v := 1) hx hb dX6_takesLink_13 (by decide) ?_
    refine lv_bipush (v := 9) hx hb dX6_takesLink_14 (by decide) ?_
    obtain ⟨r_4, h_3, hf⟩ := bd_s hf
    refine ca_N (host := RX7) (As := [.int a3, .int 1, .int 9]) (rest := []) ⟨hx, hb, hml, hown, hts⟩ ⟨hK, hN⟩ hP (c_Dc_isWithin l E   a3 1 9 r_4 h_3) [] rfl (by decide +kernel) gX6_takesLink_X7_isWithin_n50 rfl rfl rfl q_1 q_2 hd_Dc_isWithin ⟨(Nat.le_of_ble_eq_true rfl), (Nat.le_of_ble_eq_true rfl)⟩ rfl hl.1 rfl (Nat.le_of_ble_eq_true rfl) dX6_takesLink_16 ⟨(Nat.zero_le _), (Nat.zero_le _)⟩ ?_
    refine lv_if_ne (tgt := 24) hx hb dX6_takesLink_19 (by decide) (fun c_14 => ?_) (fun c_14 => ?_)
    · have hf := ite_f c_14 hf
      refine lv_aload_n hx hb dX6_takesLink_24 rfl (lv_at hl 0 rfl) ?_
      refine va_get (D := E.1) (ci := 6) (v := .ref dr0) (C := RX6) (T := TX6) (N := 2) hx hb hts in_X6_takesLink_X6 hown hK hP 0 rfl rfl 0 (by decide) q_0 (fun _ h9 => h9) rfl dX6_takesLink_25 ?_
      refine lv_iload_n hx hb dX6_takesLink_28 rfl (lv_at hl 1 rfl) ?_
      refine lv_iload_n hx hb dX6_takesLink_29 rfl (lv_at hl 2 rfl) ?_
      obtain ⟨r_6, h_5, hf⟩ := bd_s hf
      refine ca_V (As := [.int a1, .int a2]) (rest := []) ⟨hx, hb, hml, hown, hts⟩ ⟨hK, hN⟩ hP (c_Pl_lengthOf l E dr0 dr1 dr2 dr3 dr4 dr_places dr_links dr_mostDrawn dr_ofTen dr_z dr_lengths dr_told dr_delays dr_fractions a1 a2 r_6 h_5) [2, 3, 4, 5, 6] rfl 5 2 rfl rfl rfl gX6_takesLink_X5_lengthOf rfl rfl rfl rfl hd_Pl_lengthOf ⟨(Nat.le_of_ble_eq_true rfl), (Nat.le_of_ble_eq_true rfl)⟩ rfl hl.1 rfl (Nat.le_of_ble_eq_true rfl) dX6_takesLink_30 ⟨(Nat.zero_le _), (Nat.zero_le _)⟩ ?_
      obtain ⟨j_33, b_33, hf⟩ := bd_s hf
      have KE_33 : ∀ y_, Sum.inr y_ = j_33 → some y_ = some res := by intro y_ e_; subst e_; exact hf
      have KJ_33 : Sum.inl () = j_33 → ∀ (H : Heap) (locs : List Loc) (ls : Array Slot), va_P E.1 vwCl (w_Re E rd0 rd1 dr0 dr1 dr2 dr3 dr4 rd_numbers dr_places dr_links dr_mostDrawn dr_ofTen dr_z dr_lengths dr_told dr_delays dr_fractions) H → va_D A (w_Re E rd0 rd1 dr0 dr1 dr2 dr3 dr4 rd_numbers dr_places dr_links dr_mostDrawn dr_ofTen dr_z dr_lengths dr_told dr_delays dr_fractions) → va_S A s.heap H locs → lv_has ls 4 [(0, .ref rd0), (1, .int a1), (2, .int a2), (3, .int a3)] → W p l e rm_Rd_takesLink s m args below meth c H locs 0 0 Q (F0 m 50 ls []) := by
        intro e_
        subst e_
        try dsimp only at hf
        intro H locs ls hP hD hS hl
        refine lv_aload_n hx hb dX6_takesLink_50 rfl (lv_at hl 0 rfl) ?_
        refine va_get (D := E.1) (ci := 6) (v := .ref dr0) (C := RX6) (T := TX6) (N := 2) hx hb hts in_X6_takesLink_X6 hown hK hP 0 rfl rfl 0 (by decide) q_0 (fun _ h9 => h9) rfl dX6_takesLink_51 ?_
        refine lv_iload_n hx hb dX6_takesLink_54 rfl (lv_at hl 1 rfl) ?_
        refine lv_iload_n hx hb dX6_takesLink_55 rfl (lv_at hl 2 rfl) ?_
        refine lv_iload_n hx hb dX6_takesLink_56 rfl (lv_at hl 3 rfl) ?_
        obtain ⟨⟨dr_links_12, dr_lengths_13⟩, h_11, hf⟩ := bd_s hf
        try dsimp only at hf
        refine ca_Mv (w2 := (w_Re E rd0 rd1 dr0 dr1 dr2 dr3 dr4 rd_numbers dr_places dr_links_12 dr_mostDrawn dr_ofTen dr_z dr_lengths_13 dr_told dr_delays dr_fractions)) (As := [.int a1, .int a2, .int a3]) (rest := []) ⟨hx, hb, hml, hown, hts⟩ ⟨hK, hN⟩ hP hD hS hA (c_Pl_setLength l E dr0 dr1 dr2 dr3 dr4 H.size dr_places dr_links dr_mostDrawn dr_ofTen dr_z dr_lengths dr_told dr_delays dr_fractions a1 a2 a3 (dr_links_12, dr_lengths_13) h_11) [2, 3, 4, 5, 6] [0, 1] [0, 1, 2, 3, 4, 5, 6] rfl rfl rfl rfl (by decide) rfl rfl 5 2 rfl rfl rfl gX6_takesLink_X5_setLength rfl rfl rfl rfl hd_Pl_setLength ⟨(Nat.le_of_ble_eq_true rfl), (Nat.le_of_ble_eq_true rfl)⟩ rfl hl.1 rfl (Nat.le_of_ble_eq_true rfl) dX6_takesLink_57 ⟨(Nat.zero_le _), (Nat.zero_le _)⟩ (fun H locs hP hD hS => ?_)
        refine lv_iconst (v := 1) hx hb dX6_takesLink_60 (by decide) ?_
        exact hret H locs ls 61 1 (dr_links_12, dr_lengths_13) dX6_takesLink_61 (by decide) (Option.some.inj hf) hP hD hS
      have hf := b_33
      refine lv_if_ne (tgt := 50) hx hb dX6_takesLink_33 (by decide) (fun c_10 => ?_) (fun c_10 => ?_)
      · have hf := ite_f c_10 hf
        exact KJ_33 (Option.some.inj hf) H locs _ hP hD hS (lv_sub hl [0, 1, 2, 3] rfl)
      · have hf := ite_t c_10 hf
        refine lv_aload_n hx hb dX6_takesLink_36 rfl (lv_at hl 0 rfl) ?_
        refine va_get (D := E.1) (ci := 6) (v := .ref dr0) (C := RX6) (T := TX6) (N := 2) hx hb hts in_X6_takesLink_X6 hown hK hP 0 rfl rfl 0 (by decide) q_0 (fun _ h9 => h9) rfl dX6_takesLink_37 ?_
        obtain ⟨r_8, h_7, hf⟩ := bd_s hf
        refine ca_V (As := []) (rest := []) ⟨hx, hb, hml, hown, hts⟩ ⟨hK, hN⟩ hP (c_Pl_links l E dr0 dr1 dr2 dr3 dr4 dr_places dr_links dr_mostDrawn dr_ofTen dr_z dr_lengths dr_told dr_delays dr_fractions r_8 h_7) [2, 3, 4, 5, 6] rfl 5 2 rfl rfl rfl gX6_takesLink_X5_links rfl rfl rfl rfl hd_Pl_links ⟨(Nat.le_of_ble_eq_true rfl), (Nat.le_of_ble_eq_true rfl)⟩ rfl hl.1 rfl (Nat.le_of_ble_eq_true rfl) dX6_takesLink_40 ⟨(Nat.zero_le _), (Nat.zero_le _)⟩ ?_
        refine lv_bipush (v := 40) hx hb dX6_takesLink_43 (by decide) ?_
        refine lv_icmp_lt (tgt := 50) hx hb dX6_takesLink_45 (by decide) (fun c_9 => ?_) (fun c_9 => ?_)
        · have hf := ite_t c_9 hf
          exact KJ_33 (Option.some.inj hf) H locs _ hP hD hS (lv_sub hl [0, 1, 2, 3] rfl)
        · have hf := ite_f c_9 hf
          refine lv_iconst (v := 0) hx hb dX6_takesLink_48 (by decide) ?_
          have hf := KE_33 _ (Option.some.inj hf)
          exact hret H locs ls 49 0 (dr_links, dr_lengths) dX6_takesLink_49 (by decide) (Option.some.inj hf) hP hD hS
    · have hf := ite_t c_14 hf
      refine lv_iconst (v := 0) hx hb dX6_takesLink_22 (by decide) ?_
      exact hret H locs ls 23 0 (dr_links, dr_lengths) dX6_takesLink_23 (by decide) (Option.some.inj hf) hP hD hS
abbrev rm_Rd_takesPlaces : Room := { frames := 1, cells := 0, slots := 0, locals := 22 }
theorem hd_Rd_takesPlaces : hdOK yX6_takesPlaces 1 := by decide +kernel
theorem in_X6_takesPlaces_X6 : ∀ w ∈ wsX60, w ∈ wsX6_takesPlaces := by decide +kernel
set_option maxRecDepth 100000 in
set_option maxHeartbeats 4000000 in
theorem c_Rd_takesPlaces (l : Launch) (E : En4) (rd0 rd1 dr0 dr1 dr2 dr3 dr4 : Nat) (sz : Nat) (rd_numbers : Nat → Int32) (dr_places : Int32) (dr_links : Int32) (dr_mostDrawn : Int32) (dr_ofTen : Int32) (dr_z : Int32) (dr_lengths : Nat → Int32) (dr_told : Nat → Int32) (dr_delays : Nat → Int32) (dr_fractions : Nat → Int32) (a1 : Int32)  (res : Int32 × Int32) (hf : Rd_takesPlaces dr_places a1 = some res) : Met l yX6_takesPlaces wsX6_takesPlaces rm_Rd_takesPlaces (pcM [.ref rd0, .int a1] E sz (w_Re E rd0 rd1 dr0 dr1 dr2 dr3 dr4 rd_numbers dr_places dr_links dr_mostDrawn dr_ofTen dr_z dr_lengths dr_told dr_delays dr_fractions)) (QMi E sz (w_Re E rd0 rd1 dr0 dr1 dr2 dr3 dr4 rd_numbers dr_places dr_links dr_mostDrawn dr_ofTen dr_z dr_lengths dr_told dr_delays dr_fractions) (fun (u : Int32) => (w_Re E rd0 rd1 dr0 dr1 dr2 dr3 dr4 rd_numbers u dr_links dr_mostDrawn dr_ofTen dr_z dr_lengths dr_told dr_delays dr_fractions)) res) 0 0 (va_A (w_Re E rd0 rd1 dr0 dr1 dr2 dr3 dr4 rd_numbers dr_places dr_links dr_mostDrawn dr_ofTen dr_z dr_lengths dr_told dr_delays dr_fractions) sz) := by
  refine mk_Mz (cc := cX6_takesPlaces) (maxL := 2) (by decide) rfl (Nat.le_of_ble_eq_true rfl) ?_
  intro p e s m args below meth c Q A S hKN hA hret H locs ls hP hD hS hl
  obtain ⟨hx, hb, hml, hown, hts⟩ := S
  obtain ⟨hK, hN⟩ := hKN
  have hl : lv_has ls 2 [(0, .ref rd0), (1, .int a1)] := hl
  have q_0 := hts (.static yX7_isWithin) (by decide +kernel)
  have q_1 := hts (.initialized RX7) (by decide +kernel)
  have q_2 := hts (.fieldLink RX6 12 "DelayClusters$Reader" "draft" "LDelayClusters$Plan;") (by decide +kernel)
  unfold Rd_takesPlaces at hf
  refine lv_iload_n hx hb dX6_takesPlaces_0 rfl (lv_at hl 1 rfl) ?_
  refine lv_iconst (v := 1) hx hb dX6_takesPlaces_1 (by decide) ?_
  refine lv_bipush (v := 16) hx hb dX6_takesPlaces_2 (by decide) ?_
  obtain ⟨r_2, h_1, hf⟩ := bd_s hf
  refine ca_N (host := RX7) (As := [.int a1, .int 1, .int 16]) (rest := []) ⟨hx, hb, hml, hown, hts⟩ ⟨hK, hN⟩ hP (c_Dc_isWithin l E   a1 1 16 r_2 h_1) [] rfl (by decide +kernel) gX6_takesPlaces_X7_isWithin_n50 rfl rfl rfl q_0 q_1 hd_Dc_isWithin ⟨(Nat.le_of_ble_eq_true rfl), (Nat.le_of_ble_eq_true rfl)⟩ rfl hl.1 rfl (Nat.le_of_ble_eq_true rfl) dX6_takesPlaces_4 ⟨(Nat.zero_le _), (Nat.zero_le _)⟩ ?_
  refine lv_if_ne (tgt := 12) hx hb dX6_takesPlaces_7 (by decide) (fun c_5 => ?_) (fun c_5 => ?_)
  · have hf := ite_f c_5 hf
    refine lv_aload_n hx hb dX6_takesPlaces_12 rfl (lv_at hl 0 rfl) ?_
    refine va_get (D := E.1) (ci := 6) (v := .ref dr0) (C := RX6) (T := TX6) (N := 2) hx hb hts in_X6_takesPlaces_X6 hown hK hP 0 rfl rfl 0 (by decide) q_2 (fun _ h9 => h9) rfl dX6_takesPlaces_13 ?_
    refine lv_iload_n hx hb dX6_takesPlaces_16 rfl (lv_at hl 1 rfl) ?_
    obtain ⟨dr_places_4, h_3, hf⟩ := bd_s hf
    try dsimp only at hf
    refine ca_Mv (w2 := (w_Re E rd0 rd1 dr0 dr1 dr2 dr3 dr4 rd_numbers dr_places_4 dr_links dr_mostDrawn dr_ofTen dr_z dr_lengths dr_told dr_delays dr_fractions)) (As := [.int a1]) (rest := []) ⟨hx, hb, hml, hown, hts⟩ ⟨hK, hN⟩ hP hD hS hA (c_Pl_setPlaces l E dr0 dr1 dr2 dr3 dr4 H.size dr_places dr_links dr_mostDrawn dr_ofTen dr_z dr_lengths dr_told dr_delays dr_fractions a1 dr_places_4 h_3) [2, 3, 4, 5, 6] [0, 1] [0, 1, 2, 3, 4, 5, 6] rfl rfl rfl rfl (by decide) rfl rfl 5 2 rfl rfl rfl gX6_takesPlaces_X5_setPlaces rfl rfl rfl rfl hd_Pl_setPlaces ⟨(Nat.le_of_ble_eq_true rfl), (Nat.le_of_ble_eq_true rfl)⟩ rfl hl.1 rfl (Nat.le_of_ble_eq_true rfl) dX6_takesPlaces_17 ⟨(Nat.zero_le _), (Nat.zero_le _)⟩ (fun H locs hP hD hS => ?_)
    refine lv_iconst (v := 1) hx hb dX6_takesPlaces_20 (by decide) ?_
    exact hret H locs ls 21 1 dr_places_4 dX6_takesPlaces_21 (by decide) (Option.some.inj hf) hP hD hS
  · have hf := ite_t c_5 hf
    refine lv_iconst (v := 0) hx hb dX6_takesPlaces_10 (by decide) ?_
    exact hret H locs ls 11 0 dr_places dX6_takesPlaces_11 (by decide) (Option.some.inj hf) hP hD hS
abbrev rm_Rd_takesItem : Room := { frames := 3, cells := 0, slots := 0, locals := 68 }
theorem hd_Rd_takesItem : hdOK yX6_takesItem 1 := by decide +kernel
theorem in_X6_takesItem_X6 : ∀ w ∈ wsX60, w ∈ wsX6_takesItem := by decide +kernel
set_option maxRecDepth 100000 in
set_option maxHeartbeats 4000000 in
theorem c_Rd_takesItem (l : Launch) (E : En4) (rd0 rd1 dr0 dr1 dr2 dr3 dr4 : Nat) (sz : Nat) (rd_numbers : Nat → Int32) (dr_places : Int32) (dr_links : Int32) (dr_mostDrawn : Int32) (dr_ofTen : Int32) (dr_z : Int32) (dr_lengths : Nat → Int32) (dr_told : Nat → Int32) (dr_delays : Nat → Int32) (dr_fractions : Nat → Int32) (a1 : Int32)  (res : Int32 × Int32 × Int32 × Int32 × Int32 × Int32 × (Nat → Int32) × (Nat → Int32) × (Nat → Int32) × (Nat → Int32)) (hf : Rd_takesItem rd_numbers dr_places dr_links dr_mostDrawn dr_ofTen dr_z dr_lengths dr_told dr_delays dr_fractions a1 = some res) : Met l yX6_takesItem wsX6_takesItem rm_Rd_takesItem (pcM [.ref rd0, .int a1] E sz (w_Re E rd0 rd1 dr0 dr1 dr2 dr3 dr4 rd_numbers dr_places dr_links dr_mostDrawn dr_ofTen dr_z dr_lengths dr_told dr_delays dr_fractions)) (QMi E sz (w_Re E rd0 rd1 dr0 dr1 dr2 dr3 dr4 rd_numbers dr_places dr_links dr_mostDrawn dr_ofTen dr_z dr_lengths dr_told dr_delays dr_fractions) (fun (u : Int32 × Int32 × Int32 × Int32 × Int32 × (Nat → Int32) × (Nat → Int32) × (Nat → Int32) × (Nat → Int32)) => (w_Re E rd0 rd1 dr0 dr1 dr2 dr3 dr4 rd_numbers u.1 u.2.1 u.2.2.1 u.2.2.2.1 u.2.2.2.2.1 u.2.2.2.2.2.1 u.2.2.2.2.2.2.1 u.2.2.2.2.2.2.2.1 u.2.2.2.2.2.2.2.2)) res) 0 0 (va_A (w_Re E rd0 rd1 dr0 dr1 dr2 dr3 dr4 rd_numbers dr_places dr_links dr_mostDrawn dr_ofTen dr_z dr_lengths dr_told dr_delays dr_fractions) sz) := by
  refine mk_Mz (cc := cX6_takesItem) (maxL := 2) (by decide) rfl (Nat.le_of_ble_eq_true rfl) ?_
  intro p e s m args below meth c Q A S hKN hA hret H locs ls hP hD hS hl
  obtain ⟨hx, hb, hml, hown, hts⟩ := S
  obtain ⟨hK, hN⟩ := hKN
  have hl : lv_has ls 2 [(0, .ref rd0), (1, .int a1)] := hl
  have q_0 := hts (.fieldLink RX6 12 "DelayClusters$Reader" "draft" "LDelayClusters$Plan;") (by decide +kernel)
  have q_1 := hts (.fieldLink RX6 18 "DelayClusters$Reader" "numbers" "[I") (by decide +kernel)
  unfold Rd_takesItem at hf
  refine lv_iload_n hx hb dX6_takesItem_0 rfl (lv_at hl 1 rfl) ?_
  refine lv_bipush (v := 110) hx hb dX6_takesItem_1 (by decide) ?_
  obtain ⟨j_3, b_3, hf⟩ := bd_s hf
  have KJ_3 : ∀ (t_2 : Int32), t_2 = j_3 → ∀ (H : Heap) (locs : List Loc) (ls : Array Slot), va_P E.1 vwCl (w_Re E rd0 rd1 dr0 dr1 dr2 dr3 dr4 rd_numbers dr_places dr_links dr_mostDrawn dr_ofTen dr_z dr_lengths dr_told dr_delays dr_fractions) H → va_D A (w_Re E rd0 rd1 dr0 dr1 dr2 dr3 dr4 rd_numbers dr_places dr_links dr_mostDrawn dr_ofTen dr_z dr_lengths dr_told dr_delays dr_fractions) → va_S A s.heap H locs → lv_has ls 2 [(0, .ref rd0), (1, .int a1)] → W p l e rm_Rd_takesItem s m args below meth c H locs 0 0 Q (F0 m 11 ls [.int t_2]) := by
    intro t_2 e_
    subst e_
    try dsimp only at hf
    intro H locs ls hP hD hS hl
    refine lv_aload_n hx hb dX6_takesItem_11 rfl (lv_at hl 0 rfl) ?_
    refine va_get (D := E.1) (ci := 6) (v := .ref dr0) (C := RX6) (T := TX6) (N := 2) hx hb hts in_X6_takesItem_X6 hown hK hP 0 rfl rfl 0 (by decide) q_0 (fun _ h9 => h9) rfl dX6_takesItem_12 ?_
    obtain ⟨r_4, h_3, hf⟩ := bd_s hf
    refine ca_V (As := []) (rest := [.int t_2]) ⟨hx, hb, hml, hown, hts⟩ ⟨hK, hN⟩ hP (c_Pl_places l E dr0 dr1 dr2 dr3 dr4 dr_places dr_links dr_mostDrawn dr_ofTen dr_z dr_lengths dr_told dr_delays dr_fractions r_4 h_3) [2, 3, 4, 5, 6] rfl 5 2 rfl rfl rfl gX6_takesItem_X5_places rfl rfl rfl rfl hd_Pl_places ⟨(Nat.le_of_ble_eq_true rfl), (Nat.le_of_ble_eq_true rfl)⟩ rfl hl.1 rfl (Nat.le_of_ble_eq_true rfl) dX6_takesItem_15 ⟨(Nat.zero_le _), (Nat.zero_le _)⟩ ?_
    obtain ⟨j_18, b_18, hf⟩ := bd_s hf
    have KJ_18 : ∀ (t_6 : Int32), t_6 = j_18 → ∀ (H : Heap) (locs : List Loc) (ls : Array Slot), va_P E.1 vwCl (w_Re E rd0 rd1 dr0 dr1 dr2 dr3 dr4 rd_numbers dr_places dr_links dr_mostDrawn dr_ofTen dr_z dr_lengths dr_told dr_delays dr_fractions) H → va_D A (w_Re E rd0 rd1 dr0 dr1 dr2 dr3 dr4 rd_numbers dr_places dr_links dr_mostDrawn dr_ofTen dr_z dr_lengths dr_told dr_delays dr_fractions) → va_S A s.heap H locs → lv_has ls 2 [(0, .ref rd0), (1, .int a1)] → W p l e rm_Rd_takesItem s m args below meth c H locs 0 0 Q (F0 m 26 ls [.int t_6, .int t_2]) := by
      intro t_6 e_
      subst e_
      try dsimp only at hf
      intro H locs ls hP hD hS hl
      refine lv_icmp_eq (tgt := 31) hx hb dX6_takesItem_26 (by decide) (fun c_36 => ?_) (fun c_36 => ?_)
      · have hf := ite_t c_36 hf
        refine lv_iload_n hx hb dX6_takesItem_31 rfl (lv_at hl 1 rfl) ?_
        by_cases c_13 : a1 = 100
        · have hf := ite_t c_13 hf
          refine lv_lookup (off := 90) (tgt := 122) hx hb dX6_takesItem_32 (by decide) (by rw [c_13]; rfl) (by decide) ?_
          refine lv_aload_n hx hb dX6_takesItem_122 rfl (lv_at hl 0 rfl) ?_
          refine lv_aload_n hx hb dX6_takesItem_123 rfl (lv_at hl 0 rfl) ?_
          refine va_get (D := E.1) (ci := 6) (v := .ref rd1) (C := RX6) (T := TX6) (N := 2) hx hb hts in_X6_takesItem_X6 hown hK hP 0 rfl rfl 1 (by decide) q_1 (fun _ h9 => h9) rfl dX6_takesItem_124 ?_
          refine lv_iconst (v := 0) hx hb dX6_takesItem_127 (by decide) ?_
          refine va_iald hx hb hK hP 1 0 rfl rfl (ck_in (by decide)) dX6_takesItem_128 ?_
          refine lv_aload_n hx hb dX6_takesItem_129 rfl (lv_at hl 0 rfl) ?_
          refine va_get (D := E.1) (ci := 6) (v := .ref rd1) (C := RX6) (T := TX6) (N := 2) hx hb hts in_X6_takesItem_X6 hown hK hP 0 rfl rfl 1 (by decide) q_1 (fun _ h9 => h9) rfl dX6_takesItem_130 ?_
          refine lv_iconst (v := 1) hx hb dX6_takesItem_133 (by decide) ?_
          refine va_iald hx hb hK hP 1 0 rfl rfl (ck_in (by decide)) dX6_takesItem_134 ?_
          refine lv_aload_n hx hb dX6_takesItem_135 rfl (lv_at hl 0 rfl) ?_
          refine va_get (D := E.1) (ci := 6) (v := .ref rd1) (C := RX6) (T := TX6) (N := 2) hx hb hts in_X6_takesItem_X6 hown hK hP 0 rfl rfl 1 (by decide) q_1 (fun _ h9 => h9) rfl dX6_takesItem_136 ?_
          refine lv_iconst (v := 2) hx hb dX6_takesItem_139 (by decide) ?_
          refine va_iald hx hb hK hP 1 0 rfl rfl (ck_in (by decide)) dX6_takesItem_140 ?_
          obtain ⟨⟨r_8, dr_told_9, dr_delays_10, dr_fractions_11⟩, h_7, hf⟩ := bd_s hf
          try dsimp only at hf
          refine ca_Mi (w2 := (w_Re E rd0 rd1 dr0 dr1 dr2 dr3 dr4 rd_numbers dr_places dr_links dr_mostDrawn dr_ofTen dr_z dr_lengths dr_told_9 dr_delays_10 dr_fractions_11)) (As := [.int (rd_numbers (0 : Int32).toNatClampNeg), .int (rd_numbers (1 : Int32).toNatClampNeg), .int (rd_numbers (2 : Int32).toNatClampNeg)]) (rest := []) ⟨hx, hb, hml, hown, hts⟩ ⟨hK, hN⟩ hP hD hS hA (c_Rd_takesDelay l E rd0 rd1 dr0 dr1 dr2 dr3 dr4 H.size rd_numbers dr_places dr_links dr_mostDrawn dr_ofTen dr_z dr_lengths dr_told dr_delays dr_fractions (rd_numbers (0 : Int32).toNatClampNeg) (rd_numbers (1 : Int32).toNatClampNeg) (rd_numbers (2 : Int32).toNatClampNeg) (r_8, dr_told_9, dr_delays_10, dr_fractions_11) h_7) [0, 1, 2, 3, 4, 5, 6] [] [0, 1, 2, 3, 4, 5, 6] rfl rfl rfl rfl (by decide) rfl rfl 6 0 rfl rfl rfl gX6_takesItem_X6_takesDelay rfl rfl rfl rfl hd_Rd_takesDelay ⟨(Nat.le_of_ble_eq_true rfl), (Nat.le_of_ble_eq_true rfl)⟩ rfl hl.1 rfl (Nat.le_of_ble_eq_true rfl) dX6_takesItem_141 ⟨(Nat.zero_le _), (Nat.zero_le _)⟩ (fun H locs hP hD hS => ?_)
          refine lv_goto (tgt := 180) hx hb dX6_takesItem_144 (by decide) ?_
          obtain ⟨g_12, hf⟩ := gb_s hf
          exact hret H locs ls 180 r_8 (dr_places, dr_links, dr_mostDrawn, dr_ofTen, dr_z, dr_lengths, dr_told_9, dr_delays_10, dr_fractions_11) dX6_takesItem_180 g_12 (Option.some.inj hf) hP hD hS
        · have hf := ite_f c_13 hf
          by_cases c_19 : a1 = 108
          · have hf := ite_t c_19 hf
            refine lv_lookup (off := 65) (tgt := 97) hx hb dX6_takesItem_32 (by decide) (by rw [c_19]; rfl) (by decide) ?_
            refine lv_aload_n hx hb dX6_takesItem_97 rfl (lv_at hl 0 rfl) ?_
            refine lv_aload_n hx hb dX6_takesItem_98 rfl (lv_at hl 0 rfl) ?_
            refine va_get (D := E.1) (ci := 6) (v := .ref rd1) (C := RX6) (T := TX6) (N := 2) hx hb hts in_X6_takesItem_X6 hown hK hP 0 rfl rfl 1 (by decide) q_1 (fun _ h9 => h9) rfl dX6_takesItem_99 ?_
            refine lv_iconst (v := 0) hx hb dX6_takesItem_102 (by decide) ?_
            refine va_iald hx hb hK hP 1 0 rfl rfl (ck_in (by decide)) dX6_takesItem_103 ?_
            refine lv_aload_n hx hb dX6_takesItem_104 rfl (lv_at hl 0 rfl) ?_
            refine va_get (D := E.1) (ci := 6) (v := .ref rd1) (C := RX6) (T := TX6) (N := 2) hx hb hts in_X6_takesItem_X6 hown hK hP 0 rfl rfl 1 (by decide) q_1 (fun _ h9 => h9) rfl dX6_takesItem_105 ?_
            refine lv_iconst (v := 1) hx hb dX6_takesItem_108 (by decide) ?_
            refine va_iald hx hb hK hP 1 0 rfl rfl (ck_in (by decide)) dX6_takesItem_109 ?_
            refine lv_aload_n hx hb dX6_takesItem_110 rfl (lv_at hl 0 rfl) ?_
            refine va_get (D := E.1) (ci := 6) (v := .ref rd1) (C := RX6) (T := TX6) (N := 2) hx hb hts in_X6_takesItem_X6 hown hK hP 0 rfl rfl 1 (by decide) q_1 (fun _ h9 => h9) rfl dX6_takesItem_111 ?_
            refine lv_iconst (v := 2) hx hb dX6_takesItem_114 (by decide) ?_
            refine va_iald hx hb hK hP 1 0 rfl rfl (ck_in (by decide)) dX6_takesItem_115 ?_
            obtain ⟨⟨r_15, dr_links_16, dr_lengths_17⟩, h_14, hf⟩ := bd_s hf
            try dsimp only at hf
            refine ca_Mi (w2 := (w_Re E rd0 rd1 dr0 dr1 dr2 dr3 dr4 rd_numbers dr_places dr_links_16 dr_mostDrawn dr_ofTen dr_z dr_lengths_17 dr_told dr_delays dr_fractions)) (As := [.int (rd_numbers (0 : Int32).toNatClampNeg), .int (rd_numbers (1 : Int32).toNatClampNeg), .int (rd_numbers (2 : Int32).toNatClampNeg)]) (rest := []) ⟨hx, hb, hml, hown, hts⟩ ⟨hK, hN⟩ hP hD hS hA (c_Rd_takesLink l E rd0 rd1 dr0 dr1 dr2 dr3 dr4 H.size rd_numbers dr_places dr_links dr_mostDrawn dr_ofTen dr_z dr_lengths dr_told dr_delays dr_fractions (rd_numbers (0 : Int32).toNatClampNeg) (rd_numbers (1 : Int32).toNatClampNeg) (rd_numbers (2 : Int32).toNatClampNeg) (r_15, dr_links_16, dr_lengths_17) h_14) [0, 1, 2, 3, 4, 5, 6] [] [0, 1, 2, 3, 4, 5, 6] rfl rfl rfl rfl (by decide) rfl rfl 6 0 rfl rfl rfl gX6_takesItem_X6_takesLink rfl rfl rfl rfl hd_Rd_takesLink ⟨(Nat.le_of_ble_eq_true rfl), (Nat.le_of_ble_eq_true rfl)⟩ rfl hl.1 rfl (Nat.le_of_ble_eq_true rfl) dX6_takesItem_116 ⟨(Nat.zero_le _), (Nat.zero_le _)⟩ (fun H locs hP hD hS => ?_)
            refine lv_goto (tgt := 180) hx hb dX6_takesItem_119 (by decide) ?_
            obtain ⟨g_18, hf⟩ := gb_s hf
            exact hret H locs ls 180 r_15 (dr_places, dr_links_16, dr_mostDrawn, dr_ofTen, dr_z, dr_lengths_17, dr_told, dr_delays, dr_fractions) dX6_takesItem_180 g_18 (Option.some.inj hf) hP hD hS
          · have hf := ite_f c_19 hf
            by_cases c_25 : a1 = 109
            · have hf := ite_t c_25 hf
              refine lv_lookup (off := 115) (tgt := 147) hx hb dX6_takesItem_32 (by decide) (by rw [c_25]; rfl) (by decide) ?_
              refine lv_aload_n hx hb dX6_takesItem_147 rfl (lv_at hl 0 rfl) ?_
              refine lv_aload_n hx hb dX6_takesItem_148 rfl (lv_at hl 0 rfl) ?_
              refine va_get (D := E.1) (ci := 6) (v := .ref rd1) (C := RX6) (T := TX6) (N := 2) hx hb hts in_X6_takesItem_X6 hown hK hP 0 rfl rfl 1 (by decide) q_1 (fun _ h9 => h9) rfl dX6_takesItem_149 ?_
              refine lv_iconst (v := 0) hx hb dX6_takesItem_152 (by decide) ?_
              refine va_iald hx hb hK hP 1 0 rfl rfl (ck_in (by decide)) dX6_takesItem_153 ?_
              refine lv_aload_n hx hb dX6_takesItem_154 rfl (lv_at hl 0 rfl) ?_
              refine va_get (D := E.1) (ci := 6) (v := .ref rd1) (C := RX6) (T := TX6) (N := 2) hx hb hts in_X6_takesItem_X6 hown hK hP 0 rfl rfl 1 (by decide) q_1 (fun _ h9 => h9) rfl dX6_takesItem_155 ?_
              refine lv_iconst (v := 1) hx hb dX6_takesItem_158 (by decide) ?_
              refine va_iald hx hb hK hP 1 0 rfl rfl (ck_in (by decide)) dX6_takesItem_159 ?_
              obtain ⟨⟨r_21, dr_mostDrawn_22, dr_ofTen_23⟩, h_20, hf⟩ := bd_s hf
              try dsimp only at hf
              refine ca_Mi (w2 := (w_Re E rd0 rd1 dr0 dr1 dr2 dr3 dr4 rd_numbers dr_places dr_links dr_mostDrawn_22 dr_ofTen_23 dr_z dr_lengths dr_told dr_delays dr_fractions)) (As := [.int (rd_numbers (0 : Int32).toNatClampNeg), .int (rd_numbers (1 : Int32).toNatClampNeg)]) (rest := []) ⟨hx, hb, hml, hown, hts⟩ ⟨hK, hN⟩ hP hD hS hA (c_Rd_takesDrawing l E rd0 rd1 dr0 dr1 dr2 dr3 dr4 H.size rd_numbers dr_places dr_links dr_mostDrawn dr_ofTen dr_z dr_lengths dr_told dr_delays dr_fractions (rd_numbers (0 : Int32).toNatClampNeg) (rd_numbers (1 : Int32).toNatClampNeg) (r_21, dr_mostDrawn_22, dr_ofTen_23) h_20) [0, 1, 2, 3, 4, 5, 6] [] [0, 1, 2, 3, 4, 5, 6] rfl rfl rfl rfl (by decide) rfl rfl 6 0 rfl rfl rfl gX6_takesItem_X6_takesDrawing rfl rfl rfl rfl hd_Rd_takesDrawing ⟨(Nat.le_of_ble_eq_true rfl), (Nat.le_of_ble_eq_true rfl)⟩ rfl hl.1 rfl (Nat.le_of_ble_eq_true rfl) dX6_takesItem_160 ⟨(Nat.zero_le _), (Nat.zero_le _)⟩ (fun H locs hP hD hS => ?_)
              refine lv_goto (tgt := 180) hx hb dX6_takesItem_163 (by decide) ?_
              obtain ⟨g_24, hf⟩ := gb_s hf
              exact hret H locs ls 180 r_21 (dr_places, dr_links, dr_mostDrawn_22, dr_ofTen_23, dr_z, dr_lengths, dr_told, dr_delays, dr_fractions) dX6_takesItem_180 g_24 (Option.some.inj hf) hP hD hS
            · have hf := ite_f c_25 hf
              by_cases c_30 : a1 = 110
              · have hf := ite_t c_30 hf
                refine lv_lookup (off := 52) (tgt := 84) hx hb dX6_takesItem_32 (by decide) (by rw [c_30]; rfl) (by decide) ?_
                refine lv_aload_n hx hb dX6_takesItem_84 rfl (lv_at hl 0 rfl) ?_
                refine lv_aload_n hx hb dX6_takesItem_85 rfl (lv_at hl 0 rfl) ?_
                refine va_get (D := E.1) (ci := 6) (v := .ref rd1) (C := RX6) (T := TX6) (N := 2) hx hb hts in_X6_takesItem_X6 hown hK hP 0 rfl rfl 1 (by decide) q_1 (fun _ h9 => h9) rfl dX6_takesItem_86 ?_
                refine lv_iconst (v := 0) hx hb dX6_takesItem_89 (by decide) ?_
                refine va_iald hx hb hK hP 1 0 rfl rfl (ck_in (by decide)) dX6_takesItem_90 ?_
                obtain ⟨⟨r_27, dr_places_28⟩, h_26, hf⟩ := bd_s hf
                try dsimp only at hf
                refine ca_Mi (w2 := (w_Re E rd0 rd1 dr0 dr1 dr2 dr3 dr4 rd_numbers dr_places_28 dr_links dr_mostDrawn dr_ofTen dr_z dr_lengths dr_told dr_delays dr_fractions)) (As := [.int (rd_numbers (0 : Int32).toNatClampNeg)]) (rest := []) ⟨hx, hb, hml, hown, hts⟩ ⟨hK, hN⟩ hP hD hS hA (c_Rd_takesPlaces l E rd0 rd1 dr0 dr1 dr2 dr3 dr4 H.size rd_numbers dr_places dr_links dr_mostDrawn dr_ofTen dr_z dr_lengths dr_told dr_delays dr_fractions (rd_numbers (0 : Int32).toNatClampNeg) (r_27, dr_places_28) h_26) [0, 1, 2, 3, 4, 5, 6] [] [0, 1, 2, 3, 4, 5, 6] rfl rfl rfl rfl (by decide) rfl rfl 6 0 rfl rfl rfl gX6_takesItem_X6_takesPlaces rfl rfl rfl rfl hd_Rd_takesPlaces ⟨(Nat.le_of_ble_eq_true rfl), (Nat.le_of_ble_eq_true rfl)⟩ rfl hl.1 rfl (Nat.le_of_ble_eq_true rfl) dX6_takesItem_91 ⟨(Nat.zero_le _), (Nat.zero_le _)⟩ (fun H locs hP hD hS => ?_)
                refine lv_goto (tgt := 180) hx hb dX6_takesItem_94 (by decide) ?_
                obtain ⟨g_29, hf⟩ := gb_s hf
                exact hret H locs ls 180 r_27 (dr_places_28, dr_links, dr_mostDrawn, dr_ofTen, dr_z, dr_lengths, dr_told, dr_delays, dr_fractions) dX6_takesItem_180 g_29 (Option.some.inj hf) hP hD hS
              · have hf := ite_f c_30 hf
                by_cases c_35 : a1 = 122
                · have hf := ite_t c_35 hf
                  refine lv_lookup (off := 134) (tgt := 166) hx hb dX6_takesItem_32 (by decide) (by rw [c_35]; rfl) (by decide) ?_
                  refine lv_aload_n hx hb dX6_takesItem_166 rfl (lv_at hl 0 rfl) ?_
                  refine lv_aload_n hx hb dX6_takesItem_167 rfl (lv_at hl 0 rfl) ?_
                  refine va_get (D := E.1) (ci := 6) (v := .ref rd1) (C := RX6) (T := TX6) (N := 2) hx hb hts in_X6_takesItem_X6 hown hK hP 0 rfl rfl 1 (by decide) q_1 (fun _ h9 => h9) rfl dX6_takesItem_168 ?_
                  refine lv_iconst (v := 0) hx hb dX6_takesItem_171 (by decide) ?_
                  refine va_iald hx hb hK hP 1 0 rfl rfl (ck_in (by decide)) dX6_takesItem_172 ?_
                  obtain ⟨⟨r_32, dr_z_33⟩, h_31, hf⟩ := bd_s hf
                  try dsimp only at hf
                  refine ca_Mi (w2 := (w_Re E rd0 rd1 dr0 dr1 dr2 dr3 dr4 rd_numbers dr_places dr_links dr_mostDrawn dr_ofTen dr_z_33 dr_lengths dr_told dr_delays dr_fractions)) (As := [.int (rd_numbers (0 : Int32).toNatClampNeg)]) (rest := []) ⟨hx, hb, hml, hown, hts⟩ ⟨hK, hN⟩ hP hD hS hA (c_Rd_takesZ l E rd0 rd1 dr0 dr1 dr2 dr3 dr4 H.size rd_numbers dr_places dr_links dr_mostDrawn dr_ofTen dr_z dr_lengths dr_told dr_delays dr_fractions (rd_numbers (0 : Int32).toNatClampNeg) (r_32, dr_z_33) h_31) [0, 1, 2, 3, 4, 5, 6] [] [0, 1, 2, 3, 4, 5, 6] rfl rfl rfl rfl (by decide) rfl rfl 6 0 rfl rfl rfl gX6_takesItem_X6_takesZ rfl rfl rfl rfl hd_Rd_takesZ ⟨(Nat.le_of_ble_eq_true rfl), (Nat.le_of_ble_eq_true rfl)⟩ rfl hl.1 rfl (Nat.le_of_ble_eq_true rfl) dX6_takesItem_173 ⟨(Nat.zero_le _), (Nat.zero_le _)⟩ (fun H locs hP hD hS => ?_)
                  refine lv_goto (tgt := 180) hx hb dX6_takesItem_176 (by decide) ?_
                  obtain ⟨g_34, hf⟩ := gb_s hf
                  exact hret H locs ls 180 r_32 (dr_places, dr_links, dr_mostDrawn, dr_ofTen, dr_z_33, dr_lengths, dr_told, dr_delays, dr_fractions) dX6_takesItem_180 g_34 (Option.some.inj hf) hP hD hS
                · have hf := ite_f c_35 hf
                  refine lv_lookup (off := 147) (tgt := 179) hx hb dX6_takesItem_32 (by decide) (by show Op.lookupswitch.offset [(100, 90), (108, 65), (109, 115), (110, 52), (122, 134)] _ _ = _; rw [lv_osw c_13 (by decide), lv_osw c_19 (by decide), lv_osw c_25 (by decide), lv_osw c_30 (by decide), lv_osw c_35 (by decide)]; rfl) (by decide) ?_
                  refine lv_iconst (v := 0) hx hb dX6_takesItem_179 (by decide) ?_
                  exact hret H locs ls 180 0 (dr_places, dr_links, dr_mostDrawn, dr_ofTen, dr_z, dr_lengths, dr_told, dr_delays, dr_fractions) dX6_takesItem_180 (by decide) (Option.some.inj hf) hP hD hS
      · have hf := ite_f c_36 hf
        refine lv_iconst (v := 0) hx hb dX6_takesItem_29 (by decide) ?_
        exact hret H locs ls 30 0 (dr_places, dr_links, dr_mostDrawn, dr_ofTen, dr_z, dr_lengths, dr_told, dr_delays, dr_fractions) dX6_takesItem_30 (by decide) (Option.some.inj hf) hP hD hS
    have hf := b_18
    refine lv_if_ne (tgt := 25) hx hb dX6_takesItem_18 (by decide) (fun c_5 => ?_) (fun c_5 => ?_)
    · have hf := ite_f c_5 hf
      refine lv_iconst (v := 0) hx hb dX6_takesItem_25 (by decide) ?_
      exact KJ_18 0 (Option.some.inj hf) H locs _ hP hD hS (lv_sub hl [0, 1] rfl)
    · have hf := ite_t c_5 hf
      refine lv_iconst (v := 1) hx hb dX6_takesItem_21 (by decide) ?_
      refine lv_goto (tgt := 26) hx hb dX6_takesItem_22 (by decide) ?_
      exact KJ_18 1 (Option.some.inj hf) H locs _ hP hD hS (lv_sub hl [0, 1] rfl)
  have hf := b_3
  refine lv_icmp_ne (tgt := 10) hx hb dX6_takesItem_3 (by decide) (fun c_1 => ?_) (fun c_1 => ?_)
  · have hf := ite_f c_1 hf
    refine lv_iconst (v := 0) hx hb dX6_takesItem_10 (by decide) ?_
    exact KJ_3 0 (Option.some.inj hf) H locs _ hP hD hS (lv_sub hl [0, 1] rfl)
  · have hf := ite_t c_1 hf
    refine lv_iconst (v := 1) hx hb dX6_takesItem_6 (by decide) ?_
    refine lv_goto (tgt := 11) hx hb dX6_takesItem_7 (by decide) ?_
    exact KJ_3 1 (Option.some.inj hf) H locs _ hP hD hS (lv_sub hl [0, 1] rfl)
abbrev rm_Rd_firstFault : Room := { frames := 4, cells := 0, slots := 0, locals := 93 }
theorem hd_Rd_firstFault : hdOK yX6_firstFault 1 := by decide +kernel
theorem in_X6_firstFault_X6 : ∀ w ∈ wsX60, w ∈ wsX6_firstFault := by decide +kernel
set_option maxRecDepth 100000 in
set_option maxHeartbeats 4000000 in
theorem c_Rd_firstFault (l : Launch) (E : En4) (rd0 rd1 dr0 dr1 dr2 dr3 dr4 le0 le1 : Nat) (sz : Nat) (rd_numbers : Nat → Int32) (dr_places : Int32) (dr_links : Int32) (dr_mostDrawn : Int32) (dr_ofTen : Int32) (dr_z : Int32) (dr_lengths : Nat → Int32) (dr_told : Nat → Int32) (dr_delays : Nat → Int32) (dr_fractions : Nat → Int32) (le_length : Int32) (le_signs : Nat → Int32)  (res : Int32 × (Nat → Int32) × Int32 × Int32 × Int32 × Int32 × Int32 × (Nat → Int32) × (Nat → Int32) × (Nat → Int32) × (Nat → Int32)) (hf : Rd_firstFault rd_numbers dr_places dr_links dr_mostDrawn dr_ofTen dr_z dr_lengths dr_told dr_delays dr_fractions le_length le_signs = some res) : Met l yX6_firstFault wsX6_firstFault rm_Rd_firstFault (pcM [.ref rd0, .ref le0] E sz (w_Rd E rd0 rd1 dr0 dr1 dr2 dr3 dr4 le0 le1 rd_numbers dr_places dr_links dr_mostDrawn dr_ofTen dr_z dr_lengths dr_told dr_delays dr_fractions le_length le_signs)) (QMi E sz (w_Rd E rd0 rd1 dr0 dr1 dr2 dr3 dr4 le0 le1 rd_numbers dr_places dr_links dr_mostDrawn dr_ofTen dr_z dr_lengths dr_told dr_delays dr_fractions le_length le_signs) (fun (u : (Nat → Int32) × Int32 × Int32 × Int32 × Int32 × Int32 × (Nat → Int32) × (Nat → Int32) × (Nat → Int32) × (Nat → Int32)) => (w_Rd E rd0 rd1 dr0 dr1 dr2 dr3 dr4 le0 le1 u.1 u.2.1 u.2.2.1 u.2.2.2.1 u.2.2.2.2.1 u.2.2.2.2.2.1 u.2.2.2.2.2.2.1 u.2.2.2.2.2.2.2.1 u.2.2.2.2.2.2.2.2.1 u.2.2.2.2.2.2.2.2.2 le_length le_signs)) res) 0 0 (va_A (w_Rd E rd0 rd1 dr0 dr1 dr2 dr3 dr4 le0 le1 rd_numbers dr_places dr_links dr_mostDrawn dr_ofTen dr_z dr_lengths dr_told dr_delays dr_fractions le_length le_signs) sz) := by
  refine mk_Mi (cc := cX6_firstFault) (maxL := 5) (by decide) rfl (Nat.le_of_ble_eq_true rfl) ?_
  intro p e s m args below meth c Q A S hKN hA hret H locs ls hP hD hS hl
  obtain ⟨hx, hb, hml, hown, hts⟩ := S
  obtain ⟨hK, hN⟩ := hKN
  have hl : lv_has ls 5 [(0, .ref rd0), (1, .ref le0)] := hl
  have q_0 := hts (.fieldLink RX6 12 "DelayClusters$Reader" "draft" "LDelayClusters$Plan;") (by decide +kernel)
  unfold Rd_firstFault at hf
  refine lv_aload_n hx hb dX6_firstFault_0 rfl (lv_at hl 0 rfl) ?_
  refine va_get (D := E.1) (ci := 6) (v := .ref dr0) (C := RX6) (T := TX6) (N := 2) hx hb hts in_X6_firstFault_X6 hown hK hP 0 rfl rfl 0 (by decide) q_0 (fun _ h9 => h9) rfl dX6_firstFault_1 ?_
  obtain ⟨⟨dr_places_2, dr_links_3, dr_mostDrawn_4, dr_ofTen_5, dr_z_6, dr_lengths_7, dr_told_8, dr_delays_9, dr_fractions_10⟩, h_1, hf⟩ := bd_s hf
  try dsimp only at hf
  refine ca_Mv (w2 := (w_Rd E rd0 rd1 dr0 dr1 dr2 dr3 dr4 le0 le1 rd_numbers dr_places_2 dr_links_3 dr_mostDrawn_4 dr_ofTen_5 dr_z_6 dr_lengths_7 dr_told_8 dr_delays_9 dr_fractions_10 le_length le_signs)) (As := []) (rest := []) ⟨hx, hb, hml, hown, hts⟩ ⟨hK, hN⟩ hP hD hS hA (c_Pl_clear l E dr0 dr1 dr2 dr3 dr4 H.size dr_places dr_links dr_mostDrawn dr_ofTen dr_z dr_lengths dr_told dr_delays dr_fractions (dr_places_2, dr_links_3, dr_mostDrawn_4, dr_ofTen_5, dr_z_6, dr_lengths_7, dr_told_8, dr_delays_9, dr_fractions_10) h_1) [2, 3, 4, 5, 6] [0, 1, 7, 8] [0, 1, 4, 5, 6, 7, 8, 2, 3] rfl rfl rfl rfl (by decide) rfl rfl 5 2 rfl rfl rfl gX6_firstFault_X5_clear rfl rfl rfl rfl hd_Pl_clear ⟨(Nat.le_of_ble_eq_true rfl), (Nat.le_of_ble_eq_true rfl)⟩ rfl hl.1 rfl (Nat.le_of_ble_eq_true rfl) dX6_firstFault_4 ⟨(Nat.zero_le _), (Nat.zero_le _)⟩ (fun H locs hP hD hS => ?_)
  refine lv_iconst (v := 0) hx hb dX6_firstFault_7 (by decide) ?_
  refine lv_istore_n (lv' := [(2, .int 0), (0, .ref rd0), (1, .ref le0)]) hx hb dX6_firstFault_8 rfl hl (by decide) rfl (fun ls hl => ?_)
  refine lv_iconst (v := 0) hx hb dX6_firstFault_9 (by decide) ?_
  refine lv_istore_n (lv' := [(3, .int 0), (2, .int 0), (0, .ref rd0), (1, .ref le0)]) hx hb dX6_firstFault_10 rfl hl (by decide) rfl (fun ls hl => ?_)
  obtain ⟨w_11, i_11, hf⟩ := bd_s hf
  have KE_11 : ∀ y_, Sum.inr y_ = w_11 → some y_ = some res := by intro y_ e_; subst e_; exact hf
  have KX_11 : ∀ (rd_numbers_45 : Nat → Int32) (dr_places_46 : Int32) (dr_links_47 : Int32) (dr_mostDrawn_48 : Int32) (dr_ofTen_49 : Int32) (dr_z_50 : Int32) (dr_lengths_51 : Nat → Int32) (dr_told_52 : Nat → Int32) (dr_delays_53 : Nat → Int32) (dr_fractions_54 : Nat → Int32), Sum.inl (rd_numbers_45, dr_places_46, dr_links_47, dr_mostDrawn_48, dr_ofTen_49, dr_z_50, dr_lengths_51, dr_told_52, dr_delays_53, dr_fractions_54) = w_11 → ∀ (H : Heap) (locs : List Loc) (ls : Array Slot), va_P E.1 vwCl (w_Rd E rd0 rd1 dr0 dr1 dr2 dr3 dr4 le0 le1 rd_numbers_45 dr_places_46 dr_links_47 dr_mostDrawn_48 dr_ofTen_49 dr_z_50 dr_lengths_51 dr_told_52 dr_delays_53 dr_fractions_54 le_length le_signs) H → va_D A (w_Rd E rd0 rd1 dr0 dr1 dr2 dr3 dr4 le0 le1 rd_numbers_45 dr_places_46 dr_links_47 dr_mostDrawn_48 dr_ofTen_49 dr_z_50 dr_lengths_51 dr_told_52 dr_delays_53 dr_fractions_54 le_length le_signs) → va_S A s.heap H locs → lv_has ls 5 [] → W p l e rm_Rd_firstFault s m args below meth c H locs 0 0 Q (F0 m 64 ls []) := by
    intro rd_numbers_45 dr_places_46 dr_links_47 dr_mostDrawn_48 dr_ofTen_49 dr_z_50 dr_lengths_51 dr_told_52 dr_delays_53 dr_fractions_54 e_
    subst e_
    try dsimp only at hf
    intro H locs ls hP hD hS hl
    refine lv_bipush (v := (-4)) hx hb dX6_firstFault_64 (by decide) ?_
    exact hret H locs ls 66 (-4) (rd_numbers_45, dr_places_46, dr_links_47, dr_mostDrawn_48, dr_ofTen_49, dr_z_50, dr_lengths_51, dr_told_52, dr_delays_53, dr_fractions_54) dX6_firstFault_66 (Option.some.inj hf) hP hD hS
  have KL_11 : ∀ (n_ : Nat) (v2_11 : Int32) (v3_12 : Int32) (rd_numbers_13 : Nat → Int32) (dr_places_14 : Int32) (dr_links_15 : Int32) (dr_mostDrawn_16 : Int32) (dr_ofTen_17 : Int32) (dr_z_18 : Int32) (dr_lengths_19 : Nat → Int32) (dr_told_20 : Nat → Int32) (dr_delays_21 : Nat → Int32) (dr_fractions_22 : Nat → Int32), it (Rd_firstFault_L11 le_length le_signs) n_ (v2_11, v3_12, rd_numbers_13, dr_places_14, dr_links_15, dr_mostDrawn_16, dr_ofTen_17, dr_z_18, dr_lengths_19, dr_told_20, dr_delays_21, dr_fractions_22) = some w_11 → ∀ (H : Heap) (locs : List Loc) (ls : Array Slot), va_P E.1 vwCl (w_Rd E rd0 rd1 dr0 dr1 dr2 dr3 dr4 le0 le1 rd_numbers_13 dr_places_14 dr_links_15 dr_mostDrawn_16 dr_ofTen_17 dr_z_18 dr_lengths_19 dr_told_20 dr_delays_21 dr_fractions_22 le_length le_signs) H → va_D A (w_Rd E rd0 rd1 dr0 dr1 dr2 dr3 dr4 le0 le1 rd_numbers_13 dr_places_14 dr_links_15 dr_mostDrawn_16 dr_ofTen_17 dr_z_18 dr_lengths_19 dr_told_20 dr_delays_21 dr_fractions_22 le_length le_signs) → va_S A s.heap H locs → lv_has ls 5 [(0, .ref rd0), (1, .ref le0), (2, .int v2_11), (3, .int v3_12)] → W p l e rm_Rd_firstFault s m args below meth c H locs 0 0 Q (F0 m 11 ls []) := by
    intro n_
    induction n_ with
    | zero => intro v2_11 v3_12 rd_numbers_13 dr_places_14 dr_links_15 dr_mostDrawn_16 dr_ofTen_17 dr_z_18 dr_lengths_19 dr_told_20 dr_delays_21 dr_fractions_22 hit; exact (it_z hit).elim
    | succ n_11 ih_11 =>
      intro v2_11 v3_12 rd_numbers_13 dr_places_14 dr_links_15 dr_mostDrawn_16 dr_ofTen_17 dr_z_18 dr_lengths_19 dr_told_20 dr_delays_21 dr_fractions_22 hit
      intro H locs ls hP hD hS hl
      obtain ⟨x_11, hf, hc_11, hq_11⟩ := it_s hit
      dsimp only [Rd_firstFault_L11] at hf
      refine lv_iload_n hx hb dX6_firstFault_11 rfl (lv_at hl 3 rfl) ?_
      refine lv_sipush (v := 200) hx hb dX6_firstFault_12 (by decide) ?_
      refine lv_icmp_ge (tgt := 64) hx hb dX6_firstFault_15 (by decide) (fun c_44 => ?_) (fun c_44 => ?_)
      · have hf := ite_t c_44 hf
        exact KX_11 rd_numbers_13 dr_places_14 dr_links_15 dr_mostDrawn_16 dr_ofTen_17 dr_z_18 dr_lengths_19 dr_told_20 dr_delays_21 dr_fractions_22 (hq_11 _ (Option.some.inj hf).symm) H locs _ hP hD hS (lv_sub hl [] rfl)
      · have hf := ite_f c_44 hf
        refine lv_iload_n hx hb dX6_firstFault_18 rfl (lv_at hl 2 rfl) ?_
        refine lv_aload_n hx hb dX6_firstFault_19 rfl (lv_at hl 1 rfl) ?_
        obtain ⟨r_24, h_23, hf⟩ := bd_s hf
        refine ca_V (As := []) (rest := [.int v2_11]) ⟨hx, hb, hml, hown, hts⟩ ⟨hK, hN⟩ hP (c_Le_size l E le0 le1 le_length le_signs r_24 h_23) [7, 8] rfl 2 7 rfl rfl rfl gX6_firstFault_X2_size rfl rfl rfl rfl hd_Le_size ⟨(Nat.le_of_ble_eq_true rfl), (Nat.le_of_ble_eq_true rfl)⟩ rfl hl.1 rfl (Nat.le_of_ble_eq_true rfl) dX6_firstFault_20 ⟨(Nat.zero_le _), (Nat.zero_le _)⟩ ?_
        refine lv_icmp_ge (tgt := 64) hx hb dX6_firstFault_23 (by decide) (fun c_43 => ?_) (fun c_43 => ?_)
        · have hf := ite_t c_43 hf
          exact KX_11 rd_numbers_13 dr_places_14 dr_links_15 dr_mostDrawn_16 dr_ofTen_17 dr_z_18 dr_lengths_19 dr_told_20 dr_delays_21 dr_fractions_22 (hq_11 _ (Option.some.inj hf).symm) H locs _ hP hD hS (lv_sub hl [] rfl)
        · have hf := ite_f c_43 hf
          refine lv_aload_n hx hb dX6_firstFault_26 rfl (lv_at hl 0 rfl) ?_
          refine lv_aload_n hx hb dX6_firstFault_27 rfl (lv_at hl 1 rfl) ?_
          refine lv_iload_n hx hb dX6_firstFault_28 rfl (lv_at hl 2 rfl) ?_
          obtain ⟨⟨r_26, rd_numbers_27⟩, h_25, hf⟩ := bd_s hf
          try dsimp only at hf
          refine ca_Mi (w2 := (w_Rd E rd0 rd1 dr0 dr1 dr2 dr3 dr4 le0 le1 rd_numbers_27 dr_places_14 dr_links_15 dr_mostDrawn_16 dr_ofTen_17 dr_z_18 dr_lengths_19 dr_told_20 dr_delays_21 dr_fractions_22 le_length le_signs)) (As := [.ref le0, .int v2_11]) (rest := []) ⟨hx, hb, hml, hown, hts⟩ ⟨hK, hN⟩ hP hD hS hA (c_Rd_behindItem l E rd0 rd1 dr0 dr1 dr2 dr3 dr4 le0 le1 H.size rd_numbers_13 dr_places_14 dr_links_15 dr_mostDrawn_16 dr_ofTen_17 dr_z_18 dr_lengths_19 dr_told_20 dr_delays_21 dr_fractions_22 le_length le_signs v2_11 (r_26, rd_numbers_27) h_25) [0, 1, 2, 3, 4, 5, 6, 7, 8] [] [0, 1, 2, 3, 4, 5, 6, 7, 8] rfl rfl rfl rfl (by decide) rfl rfl 6 0 rfl rfl rfl gX6_firstFault_X6_behindItem rfl rfl rfl rfl hd_Rd_behindItem ⟨(Nat.le_of_ble_eq_true rfl), (Nat.le_of_ble_eq_true rfl)⟩ rfl hl.1 rfl (Nat.le_of_ble_eq_true rfl) dX6_firstFault_29 ⟨(Nat.zero_le _), (Nat.zero_le _)⟩ (fun H locs hP hD hS => ?_)
          refine lv_istore (lv' := [(4, .int r_26), (0, .ref rd0), (1, .ref le0), (2, .int v2_11), (3, .int v3_12)]) hx hb dX6_firstFault_32 hl (by decide) rfl (fun ls hl => ?_)
          refine lv_iload hx hb dX6_firstFault_34 (lv_at hl 0 rfl) ?_
          refine lv_bipush (v := (-4)) hx hb dX6_firstFault_36 (by decide) ?_
          refine lv_icmp_eq (tgt := 53) hx hb dX6_firstFault_38 (by decide) (fun c_42 => ?_) (fun c_42 => ?_)
          · have hf := ite_t c_42 hf
            refine lv_iload_n hx hb dX6_firstFault_53 rfl (lv_at hl 3 rfl) ?_
            have hf := KE_11 _ (hq_11 _ (Option.some.inj hf).symm)
            exact hret H locs ls 54 v2_11 (rd_numbers_27, dr_places_14, dr_links_15, dr_mostDrawn_16, dr_ofTen_17, dr_z_18, dr_lengths_19, dr_told_20, dr_delays_21, dr_fractions_22) dX6_firstFault_54 (Option.some.inj hf) hP hD hS
          · have hf := ite_f c_42 hf
            refine lv_aload_n hx hb dX6_firstFault_41 rfl (lv_at hl 1 rfl) ?_
            refine lv_aload_n hx hb dX6_firstFault_42 rfl (lv_at hl 2 rfl) ?_
            refine lv_iload_n hx hb dX6_firstFault_43 rfl (lv_at hl 3 rfl) ?_
            obtain ⟨r_29, h_28, hf⟩ := bd_s hf
            refine ca_V (As := [.int v2_11]) (rest := [.ref rd0]) ⟨hx, hb, hml, hown, hts⟩ ⟨hK, hN⟩ hP (c_Le_at l E le0 le1 le_length le_signs v2_11 r_29 h_28) [7, 8] rfl 2 7 rfl rfl rfl gX6_firstFault_X2_at rfl rfl rfl rfl hd_Le_at ⟨(Nat.le_of_ble_eq_true rfl), (Nat.le_of_ble_eq_true rfl)⟩ rfl hl.1 rfl (Nat.le_of_ble_eq_true rfl) dX6_firstFault_44 ⟨(Nat.zero_le _), (Nat.zero_le _)⟩ ?_
            obtain ⟨⟨r_31, dr_places_32, dr_links_33, dr_mostDrawn_34, dr_ofTen_35, dr_z_36, dr_lengths_37, dr_told_38, dr_delays_39, dr_fractions_40⟩, h_30, hf⟩ := bd_s hf
            try dsimp only at hf
            refine ca_Mi (w2 := (w_Rd E rd0 rd1 dr0 dr1 dr2 dr3 dr4 le0 le1 rd_numbers_27 dr_places_32 dr_links_33 dr_mostDrawn_34 dr_ofTen_35 dr_z_36 dr_lengths_37 dr_told_38 dr_delays_39 dr_fractions_40 le_length le_signs)) (As := [.int r_29]) (rest := []) ⟨hx, hb, hml, hown, hts⟩ ⟨hK, hN⟩ hP hD hS hA (c_Rd_takesItem l E rd0 rd1 dr0 dr1 dr2 dr3 dr4 H.size rd_numbers_27 dr_places_14 dr_links_15 dr_mostDrawn_16 dr_ofTen_17 dr_z_18 dr_lengths_19 dr_told_20 dr_delays_21 dr_fractions_22 r_29 (r_31, dr_places_32, dr_links_33, dr_mostDrawn_34, dr_ofTen_35, dr_z_36, dr_lengths_37, dr_told_38, dr_delays_39, dr_fractions_40) h_30) [0, 1, 2, 3, 4, 5, 6] [7, 8] [2, 3, 4, 5, 6, 7, 8, 0, 1] rfl rfl rfl rfl (by decide) rfl rfl 6 0 rfl rfl rfl gX6_firstFault_X6_takesItem rfl rfl rfl rfl hd_Rd_takesItem ⟨(Nat.le_of_ble_eq_true rfl), (Nat.le_of_ble_eq_true rfl)⟩ rfl hl.1 rfl (Nat.le_of_ble_eq_true rfl) dX6_firstFault_47 ⟨(Nat.zero_le _), (Nat.zero_le _)⟩ (fun H locs hP hD hS => ?_)
            refine lv_if_ne (tgt := 55) hx hb dX6_firstFault_50 (by decide) (fun c_41 => ?_) (fun c_41 => ?_)
            · have hf := ite_f c_41 hf
              refine lv_iload hx hb dX6_firstFault_55 (lv_at hl 0 rfl) ?_
              refine lv_istore_n (lv' := [(2, .int r_26), (4, .int r_26), (0, .ref rd0), (1, .ref le0), (3, .int v3_12)]) hx hb dX6_firstFault_57 rfl hl (by decide) rfl (fun ls hl => ?_)
              refine lv_iinc (v := (v3_12 + 1)) (lv' := [(3, .int (v3_12 + 1)), (2, .int r_26), (4, .int r_26), (0, .ref rd0), (1, .ref le0)]) hx hb dX6_firstFault_58 hl (k := 4) rfl rfl (by decide) rfl (fun ls hl => ?_)
              refine lv_goto (tgt := 11) hx hb dX6_firstFault_61 (by decide) ?_
              exact ih_11 r_26 (v3_12 + 1) rd_numbers_27 dr_places_32 dr_links_33 dr_mostDrawn_34 dr_ofTen_35 dr_z_36 dr_lengths_37 dr_told_38 dr_delays_39 dr_fractions_40 (hc_11 _ (Option.some.inj hf).symm) H locs _ hP hD hS (lv_sub hl [3, 4, 1, 0] rfl)
            · have hf := ite_t c_41 hf
              refine lv_iload_n hx hb dX6_firstFault_53 rfl (lv_at hl 3 rfl) ?_
              have hf := KE_11 _ (hq_11 _ (Option.some.inj hf).symm)
              exact hret H locs ls 54 v2_11 (rd_numbers_27, dr_places_32, dr_links_33, dr_mostDrawn_34, dr_ofTen_35, dr_z_36, dr_lengths_37, dr_told_38, dr_delays_39, dr_fractions_40) dX6_firstFault_54 (Option.some.inj hf) hP hD hS
  exact KL_11 _ 0 0 rd_numbers dr_places_2 dr_links_3 dr_mostDrawn_4 dr_ofTen_5 dr_z_6 dr_lengths_7 dr_told_8 dr_delays_9 dr_fractions_10 i_11 H locs _ hP hD hS (lv_sub hl [2, 3, 1, 0] rfl)
