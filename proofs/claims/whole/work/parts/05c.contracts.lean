abbrev rm_Cl_findGreatestDelay : Room := { frames := 1, cells := 0, slots := 0, locals := 48 }
theorem hd_Cl_findGreatestDelay : hdOK yX1_findGreatestDelay 0 := by decide +kernel
theorem in_X1_findGreatestDelay_X1 : ∀ w ∈ wsX10, w ∈ wsX1_findGreatestDelay := by decide +kernel
set_option maxRecDepth 100000 in
set_option maxHeartbeats 4000000 in
theorem c_Cl_findGreatestDelay (l : Launch) (E : En4) (cl0 cl1 cl2 cl3 pl0 pl1 pl2 pl3 pl4 pa0 pa1 : Nat) (sz : Nat) (cl_greatestDelay : Int32) (cl_delays : Nat → Int32) (cl_fractions : Nat → Int32) (cl_heads : Nat → Int32) (pl_places : Int32) (pl_links : Int32) (pl_mostDrawn : Int32) (pl_ofTen : Int32) (pl_z : Int32) (pl_lengths : Nat → Int32) (pl_told : Nat → Int32) (pl_delays : Nat → Int32) (pl_fractions : Nat → Int32) (pa_sums : Nat → Int32)  (res : Int32) (hf : Cl_findGreatestDelay cl_greatestDelay cl_delays pl_places = some res) : Met l yX1_findGreatestDelay wsX1_findGreatestDelay rm_Cl_findGreatestDelay (pcM [.ref cl0] E sz (w_Cl E cl0 cl1 cl2 cl3 pl0 pl1 pl2 pl3 pl4 pa0 pa1 cl_greatestDelay cl_delays cl_fractions cl_heads pl_places pl_links pl_mostDrawn pl_ofTen pl_z pl_lengths pl_told pl_delays pl_fractions pa_sums)) (QMv E sz (w_Cl E cl0 cl1 cl2 cl3 pl0 pl1 pl2 pl3 pl4 pa0 pa1 cl_greatestDelay cl_delays cl_fractions cl_heads pl_places pl_links pl_mostDrawn pl_ofTen pl_z pl_lengths pl_told pl_delays pl_fractions pa_sums) (fun (u : Int32) => (w_Cl E cl0 cl1 cl2 cl3 pl0 pl1 pl2 pl3 pl4 pa0 pa1 u cl_delays cl_fractions cl_heads pl_places pl_links pl_mostDrawn pl_ofTen pl_z pl_lengths pl_told pl_delays pl_fractions pa_sums)) res) 0 0 (va_A (w_Cl E cl0 cl1 cl2 cl3 pl0 pl1 pl2 pl3 pl4 pa0 pa1 cl_greatestDelay cl_delays cl_fractions cl_heads pl_places pl_links pl_mostDrawn pl_ofTen pl_z pl_lengths pl_told pl_delays pl_fractions pa_sums) sz) := by
  refine mk_Mv (cc := cX1_findGreatestDelay) (maxL := 2) (by decide) rfl (Nat.le_of_ble_eq_true rfl) ?_
  intro p e s m args below meth c Q A S hKN hA hret H locs ls hP hD hS hl
  obtain ⟨hx, hb, hml, hown, hts⟩ := S
  obtain ⟨hK, hN⟩ := hKN
  have hl : lv_has ls 2 [(0, .ref cl0)] := hl
  have q_0 := hts (.fieldLink RX1 49 "DelayClusters$Clustering" "greatestDelay" "I") (by decide +kernel)
  have q_1 := hts (.fieldLink RX1 21 "DelayClusters$Clustering" "plan" "LDelayClusters$Plan;") (by decide +kernel)
  have q_2 := hts (.fieldLink RX1 9 "DelayClusters$Clustering" "delays" "[I") (by decide +kernel)
  have q_3 := hts (.methodLink RX1 53 Lib.Math.max.name) (by decide +kernel)
  have q_4 := hts (.static Lib.Math.max.name) (by decide +kernel)
  have q_5 := hts (.initialized "java/lang/Math") (by decide +kernel)
  have q_6 := hts (.code Lib.Math.max.name Lib.Math.max.code 2 (some .int)) (by decide +kernel)
  unfold Cl_findGreatestDelay at hf
  refine lv_aload_n hx hb dX1_findGreatestDelay_0 rfl (lv_at hl 0 rfl) ?_
  refine lv_iconst (v := 0) hx hb dX1_findGreatestDelay_1 (by decide) ?_
  refine va_put (D := E.1) (ci := 1) (v := .int 0) (ty := .int) (C := RX1) (T := TX1) (N := 6) hx hb hts in_X1_findGreatestDelay_X1 tyX1 tyX1_ok nmX1 hown hK hP hD hS 0 rfl rfl 5 (by decide) q_0 (fun _ h9 => h9) rfl (by decide +kernel) rfl rfl (Nat.le_of_ble_eq_true rfl) dX1_findGreatestDelay_2 (fun H locs hP hD hS => ?_)
  have hP : va_P E.1 vwCl (w_Cl E cl0 cl1 cl2 cl3 pl0 pl1 pl2 pl3 pl4 pa0 pa1 0 cl_delays cl_fractions cl_heads pl_places pl_links pl_mostDrawn pl_ofTen pl_z pl_lengths pl_told pl_delays pl_fractions pa_sums) H := hP
  have hD : va_D A (w_Cl E cl0 cl1 cl2 cl3 pl0 pl1 pl2 pl3 pl4 pa0 pa1 0 cl_delays cl_fractions cl_heads pl_places pl_links pl_mostDrawn pl_ofTen pl_z pl_lengths pl_told pl_delays pl_fractions pa_sums) := hD
  refine lv_iconst (v := 0) hx hb dX1_findGreatestDelay_5 (by decide) ?_
  refine lv_istore_n (lv' := [(1, .int 0), (0, .ref cl0)]) hx hb dX1_findGreatestDelay_6 rfl hl (by decide) rfl (fun ls hl => ?_)
  obtain ⟨w_7, i_7, hf⟩ := bd_s hf
  have KX_7 : ∀ (cl_greatestDelay_7 : Int32), cl_greatestDelay_7 = w_7 → ∀ (H : Heap) (locs : List Loc) (ls : Array Slot), va_P E.1 vwCl (w_Cl E cl0 cl1 cl2 cl3 pl0 pl1 pl2 pl3 pl4 pa0 pa1 cl_greatestDelay_7 cl_delays cl_fractions cl_heads pl_places pl_links pl_mostDrawn pl_ofTen pl_z pl_lengths pl_told pl_delays pl_fractions pa_sums) H → va_D A (w_Cl E cl0 cl1 cl2 cl3 pl0 pl1 pl2 pl3 pl4 pa0 pa1 cl_greatestDelay_7 cl_delays cl_fractions cl_heads pl_places pl_links pl_mostDrawn pl_ofTen pl_z pl_lengths pl_told pl_delays pl_fractions pa_sums) → va_S A s.heap H locs → lv_has ls 2 [] → W p l e rm_Cl_findGreatestDelay s m args below meth c H locs 0 0 Q (F0 m 41 ls []) := by
    intro cl_greatestDelay_7 e_
    subst e_
    try dsimp only at hf
    intro H locs ls hP hD hS hl
    exact hret H locs ls 41 cl_greatestDelay_7 dX1_findGreatestDelay_41 (Option.some.inj hf) hP hD hS
  have KL_7 : ∀ (n_ : Nat) (v1_1 : Int32) (cl_greatestDelay_2 : Int32), it (Cl_findGreatestDelay_L7 cl_delays pl_places) n_ (v1_1, cl_greatestDelay_2) = some w_7 → ∀ (H : Heap) (locs : List Loc) (ls : Array Slot), va_P E.1 vwCl (w_Cl E cl0 cl1 cl2 cl3 pl0 pl1 pl2 pl3 pl4 pa0 pa1 cl_greatestDelay_2 cl_delays cl_fractions cl_heads pl_places pl_links pl_mostDrawn pl_ofTen pl_z pl_lengths pl_told pl_delays pl_fractions pa_sums) H → va_D A (w_Cl E cl0 cl1 cl2 cl3 pl0 pl1 pl2 pl3 pl4 pa0 pa1 cl_greatestDelay_2 cl_delays cl_fractions cl_heads pl_places pl_links pl_mostDrawn pl_ofTen pl_z pl_lengths pl_told pl_delays pl_fractions pa_sums) → va_S A s.heap H locs → lv_has ls 2 [(0, .ref cl0), (1, .int v1_1)] → W p l e rm_Cl_findGreatestDelay s m args below meth c H locs 0 0 Q (F0 m 7 ls []) := by
    intro n_
    induction n_ with
    | zero => intro v1_1 cl_greatestDelay_2 hit; exact (it_z hit).elim
    | succ n_7 ih_7 =>
      intro v1_1 cl_greatestDelay_2 hit
      intro H locs ls hP hD hS hl
      obtain ⟨x_7, hf, hc_7, hq_7⟩ := it_s hit
      dsimp only [Cl_findGreatestDelay_L7] at hf
      refine lv_iload_n hx hb dX1_findGreatestDelay_7 rfl (lv_at hl 1 rfl) ?_
      refine lv_aload_n hx hb dX1_findGreatestDelay_8 rfl (lv_at hl 0 rfl) ?_
      refine va_get (D := E.1) (ci := 1) (v := .ref pl0) (C := RX1) (T := TX1) (N := 6) hx hb hts in_X1_findGreatestDelay_X1 hown hK hP 0 rfl rfl 0 (by decide) q_1 (fun _ h9 => h9) rfl dX1_findGreatestDelay_9 ?_
      obtain ⟨r_4, h_3, hf⟩ := bd_s hf
      refine ca_V (As := []) (rest := [.int v1_1]) ⟨hx, hb, hml, hown, hts⟩ ⟨hK, hN⟩ hP (c_Pl_places l E pl0 pl1 pl2 pl3 pl4 pl_places pl_links pl_mostDrawn pl_ofTen pl_z pl_lengths pl_told pl_delays pl_fractions r_4 h_3) [4, 5, 6, 7, 8] rfl 5 4 rfl rfl rfl gX1_findGreatestDelay_X5_places rfl rfl rfl rfl hd_Pl_places ⟨(Nat.le_of_ble_eq_true rfl), (Nat.le_of_ble_eq_true rfl)⟩ rfl hl.1 rfl (Nat.le_of_ble_eq_true rfl) dX1_findGreatestDelay_12 ⟨(Nat.zero_le _), (Nat.zero_le _)⟩ ?_
      refine lv_icmp_ge (tgt := 41) hx hb dX1_findGreatestDelay_15 (by decide) (fun c_6 => ?_) (fun c_6 => ?_)
      · have hf := ite_t c_6 hf
        exact KX_7 cl_greatestDelay_2 (hq_7 _ (Option.some.inj hf).symm) H locs _ hP hD hS (lv_sub hl [] rfl)
      · have hf := ite_f c_6 hf
        refine lv_aload_n hx hb dX1_findGreatestDelay_18 rfl (lv_at hl 0 rfl) ?_
        refine lv_aload_n hx hb dX1_findGreatestDelay_19 rfl (lv_at hl 0 rfl) ?_
        refine va_get (D := E.1) (ci := 1) (v := .int cl_greatestDelay_2) (C := RX1) (T := TX1) (N := 6) hx hb hts in_X1_findGreatestDelay_X1 hown hK hP 0 rfl rfl 5 (by decide) q_0 (fun _ h9 => h9) rfl dX1_findGreatestDelay_20 ?_
        refine lv_aload_n hx hb dX1_findGreatestDelay_23 rfl (lv_at hl 0 rfl) ?_
        refine va_get (D := E.1) (ci := 1) (v := .ref cl1) (C := RX1) (T := TX1) (N := 6) hx hb hts in_X1_findGreatestDelay_X1 hown hK hP 0 rfl rfl 2 (by decide) q_2 (fun _ h9 => h9) rfl dX1_findGreatestDelay_24 ?_
        refine lv_iload_n hx hb dX1_findGreatestDelay_27 rfl (lv_at hl 1 rfl) ?_
        obtain ⟨g_5, hf⟩ := gk_s hf
        refine va_iald hx hb hK hP 1 0 rfl rfl g_5 dX1_findGreatestDelay_28 ?_
        refine va_mmax hx hb (by rw [hml]; exact hl.1.symm) hown q_3 q_4 q_5 q_6 (Nat.le_of_ble_eq_true rfl) (Nat.le_of_ble_eq_true rfl) (Nat.zero_le _) (Nat.zero_le _) dX1_findGreatestDelay_29 ?_
        refine va_put (D := E.1) (ci := 1) (v := .int (if cl_greatestDelay_2 < (cl_delays v1_1.toNatClampNeg) then (cl_delays v1_1.toNatClampNeg) else cl_greatestDelay_2)) (ty := .int) (C := RX1) (T := TX1) (N := 6) hx hb hts in_X1_findGreatestDelay_X1 tyX1 tyX1_ok nmX1 hown hK hP hD hS 0 rfl rfl 5 (by decide) q_0 (fun _ h9 => h9) rfl (by decide +kernel) rfl rfl (Nat.le_of_ble_eq_true rfl) dX1_findGreatestDelay_32 (fun H locs hP hD hS => ?_)
        have hP : va_P E.1 vwCl (w_Cl E cl0 cl1 cl2 cl3 pl0 pl1 pl2 pl3 pl4 pa0 pa1 (if cl_greatestDelay_2 < (cl_delays v1_1.toNatClampNeg) then (cl_delays v1_1.toNatClampNeg) else cl_greatestDelay_2) cl_delays cl_fractions cl_heads pl_places pl_links pl_mostDrawn pl_ofTen pl_z pl_lengths pl_told pl_delays pl_fractions pa_sums) H := hP
        have hD : va_D A (w_Cl E cl0 cl1 cl2 cl3 pl0 pl1 pl2 pl3 pl4 pa0 pa1 (if cl_greatestDelay_2 < (cl_delays v1_1.toNatClampNeg) then (cl_delays v1_1.toNatClampNeg) else cl_greatestDelay_2) cl_delays cl_fractions cl_heads pl_places pl_links pl_mostDrawn pl_ofTen pl_z pl_lengths pl_told pl_delays pl_fractions pa_sums) := hD
        refine lv_iinc (v := (v1_1 + 1)) (lv' := [(1, .int (v1_1 + 1)), (0, .ref cl0)]) hx hb dX1_findGreatestDelay_35 hl (k := 1) rfl rfl (by decide) rfl (fun ls hl => ?_)
        refine lv_goto (tgt := 7) hx hb dX1_findGreatestDelay_38 (by decide) ?_
        exact ih_7 (v1_1 + 1) (if cl_greatestDelay_2 < (cl_delays v1_1.toNatClampNeg) then (cl_delays v1_1.toNatClampNeg) else cl_greatestDelay_2) (hc_7 _ (Option.some.inj hf).symm) H locs _ hP hD hS (lv_sub hl [1, 0] rfl)
  exact KL_7 _ 0 0 i_7 H locs _ hP hD hS (lv_sub hl [1, 0] rfl)
abbrev rm_Cl_startOf : Room := { frames := 0, cells := 0, slots := 0, locals := 0 }
theorem hd_Cl_startOf : hdOK yX1_startOf 1 := by decide +kernel
theorem in_X1_startOf_X1 : ∀ w ∈ wsX10, w ∈ wsX1_startOf := by decide +kernel
set_option maxRecDepth 100000 in
set_option maxHeartbeats 4000000 in
theorem c_Cl_startOf (l : Launch) (E : En4) (cl0 cl1 cl2 cl3 pl0 pl1 pl2 pl3 pl4 pa0 pa1 : Nat) (cl_greatestDelay : Int32) (cl_delays : Nat → Int32) (cl_fractions : Nat → Int32) (cl_heads : Nat → Int32) (pl_places : Int32) (pl_links : Int32) (pl_mostDrawn : Int32) (pl_ofTen : Int32) (pl_z : Int32) (pl_lengths : Nat → Int32) (pl_told : Nat → Int32) (pl_delays : Nat → Int32) (pl_fractions : Nat → Int32) (pa_sums : Nat → Int32) (a1 : Int32)  (res : Int32) (hf : Cl_startOf cl_greatestDelay cl_delays a1 = some res) : Met l yX1_startOf wsX1_startOf rm_Cl_startOf (pcR [.ref cl0, .int a1] E (w_Cl E cl0 cl1 cl2 cl3 pl0 pl1 pl2 pl3 pl4 pa0 pa1 cl_greatestDelay cl_delays cl_fractions cl_heads pl_places pl_links pl_mostDrawn pl_ofTen pl_z pl_lengths pl_told pl_delays pl_fractions pa_sums)) (vp_Si (fun r => r = res)) 0 0 (fun _ => False) := by
  refine mk_Ri (cc := cX1_startOf) (maxL := 2) (by decide) rfl (Nat.le_of_ble_eq_true rfl) ?_
  intro p e s m args below meth c Q S hKN hP hret ls hl
  obtain ⟨hx, hb, hml, hown, hts⟩ := S
  obtain ⟨hK, hN⟩ := hKN
  have hl : lv_has ls 2 [(0, .ref cl0), (1, .int a1)] := hl
  have q_0 := hts (.fieldLink RX1 49 "DelayClusters$Clustering" "greatestDelay" "I") (by decide +kernel)
  have q_1 := hts (.fieldLink RX1 9 "DelayClusters$Clustering" "delays" "[I") (by decide +kernel)
  unfold Cl_startOf at hf
  refine lv_aload_n hx hb dX1_startOf_0 rfl (lv_at hl 0 rfl) ?_
  refine va_get (D := E.1) (ci := 1) (v := .int cl_greatestDelay) (C := RX1) (T := TX1) (N := 6) hx hb hts in_X1_startOf_X1 hown hK hP 0 rfl rfl 5 (by decide) q_0 (fun _ h9 => h9) rfl dX1_startOf_1 ?_
  refine lv_aload_n hx hb dX1_startOf_4 rfl (lv_at hl 0 rfl) ?_
  refine va_get (D := E.1) (ci := 1) (v := .ref cl1) (C := RX1) (T := TX1) (N := 6) hx hb hts in_X1_startOf_X1 hown hK hP 0 rfl rfl 2 (by decide) q_1 (fun _ h9 => h9) rfl dX1_startOf_5 ?_
  refine lv_iload_n hx hb dX1_startOf_8 rfl (lv_at hl 1 rfl) ?_
  obtain ⟨g_1, hf⟩ := gk_s hf
  refine va_iald hx hb hK hP 1 0 rfl rfl g_1 dX1_startOf_9 ?_
  refine lv_isub hx hb dX1_startOf_10 ?_
  exact hret ls 11 (cl_greatestDelay - (cl_delays a1.toNatClampNeg)) dX1_startOf_11 (Option.some.inj hf)
abbrev rm_Cl_winsTie : Room := { frames := 0, cells := 0, slots := 0, locals := 0 }
theorem hd_Cl_winsTie : hdOK yX1_winsTie 2 := by decide +kernel
theorem in_X1_winsTie_X1 : ∀ w ∈ wsX10, w ∈ wsX1_winsTie := by decide +kernel
set_option maxRecDepth 100000 in
set_option maxHeartbeats 4000000 in
theorem c_Cl_winsTie (l : Launch) (E : En4) (cl0 cl1 cl2 cl3 pl0 pl1 pl2 pl3 pl4 pa0 pa1 : Nat) (cl_greatestDelay : Int32) (cl_delays : Nat → Int32) (cl_fractions : Nat → Int32) (cl_heads : Nat → Int32) (pl_places : Int32) (pl_links : Int32) (pl_mostDrawn : Int32) (pl_ofTen : Int32) (pl_z : Int32) (pl_lengths : Nat → Int32) (pl_told : Nat → Int32) (pl_delays : Nat → Int32) (pl_fractions : Nat → Int32) (pa_sums : Nat → Int32) (a1 : Int32) (a2 : Int32)  (res : Int32) (hf : Cl_winsTie cl_fractions a1 a2 = some res) : Met l yX1_winsTie wsX1_winsTie rm_Cl_winsTie (pcR [.ref cl0, .int a1, .int a2] E (w_Cl E cl0 cl1 cl2 cl3 pl0 pl1 pl2 pl3 pl4 pa0 pa1 cl_greatestDelay cl_delays cl_fractions cl_heads pl_places pl_links pl_mostDrawn pl_ofTen pl_z pl_lengths pl_told pl_delays pl_fractions pa_sums)) (vp_Si (fun r => r = res)) 0 0 (fun _ => False) := by
  refine mk_Rz (cc := cX1_winsTie) (maxL := 3) (by decide) rfl (Nat.le_of_ble_eq_true rfl) ?_
  intro p e s m args below meth c Q S hKN hP hret ls hl
  obtain ⟨hx, hb, hml, hown, hts⟩ := S
  obtain ⟨hK, hN⟩ := hKN
  have hl : lv_has ls 3 [(0, .ref cl0), (1, .int a1), (2, .int a2)] := hl
  have q_0 := hts (.fieldLink RX1 15 "DelayClusters$Clustering" "fractions" "[I") (by decide +kernel)
  unfold Cl_winsTie at hf
  refine lv_aload_n hx hb dX1_winsTie_0 rfl (lv_at hl 0 rfl) ?_
  refine va_get (D := E.1) (ci := 1) (v := .ref cl2) (C := RX1) (T := TX1) (N := 6) hx hb hts in_X1_winsTie_X1 hown hK hP 0 rfl rfl 3 (by decide) q_0 (fun _ h9 => h9) rfl dX1_winsTie_1 ?_
  refine lv_iload_n hx hb dX1_winsTie_4 rfl (lv_at hl 1 rfl) ?_
  obtain ⟨g_1, hf⟩ := gk_s hf
  refine va_iald hx hb hK hP 2 0 rfl rfl g_1 dX1_winsTie_5 ?_
  refine lv_aload_n hx hb dX1_winsTie_6 rfl (lv_at hl 0 rfl) ?_
  refine va_get (D := E.1) (ci := 1) (v := .ref cl2) (C := RX1) (T := TX1) (N := 6) hx hb hts in_X1_winsTie_X1 hown hK hP 0 rfl rfl 3 (by decide) q_0 (fun _ h9 => h9) rfl dX1_winsTie_7 ?_
  refine lv_iload_n hx hb dX1_winsTie_10 rfl (lv_at hl 2 rfl) ?_
  obtain ⟨g_2, hf⟩ := gk_s hf
  refine va_iald hx hb hK hP 2 0 rfl rfl g_2 dX1_winsTie_11 ?_
  refine lv_icmp_eq (tgt := 36) hx hb dX1_winsTie_12 (by decide) (fun c_7 => ?_) (fun c_7 => ?_)
  · have hf := ite_t c_7 hf
    refine lv_iload_n hx hb dX1_winsTie_36 rfl (lv_at hl 1 rfl) ?_
    refine lv_iload_n hx hb dX1_winsTie_37 rfl (lv_at hl 2 rfl) ?_
    refine lv_icmp_ge (tgt := 45) hx hb dX1_winsTie_38 (by decide) (fun c_3 => ?_) (fun c_3 => ?_)
    · have hf := ite_t c_3 hf
      refine lv_iconst (v := 0) hx hb dX1_winsTie_45 (by decide) ?_
      exact hret ls 46 0 dX1_winsTie_46 (by decide) (Option.some.inj hf)
    · have hf := ite_f c_3 hf
      refine lv_iconst (v := 1) hx hb dX1_winsTie_41 (by decide) ?_
      refine lv_goto (tgt := 46) hx hb dX1_winsTie_42 (by decide) ?_
      exact hret ls 46 1 dX1_winsTie_46 (by decide) (Option.some.inj hf)
  · have hf := ite_f c_7 hf
    refine lv_aload_n hx hb dX1_winsTie_15 rfl (lv_at hl 0 rfl) ?_
    refine va_get (D := E.1) (ci := 1) (v := .ref cl2) (C := RX1) (T := TX1) (N := 6) hx hb hts in_X1_winsTie_X1 hown hK hP 0 rfl rfl 3 (by decide) q_0 (fun _ h9 => h9) rfl dX1_winsTie_16 ?_
    refine lv_iload_n hx hb dX1_winsTie_19 rfl (lv_at hl 1 rfl) ?_
    obtain ⟨g_4, hf⟩ := gk_s hf
    refine va_iald hx hb hK hP 2 0 rfl rfl g_4 dX1_winsTie_20 ?_
    refine lv_aload_n hx hb dX1_winsTie_21 rfl (lv_at hl 0 rfl) ?_
    refine va_get (D := E.1) (ci := 1) (v := .ref cl2) (C := RX1) (T := TX1) (N := 6) hx hb hts in_X1_winsTie_X1 hown hK hP 0 rfl rfl 3 (by decide) q_0 (fun _ h9 => h9) rfl dX1_winsTie_22 ?_
    refine lv_iload_n hx hb dX1_winsTie_25 rfl (lv_at hl 2 rfl) ?_
    obtain ⟨g_5, hf⟩ := gk_s hf
    refine va_iald hx hb hK hP 2 0 rfl rfl g_5 dX1_winsTie_26 ?_
    refine lv_icmp_ge (tgt := 34) hx hb dX1_winsTie_27 (by decide) (fun c_6 => ?_) (fun c_6 => ?_)
    · have hf := ite_t c_6 hf
      refine lv_iconst (v := 0) hx hb dX1_winsTie_34 (by decide) ?_
      exact hret ls 35 0 dX1_winsTie_35 (by decide) (Option.some.inj hf)
    · have hf := ite_f c_6 hf
      refine lv_iconst (v := 1) hx hb dX1_winsTie_30 (by decide) ?_
      refine lv_goto (tgt := 35) hx hb dX1_winsTie_31 (by decide) ?_
      exact hret ls 35 1 dX1_winsTie_35 (by decide) (Option.some.inj hf)
abbrev rm_Cl_earliestAt : Room := { frames := 1, cells := 0, slots := 0, locals := 22 }
theorem hd_Cl_earliestAt : hdOK yX1_earliestAt 1 := by decide +kernel
theorem in_X1_earliestAt_X1 : ∀ w ∈ wsX10, w ∈ wsX1_earliestAt := by decide +kernel
set_option maxRecDepth 100000 in
set_option maxHeartbeats 4000000 in
theorem c_Cl_earliestAt (l : Launch) (E : En4) (cl0 cl1 cl2 cl3 pl0 pl1 pl2 pl3 pl4 pa0 pa1 : Nat) (cl_greatestDelay : Int32) (cl_delays : Nat → Int32) (cl_fractions : Nat → Int32) (cl_heads : Nat → Int32) (pl_places : Int32) (pl_links : Int32) (pl_mostDrawn : Int32) (pl_ofTen : Int32) (pl_z : Int32) (pl_lengths : Nat → Int32) (pl_told : Nat → Int32) (pl_delays : Nat → Int32) (pl_fractions : Nat → Int32) (pa_sums : Nat → Int32) (a1 : Int32)  (res : Int32) (hf : Cl_earliestAt cl_greatestDelay cl_delays cl_fractions pl_places pa_sums a1 = some res) : Met l yX1_earliestAt wsX1_earliestAt rm_Cl_earliestAt (pcR [.ref cl0, .int a1] E (w_Cl E cl0 cl1 cl2 cl3 pl0 pl1 pl2 pl3 pl4 pa0 pa1 cl_greatestDelay cl_delays cl_fractions cl_heads pl_places pl_links pl_mostDrawn pl_ofTen pl_z pl_lengths pl_told pl_delays pl_fractions pa_sums)) (vp_Si (fun r => r = res)) 0 0 (fun _ => False) := by
  refine mk_Ri (cc := cX1_earliestAt) (maxL := 6) (by decide) rfl (Nat.le_of_ble_eq_true rfl) ?_
  intro p e s m args below meth c Q S hKN hP hret ls hl
  obtain ⟨hx, hb, hml, hown, hts⟩ := S
  obtain ⟨hK, hN⟩ := hKN
  have hl : lv_has ls 6 [(0, .ref cl0), (1, .int a1)] := hl
  have q_0 := hts (.fieldLink RX1 21 "DelayClusters$Clustering" "plan" "LDelayClusters$Plan;") (by decide +kernel)
  have q_1 := hts (.fieldLink RX1 25 "DelayClusters$Clustering" "paths" "LDelayClusters$Paths;") (by decide +kernel)
  unfold Cl_earliestAt at hf
  refine lv_iload_n hx hb dX1_earliestAt_0 rfl (lv_at hl 1 rfl) ?_
  refine lv_istore_n (lv' := [(2, .int a1), (0, .ref cl0), (1, .int a1)]) hx hb dX1_earliestAt_1 rfl hl (by decide) rfl (fun ls hl => ?_)
  refine lv_aload_n hx hb dX1_earliestAt_2 rfl (lv_at hl 1 rfl) ?_
  refine lv_iload_n hx hb dX1_earliestAt_3 rfl (lv_at hl 2 rfl) ?_
  obtain ⟨r_2, h_1, hf⟩ := bd_s hf
  refine ca_V (As := [.int a1]) (rest := []) ⟨hx, hb, hml, hown, hts⟩ ⟨hK, hN⟩ hP (c_Cl_startOf l E cl0 cl1 cl2 cl3 pl0 pl1 pl2 pl3 pl4 pa0 pa1 cl_greatestDelay cl_delays cl_fractions cl_heads pl_places pl_links pl_mostDrawn pl_ofTen pl_z pl_lengths pl_told pl_delays pl_fractions pa_sums a1 r_2 h_1) [0, 1, 2, 3, 4, 5, 6, 7, 8, 9, 10] rfl 1 0 rfl rfl rfl gX1_earliestAt_X1_startOf rfl rfl rfl rfl hd_Cl_startOf ⟨(Nat.le_of_ble_eq_true rfl), (Nat.le_of_ble_eq_true rfl)⟩ rfl hl.1 rfl (Nat.le_of_ble_eq_true rfl) dX1_earliestAt_4 ⟨(Nat.zero_le _), (Nat.zero_le _)⟩ ?_
  refine lv_istore_n (lv' := [(3, .int r_2), (2, .int a1), (0, .ref cl0), (1, .int a1)]) hx hb dX1_earliestAt_7 rfl hl (by decide) rfl (fun ls hl => ?_)
  refine lv_iconst (v := 0) hx hb dX1_earliestAt_8 (by decide) ?_
  refine lv_istore (lv' := [(4, .int 0), (3, .int r_2), (2, .int a1), (0, .ref cl0), (1, .int a1)]) hx hb dX1_earliestAt_9 hl (by decide) rfl (fun ls hl => ?_)
  obtain ⟨w_11, i_11, hf⟩ := bd_s hf
  have KX_11 : ∀ (v2_18 : Int32), v2_18 = w_11 → ∀ (ls : Array Slot), lv_has ls 6 [(2, .int v2_18)] → W p l e rm_Cl_earliestAt s m args below meth c s.heap [] 0 0 Q (F0 m 76 ls []) := by
    intro v2_18 e_
    subst e_
    try dsimp only at hf
    intro ls hl
    refine lv_iload_n hx hb dX1_earliestAt_76 rfl (lv_at hl 0 rfl) ?_
    exact hret ls 77 v2_18 dX1_earliestAt_77 (Option.some.inj hf)
  have KL_11 : ∀ (n_ : Nat) (v2_3 : Int32) (v3_4 : Int32) (v4_5 : Int32), it (Cl_earliestAt_L11 cl_greatestDelay cl_delays cl_fractions pl_places pa_sums a1) n_ (v2_3, v3_4, v4_5) = some w_11 → ∀ (ls : Array Slot), lv_has ls 6 [(0, .ref cl0), (1, .int a1), (2, .int v2_3), (3, .int v3_4), (4, .int v4_5)] → W p l e rm_Cl_earliestAt s m args below meth c s.heap [] 0 0 Q (F0 m 11 ls []) := by
    intro n_
    induction n_ with
    | zero => intro v2_3 v3_4 v4_5 hit; exact (it_z hit).elim
    | succ n_11 ih_11 =>
      intro v2_3 v3_4 v4_5 hit
      intro ls hl
      obtain ⟨x_11, hf, hc_11, hq_11⟩ := it_s hit
      dsimp only [Cl_earliestAt_L11] at hf
      refine lv_iload hx hb dX1_earliestAt_11 (lv_at hl 4 rfl) ?_
      refine lv_aload_n hx hb dX1_earliestAt_13 rfl (lv_at hl 0 rfl) ?_
      refine va_get (D := E.1) (ci := 1) (v := .ref pl0) (C := RX1) (T := TX1) (N := 6) hx hb hts in_X1_earliestAt_X1 hown hK hP 0 rfl rfl 0 (by decide) q_0 (fun _ h9 => h9) rfl dX1_earliestAt_14 ?_
      obtain ⟨r_7, h_6, hf⟩ := bd_s hf
      refine ca_V (As := []) (rest := [.int v4_5]) ⟨hx, hb, hml, hown, hts⟩ ⟨hK, hN⟩ hP (c_Pl_places l E pl0 pl1 pl2 pl3 pl4 pl_places pl_links pl_mostDrawn pl_ofTen pl_z pl_lengths pl_told pl_delays pl_fractions r_7 h_6) [4, 5, 6, 7, 8] rfl 5 4 rfl rfl rfl gX1_earliestAt_X5_places rfl rfl rfl rfl hd_Pl_places ⟨(Nat.le_of_ble_eq_true rfl), (Nat.le_of_ble_eq_true rfl)⟩ rfl hl.1 rfl (Nat.le_of_ble_eq_true rfl) dX1_earliestAt_17 ⟨(Nat.zero_le _), (Nat.zero_le _)⟩ ?_
      refine lv_icmp_ge (tgt := 76) hx hb dX1_earliestAt_20 (by decide) (fun c_17 => ?_) (fun c_17 => ?_)
      · have hf := ite_t c_17 hf
        exact KX_11 v2_3 (hq_11 _ (Option.some.inj hf).symm) _ (lv_sub hl [2] rfl)
      · have hf := ite_f c_17 hf
        refine lv_aload_n hx hb dX1_earliestAt_23 rfl (lv_at hl 0 rfl) ?_
        refine lv_iload hx hb dX1_earliestAt_24 (lv_at hl 4 rfl) ?_
        obtain ⟨r_9, h_8, hf⟩ := bd_s hf
        refine ca_V (As := [.int v4_5]) (rest := []) ⟨hx, hb, hml, hown, hts⟩ ⟨hK, hN⟩ hP (c_Cl_startOf l E cl0 cl1 cl2 cl3 pl0 pl1 pl2 pl3 pl4 pa0 pa1 cl_greatestDelay cl_delays cl_fractions cl_heads pl_places pl_links pl_mostDrawn pl_ofTen pl_z pl_lengths pl_told pl_delays pl_fractions pa_sums v4_5 r_9 h_8) [0, 1, 2, 3, 4, 5, 6, 7, 8, 9, 10] rfl 1 0 rfl rfl rfl gX1_earliestAt_X1_startOf rfl rfl rfl rfl hd_Cl_startOf ⟨(Nat.le_of_ble_eq_true rfl), (Nat.le_of_ble_eq_true rfl)⟩ rfl hl.1 rfl (Nat.le_of_ble_eq_true rfl) dX1_earliestAt_26 ⟨(Nat.zero_le _), (Nat.zero_le _)⟩ ?_
        refine lv_aload_n hx hb dX1_earliestAt_29 rfl (lv_at hl 0 rfl) ?_
        refine va_get (D := E.1) (ci := 1) (v := .ref pa0) (C := RX1) (T := TX1) (N := 6) hx hb hts in_X1_earliestAt_X1 hown hK hP 0 rfl rfl 1 (by decide) q_1 (fun _ h9 => h9) rfl dX1_earliestAt_30 ?_
        refine lv_iload hx hb dX1_earliestAt_33 (lv_at hl 4 rfl) ?_
        refine lv_iload_n hx hb dX1_earliestAt_35 rfl (lv_at hl 1 rfl) ?_
        obtain ⟨r_11, h_10, hf⟩ := bd_s hf
        refine ca_V (As := [.int v4_5, .int a1]) (rest := [.int r_9]) ⟨hx, hb, hml, hown, hts⟩ ⟨hK, hN⟩ hP (c_Pa_between l E pa0 pa1 pa_sums v4_5 a1 r_11 h_10) [9, 10] rfl 4 9 rfl rfl rfl gX1_earliestAt_X4_between rfl rfl rfl rfl hd_Pa_between ⟨(Nat.le_of_ble_eq_true rfl), (Nat.le_of_ble_eq_true rfl)⟩ rfl hl.1 rfl (Nat.le_of_ble_eq_true rfl) dX1_earliestAt_36 ⟨(Nat.zero_le _), (Nat.zero_le _)⟩ ?_
        refine lv_iadd hx hb dX1_earliestAt_39 ?_
        refine lv_istore (lv' := [(5, .int (r_9 + r_11)), (0, .ref cl0), (1, .int a1), (2, .int v2_3), (3, .int v3_4), (4, .int v4_5)]) hx hb dX1_earliestAt_40 hl (by decide) rfl (fun ls hl => ?_)
        refine lv_iload hx hb dX1_earliestAt_42 (lv_at hl 0 rfl) ?_
        refine lv_iload_n hx hb dX1_earliestAt_44 rfl (lv_at hl 4 rfl) ?_
        refine lv_icmp_lt (tgt := 64) hx hb dX1_earliestAt_45 (by decide) (fun c_16 => ?_) (fun c_16 => ?_)
        · have hf := ite_t c_16 hf
          refine lv_iload hx hb dX1_earliestAt_64 (lv_at hl 5 rfl) ?_
          refine lv_istore_n (lv' := [(2, .int v4_5), (5, .int (r_9 + r_11)), (0, .ref cl0), (1, .int a1), (3, .int v3_4), (4, .int v4_5)]) hx hb dX1_earliestAt_66 rfl hl (by decide) rfl (fun ls hl => ?_)
          refine lv_iload hx hb dX1_earliestAt_67 (lv_at hl 1 rfl) ?_
          refine lv_istore_n (lv' := [(3, .int (r_9 + r_11)), (2, .int v4_5), (5, .int (r_9 + r_11)), (0, .ref cl0), (1, .int a1), (4, .int v4_5)]) hx hb dX1_earliestAt_69 rfl hl (by decide) rfl (fun ls hl => ?_)
          refine lv_iinc (v := (v4_5 + 1)) (lv' := [(4, .int (v4_5 + 1)), (3, .int (r_9 + r_11)), (2, .int v4_5), (5, .int (r_9 + r_11)), (0, .ref cl0), (1, .int a1)]) hx hb dX1_earliestAt_70 hl (k := 5) rfl rfl (by decide) rfl (fun ls hl => ?_)
          refine lv_goto (tgt := 11) hx hb dX1_earliestAt_73 (by decide) ?_
          exact ih_11 v4_5 (r_9 + r_11) (v4_5 + 1) (hc_11 _ (Option.some.inj hf).symm) _ (lv_sub hl [4, 5, 2, 1, 0] rfl)
        · have hf := ite_f c_16 hf
          refine lv_iload hx hb dX1_earliestAt_48 (lv_at hl 0 rfl) ?_
          refine lv_iload_n hx hb dX1_earliestAt_50 rfl (lv_at hl 4 rfl) ?_
          refine lv_icmp_ne (tgt := 70) hx hb dX1_earliestAt_51 (by decide) (fun c_15 => ?_) (fun c_15 => ?_)
          · have hf := ite_f c_15 hf
            refine lv_iinc (v := (v4_5 + 1)) (lv' := [(4, .int (v4_5 + 1)), (5, .int (r_9 + r_11)), (0, .ref cl0), (1, .int a1), (2, .int v2_3), (3, .int v3_4)]) hx hb dX1_earliestAt_70 hl (k := 5) rfl rfl (by decide) rfl (fun ls hl => ?_)
            refine lv_goto (tgt := 11) hx hb dX1_earliestAt_73 (by decide) ?_
            exact ih_11 v2_3 v3_4 (v4_5 + 1) (hc_11 _ (Option.some.inj hf).symm) _ (lv_sub hl [2, 3, 4, 5, 0] rfl)
          · have hf := ite_t c_15 hf
            refine lv_aload_n hx hb dX1_earliestAt_54 rfl (lv_at hl 1 rfl) ?_
            refine lv_iload hx hb dX1_earliestAt_55 (lv_at hl 5 rfl) ?_
            refine lv_iload_n hx hb dX1_earliestAt_57 rfl (lv_at hl 3 rfl) ?_
            obtain ⟨r_13, h_12, hf⟩ := bd_s hf
            refine ca_V (As := [.int v4_5, .int v2_3]) (rest := []) ⟨hx, hb, hml, hown, hts⟩ ⟨hK, hN⟩ hP (c_Cl_winsTie l E cl0 cl1 cl2 cl3 pl0 pl1 pl2 pl3 pl4 pa0 pa1 cl_greatestDelay cl_delays cl_fractions cl_heads pl_places pl_links pl_mostDrawn pl_ofTen pl_z pl_lengths pl_told pl_delays pl_fractions pa_sums v4_5 v2_3 r_13 h_12) [0, 1, 2, 3, 4, 5, 6, 7, 8, 9, 10] rfl 1 0 rfl rfl rfl gX1_earliestAt_X1_winsTie rfl rfl rfl rfl hd_Cl_winsTie ⟨(Nat.le_of_ble_eq_true rfl), (Nat.le_of_ble_eq_true rfl)⟩ rfl hl.1 rfl (Nat.le_of_ble_eq_true rfl) dX1_earliestAt_58 ⟨(Nat.zero_le _), (Nat.zero_le _)⟩ ?_
            refine lv_if_eq (tgt := 70) hx hb dX1_earliestAt_61 (by decide) (fun c_14 => ?_) (fun c_14 => ?_)
            · have hf := ite_t c_14 hf
              refine lv_iinc (v := (v4_5 + 1)) (lv' := [(4, .int (v4_5 + 1)), (5, .int (r_9 + r_11)), (0, .ref cl0), (1, .int a1), (2, .int v2_3), (3, .int v3_4)]) hx hb dX1_earliestAt_70 hl (k := 5) rfl rfl (by decide) rfl (fun ls hl => ?_)
              refine lv_goto (tgt := 11) hx hb dX1_earliestAt_73 (by decide) ?_
              exact ih_11 v2_3 v3_4 (v4_5 + 1) (hc_11 _ (Option.some.inj hf).symm) _ (lv_sub hl [2, 3, 4, 5, 0] rfl)
            · have hf := ite_f c_14 hf
              refine lv_iload hx hb dX1_earliestAt_64 (lv_at hl 5 rfl) ?_
              refine lv_istore_n (lv' := [(2, .int v4_5), (5, .int (r_9 + r_11)), (0, .ref cl0), (1, .int a1), (3, .int v3_4), (4, .int v4_5)]) hx hb dX1_earliestAt_66 rfl hl (by decide) rfl (fun ls hl => ?_)
              refine lv_iload hx hb dX1_earliestAt_67 (lv_at hl 1 rfl) ?_
              refine lv_istore_n (lv' := [(3, .int (r_9 + r_11)), (2, .int v4_5), (5, .int (r_9 + r_11)), (0, .ref cl0), (1, .int a1), (4, .int v4_5)]) hx hb dX1_earliestAt_69 rfl hl (by decide) rfl (fun ls hl => ?_)
              refine lv_iinc (v := (v4_5 + 1)) (lv' := [(4, .int (v4_5 + 1)), (3, .int (r_9 + r_11)), (2, .int v4_5), (5, .int (r_9 + r_11)), (0, .ref cl0), (1, .int a1)]) hx hb dX1_earliestAt_70 hl (k := 5) rfl rfl (by decide) rfl (fun ls hl => ?_)
              refine lv_goto (tgt := 11) hx hb dX1_earliestAt_73 (by decide) ?_
              exact ih_11 v4_5 (r_9 + r_11) (v4_5 + 1) (hc_11 _ (Option.some.inj hf).symm) _ (lv_sub hl [4, 5, 2, 1, 0] rfl)
  exact KL_11 _ a1 r_2 0 i_11 _ (lv_sub hl [3, 4, 2, 1, 0] rfl)
abbrev rm_Cl_settleBy : Room := { frames := 3, cells := 0, slots := 0, locals := 69 }
theorem hd_Cl_settleBy : hdOK yX1_settleBy 1 := by decide +kernel
theorem in_X1_settleBy_X1 : ∀ w ∈ wsX10, w ∈ wsX1_settleBy := by decide +kernel
set_option maxRecDepth 100000 in
set_option maxHeartbeats 4000000 in
theorem c_Cl_settleBy (l : Launch) (E : En4) (cl0 cl1 cl2 cl3 pl0 pl1 pl2 pl3 pl4 pa0 pa1 : Nat) (sz : Nat) (cl_greatestDelay : Int32) (cl_delays : Nat → Int32) (cl_fractions : Nat → Int32) (cl_heads : Nat → Int32) (pl_places : Int32) (pl_links : Int32) (pl_mostDrawn : Int32) (pl_ofTen : Int32) (pl_z : Int32) (pl_lengths : Nat → Int32) (pl_told : Nat → Int32) (pl_delays : Nat → Int32) (pl_fractions : Nat → Int32) (pa_sums : Nat → Int32) (a1 : Int32)  (res : Int32 × (Nat → Int32) × (Nat → Int32) × (Nat → Int32)) (hf : Cl_settleBy cl_greatestDelay cl_delays cl_fractions cl_heads pl_places pl_mostDrawn pl_ofTen pl_told pl_delays pl_fractions pa_sums a1 = some res) : Met l yX1_settleBy wsX1_settleBy rm_Cl_settleBy (pcM [.ref cl0, .int a1] E sz (w_Cl E cl0 cl1 cl2 cl3 pl0 pl1 pl2 pl3 pl4 pa0 pa1 cl_greatestDelay cl_delays cl_fractions cl_heads pl_places pl_links pl_mostDrawn pl_ofTen pl_z pl_lengths pl_told pl_delays pl_fractions pa_sums)) (QMv E sz (w_Cl E cl0 cl1 cl2 cl3 pl0 pl1 pl2 pl3 pl4 pa0 pa1 cl_greatestDelay cl_delays cl_fractions cl_heads pl_places pl_links pl_mostDrawn pl_ofTen pl_z pl_lengths pl_told pl_delays pl_fractions pa_sums) (fun (u : Int32 × (Nat → Int32) × (Nat → Int32) × (Nat → Int32)) => (w_Cl E cl0 cl1 cl2 cl3 pl0 pl1 pl2 pl3 pl4 pa0 pa1 u.1 u.2.1 u.2.2.1 u.2.2.2 pl_places pl_links pl_mostDrawn pl_ofTen pl_z pl_lengths pl_told pl_delays pl_fractions pa_sums)) res) 0 0 (va_A (w_Cl E cl0 cl1 cl2 cl3 pl0 pl1 pl2 pl3 pl4 pa0 pa1 cl_greatestDelay cl_delays cl_fractions cl_heads pl_places pl_links pl_mostDrawn pl_ofTen pl_z pl_lengths pl_told pl_delays pl_fractions pa_sums) sz) := by
  refine mk_Mv (cc := cX1_settleBy) (maxL := 3) (by decide) rfl (Nat.le_of_ble_eq_true rfl) ?_
  intro p e s m args below meth c Q A S hKN hA hret H locs ls hP hD hS hl
  obtain ⟨hx, hb, hml, hown, hts⟩ := S
  obtain ⟨hK, hN⟩ := hKN
  have hl : lv_has ls 3 [(0, .ref cl0), (1, .int a1)] := hl
  have q_0 := hts (.fieldLink RX1 21 "DelayClusters$Clustering" "plan" "LDelayClusters$Plan;") (by decide +kernel)
  have q_1 := hts (.fieldLink RX1 9 "DelayClusters$Clustering" "delays" "[I") (by decide +kernel)
  have q_2 := hts (.fieldLink RX1 15 "DelayClusters$Clustering" "fractions" "[I") (by decide +kernel)
  have q_3 := hts (.fieldLink RX1 18 "DelayClusters$Clustering" "heads" "[I") (by decide +kernel)
  unfold Cl_settleBy at hf
  refine lv_iconst (v := 0) hx hb dX1_settleBy_0 (by decide) ?_
  refine lv_istore_n (lv' := [(2, .int 0), (0, .ref cl0), (1, .int a1)]) hx hb dX1_settleBy_1 rfl hl (by decide) rfl (fun ls hl => ?_)
  obtain ⟨w_2, i_2, hf⟩ := bd_s hf
  have KX_2 : ∀ (cl_delays_13 : Nat → Int32) (cl_fractions_14 : Nat → Int32), (cl_delays_13, cl_fractions_14) = w_2 → ∀ (H : Heap) (locs : List Loc) (ls : Array Slot), va_P E.1 vwCl (w_Cl E cl0 cl1 cl2 cl3 pl0 pl1 pl2 pl3 pl4 pa0 pa1 cl_greatestDelay cl_delays_13 cl_fractions_14 cl_heads pl_places pl_links pl_mostDrawn pl_ofTen pl_z pl_lengths pl_told pl_delays pl_fractions pa_sums) H → va_D A (w_Cl E cl0 cl1 cl2 cl3 pl0 pl1 pl2 pl3 pl4 pa0 pa1 cl_greatestDelay cl_delays_13 cl_fractions_14 cl_heads pl_places pl_links pl_mostDrawn pl_ofTen pl_z pl_lengths pl_told pl_delays pl_fractions pa_sums) → va_S A s.heap H locs → lv_has ls 3 [(0, .ref cl0)] → W p l e rm_Cl_settleBy s m args below meth c H locs 0 0 Q (F0 m 49 ls []) := by
    intro cl_delays_13 cl_fractions_14 e_
    subst e_
    try dsimp only at hf
    intro H locs ls hP hD hS hl
    refine lv_aload_n hx hb dX1_settleBy_49 rfl (lv_at hl 0 rfl) ?_
    obtain ⟨cl_greatestDelay_16, h_15, hf⟩ := bd_s hf
    try dsimp only at hf
    refine ca_Mv (w2 := (w_Cl E cl0 cl1 cl2 cl3 pl0 pl1 pl2 pl3 pl4 pa0 pa1 cl_greatestDelay_16 cl_delays_13 cl_fractions_14 cl_heads pl_places pl_links pl_mostDrawn pl_ofTen pl_z pl_lengths pl_told pl_delays pl_fractions pa_sums)) (As := []) (rest := []) ⟨hx, hb, hml, hown, hts⟩ ⟨hK, hN⟩ hP hD hS hA (c_Cl_findGreatestDelay l E cl0 cl1 cl2 cl3 pl0 pl1 pl2 pl3 pl4 pa0 pa1 H.size cl_greatestDelay cl_delays_13 cl_fractions_14 cl_heads pl_places pl_links pl_mostDrawn pl_ofTen pl_z pl_lengths pl_told pl_delays pl_fractions pa_sums cl_greatestDelay_16 h_15) [0, 1, 2, 3, 4, 5, 6, 7, 8, 9, 10] [] [0, 1, 2, 3, 4, 5, 6, 7, 8, 9, 10] rfl rfl rfl rfl (by decide) rfl rfl 1 0 rfl rfl rfl gX1_settleBy_X1_findGreatestDelay rfl rfl rfl rfl hd_Cl_findGreatestDelay ⟨(Nat.le_of_ble_eq_true rfl), (Nat.le_of_ble_eq_true rfl)⟩ rfl hl.1 rfl (Nat.le_of_ble_eq_true rfl) dX1_settleBy_50 ⟨(Nat.zero_le _), (Nat.zero_le _)⟩ (fun H locs hP hD hS => ?_)
    refine lv_iconst (v := 0) hx hb dX1_settleBy_53 (by decide) ?_
    refine lv_istore_n (lv' := [(2, .int 0), (0, .ref cl0)]) hx hb dX1_settleBy_54 rfl hl (by decide) rfl (fun ls hl => ?_)
    obtain ⟨w_55, i_55, hf⟩ := bd_s hf
    have KX_55 : ∀ (cl_heads_25 : Nat → Int32), cl_heads_25 = w_55 → ∀ (H : Heap) (locs : List Loc) (ls : Array Slot), va_P E.1 vwCl (w_Cl E cl0 cl1 cl2 cl3 pl0 pl1 pl2 pl3 pl4 pa0 pa1 cl_greatestDelay_16 cl_delays_13 cl_fractions_14 cl_heads_25 pl_places pl_links pl_mostDrawn pl_ofTen pl_z pl_lengths pl_told pl_delays pl_fractions pa_sums) H → va_D A (w_Cl E cl0 cl1 cl2 cl3 pl0 pl1 pl2 pl3 pl4 pa0 pa1 cl_greatestDelay_16 cl_delays_13 cl_fractions_14 cl_heads_25 pl_places pl_links pl_mostDrawn pl_ofTen pl_z pl_lengths pl_told pl_delays pl_fractions pa_sums) → va_S A s.heap H locs → lv_has ls 3 [] → W p l e rm_Cl_settleBy s m args below meth c H locs 0 0 Q (F0 m 83 ls []) := by
      intro cl_heads_25 e_
      subst e_
      try dsimp only at hf
      intro H locs ls hP hD hS hl
      exact hret H locs ls 83 (cl_greatestDelay_16, cl_delays_13, cl_fractions_14, cl_heads_25) dX1_settleBy_83 (Option.some.inj hf) hP hD hS
    have KL_55 : ∀ (n_ : Nat) (v2_17 : Int32) (cl_heads_18 : Nat → Int32), it (Cl_settleBy_L55 pl_places pa_sums cl_delays_13 cl_fractions_14 cl_greatestDelay_16) n_ (v2_17, cl_heads_18) = some w_55 → ∀ (H : Heap) (locs : List Loc) (ls : Array Slot), va_P E.1 vwCl (w_Cl E cl0 cl1 cl2 cl3 pl0 pl1 pl2 pl3 pl4 pa0 pa1 cl_greatestDelay_16 cl_delays_13 cl_fractions_14 cl_heads_18 pl_places pl_links pl_mostDrawn pl_ofTen pl_z pl_lengths pl_told pl_delays pl_fractions pa_sums) H → va_D A (w_Cl E cl0 cl1 cl2 cl3 pl0 pl1 pl2 pl3 pl4 pa0 pa1 cl_greatestDelay_16 cl_delays_13 cl_fractions_14 cl_heads_18 pl_places pl_links pl_mostDrawn pl_ofTen pl_z pl_lengths pl_told pl_delays pl_fractions pa_sums) → va_S A s.heap H locs → lv_has ls 3 [(0, .ref cl0), (2, .int v2_17)] → W p l e rm_Cl_settleBy s m args below meth c H locs 0 0 Q (F0 m 55 ls []) := by
      intro n_
      induction n_ with
      | zero => intro v2_17 cl_heads_18 hit; exact (it_z hit).elim
      | succ n_55 ih_55 =>
        intro v2_17 cl_heads_18 hit
        intro H locs ls hP hD hS hl
        obtain ⟨x_55, hf, hc_55, hq_55⟩ := it_s hit
        dsimp only [Cl_settleBy_L55] at hf
        refine lv_iload_n hx hb dX1_settleBy_55 rfl (lv_at hl 1 rfl) ?_
        refine lv_aload_n hx hb dX1_settleBy_56 rfl (lv_at hl 0 rfl) ?_
        refine va_get (D := E.1) (ci := 1) (v := .ref pl0) (C := RX1) (T := TX1) (N := 6) hx hb hts in_X1_settleBy_X1 hown hK hP 0 rfl rfl 0 (by decide) q_0 (fun _ h9 => h9) rfl dX1_settleBy_57 ?_
        obtain ⟨r_20, h_19, hf⟩ := bd_s hf
        refine ca_V (As := []) (rest := [.int v2_17]) ⟨hx, hb, hml, hown, hts⟩ ⟨hK, hN⟩ hP (c_Pl_places l E pl0 pl1 pl2 pl3 pl4 pl_places pl_links pl_mostDrawn pl_ofTen pl_z pl_lengths pl_told pl_delays pl_fractions r_20 h_19) [4, 5, 6, 7, 8] rfl 5 4 rfl rfl rfl gX1_settleBy_X5_places rfl rfl rfl rfl hd_Pl_places ⟨(Nat.le_of_ble_eq_true rfl), (Nat.le_of_ble_eq_true rfl)⟩ rfl hl.1 rfl (Nat.le_of_ble_eq_true rfl) dX1_settleBy_60 ⟨(Nat.zero_le _), (Nat.zero_le _)⟩ ?_
        refine lv_icmp_ge (tgt := 83) hx hb dX1_settleBy_63 (by decide) (fun c_24 => ?_) (fun c_24 => ?_)
        · have hf := ite_t c_24 hf
          exact KX_55 cl_heads_18 (hq_55 _ (Option.some.inj hf).symm) H locs _ hP hD hS (lv_sub hl [] rfl)
        · have hf := ite_f c_24 hf
          refine lv_aload_n hx hb dX1_settleBy_66 rfl (lv_at hl 0 rfl) ?_
          refine va_get (D := E.1) (ci := 1) (v := .ref cl3) (C := RX1) (T := TX1) (N := 6) hx hb hts in_X1_settleBy_X1 hown hK hP 0 rfl rfl 4 (by decide) q_3 (fun _ h9 => h9) rfl dX1_settleBy_67 ?_
          refine lv_iload_n hx hb dX1_settleBy_70 rfl (lv_at hl 1 rfl) ?_
          refine lv_aload_n hx hb dX1_settleBy_71 rfl (lv_at hl 0 rfl) ?_
          refine lv_iload_n hx hb dX1_settleBy_72 rfl (lv_at hl 1 rfl) ?_
          obtain ⟨r_22, h_21, hf⟩ := bd_s hf
          refine ca_V (As := [.int v2_17]) (rest := [.int v2_17, .ref cl3]) ⟨hx, hb, hml, hown, hts⟩ ⟨hK, hN⟩ hP (c_Cl_earliestAt l E cl0 cl1 cl2 cl3 pl0 pl1 pl2 pl3 pl4 pa0 pa1 cl_greatestDelay_16 cl_delays_13 cl_fractions_14 cl_heads_18 pl_places pl_links pl_mostDrawn pl_ofTen pl_z pl_lengths pl_told pl_delays pl_fractions pa_sums v2_17 r_22 h_21) [0, 1, 2, 3, 4, 5, 6, 7, 8, 9, 10] rfl 1 0 rfl rfl rfl gX1_settleBy_X1_earliestAt rfl rfl rfl rfl hd_Cl_earliestAt ⟨(Nat.le_of_ble_eq_true rfl), (Nat.le_of_ble_eq_true rfl)⟩ rfl hl.1 rfl (Nat.le_of_ble_eq_true rfl) dX1_settleBy_73 ⟨(Nat.zero_le _), (Nat.zero_le _)⟩ ?_
          obtain ⟨g_23, hf⟩ := gk_s hf
          refine va_iast hx hb hK hP hD hS 3 0 rfl rfl g_23 dX1_settleBy_76 (fun H locs hP hD hS => ?_)
          have hP : va_P E.1 vwCl (w_Cl E cl0 cl1 cl2 cl3 pl0 pl1 pl2 pl3 pl4 pa0 pa1 cl_greatestDelay_16 cl_delays_13 cl_fractions_14 (upd cl_heads_18 v2_17.toNatClampNeg r_22) pl_places pl_links pl_mostDrawn pl_ofTen pl_z pl_lengths pl_told pl_delays pl_fractions pa_sums) H := hP
          have hD : va_D A (w_Cl E cl0 cl1 cl2 cl3 pl0 pl1 pl2 pl3 pl4 pa0 pa1 cl_greatestDelay_16 cl_delays_13 cl_fractions_14 (upd cl_heads_18 v2_17.toNatClampNeg r_22) pl_places pl_links pl_mostDrawn pl_ofTen pl_z pl_lengths pl_told pl_delays pl_fractions pa_sums) := hD
          refine lv_iinc (v := (v2_17 + 1)) (lv' := [(2, .int (v2_17 + 1)), (0, .ref cl0)]) hx hb dX1_settleBy_77 hl (k := 1) rfl rfl (by decide) rfl (fun ls hl => ?_)
          refine lv_goto (tgt := 55) hx hb dX1_settleBy_80 (by decide) ?_
          exact ih_55 (v2_17 + 1) (upd cl_heads_18 v2_17.toNatClampNeg r_22) (hc_55 _ (Option.some.inj hf).symm) H locs _ hP hD hS (lv_sub hl [1, 0] rfl)
    exact KL_55 _ 0 cl_heads i_55 H locs _ hP hD hS (lv_sub hl [1, 0] rfl)
  have KL_2 : ∀ (n_ : Nat) (v2_1 : Int32) (cl_delays_2 : Nat → Int32) (cl_fractions_3 : Nat → Int32), it (Cl_settleBy_L2 pl_places pl_mostDrawn pl_ofTen pl_told pl_delays pl_fractions a1) n_ (v2_1, cl_delays_2, cl_fractions_3) = some w_2 → ∀ (H : Heap) (locs : List Loc) (ls : Array Slot), va_P E.1 vwCl (w_Cl E cl0 cl1 cl2 cl3 pl0 pl1 pl2 pl3 pl4 pa0 pa1 cl_greatestDelay cl_delays_2 cl_fractions_3 cl_heads pl_places pl_links pl_mostDrawn pl_ofTen pl_z pl_lengths pl_told pl_delays pl_fractions pa_sums) H → va_D A (w_Cl E cl0 cl1 cl2 cl3 pl0 pl1 pl2 pl3 pl4 pa0 pa1 cl_greatestDelay cl_delays_2 cl_fractions_3 cl_heads pl_places pl_links pl_mostDrawn pl_ofTen pl_z pl_lengths pl_told pl_delays pl_fractions pa_sums) → va_S A s.heap H locs → lv_has ls 3 [(0, .ref cl0), (1, .int a1), (2, .int v2_1)] → W p l e rm_Cl_settleBy s m args below meth c H locs 0 0 Q (F0 m 2 ls []) := by
    intro n_
    induction n_ with
    | zero => intro v2_1 cl_delays_2 cl_fractions_3 hit; exact (it_z hit).elim
    | succ n_2 ih_2 =>
      intro v2_1 cl_delays_2 cl_fractions_3 hit
      intro H locs ls hP hD hS hl
      obtain ⟨x_2, hf, hc_2, hq_2⟩ := it_s hit
      dsimp only [Cl_settleBy_L2] at hf
      refine lv_iload_n hx hb dX1_settleBy_2 rfl (lv_at hl 2 rfl) ?_
      refine lv_aload_n hx hb dX1_settleBy_3 rfl (lv_at hl 0 rfl) ?_
      refine va_get (D := E.1) (ci := 1) (v := .ref pl0) (C := RX1) (T := TX1) (N := 6) hx hb hts in_X1_settleBy_X1 hown hK hP 0 rfl rfl 0 (by decide) q_0 (fun _ h9 => h9) rfl dX1_settleBy_4 ?_
      obtain ⟨r_5, h_4, hf⟩ := bd_s hf
      refine ca_V (As := []) (rest := [.int v2_1]) ⟨hx, hb, hml, hown, hts⟩ ⟨hK, hN⟩ hP (c_Pl_places l E pl0 pl1 pl2 pl3 pl4 pl_places pl_links pl_mostDrawn pl_ofTen pl_z pl_lengths pl_told pl_delays pl_fractions r_5 h_4) [4, 5, 6, 7, 8] rfl 5 4 rfl rfl rfl gX1_settleBy_X5_places rfl rfl rfl rfl hd_Pl_places ⟨(Nat.le_of_ble_eq_true rfl), (Nat.le_of_ble_eq_true rfl)⟩ rfl hl.1 rfl (Nat.le_of_ble_eq_true rfl) dX1_settleBy_7 ⟨(Nat.zero_le _), (Nat.zero_le _)⟩ ?_
      refine lv_icmp_ge (tgt := 49) hx hb dX1_settleBy_10 (by decide) (fun c_12 => ?_) (fun c_12 => ?_)
      · have hf := ite_t c_12 hf
        exact KX_2 cl_delays_2 cl_fractions_3 (hq_2 _ (Option.some.inj hf).symm) H locs _ hP hD hS (lv_sub hl [0] rfl)
      · have hf := ite_f c_12 hf
        refine lv_aload_n hx hb dX1_settleBy_13 rfl (lv_at hl 0 rfl) ?_
        refine va_get (D := E.1) (ci := 1) (v := .ref cl1) (C := RX1) (T := TX1) (N := 6) hx hb hts in_X1_settleBy_X1 hown hK hP 0 rfl rfl 2 (by decide) q_1 (fun _ h9 => h9) rfl dX1_settleBy_14 ?_
        refine lv_iload_n hx hb dX1_settleBy_17 rfl (lv_at hl 2 rfl) ?_
        refine lv_aload_n hx hb dX1_settleBy_18 rfl (lv_at hl 0 rfl) ?_
        refine va_get (D := E.1) (ci := 1) (v := .ref pl0) (C := RX1) (T := TX1) (N := 6) hx hb hts in_X1_settleBy_X1 hown hK hP 0 rfl rfl 0 (by decide) q_0 (fun _ h9 => h9) rfl dX1_settleBy_19 ?_
        refine lv_iload_n hx hb dX1_settleBy_22 rfl (lv_at hl 1 rfl) ?_
        refine lv_iload_n hx hb dX1_settleBy_23 rfl (lv_at hl 2 rfl) ?_
        obtain ⟨r_7, h_6, hf⟩ := bd_s hf
        refine ca_V (As := [.int a1, .int v2_1]) (rest := [.int v2_1, .ref cl1]) ⟨hx, hb, hml, hown, hts⟩ ⟨hK, hN⟩ hP (c_Pl_delayBy l E pl0 pl1 pl2 pl3 pl4 pl_places pl_links pl_mostDrawn pl_ofTen pl_z pl_lengths pl_told pl_delays pl_fractions a1 v2_1 r_7 h_6) [4, 5, 6, 7, 8] rfl 5 4 rfl rfl rfl gX1_settleBy_X5_delayBy rfl rfl rfl rfl hd_Pl_delayBy ⟨(Nat.le_of_ble_eq_true rfl), (Nat.le_of_ble_eq_true rfl)⟩ rfl hl.1 rfl (Nat.le_of_ble_eq_true rfl) dX1_settleBy_24 ⟨(Nat.zero_le _), (Nat.zero_le _)⟩ ?_
        obtain ⟨g_8, hf⟩ := gk_s hf
        refine va_iast hx hb hK hP hD hS 1 0 rfl rfl g_8 dX1_settleBy_27 (fun H locs hP hD hS => ?_)
        have hP : va_P E.1 vwCl (w_Cl E cl0 cl1 cl2 cl3 pl0 pl1 pl2 pl3 pl4 pa0 pa1 cl_greatestDelay (upd cl_delays_2 v2_1.toNatClampNeg r_7) cl_fractions_3 cl_heads pl_places pl_links pl_mostDrawn pl_ofTen pl_z pl_lengths pl_told pl_delays pl_fractions pa_sums) H := hP
        have hD : va_D A (w_Cl E cl0 cl1 cl2 cl3 pl0 pl1 pl2 pl3 pl4 pa0 pa1 cl_greatestDelay (upd cl_delays_2 v2_1.toNatClampNeg r_7) cl_fractions_3 cl_heads pl_places pl_links pl_mostDrawn pl_ofTen pl_z pl_lengths pl_told pl_delays pl_fractions pa_sums) := hD
        refine lv_aload_n hx hb dX1_settleBy_28 rfl (lv_at hl 0 rfl) ?_
        refine va_get (D := E.1) (ci := 1) (v := .ref cl2) (C := RX1) (T := TX1) (N := 6) hx hb hts in_X1_settleBy_X1 hown hK hP 0 rfl rfl 3 (by decide) q_2 (fun _ h9 => h9) rfl dX1_settleBy_29 ?_
        refine lv_iload_n hx hb dX1_settleBy_32 rfl (lv_at hl 2 rfl) ?_
        refine lv_aload_n hx hb dX1_settleBy_33 rfl (lv_at hl 0 rfl) ?_
        refine va_get (D := E.1) (ci := 1) (v := .ref pl0) (C := RX1) (T := TX1) (N := 6) hx hb hts in_X1_settleBy_X1 hown hK hP 0 rfl rfl 0 (by decide) q_0 (fun _ h9 => h9) rfl dX1_settleBy_34 ?_
        refine lv_iload_n hx hb dX1_settleBy_37 rfl (lv_at hl 1 rfl) ?_
        refine lv_iload_n hx hb dX1_settleBy_38 rfl (lv_at hl 2 rfl) ?_
        obtain ⟨r_10, h_9, hf⟩ := bd_s hf
        refine ca_V (As := [.int a1, .int v2_1]) (rest := [.int v2_1, .ref cl2]) ⟨hx, hb, hml, hown, hts⟩ ⟨hK, hN⟩ hP (c_Pl_fractionBy l E pl0 pl1 pl2 pl3 pl4 pl_places pl_links pl_mostDrawn pl_ofTen pl_z pl_lengths pl_told pl_delays pl_fractions a1 v2_1 r_10 h_9) [4, 5, 6, 7, 8] rfl 5 4 rfl rfl rfl gX1_settleBy_X5_fractionBy rfl rfl rfl rfl hd_Pl_fractionBy ⟨(Nat.le_of_ble_eq_true rfl), (Nat.le_of_ble_eq_true rfl)⟩ rfl hl.1 rfl (Nat.le_of_ble_eq_true rfl) dX1_settleBy_39 ⟨(Nat.zero_le _), (Nat.zero_le _)⟩ ?_
        obtain ⟨g_11, hf⟩ := gk_s hf
        refine va_iast hx hb hK hP hD hS 2 0 rfl rfl g_11 dX1_settleBy_42 (fun H locs hP hD hS => ?_)
        have hP : va_P E.1 vwCl (w_Cl E cl0 cl1 cl2 cl3 pl0 pl1 pl2 pl3 pl4 pa0 pa1 cl_greatestDelay (upd cl_delays_2 v2_1.toNatClampNeg r_7) (upd cl_fractions_3 v2_1.toNatClampNeg r_10) cl_heads pl_places pl_links pl_mostDrawn pl_ofTen pl_z pl_lengths pl_told pl_delays pl_fractions pa_sums) H := hP
        have hD : va_D A (w_Cl E cl0 cl1 cl2 cl3 pl0 pl1 pl2 pl3 pl4 pa0 pa1 cl_greatestDelay (upd cl_delays_2 v2_1.toNatClampNeg r_7) (upd cl_fractions_3 v2_1.toNatClampNeg r_10) cl_heads pl_places pl_links pl_mostDrawn pl_ofTen pl_z pl_lengths pl_told pl_delays pl_fractions pa_sums) := hD
        refine lv_iinc (v := (v2_1 + 1)) (lv' := [(2, .int (v2_1 + 1)), (0, .ref cl0), (1, .int a1)]) hx hb dX1_settleBy_43 hl (k := 2) rfl rfl (by decide) rfl (fun ls hl => ?_)
        refine lv_goto (tgt := 2) hx hb dX1_settleBy_46 (by decide) ?_
        exact ih_2 (v2_1 + 1) (upd cl_delays_2 v2_1.toNatClampNeg r_7) (upd cl_fractions_3 v2_1.toNatClampNeg r_10) (hc_2 _ (Option.some.inj hf).symm) H locs _ hP hD hS (lv_sub hl [1, 2, 0] rfl)
  exact KL_2 _ 0 cl_delays cl_fractions i_2 H locs _ hP hD hS (lv_sub hl [1, 2, 0] rfl)
abbrev rm_Cl_replaceDelay : Room := { frames := 2, cells := 0, slots := 0, locals := 69 }
theorem hd_Cl_replaceDelay : hdOK yX1_replaceDelay 2 := by decide +kernel
theorem in_X1_replaceDelay_X1 : ∀ w ∈ wsX10, w ∈ wsX1_replaceDelay := by decide +kernel
set_option maxRecDepth 100000 in
set_option maxHeartbeats 4000000 in
theorem c_Cl_replaceDelay (l : Launch) (E : En4) (cl0 cl1 cl2 cl3 pl0 pl1 pl2 pl3 pl4 pa0 pa1 : Nat) (sz : Nat) (cl_greatestDelay : Int32) (cl_delays : Nat → Int32) (cl_fractions : Nat → Int32) (cl_heads : Nat → Int32) (pl_places : Int32) (pl_links : Int32) (pl_mostDrawn : Int32) (pl_ofTen : Int32) (pl_z : Int32) (pl_lengths : Nat → Int32) (pl_told : Nat → Int32) (pl_delays : Nat → Int32) (pl_fractions : Nat → Int32) (pa_sums : Nat → Int32) (a1 : Int32) (a2 : Int32)  (res : Int32 × (Nat → Int32)) (hf : Cl_replaceDelay cl_greatestDelay cl_delays pl_places a1 a2 = some res) : Met l yX1_replaceDelay wsX1_replaceDelay rm_Cl_replaceDelay (pcM [.ref cl0, .int a1, .int a2] E sz (w_Cl E cl0 cl1 cl2 cl3 pl0 pl1 pl2 pl3 pl4 pa0 pa1 cl_greatestDelay cl_delays cl_fractions cl_heads pl_places pl_links pl_mostDrawn pl_ofTen pl_z pl_lengths pl_told pl_delays pl_fractions pa_sums)) (QMv E sz (w_Cl E cl0 cl1 cl2 cl3 pl0 pl1 pl2 pl3 pl4 pa0 pa1 cl_greatestDelay cl_delays cl_fractions cl_heads pl_places pl_links pl_mostDrawn pl_ofTen pl_z pl_lengths pl_told pl_delays pl_fractions pa_sums) (fun (u : Int32 × (Nat → Int32)) => (w_Cl E cl0 cl1 cl2 cl3 pl0 pl1 pl2 pl3 pl4 pa0 pa1 u.1 u.2 cl_fractions cl_heads pl_places pl_links pl_mostDrawn pl_ofTen pl_z pl_lengths pl_told pl_delays pl_fractions pa_sums)) res) 0 0 (va_A (w_Cl E cl0 cl1 cl2 cl3 pl0 pl1 pl2 pl3 pl4 pa0 pa1 cl_greatestDelay cl_delays cl_fractions cl_heads pl_places pl_links pl_mostDrawn pl_ofTen pl_z pl_lengths pl_told pl_delays pl_fractions pa_sums) sz) := by
  refine mk_Mv (cc := cX1_replaceDelay) (maxL := 3) (by decide) rfl (Nat.le_of_ble_eq_true rfl) ?_
  intro p e s m args below meth c Q A S hKN hA hret H locs ls hP hD hS hl
  obtain ⟨hx, hb, hml, hown, hts⟩ := S
  obtain ⟨hK, hN⟩ := hKN
  have hl : lv_has ls 3 [(0, .ref cl0), (1, .int a1), (2, .int a2)] := hl
  have q_0 := hts (.fieldLink RX1 9 "DelayClusters$Clustering" "delays" "[I") (by decide +kernel)
  unfold Cl_replaceDelay at hf
  refine lv_aload_n hx hb dX1_replaceDelay_0 rfl (lv_at hl 0 rfl) ?_
  refine va_get (D := E.1) (ci := 1) (v := .ref cl1) (C := RX1) (T := TX1) (N := 6) hx hb hts in_X1_replaceDelay_X1 hown hK hP 0 rfl rfl 2 (by decide) q_0 (fun _ h9 => h9) rfl dX1_replaceDelay_1 ?_
  refine lv_iload_n hx hb dX1_replaceDelay_4 rfl (lv_at hl 1 rfl) ?_
  refine lv_iload_n hx hb dX1_replaceDelay_5 rfl (lv_at hl 2 rfl) ?_
  obtain ⟨g_1, hf⟩ := gk_s hf
  refine va_iast hx hb hK hP hD hS 1 0 rfl rfl g_1 dX1_replaceDelay_6 (fun H locs hP hD hS => ?_)
  have hP : va_P E.1 vwCl (w_Cl E cl0 cl1 cl2 cl3 pl0 pl1 pl2 pl3 pl4 pa0 pa1 cl_greatestDelay (upd cl_delays a1.toNatClampNeg a2) cl_fractions cl_heads pl_places pl_links pl_mostDrawn pl_ofTen pl_z pl_lengths pl_told pl_delays pl_fractions pa_sums) H := hP
  have hD : va_D A (w_Cl E cl0 cl1 cl2 cl3 pl0 pl1 pl2 pl3 pl4 pa0 pa1 cl_greatestDelay (upd cl_delays a1.toNatClampNeg a2) cl_fractions cl_heads pl_places pl_links pl_mostDrawn pl_ofTen pl_z pl_lengths pl_told pl_delays pl_fractions pa_sums) := hD
  refine lv_aload_n hx hb dX1_replaceDelay_7 rfl (lv_at hl 0 rfl) ?_
  obtain ⟨cl_greatestDelay_3, h_2, hf⟩ := bd_s hf
  try dsimp only at hf
  refine ca_Mv (w2 := (w_Cl E cl0 cl1 cl2 cl3 pl0 pl1 pl2 pl3 pl4 pa0 pa1 cl_greatestDelay_3 (upd cl_delays a1.toNatClampNeg a2) cl_fractions cl_heads pl_places pl_links pl_mostDrawn pl_ofTen pl_z pl_lengths pl_told pl_delays pl_fractions pa_sums)) (As := []) (rest := []) ⟨hx, hb, hml, hown, hts⟩ ⟨hK, hN⟩ hP hD hS hA (c_Cl_findGreatestDelay l E cl0 cl1 cl2 cl3 pl0 pl1 pl2 pl3 pl4 pa0 pa1 H.size cl_greatestDelay (upd cl_delays a1.toNatClampNeg a2) cl_fractions cl_heads pl_places pl_links pl_mostDrawn pl_ofTen pl_z pl_lengths pl_told pl_delays pl_fractions pa_sums cl_greatestDelay_3 h_2) [0, 1, 2, 3, 4, 5, 6, 7, 8, 9, 10] [] [0, 1, 2, 3, 4, 5, 6, 7, 8, 9, 10] rfl rfl rfl rfl (by decide) rfl rfl 1 0 rfl rfl rfl gX1_replaceDelay_X1_findGreatestDelay rfl rfl rfl rfl hd_Cl_findGreatestDelay ⟨(Nat.le_of_ble_eq_true rfl), (Nat.le_of_ble_eq_true rfl)⟩ rfl hl.1 rfl (Nat.le_of_ble_eq_true rfl) dX1_replaceDelay_8 ⟨(Nat.zero_le _), (Nat.zero_le _)⟩ (fun H locs hP hD hS => ?_)
  exact hret H locs ls 11 (cl_greatestDelay_3, (upd cl_delays a1.toNatClampNeg a2)) dX1_replaceDelay_11 (Option.some.inj hf) hP hD hS
abbrev rm_Cl_delayOf : Room := { frames := 0, cells := 0, slots := 0, locals := 0 }
theorem hd_Cl_delayOf : hdOK yX1_delayOf 1 := by decide +kernel
theorem in_X1_delayOf_X1 : ∀ w ∈ wsX10, w ∈ wsX1_delayOf := by decide +kernel
set_option maxRecDepth 100000 in
set_option maxHeartbeats 4000000 in
theorem c_Cl_delayOf (l : Launch) (E : En4) (cl0 cl1 cl2 cl3 pl0 pl1 pl2 pl3 pl4 pa0 pa1 : Nat) (cl_greatestDelay : Int32) (cl_delays : Nat → Int32) (cl_fractions : Nat → Int32) (cl_heads : Nat → Int32) (pl_places : Int32) (pl_links : Int32) (pl_mostDrawn : Int32) (pl_ofTen : Int32) (pl_z : Int32) (pl_lengths : Nat → Int32) (pl_told : Nat → Int32) (pl_delays : Nat → Int32) (pl_fractions : Nat → Int32) (pa_sums : Nat → Int32) (a1 : Int32)  (res : Int32) (hf : Cl_delayOf cl_delays a1 = some res) : Met l yX1_delayOf wsX1_delayOf rm_Cl_delayOf (pcR [.ref cl0, .int a1] E (w_Cl E cl0 cl1 cl2 cl3 pl0 pl1 pl2 pl3 pl4 pa0 pa1 cl_greatestDelay cl_delays cl_fractions cl_heads pl_places pl_links pl_mostDrawn pl_ofTen pl_z pl_lengths pl_told pl_delays pl_fractions pa_sums)) (vp_Si (fun r => r = res)) 0 0 (fun _ => False) := by
  refine mk_Ri (cc := cX1_delayOf) (maxL := 2) (by decide) rfl (Nat.le_of_ble_eq_true rfl) ?_
  intro p e s m args below meth c Q S hKN hP hret ls hl
  obtain ⟨hx, hb, hml, hown, hts⟩ := S
  obtain ⟨hK, hN⟩ := hKN
  have hl : lv_has ls 2 [(0, .ref cl0), (1, .int a1)] := hl
  have q_0 := hts (.fieldLink RX1 9 "DelayClusters$Clustering" "delays" "[I") (by decide +kernel)
  unfold Cl_delayOf at hf
  refine lv_aload_n hx hb dX1_delayOf_0 rfl (lv_at hl 0 rfl) ?_
  refine va_get (D := E.1) (ci := 1) (v := .ref cl1) (C := RX1) (T := TX1) (N := 6) hx hb hts in_X1_delayOf_X1 hown hK hP 0 rfl rfl 2 (by decide) q_0 (fun _ h9 => h9) rfl dX1_delayOf_1 ?_
  refine lv_iload_n hx hb dX1_delayOf_4 rfl (lv_at hl 1 rfl) ?_
  obtain ⟨g_1, hf⟩ := gk_s hf
  refine va_iald hx hb hK hP 1 0 rfl rfl g_1 dX1_delayOf_5 ?_
  exact hret ls 6 (cl_delays a1.toNatClampNeg) dX1_delayOf_6 (Option.some.inj hf)
abbrev rm_Cl_fractionOf : Room := { frames := 0, cells := 0, slots := 0, locals := 0 }
theorem hd_Cl_fractionOf : hdOK yX1_fractionOf 1 := by decide +kernel
theorem in_X1_fractionOf_X1 : ∀ w ∈ wsX10, w ∈ wsX1_fractionOf := by decide +kernel
set_option maxRecDepth 100000 in
set_option maxHeartbeats 4000000 in
theorem c_Cl_fractionOf (l : Launch) (E : En4) (cl0 cl1 cl2 cl3 pl0 pl1 pl2 pl3 pl4 pa0 pa1 : Nat) (cl_greatestDelay : Int32) (cl_delays : Nat → Int32) (cl_fractions : Nat → Int32) (cl_heads : Nat → Int32) (pl_places : Int32) (pl_links : Int32) (pl_mostDrawn : Int32) (pl_ofTen : Int32) (pl_z : Int32) (pl_lengths : Nat → Int32) (pl_told : Nat → Int32) (pl_delays : Nat → Int32) (pl_fractions : Nat → Int32) (pa_sums : Nat → Int32) (a1 : Int32)  (res : Int32) (hf : Cl_fractionOf cl_fractions a1 = some res) : Met l yX1_fractionOf wsX1_fractionOf rm_Cl_fractionOf (pcR [.ref cl0, .int a1] E (w_Cl E cl0 cl1 cl2 cl3 pl0 pl1 pl2 pl3 pl4 pa0 pa1 cl_greatestDelay cl_delays cl_fractions cl_heads pl_places pl_links pl_mostDrawn pl_ofTen pl_z pl_lengths pl_told pl_delays pl_fractions pa_sums)) (vp_Si (fun r => r = res)) 0 0 (fun _ => False) := by
  refine mk_Ri (cc := cX1_fractionOf) (maxL := 2) (by decide) rfl (Nat.le_of_ble_eq_true rfl) ?_
  intro p e s m args below meth c Q S hKN hP hret ls hl
  obtain ⟨hx, hb, hml, hown, hts⟩ := S
  obtain ⟨hK, hN⟩ := hKN
  have hl : lv_has ls 2 [(0, .ref cl0), (1, .int a1)] := hl
  have q_0 := hts (.fieldLink RX1 15 "DelayClusters$Clustering" "fractions" "[I") (by decide +kernel)
  unfold Cl_fractionOf at hf
  refine lv_aload_n hx hb dX1_fractionOf_0 rfl (lv_at hl 0 rfl) ?_
  refine va_get (D := E.1) (ci := 1) (v := .ref cl2) (C := RX1) (T := TX1) (N := 6) hx hb hts in_X1_fractionOf_X1 hown hK hP 0 rfl rfl 3 (by decide) q_0 (fun _ h9 => h9) rfl dX1_fractionOf_1 ?_
  refine lv_iload_n hx hb dX1_fractionOf_4 rfl (lv_at hl 1 rfl) ?_
  obtain ⟨g_1, hf⟩ := gk_s hf
  refine va_iald hx hb hK hP 2 0 rfl rfl g_1 dX1_fractionOf_5 ?_
  exact hret ls 6 (cl_fractions a1.toNatClampNeg) dX1_fractionOf_6 (Option.some.inj hf)
abbrev rm_Cl_headOf : Room := { frames := 0, cells := 0, slots := 0, locals := 0 }
theorem hd_Cl_headOf : hdOK yX1_headOf 1 := by decide +kernel
theorem in_X1_headOf_X1 : ∀ w ∈ wsX10, w ∈ wsX1_headOf := by decide +kernel
set_option maxRecDepth 100000 in
set_option maxHeartbeats 4000000 in
theorem c_Cl_headOf (l : Launch) (E : En4) (cl0 cl1 cl2 cl3 pl0 pl1 pl2 pl3 pl4 pa0 pa1 : Nat) (cl_greatestDelay : Int32) (cl_delays : Nat → Int32) (cl_fractions : Nat → Int32) (cl_heads : Nat → Int32) (pl_places : Int32) (pl_links : Int32) (pl_mostDrawn : Int32) (pl_ofTen : Int32) (pl_z : Int32) (pl_lengths : Nat → Int32) (pl_told : Nat → Int32) (pl_delays : Nat → Int32) (pl_fractions : Nat → Int32) (pa_sums : Nat → Int32) (a1 : Int32)  (res : Int32) (hf : Cl_headOf cl_heads a1 = some res) : Met l yX1_headOf wsX1_headOf rm_Cl_headOf (pcR [.ref cl0, .int a1] E (w_Cl E cl0 cl1 cl2 cl3 pl0 pl1 pl2 pl3 pl4 pa0 pa1 cl_greatestDelay cl_delays cl_fractions cl_heads pl_places pl_links pl_mostDrawn pl_ofTen pl_z pl_lengths pl_told pl_delays pl_fractions pa_sums)) (vp_Si (fun r => r = res)) 0 0 (fun _ => False) := by
  refine mk_Ri (cc := cX1_headOf) (maxL := 2) (by decide) rfl (Nat.le_of_ble_eq_true rfl) ?_
  intro p e s m args below meth c Q S hKN hP hret ls hl
  obtain ⟨hx, hb, hml, hown, hts⟩ := S
  obtain ⟨hK, hN⟩ := hKN
  have hl : lv_has ls 2 [(0, .ref cl0), (1, .int a1)] := hl
  have q_0 := hts (.fieldLink RX1 18 "DelayClusters$Clustering" "heads" "[I") (by decide +kernel)
  unfold Cl_headOf at hf
  refine lv_aload_n hx hb dX1_headOf_0 rfl (lv_at hl 0 rfl) ?_
  refine va_get (D := E.1) (ci := 1) (v := .ref cl3) (C := RX1) (T := TX1) (N := 6) hx hb hts in_X1_headOf_X1 hown hK hP 0 rfl rfl 4 (by decide) q_0 (fun _ h9 => h9) rfl dX1_headOf_1 ?_
  refine lv_iload_n hx hb dX1_headOf_4 rfl (lv_at hl 1 rfl) ?_
  obtain ⟨g_1, hf⟩ := gk_s hf
  refine va_iald hx hb hK hP 3 0 rfl rfl g_1 dX1_headOf_5 ?_
  exact hret ls 6 (cl_heads a1.toNatClampNeg) dX1_headOf_6 (Option.some.inj hf)
abbrev rm_Cl_depthOf : Room := { frames := 1, cells := 0, slots := 0, locals := 22 }
theorem hd_Cl_depthOf : hdOK yX1_depthOf 1 := by decide +kernel
theorem in_X1_depthOf_X1 : ∀ w ∈ wsX10, w ∈ wsX1_depthOf := by decide +kernel
set_option maxRecDepth 100000 in
set_option maxHeartbeats 4000000 in
theorem c_Cl_depthOf (l : Launch) (E : En4) (cl0 cl1 cl2 cl3 pl0 pl1 pl2 pl3 pl4 pa0 pa1 : Nat) (cl_greatestDelay : Int32) (cl_delays : Nat → Int32) (cl_fractions : Nat → Int32) (cl_heads : Nat → Int32) (pl_places : Int32) (pl_links : Int32) (pl_mostDrawn : Int32) (pl_ofTen : Int32) (pl_z : Int32) (pl_lengths : Nat → Int32) (pl_told : Nat → Int32) (pl_delays : Nat → Int32) (pl_fractions : Nat → Int32) (pa_sums : Nat → Int32) (a1 : Int32)  (res : Int32) (hf : Cl_depthOf cl_heads pa_sums a1 = some res) : Met l yX1_depthOf wsX1_depthOf rm_Cl_depthOf (pcR [.ref cl0, .int a1] E (w_Cl E cl0 cl1 cl2 cl3 pl0 pl1 pl2 pl3 pl4 pa0 pa1 cl_greatestDelay cl_delays cl_fractions cl_heads pl_places pl_links pl_mostDrawn pl_ofTen pl_z pl_lengths pl_told pl_delays pl_fractions pa_sums)) (vp_Si (fun r => r = res)) 0 0 (fun _ => False) := by
  refine mk_Ri (cc := cX1_depthOf) (maxL := 2) (by decide) rfl (Nat.le_of_ble_eq_true rfl) ?_
  intro p e s m args below meth c Q S hKN hP hret ls hl
  obtain ⟨hx, hb, hml, hown, hts⟩ := S
  obtain ⟨hK, hN⟩ := hKN
  have hl : lv_has ls 2 [(0, .ref cl0), (1, .int a1)] := hl
  have q_0 := hts (.fieldLink RX1 25 "DelayClusters$Clustering" "paths" "LDelayClusters$Paths;") (by decide +kernel)
  have q_1 := hts (.fieldLink RX1 18 "DelayClusters$Clustering" "heads" "[I") (by decide +kernel)
  unfold Cl_depthOf at hf
  refine lv_aload_n hx hb dX1_depthOf_0 rfl (lv_at hl 0 rfl) ?_
  refine va_get (D := E.1) (ci := 1) (v := .ref pa0) (C := RX1) (T := TX1) (N := 6) hx hb hts in_X1_depthOf_X1 hown hK hP 0 rfl rfl 1 (by decide) q_0 (fun _ h9 => h9) rfl dX1_depthOf_1 ?_
  refine lv_aload_n hx hb dX1_depthOf_4 rfl (lv_at hl 0 rfl) ?_
  refine va_get (D := E.1) (ci := 1) (v := .ref cl3) (C := RX1) (T := TX1) (N := 6) hx hb hts in_X1_depthOf_X1 hown hK hP 0 rfl rfl 4 (by decide) q_1 (fun _ h9 => h9) rfl dX1_depthOf_5 ?_
  refine lv_iload_n hx hb dX1_depthOf_8 rfl (lv_at hl 1 rfl) ?_
  obtain ⟨g_1, hf⟩ := gk_s hf
  refine va_iald hx hb hK hP 3 0 rfl rfl g_1 dX1_depthOf_9 ?_
  refine lv_iload_n hx hb dX1_depthOf_10 rfl (lv_at hl 1 rfl) ?_
  obtain ⟨r_3, h_2, hf⟩ := bd_s hf
  refine ca_V (As := [.int (cl_heads a1.toNatClampNeg), .int a1]) (rest := []) ⟨hx, hb, hml, hown, hts⟩ ⟨hK, hN⟩ hP (c_Pa_between l E pa0 pa1 pa_sums (cl_heads a1.toNatClampNeg) a1 r_3 h_2) [9, 10] rfl 4 9 rfl rfl rfl gX1_depthOf_X4_between rfl rfl rfl rfl hd_Pa_between ⟨(Nat.le_of_ble_eq_true rfl), (Nat.le_of_ble_eq_true rfl)⟩ rfl hl.1 rfl (Nat.le_of_ble_eq_true rfl) dX1_depthOf_11 ⟨(Nat.zero_le _), (Nat.zero_le _)⟩ ?_
  exact hret ls 14 r_3 dX1_depthOf_14 (Option.some.inj hf)
abbrev rm_Cl_hourOf : Room := { frames := 2, cells := 0, slots := 0, locals := 43 }
theorem hd_Cl_hourOf : hdOK yX1_hourOf 1 := by decide +kernel
theorem in_X1_hourOf_X1 : ∀ w ∈ wsX10, w ∈ wsX1_hourOf := by decide +kernel
set_option maxRecDepth 100000 in
set_option maxHeartbeats 4000000 in
theorem c_Cl_hourOf (l : Launch) (E : En4) (cl0 cl1 cl2 cl3 pl0 pl1 pl2 pl3 pl4 pa0 pa1 : Nat) (cl_greatestDelay : Int32) (cl_delays : Nat → Int32) (cl_fractions : Nat → Int32) (cl_heads : Nat → Int32) (pl_places : Int32) (pl_links : Int32) (pl_mostDrawn : Int32) (pl_ofTen : Int32) (pl_z : Int32) (pl_lengths : Nat → Int32) (pl_told : Nat → Int32) (pl_delays : Nat → Int32) (pl_fractions : Nat → Int32) (pa_sums : Nat → Int32) (a1 : Int32)  (res : Int32) (hf : Cl_hourOf cl_greatestDelay cl_delays cl_heads pa_sums a1 = some res) : Met l yX1_hourOf wsX1_hourOf rm_Cl_hourOf (pcR [.ref cl0, .int a1] E (w_Cl E cl0 cl1 cl2 cl3 pl0 pl1 pl2 pl3 pl4 pa0 pa1 cl_greatestDelay cl_delays cl_fractions cl_heads pl_places pl_links pl_mostDrawn pl_ofTen pl_z pl_lengths pl_told pl_delays pl_fractions pa_sums)) (vp_Si (fun r => r = res)) 0 0 (fun _ => False) := by
  refine mk_Ri (cc := cX1_hourOf) (maxL := 2) (by decide) rfl (Nat.le_of_ble_eq_true rfl) ?_
  intro p e s m args below meth c Q S hKN hP hret ls hl
  obtain ⟨hx, hb, hml, hown, hts⟩ := S
  obtain ⟨hK, hN⟩ := hKN
  have hl : lv_has ls 2 [(0, .ref cl0), (1, .int a1)] := hl
  have q_0 := hts (.fieldLink RX1 18 "DelayClusters$Clustering" "heads" "[I") (by decide +kernel)
  unfold Cl_hourOf at hf
  refine lv_aload_n hx hb dX1_hourOf_0 rfl (lv_at hl 0 rfl) ?_
  refine lv_aload_n hx hb dX1_hourOf_1 rfl (lv_at hl 0 rfl) ?_
  refine va_get (D := E.1) (ci := 1) (v := .ref cl3) (C := RX1) (T := TX1) (N := 6) hx hb hts in_X1_hourOf_X1 hown hK hP 0 rfl rfl 4 (by decide) q_0 (fun _ h9 => h9) rfl dX1_hourOf_2 ?_
  refine lv_iload_n hx hb dX1_hourOf_5 rfl (lv_at hl 1 rfl) ?_
  obtain ⟨g_1, hf⟩ := gk_s hf
  refine va_iald hx hb hK hP 3 0 rfl rfl g_1 dX1_hourOf_6 ?_
  obtain ⟨r_3, h_2, hf⟩ := bd_s hf
  refine ca_V (As := [.int (cl_heads a1.toNatClampNeg)]) (rest := []) ⟨hx, hb, hml, hown, hts⟩ ⟨hK, hN⟩ hP (c_Cl_startOf l E cl0 cl1 cl2 cl3 pl0 pl1 pl2 pl3 pl4 pa0 pa1 cl_greatestDelay cl_delays cl_fractions cl_heads pl_places pl_links pl_mostDrawn pl_ofTen pl_z pl_lengths pl_told pl_delays pl_fractions pa_sums (cl_heads a1.toNatClampNeg) r_3 h_2) [0, 1, 2, 3, 4, 5, 6, 7, 8, 9, 10] rfl 1 0 rfl rfl rfl gX1_hourOf_X1_startOf rfl rfl rfl rfl hd_Cl_startOf ⟨(Nat.le_of_ble_eq_true rfl), (Nat.le_of_ble_eq_true rfl)⟩ rfl hl.1 rfl (Nat.le_of_ble_eq_true rfl) dX1_hourOf_7 ⟨(Nat.zero_le _), (Nat.zero_le _)⟩ ?_
  refine lv_aload_n hx hb dX1_hourOf_10 rfl (lv_at hl 0 rfl) ?_
  refine lv_iload_n hx hb dX1_hourOf_11 rfl (lv_at hl 1 rfl) ?_
  obtain ⟨r_5, h_4, hf⟩ := bd_s hf
  refine ca_V (As := [.int a1]) (rest := [.int r_3]) ⟨hx, hb, hml, hown, hts⟩ ⟨hK, hN⟩ hP (c_Cl_depthOf l E cl0 cl1 cl2 cl3 pl0 pl1 pl2 pl3 pl4 pa0 pa1 cl_greatestDelay cl_delays cl_fractions cl_heads pl_places pl_links pl_mostDrawn pl_ofTen pl_z pl_lengths pl_told pl_delays pl_fractions pa_sums a1 r_5 h_4) [0, 1, 2, 3, 4, 5, 6, 7, 8, 9, 10] rfl 1 0 rfl rfl rfl gX1_hourOf_X1_depthOf rfl rfl rfl rfl hd_Cl_depthOf ⟨(Nat.le_of_ble_eq_true rfl), (Nat.le_of_ble_eq_true rfl)⟩ rfl hl.1 rfl (Nat.le_of_ble_eq_true rfl) dX1_hourOf_12 ⟨(Nat.zero_le _), (Nat.zero_le _)⟩ ?_
  refine lv_iadd hx hb dX1_hourOf_15 ?_
  exact hret ls 16 (r_3 + r_5) dX1_hourOf_16 (Option.some.inj hf)
abbrev rm_Cl_isHead : Room := { frames := 0, cells := 0, slots := 0, locals := 0 }
theorem hd_Cl_isHead : hdOK yX1_isHead 1 := by decide +kernel
theorem in_X1_isHead_X1 : ∀ w ∈ wsX10, w ∈ wsX1_isHead := by decide +kernel
set_option maxRecDepth 100000 in
set_option maxHeartbeats 4000000 in
theorem c_Cl_isHead (l : Launch) (E : En4) (cl0 cl1 cl2 cl3 pl0 pl1 pl2 pl3 pl4 pa0 pa1 : Nat) (cl_greatestDelay : Int32) (cl_delays : Nat → Int32) (cl_fractions : Nat → Int32) (cl_heads : Nat → Int32) (pl_places : Int32) (pl_links : Int32) (pl_mostDrawn : Int32) (pl_ofTen : Int32) (pl_z : Int32) (pl_lengths : Nat → Int32) (pl_told : Nat → Int32) (pl_delays : Nat → Int32) (pl_fractions : Nat → Int32) (pa_sums : Nat → Int32) (a1 : Int32)  (res : Int32) (hf : Cl_isHead cl_heads a1 = some res) : Met l yX1_isHead wsX1_isHead rm_Cl_isHead (pcR [.ref cl0, .int a1] E (w_Cl E cl0 cl1 cl2 cl3 pl0 pl1 pl2 pl3 pl4 pa0 pa1 cl_greatestDelay cl_delays cl_fractions cl_heads pl_places pl_links pl_mostDrawn pl_ofTen pl_z pl_lengths pl_told pl_delays pl_fractions pa_sums)) (vp_Si (fun r => r = res)) 0 0 (fun _ => False) := by
  refine mk_Rz (cc := cX1_isHead) (maxL := 2) (by decide) rfl (Nat.le_of_ble_eq_true rfl) ?_
  intro p e s m args below meth c Q S hKN hP hret ls hl
  obtain ⟨hx, hb, hml, hown, hts⟩ := S
  obtain ⟨hK, hN⟩ := hKN
  have hl : lv_has ls 2 [(0, .ref cl0), (1, .int a1)] := hl
  have q_0 := hts (.fieldLink RX1 18 "DelayClusters$Clustering" "heads" "[I") (by decide +kernel)
  unfold Cl_isHead at hf
  refine lv_aload_n hx hb dX1_isHead_0 rfl (lv_at hl 0 rfl) ?_
  refine va_get (D := E.1) (ci := 1) (v := .ref cl3) (C := RX1) (T := TX1) (N := 6) hx hb hts in_X1_isHead_X1 hown hK hP 0 rfl rfl 4 (by decide) q_0 (fun _ h9 => h9) rfl dX1_isHead_1 ?_
  refine lv_iload_n hx hb dX1_isHead_4 rfl (lv_at hl 1 rfl) ?_
  obtain ⟨g_1, hf⟩ := gk_s hf
  refine va_iald hx hb hK hP 3 0 rfl rfl g_1 dX1_isHead_5 ?_
  refine lv_iload_n hx hb dX1_isHead_6 rfl (lv_at hl 1 rfl) ?_
  refine lv_icmp_ne (tgt := 14) hx hb dX1_isHead_7 (by decide) (fun c_2 => ?_) (fun c_2 => ?_)
  · have hf := ite_f c_2 hf
    refine lv_iconst (v := 0) hx hb dX1_isHead_14 (by decide) ?_
    exact hret ls 15 0 dX1_isHead_15 (by decide) (Option.some.inj hf)
  · have hf := ite_t c_2 hf
    refine lv_iconst (v := 1) hx hb dX1_isHead_10 (by decide) ?_
    refine lv_goto (tgt := 15) hx hb dX1_isHead_11 (by decide) ?_
    exact hret ls 15 1 dX1_isHead_15 (by decide) (Option.some.inj hf)
abbrev rm_Cl_isCut : Room := { frames := 0, cells := 0, slots := 0, locals := 0 }
theorem hd_Cl_isCut : hdOK yX1_isCut 2 := by decide +kernel
theorem in_X1_isCut_X1 : ∀ w ∈ wsX10, w ∈ wsX1_isCut := by decide +kernel
set_option maxRecDepth 100000 in
set_option maxHeartbeats 4000000 in
theorem c_Cl_isCut (l : Launch) (E : En4) (cl0 cl1 cl2 cl3 pl0 pl1 pl2 pl3 pl4 pa0 pa1 : Nat) (cl_greatestDelay : Int32) (cl_delays : Nat → Int32) (cl_fractions : Nat → Int32) (cl_heads : Nat → Int32) (pl_places : Int32) (pl_links : Int32) (pl_mostDrawn : Int32) (pl_ofTen : Int32) (pl_z : Int32) (pl_lengths : Nat → Int32) (pl_told : Nat → Int32) (pl_delays : Nat → Int32) (pl_fractions : Nat → Int32) (pa_sums : Nat → Int32) (a1 : Int32) (a2 : Int32)  (res : Int32) (hf : Cl_isCut cl_heads a1 a2 = some res) : Met l yX1_isCut wsX1_isCut rm_Cl_isCut (pcR [.ref cl0, .int a1, .int a2] E (w_Cl E cl0 cl1 cl2 cl3 pl0 pl1 pl2 pl3 pl4 pa0 pa1 cl_greatestDelay cl_delays cl_fractions cl_heads pl_places pl_links pl_mostDrawn pl_ofTen pl_z pl_lengths pl_told pl_delays pl_fractions pa_sums)) (vp_Si (fun r => r = res)) 0 0 (fun _ => False) := by
  refine mk_Rz (cc := cX1_isCut) (maxL := 3) (by decide) rfl (Nat.le_of_ble_eq_true rfl) ?_
  intro p e s m args below meth c Q S hKN hP hret ls hl
  obtain ⟨hx, hb, hml, hown, hts⟩ := S
  obtain ⟨hK, hN⟩ := hKN
  have hl : lv_has ls 3 [(0, .ref cl0), (1, .int a1), (2, .int a2)] := hl
  have q_0 := hts (.fieldLink RX1 18 "DelayClusters$Clustering" "heads" "[I") (by decide +kernel)
  unfold Cl_isCut at hf
  refine lv_aload_n hx hb dX1_isCut_0 rfl (lv_at hl 0 rfl) ?_
  refine va_get (D := E.1) (ci := 1) (v := .ref cl3) (C := RX1) (T := TX1) (N := 6) hx hb hts in_X1_isCut_X1 hown hK hP 0 rfl rfl 4 (by decide) q_0 (fun _ h9 => h9) rfl dX1_isCut_1 ?_
  refine lv_iload_n hx hb dX1_isCut_4 rfl (lv_at hl 1 rfl) ?_
  obtain ⟨g_1, hf⟩ := gk_s hf
  refine va_iald hx hb hK hP 3 0 rfl rfl g_1 dX1_isCut_5 ?_
  refine lv_aload_n hx hb dX1_isCut_6 rfl (lv_at hl 0 rfl) ?_
  refine va_get (D := E.1) (ci := 1) (v := .ref cl3) (C := RX1) (T := TX1) (N := 6) hx hb hts in_X1_isCut_X1 hown hK hP 0 rfl rfl 4 (by decide) q_0 (fun _ h9 => h9) rfl dX1_isCut_7 ?_
  refine lv_iload_n hx hb dX1_isCut_10 rfl (lv_at hl 2 rfl) ?_
  obtain ⟨g_2, hf⟩ := gk_s hf
  refine va_iald hx hb hK hP 3 0 rfl rfl g_2 dX1_isCut_11 ?_
  refine lv_icmp_eq (tgt := 19) hx hb dX1_isCut_12 (by decide) (fun c_3 => ?_) (fun c_3 => ?_)
  · have hf := ite_t c_3 hf
    refine lv_iconst (v := 0) hx hb dX1_isCut_19 (by decide) ?_
    exact hret ls 20 0 dX1_isCut_20 (by decide) (Option.some.inj hf)
  · have hf := ite_f c_3 hf
    refine lv_iconst (v := 1) hx hb dX1_isCut_15 (by decide) ?_
    refine lv_goto (tgt := 20) hx hb dX1_isCut_16 (by decide) ?_
    exact hret ls 20 1 dX1_isCut_20 (by decide) (Option.some.inj hf)
abbrev rm_Cl_upOf : Room := { frames := 2, cells := 0, slots := 0, locals := 43 }
theorem hd_Cl_upOf : hdOK yX1_upOf 1 := by decide +kernel
theorem in_X1_upOf_X1 : ∀ w ∈ wsX10, w ∈ wsX1_upOf := by decide +kernel
set_option maxRecDepth 100000 in
set_option maxHeartbeats 4000000 in
theorem c_Cl_upOf (l : Launch) (E : En4) (cl0 cl1 cl2 cl3 pl0 pl1 pl2 pl3 pl4 pa0 pa1 : Nat) (cl_greatestDelay : Int32) (cl_delays : Nat → Int32) (cl_fractions : Nat → Int32) (cl_heads : Nat → Int32) (pl_places : Int32) (pl_links : Int32) (pl_mostDrawn : Int32) (pl_ofTen : Int32) (pl_z : Int32) (pl_lengths : Nat → Int32) (pl_told : Nat → Int32) (pl_delays : Nat → Int32) (pl_fractions : Nat → Int32) (pa_sums : Nat → Int32) (a1 : Int32)  (res : Int32) (hf : Cl_upOf cl_heads pl_places pl_lengths pa_sums a1 = some res) : Met l yX1_upOf wsX1_upOf rm_Cl_upOf (pcR [.ref cl0, .int a1] E (w_Cl E cl0 cl1 cl2 cl3 pl0 pl1 pl2 pl3 pl4 pa0 pa1 cl_greatestDelay cl_delays cl_fractions cl_heads pl_places pl_links pl_mostDrawn pl_ofTen pl_z pl_lengths pl_told pl_delays pl_fractions pa_sums)) (vp_Si (fun r => r = res)) 0 0 (fun _ => False) := by
  refine mk_Ri (cc := cX1_upOf) (maxL := 4) (by decide) rfl (Nat.le_of_ble_eq_true rfl) ?_
  intro p e s m args below meth c Q S hKN hP hret ls hl
  obtain ⟨hx, hb, hml, hown, hts⟩ := S
  obtain ⟨hK, hN⟩ := hKN
  have hl : lv_has ls 4 [(0, .ref cl0), (1, .int a1)] := hl
  have q_0 := hts (.fieldLink RX1 21 "DelayClusters$Clustering" "plan" "LDelayClusters$Plan;") (by decide +kernel)
  unfold Cl_upOf at hf
  refine lv_aload_n hx hb dX1_upOf_0 rfl (lv_at hl 0 rfl) ?_
  refine lv_iload_n hx hb dX1_upOf_1 rfl (lv_at hl 1 rfl) ?_
  obtain ⟨r_2, h_1, hf⟩ := bd_s hf
  refine ca_V (As := [.int a1]) (rest := []) ⟨hx, hb, hml, hown, hts⟩ ⟨hK, hN⟩ hP (c_Cl_isHead l E cl0 cl1 cl2 cl3 pl0 pl1 pl2 pl3 pl4 pa0 pa1 cl_greatestDelay cl_delays cl_fractions cl_heads pl_places pl_links pl_mostDrawn pl_ofTen pl_z pl_lengths pl_told pl_delays pl_fractions pa_sums a1 r_2 h_1) [0, 1, 2, 3, 4, 5, 6, 7, 8, 9, 10] rfl 1 0 rfl rfl rfl gX1_upOf_X1_isHead rfl rfl rfl rfl hd_Cl_isHead ⟨(Nat.le_of_ble_eq_true rfl), (Nat.le_of_ble_eq_true rfl)⟩ rfl hl.1 rfl (Nat.le_of_ble_eq_true rfl) dX1_upOf_2 ⟨(Nat.zero_le _), (Nat.zero_le _)⟩ ?_
  refine lv_if_eq (tgt := 11) hx hb dX1_upOf_5 (by decide) (fun c_18 => ?_) (fun c_18 => ?_)
  · have hf := ite_t c_18 hf
    refine lv_iconst (v := 0) hx hb dX1_upOf_11 (by decide) ?_
    refine lv_istore_n (lv' := [(2, .int 0), (0, .ref cl0), (1, .int a1)]) hx hb dX1_upOf_12 rfl hl (by decide) rfl (fun ls hl => ?_)
    obtain ⟨w_13, i_13, hf⟩ := bd_s hf
    have KE_13 : ∀ y_, Sum.inr y_ = w_13 → some y_ = some res := by intro y_ e_; subst e_; exact hf
    have KX_13 : Sum.inl () = w_13 → ∀ (ls : Array Slot), lv_has ls 4 [] → W p l e rm_Cl_upOf s m args below meth c s.heap [] 0 0 Q (F0 m 70 ls []) := by
      intro e_
      subst e_
      try dsimp only at hf
      intro ls hl
      refine lv_bipush (v := (-4)) hx hb dX1_upOf_70 (by decide) ?_
      exact hret ls 72 (-4) dX1_upOf_72 (Option.some.inj hf)
    have KL_13 : ∀ (n_ : Nat) (v2_3 : Int32), it (Cl_upOf_L13 cl_heads pl_places pl_lengths pa_sums a1) n_ v2_3 = some w_13 → ∀ (ls : Array Slot), lv_has ls 4 [(0, .ref cl0), (1, .int a1), (2, .int v2_3)] → W p l e rm_Cl_upOf s m args below meth c s.heap [] 0 0 Q (F0 m 13 ls []) := by
      intro n_
      induction n_ with
      | zero => intro v2_3 hit; exact (it_z hit).elim
      | succ n_13 ih_13 =>
        intro v2_3 hit
        intro ls hl
        obtain ⟨x_13, hf, hc_13, hq_13⟩ := it_s hit
        dsimp only [Cl_upOf_L13] at hf
        refine lv_iload_n hx hb dX1_upOf_13 rfl (lv_at hl 2 rfl) ?_
        refine lv_aload_n hx hb dX1_upOf_14 rfl (lv_at hl 0 rfl) ?_
        refine va_get (D := E.1) (ci := 1) (v := .ref pl0) (C := RX1) (T := TX1) (N := 6) hx hb hts in_X1_upOf_X1 hown hK hP 0 rfl rfl 0 (by decide) q_0 (fun _ h9 => h9) rfl dX1_upOf_15 ?_
        obtain ⟨r_5, h_4, hf⟩ := bd_s hf
        refine ca_V (As := []) (rest := [.int v2_3]) ⟨hx, hb, hml, hown, hts⟩ ⟨hK, hN⟩ hP (c_Pl_places l E pl0 pl1 pl2 pl3 pl4 pl_places pl_links pl_mostDrawn pl_ofTen pl_z pl_lengths pl_told pl_delays pl_fractions r_5 h_4) [4, 5, 6, 7, 8] rfl 5 4 rfl rfl rfl gX1_upOf_X5_places rfl rfl rfl rfl hd_Pl_places ⟨(Nat.le_of_ble_eq_true rfl), (Nat.le_of_ble_eq_true rfl)⟩ rfl hl.1 rfl (Nat.le_of_ble_eq_true rfl) dX1_upOf_18 ⟨(Nat.zero_le _), (Nat.zero_le _)⟩ ?_
        refine lv_icmp_ge (tgt := 70) hx hb dX1_upOf_21 (by decide) (fun c_17 => ?_) (fun c_17 => ?_)
        · have hf := ite_t c_17 hf
          exact KX_13 (hq_13 _ (Option.some.inj hf).symm) _ (lv_sub hl [] rfl)
        · have hf := ite_f c_17 hf
          refine lv_aload_n hx hb dX1_upOf_24 rfl (lv_at hl 0 rfl) ?_
          refine va_get (D := E.1) (ci := 1) (v := .ref pl0) (C := RX1) (T := TX1) (N := 6) hx hb hts in_X1_upOf_X1 hown hK hP 0 rfl rfl 0 (by decide) q_0 (fun _ h9 => h9) rfl dX1_upOf_25 ?_
          refine lv_iload_n hx hb dX1_upOf_28 rfl (lv_at hl 1 rfl) ?_
          refine lv_iload_n hx hb dX1_upOf_29 rfl (lv_at hl 2 rfl) ?_
          obtain ⟨r_7, h_6, hf⟩ := bd_s hf
          refine ca_V (As := [.int a1, .int v2_3]) (rest := []) ⟨hx, hb, hml, hown, hts⟩ ⟨hK, hN⟩ hP (c_Pl_lengthOf l E pl0 pl1 pl2 pl3 pl4 pl_places pl_links pl_mostDrawn pl_ofTen pl_z pl_lengths pl_told pl_delays pl_fractions a1 v2_3 r_7 h_6) [4, 5, 6, 7, 8] rfl 5 4 rfl rfl rfl gX1_upOf_X5_lengthOf rfl rfl rfl rfl hd_Pl_lengthOf ⟨(Nat.le_of_ble_eq_true rfl), (Nat.le_of_ble_eq_true rfl)⟩ rfl hl.1 rfl (Nat.le_of_ble_eq_true rfl) dX1_upOf_30 ⟨(Nat.zero_le _), (Nat.zero_le _)⟩ ?_
          refine lv_istore_n (lv' := [(3, .int r_7), (0, .ref cl0), (1, .int a1), (2, .int v2_3)]) hx hb dX1_upOf_33 rfl hl (by decide) rfl (fun ls hl => ?_)
          refine lv_iload_n hx hb dX1_upOf_34 rfl (lv_at hl 0 rfl) ?_
          refine lv_if_eq (tgt := 64) hx hb dX1_upOf_35 (by decide) (fun c_16 => ?_) (fun c_16 => ?_)
          · have hf := ite_t c_16 hf
            refine lv_iinc (v := (v2_3 + 1)) (lv' := [(2, .int (v2_3 + 1)), (3, .int r_7), (0, .ref cl0), (1, .int a1)]) hx hb dX1_upOf_64 hl (k := 3) rfl rfl (by decide) rfl (fun ls hl => ?_)
            refine lv_goto (tgt := 13) hx hb dX1_upOf_67 (by decide) ?_
            exact ih_13 (v2_3 + 1) (hc_13 _ (Option.some.inj hf).symm) _ (lv_sub hl [2, 3, 0] rfl)
          · have hf := ite_f c_16 hf
            refine lv_aload_n hx hb dX1_upOf_38 rfl (lv_at hl 1 rfl) ?_
            refine lv_iload_n hx hb dX1_upOf_39 rfl (lv_at hl 2 rfl) ?_
            refine lv_iload_n hx hb dX1_upOf_40 rfl (lv_at hl 3 rfl) ?_
            obtain ⟨r_9, h_8, hf⟩ := bd_s hf
            refine ca_V (As := [.int a1, .int v2_3]) (rest := []) ⟨hx, hb, hml, hown, hts⟩ ⟨hK, hN⟩ hP (c_Cl_isCut l E cl0 cl1 cl2 cl3 pl0 pl1 pl2 pl3 pl4 pa0 pa1 cl_greatestDelay cl_delays cl_fractions cl_heads pl_places pl_links pl_mostDrawn pl_ofTen pl_z pl_lengths pl_told pl_delays pl_fractions pa_sums a1 v2_3 r_9 h_8) [0, 1, 2, 3, 4, 5, 6, 7, 8, 9, 10] rfl 1 0 rfl rfl rfl gX1_upOf_X1_isCut rfl rfl rfl rfl hd_Cl_isCut ⟨(Nat.le_of_ble_eq_true rfl), (Nat.le_of_ble_eq_true rfl)⟩ rfl hl.1 rfl (Nat.le_of_ble_eq_true rfl) dX1_upOf_41 ⟨(Nat.zero_le _), (Nat.zero_le _)⟩ ?_
            refine lv_if_ne (tgt := 64) hx hb dX1_upOf_44 (by decide) (fun c_15 => ?_) (fun c_15 => ?_)
            · have hf := ite_f c_15 hf
              refine lv_iinc (v := (v2_3 + 1)) (lv' := [(2, .int (v2_3 + 1)), (3, .int r_7), (0, .ref cl0), (1, .int a1)]) hx hb dX1_upOf_64 hl (k := 3) rfl rfl (by decide) rfl (fun ls hl => ?_)
              refine lv_goto (tgt := 13) hx hb dX1_upOf_67 (by decide) ?_
              exact ih_13 (v2_3 + 1) (hc_13 _ (Option.some.inj hf).symm) _ (lv_sub hl [2, 3, 0] rfl)
            · have hf := ite_t c_15 hf
              refine lv_aload_n hx hb dX1_upOf_47 rfl (lv_at hl 1 rfl) ?_
              refine lv_iload_n hx hb dX1_upOf_48 rfl (lv_at hl 3 rfl) ?_
              obtain ⟨r_11, h_10, hf⟩ := bd_s hf
              refine ca_V (As := [.int v2_3]) (rest := []) ⟨hx, hb, hml, hown, hts⟩ ⟨hK, hN⟩ hP (c_Cl_depthOf l E cl0 cl1 cl2 cl3 pl0 pl1 pl2 pl3 pl4 pa0 pa1 cl_greatestDelay cl_delays cl_fractions cl_heads pl_places pl_links pl_mostDrawn pl_ofTen pl_z pl_lengths pl_told pl_delays pl_fractions pa_sums v2_3 r_11 h_10) [0, 1, 2, 3, 4, 5, 6, 7, 8, 9, 10] rfl 1 0 rfl rfl rfl gX1_upOf_X1_depthOf rfl rfl rfl rfl hd_Cl_depthOf ⟨(Nat.le_of_ble_eq_true rfl), (Nat.le_of_ble_eq_true rfl)⟩ rfl hl.1 rfl (Nat.le_of_ble_eq_true rfl) dX1_upOf_49 ⟨(Nat.zero_le _), (Nat.zero_le _)⟩ ?_
              refine lv_iload_n hx hb dX1_upOf_52 rfl (lv_at hl 0 rfl) ?_
              refine lv_iadd hx hb dX1_upOf_53 ?_
              refine lv_aload_n hx hb dX1_upOf_54 rfl (lv_at hl 1 rfl) ?_
              refine lv_iload_n hx hb dX1_upOf_55 rfl (lv_at hl 2 rfl) ?_
              obtain ⟨r_13, h_12, hf⟩ := bd_s hf
              refine ca_V (As := [.int a1]) (rest := [.int (r_11 + r_7)]) ⟨hx, hb, hml, hown, hts⟩ ⟨hK, hN⟩ hP (c_Cl_depthOf l E cl0 cl1 cl2 cl3 pl0 pl1 pl2 pl3 pl4 pa0 pa1 cl_greatestDelay cl_delays cl_fractions cl_heads pl_places pl_links pl_mostDrawn pl_ofTen pl_z pl_lengths pl_told pl_delays pl_fractions pa_sums a1 r_13 h_12) [0, 1, 2, 3, 4, 5, 6, 7, 8, 9, 10] rfl 1 0 rfl rfl rfl gX1_upOf_X1_depthOf rfl rfl rfl rfl hd_Cl_depthOf ⟨(Nat.le_of_ble_eq_true rfl), (Nat.le_of_ble_eq_true rfl)⟩ rfl hl.1 rfl (Nat.le_of_ble_eq_true rfl) dX1_upOf_56 ⟨(Nat.zero_le _), (Nat.zero_le _)⟩ ?_
              refine lv_icmp_ne (tgt := 64) hx hb dX1_upOf_59 (by decide) (fun c_14 => ?_) (fun c_14 => ?_)
              · have hf := ite_f c_14 hf
                refine lv_iinc (v := (v2_3 + 1)) (lv' := [(2, .int (v2_3 + 1)), (3, .int r_7), (0, .ref cl0), (1, .int a1)]) hx hb dX1_upOf_64 hl (k := 3) rfl rfl (by decide) rfl (fun ls hl => ?_)
                refine lv_goto (tgt := 13) hx hb dX1_upOf_67 (by decide) ?_
                exact ih_13 (v2_3 + 1) (hc_13 _ (Option.some.inj hf).symm) _ (lv_sub hl [2, 3, 0] rfl)
              · have hf := ite_t c_14 hf
                refine lv_iload_n hx hb dX1_upOf_62 rfl (lv_at hl 3 rfl) ?_
                have hf := KE_13 _ (hq_13 _ (Option.some.inj hf).symm)
                exact hret ls 63 v2_3 dX1_upOf_63 (Option.some.inj hf)
    exact KL_13 _ 0 i_13 _ (lv_sub hl [1, 2, 0] rfl)
  · have hf := ite_f c_18 hf
    refine lv_bipush (v := (-4)) hx hb dX1_upOf_8 (by decide) ?_
    exact hret ls 10 (-4) dX1_upOf_10 (Option.some.inj hf)
abbrev rm_Cl_headsBelow : Room := { frames := 1, cells := 0, slots := 0, locals := 21 }
theorem hd_Cl_headsBelow : hdOK yX1_headsBelow 1 := by decide +kernel
set_option maxRecDepth 100000 in
set_option maxHeartbeats 4000000 in
theorem c_Cl_headsBelow (l : Launch) (E : En4) (cl0 cl1 cl2 cl3 pl0 pl1 pl2 pl3 pl4 pa0 pa1 : Nat) (cl_greatestDelay : Int32) (cl_delays : Nat → Int32) (cl_fractions : Nat → Int32) (cl_heads : Nat → Int32) (pl_places : Int32) (pl_links : Int32) (pl_mostDrawn : Int32) (pl_ofTen : Int32) (pl_z : Int32) (pl_lengths : Nat → Int32) (pl_told : Nat → Int32) (pl_delays : Nat → Int32) (pl_fractions : Nat → Int32) (pa_sums : Nat → Int32) (a1 : Int32)  (res : Int32) (hf : Cl_headsBelow cl_heads a1 = some res) : Met l yX1_headsBelow wsX1_headsBelow rm_Cl_headsBelow (pcR [.ref cl0, .int a1] E (w_Cl E cl0 cl1 cl2 cl3 pl0 pl1 pl2 pl3 pl4 pa0 pa1 cl_greatestDelay cl_delays cl_fractions cl_heads pl_places pl_links pl_mostDrawn pl_ofTen pl_z pl_lengths pl_told pl_delays pl_fractions pa_sums)) (vp_Si (fun r => r = res)) 0 0 (fun _ => False) := by
  refine mk_Ri (cc := cX1_headsBelow) (maxL := 4) (by decide) rfl (Nat.le_of_ble_eq_true rfl) ?_
  intro p e s m args below meth c Q S hKN hP hret ls hl
  obtain ⟨hx, hb, hml, hown, hts⟩ := S
  obtain ⟨hK, hN⟩ := hKN
  have hl : lv_has ls 4 [(0, .ref cl0), (1, .int a1)] := hl
  unfold Cl_headsBelow at hf
  refine lv_iconst (v := 0) hx hb dX1_headsBelow_0 (by decide) ?_
  refine lv_istore_n (lv' := [(2, .int 0), (0, .ref cl0), (1, .int a1)]) hx hb dX1_headsBelow_1 rfl hl (by decide) rfl (fun ls hl => ?_)
  refine lv_iconst (v := 0) hx hb dX1_headsBelow_2 (by decide) ?_
  refine lv_istore_n (lv' := [(3, .int 0), (2, .int 0), (0, .ref cl0), (1, .int a1)]) hx hb dX1_headsBelow_3 rfl hl (by decide) rfl (fun ls hl => ?_)
  obtain ⟨w_4, i_4, hf⟩ := bd_s hf
  have KX_4 : ∀ (v2_7 : Int32), v2_7 = w_4 → ∀ (ls : Array Slot), lv_has ls 4 [(2, .int v2_7)] → W p l e rm_Cl_headsBelow s m args below meth c s.heap [] 0 0 Q (F0 m 26 ls []) := by
    intro v2_7 e_
    subst e_
    try dsimp only at hf
    intro ls hl
    refine lv_iload_n hx hb dX1_headsBelow_26 rfl (lv_at hl 0 rfl) ?_
    exact hret ls 27 v2_7 dX1_headsBelow_27 (Option.some.inj hf)
  have KL_4 : ∀ (n_ : Nat) (v2_1 : Int32) (v3_2 : Int32), it (Cl_headsBelow_L4 cl_heads a1) n_ (v2_1, v3_2) = some w_4 → ∀ (ls : Array Slot), lv_has ls 4 [(0, .ref cl0), (1, .int a1), (2, .int v2_1), (3, .int v3_2)] → W p l e rm_Cl_headsBelow s m args below meth c s.heap [] 0 0 Q (F0 m 4 ls []) := by
    intro n_
    induction n_ with
    | zero => intro v2_1 v3_2 hit; exact (it_z hit).elim
    | succ n_4 ih_4 =>
      intro v2_1 v3_2 hit
      intro ls hl
      obtain ⟨x_4, hf, hc_4, hq_4⟩ := it_s hit
      dsimp only [Cl_headsBelow_L4] at hf
      refine lv_iload_n hx hb dX1_headsBelow_4 rfl (lv_at hl 3 rfl) ?_
      refine lv_iload_n hx hb dX1_headsBelow_5 rfl (lv_at hl 1 rfl) ?_
      refine lv_icmp_ge (tgt := 26) hx hb dX1_headsBelow_6 (by decide) (fun c_6 => ?_) (fun c_6 => ?_)
      · have hf := ite_t c_6 hf
        exact KX_4 v2_1 (hq_4 _ (Option.some.inj hf).symm) _ (lv_sub hl [2] rfl)
      · have hf := ite_f c_6 hf
        refine lv_aload_n hx hb dX1_headsBelow_9 rfl (lv_at hl 0 rfl) ?_
        refine lv_iload_n hx hb dX1_headsBelow_10 rfl (lv_at hl 3 rfl) ?_
        obtain ⟨r_4, h_3, hf⟩ := bd_s hf
        refine ca_V (As := [.int v3_2]) (rest := []) ⟨hx, hb, hml, hown, hts⟩ ⟨hK, hN⟩ hP (c_Cl_isHead l E cl0 cl1 cl2 cl3 pl0 pl1 pl2 pl3 pl4 pa0 pa1 cl_greatestDelay cl_delays cl_fractions cl_heads pl_places pl_links pl_mostDrawn pl_ofTen pl_z pl_lengths pl_told pl_delays pl_fractions pa_sums v3_2 r_4 h_3) [0, 1, 2, 3, 4, 5, 6, 7, 8, 9, 10] rfl 1 0 rfl rfl rfl gX1_headsBelow_X1_isHead rfl rfl rfl rfl hd_Cl_isHead ⟨(Nat.le_of_ble_eq_true rfl), (Nat.le_of_ble_eq_true rfl)⟩ rfl hl.1 rfl (Nat.le_of_ble_eq_true rfl) dX1_headsBelow_11 ⟨(Nat.zero_le _), (Nat.zero_le _)⟩ ?_
        refine lv_if_eq (tgt := 20) hx hb dX1_headsBelow_14 (by decide) (fun c_5 => ?_) (fun c_5 => ?_)
        · have hf := ite_t c_5 hf
          refine lv_iinc (v := (v3_2 + 1)) (lv' := [(3, .int (v3_2 + 1)), (0, .ref cl0), (1, .int a1), (2, .int v2_1)]) hx hb dX1_headsBelow_20 hl (k := 3) rfl rfl (by decide) rfl (fun ls hl => ?_)
          refine lv_goto (tgt := 4) hx hb dX1_headsBelow_23 (by decide) ?_
          exact ih_4 v2_1 (v3_2 + 1) (hc_4 _ (Option.some.inj hf).symm) _ (lv_sub hl [1, 2, 3, 0] rfl)
        · have hf := ite_f c_5 hf
          refine lv_iinc (v := (v2_1 + 1)) (lv' := [(2, .int (v2_1 + 1)), (0, .ref cl0), (1, .int a1), (3, .int v3_2)]) hx hb dX1_headsBelow_17 hl (k := 2) rfl rfl (by decide) rfl (fun ls hl => ?_)
          refine lv_iinc (v := (v3_2 + 1)) (lv' := [(3, .int (v3_2 + 1)), (2, .int (v2_1 + 1)), (0, .ref cl0), (1, .int a1)]) hx hb dX1_headsBelow_20 hl (k := 3) rfl rfl (by decide) rfl (fun ls hl => ?_)
          refine lv_goto (tgt := 4) hx hb dX1_headsBelow_23 (by decide) ?_
          exact ih_4 (v2_1 + 1) (v3_2 + 1) (hc_4 _ (Option.some.inj hf).symm) _ (lv_sub hl [2, 3, 1, 0] rfl)
  exact KL_4 _ 0 0 i_4 _ (lv_sub hl [2, 3, 1, 0] rfl)
abbrev rm_Cl_clusters : Room := { frames := 2, cells := 0, slots := 0, locals := 44 }
theorem hd_Cl_clusters : hdOK yX1_clusters 0 := by decide +kernel
theorem in_X1_clusters_X1 : ∀ w ∈ wsX10, w ∈ wsX1_clusters := by decide +kernel
set_option maxRecDepth 100000 in
set_option maxHeartbeats 4000000 in
theorem c_Cl_clusters (l : Launch) (E : En4) (cl0 cl1 cl2 cl3 pl0 pl1 pl2 pl3 pl4 pa0 pa1 : Nat) (cl_greatestDelay : Int32) (cl_delays : Nat → Int32) (cl_fractions : Nat → Int32) (cl_heads : Nat → Int32) (pl_places : Int32) (pl_links : Int32) (pl_mostDrawn : Int32) (pl_ofTen : Int32) (pl_z : Int32) (pl_lengths : Nat → Int32) (pl_told : Nat → Int32) (pl_delays : Nat → Int32) (pl_fractions : Nat → Int32) (pa_sums : Nat → Int32)  (res : Int32) (hf : Cl_clusters cl_heads pl_places = some res) : Met l yX1_clusters wsX1_clusters rm_Cl_clusters (pcR [.ref cl0] E (w_Cl E cl0 cl1 cl2 cl3 pl0 pl1 pl2 pl3 pl4 pa0 pa1 cl_greatestDelay cl_delays cl_fractions cl_heads pl_places pl_links pl_mostDrawn pl_ofTen pl_z pl_lengths pl_told pl_delays pl_fractions pa_sums)) (vp_Si (fun r => r = res)) 0 0 (fun _ => False) := by
  refine mk_Ri (cc := cX1_clusters) (maxL := 1) (by decide) rfl (Nat.le_of_ble_eq_true rfl) ?_
  intro p e s m args below meth c Q S hKN hP hret ls hl
  obtain ⟨hx, hb, hml, hown, hts⟩ := S
  obtain ⟨hK, hN⟩ := hKN
  have hl : lv_has ls 1 [(0, .ref cl0)] := hl
  have q_0 := hts (.fieldLink RX1 21 "DelayClusters$Clustering" "plan" "LDelayClusters$Plan;") (by decide +kernel)
  unfold Cl_clusters at hf
  refine lv_aload_n hx hb dX1_clusters_0 rfl (lv_at hl 0 rfl) ?_
  refine lv_aload_n hx hb dX1_clusters_1 rfl (lv_at hl 0 rfl) ?_
  refine va_get (D := E.1) (ci := 1) (v := .ref pl0) (C := RX1) (T := TX1) (N := 6) hx hb hts in_X1_clusters_X1 hown hK hP 0 rfl rfl 0 (by decide) q_0 (fun _ h9 => h9) rfl dX1_clusters_2 ?_
  obtain ⟨r_2, h_1, hf⟩ := bd_s hf
  refine ca_V (As := []) (rest := [.ref cl0]) ⟨hx, hb, hml, hown, hts⟩ ⟨hK, hN⟩ hP (c_Pl_places l E pl0 pl1 pl2 pl3 pl4 pl_places pl_links pl_mostDrawn pl_ofTen pl_z pl_lengths pl_told pl_delays pl_fractions r_2 h_1) [4, 5, 6, 7, 8] rfl 5 4 rfl rfl rfl gX1_clusters_X5_places rfl rfl rfl rfl hd_Pl_places ⟨(Nat.le_of_ble_eq_true rfl), (Nat.le_of_ble_eq_true rfl)⟩ rfl hl.1 rfl (Nat.le_of_ble_eq_true rfl) dX1_clusters_5 ⟨(Nat.zero_le _), (Nat.zero_le _)⟩ ?_
  obtain ⟨r_4, h_3, hf⟩ := bd_s hf
  refine ca_V (As := [.int r_2]) (rest := []) ⟨hx, hb, hml, hown, hts⟩ ⟨hK, hN⟩ hP (c_Cl_headsBelow l E cl0 cl1 cl2 cl3 pl0 pl1 pl2 pl3 pl4 pa0 pa1 cl_greatestDelay cl_delays cl_fractions cl_heads pl_places pl_links pl_mostDrawn pl_ofTen pl_z pl_lengths pl_told pl_delays pl_fractions pa_sums r_2 r_4 h_3) [0, 1, 2, 3, 4, 5, 6, 7, 8, 9, 10] rfl 1 0 rfl rfl rfl gX1_clusters_X1_headsBelow rfl rfl rfl rfl hd_Cl_headsBelow ⟨(Nat.le_of_ble_eq_true rfl), (Nat.le_of_ble_eq_true rfl)⟩ rfl hl.1 rfl (Nat.le_of_ble_eq_true rfl) dX1_clusters_8 ⟨(Nat.zero_le _), (Nat.zero_le _)⟩ ?_
  exact hret ls 11 r_4 dX1_clusters_11 (Option.some.inj hf)
abbrev rm_Cl_numberOf : Room := { frames := 2, cells := 0, slots := 0, locals := 44 }
theorem hd_Cl_numberOf : hdOK yX1_numberOf 1 := by decide +kernel
theorem in_X1_numberOf_X1 : ∀ w ∈ wsX10, w ∈ wsX1_numberOf := by decide +kernel
set_option maxRecDepth 100000 in
set_option maxHeartbeats 4000000 in
theorem c_Cl_numberOf (l : Launch) (E : En4) (cl0 cl1 cl2 cl3 pl0 pl1 pl2 pl3 pl4 pa0 pa1 : Nat) (cl_greatestDelay : Int32) (cl_delays : Nat → Int32) (cl_fractions : Nat → Int32) (cl_heads : Nat → Int32) (pl_places : Int32) (pl_links : Int32) (pl_mostDrawn : Int32) (pl_ofTen : Int32) (pl_z : Int32) (pl_lengths : Nat → Int32) (pl_told : Nat → Int32) (pl_delays : Nat → Int32) (pl_fractions : Nat → Int32) (pa_sums : Nat → Int32) (a1 : Int32)  (res : Int32) (hf : Cl_numberOf cl_heads a1 = some res) : Met l yX1_numberOf wsX1_numberOf rm_Cl_numberOf (pcR [.ref cl0, .int a1] E (w_Cl E cl0 cl1 cl2 cl3 pl0 pl1 pl2 pl3 pl4 pa0 pa1 cl_greatestDelay cl_delays cl_fractions cl_heads pl_places pl_links pl_mostDrawn pl_ofTen pl_z pl_lengths pl_told pl_delays pl_fractions pa_sums)) (vp_Si (fun r => r = res)) 0 0 (fun _ => False) := by
  refine mk_Ri (cc := cX1_numberOf) (maxL := 2) (by decide) rfl (Nat.le_of_ble_eq_true rfl) ?_
  intro p e s m args below meth c Q S hKN hP hret ls hl
  obtain ⟨hx, hb, hml, hown, hts⟩ := S
  obtain ⟨hK, hN⟩ := hKN
  have hl : lv_has ls 2 [(0, .ref cl0), (1, .int a1)] := hl
  have q_0 := hts (.fieldLink RX1 18 "DelayClusters$Clustering" "heads" "[I") (by decide +kernel)
  unfold Cl_numberOf at hf
  refine lv_aload_n hx hb dX1_numberOf_0 rfl (lv_at hl 0 rfl) ?_
  refine lv_aload_n hx hb dX1_numberOf_1 rfl (lv_at hl 0 rfl) ?_
  refine va_get (D := E.1) (ci := 1) (v := .ref cl3) (C := RX1) (T := TX1) (N := 6) hx hb hts in_X1_numberOf_X1 hown hK hP 0 rfl rfl 4 (by decide) q_0 (fun _ h9 => h9) rfl dX1_numberOf_2 ?_
  refine lv_iload_n hx hb dX1_numberOf_5 rfl (lv_at hl 1 rfl) ?_
  obtain ⟨g_1, hf⟩ := gk_s hf
  refine va_iald hx hb hK hP 3 0 rfl rfl g_1 dX1_numberOf_6 ?_
  obtain ⟨r_3, h_2, hf⟩ := bd_s hf
  refine ca_V (As := [.int (cl_heads a1.toNatClampNeg)]) (rest := []) ⟨hx, hb, hml, hown, hts⟩ ⟨hK, hN⟩ hP (c_Cl_headsBelow l E cl0 cl1 cl2 cl3 pl0 pl1 pl2 pl3 pl4 pa0 pa1 cl_greatestDelay cl_delays cl_fractions cl_heads pl_places pl_links pl_mostDrawn pl_ofTen pl_z pl_lengths pl_told pl_delays pl_fractions pa_sums (cl_heads a1.toNatClampNeg) r_3 h_2) [0, 1, 2, 3, 4, 5, 6, 7, 8, 9, 10] rfl 1 0 rfl rfl rfl gX1_numberOf_X1_headsBelow rfl rfl rfl rfl hd_Cl_headsBelow ⟨(Nat.le_of_ble_eq_true rfl), (Nat.le_of_ble_eq_true rfl)⟩ rfl hl.1 rfl (Nat.le_of_ble_eq_true rfl) dX1_numberOf_7 ⟨(Nat.zero_le _), (Nat.zero_le _)⟩ ?_
  exact hret ls 10 r_3 dX1_numberOf_10 (Option.some.inj hf)
abbrev rm_Cl_headNumbered : Room := { frames := 3, cells := 0, slots := 0, locals := 65 }
theorem hd_Cl_headNumbered : hdOK yX1_headNumbered 1 := by decide +kernel
theorem in_X1_headNumbered_X1 : ∀ w ∈ wsX10, w ∈ wsX1_headNumbered := by decide +kernel
set_option maxRecDepth 100000 in
set_option maxHeartbeats 4000000 in
theorem c_Cl_headNumbered (l : Launch) (E : En4) (cl0 cl1 cl2 cl3 pl0 pl1 pl2 pl3 pl4 pa0 pa1 : Nat) (cl_greatestDelay : Int32) (cl_delays : Nat → Int32) (cl_fractions : Nat → Int32) (cl_heads : Nat → Int32) (pl_places : Int32) (pl_links : Int32) (pl_mostDrawn : Int32) (pl_ofTen : Int32) (pl_z : Int32) (pl_lengths : Nat → Int32) (pl_told : Nat → Int32) (pl_delays : Nat → Int32) (pl_fractions : Nat → Int32) (pa_sums : Nat → Int32) (a1 : Int32)  (res : Int32) (hf : Cl_headNumbered cl_heads pl_places a1 = some res) : Met l yX1_headNumbered wsX1_headNumbered rm_Cl_headNumbered (pcR [.ref cl0, .int a1] E (w_Cl E cl0 cl1 cl2 cl3 pl0 pl1 pl2 pl3 pl4 pa0 pa1 cl_greatestDelay cl_delays cl_fractions cl_heads pl_places pl_links pl_mostDrawn pl_ofTen pl_z pl_lengths pl_told pl_delays pl_fractions pa_sums)) (vp_Si (fun r => r = res)) 0 0 (fun _ => False) := by
  refine mk_Ri (cc := cX1_headNumbered) (maxL := 3) (by decide) rfl (Nat.le_of_ble_eq_true rfl) ?_
  intro p e s m args below meth c Q S hKN hP hret ls hl
  obtain ⟨hx, hb, hml, hown, hts⟩ := S
  obtain ⟨hK, hN⟩ := hKN
  have hl : lv_has ls 3 [(0, .ref cl0), (1, .int a1)] := hl
  have q_0 := hts (.fieldLink RX1 21 "DelayClusters$Clustering" "plan" "LDelayClusters$Plan;") (by decide +kernel)
  unfold Cl_headNumbered at hf
  refine lv_iconst (v := 0) hx hb dX1_headNumbered_0 (by decide) ?_
  refine lv_istore_n (lv' := [(2, .int 0), (0, .ref cl0), (1, .int a1)]) hx hb dX1_headNumbered_1 rfl hl (by decide) rfl (fun ls hl => ?_)
  obtain ⟨w_2, i_2, hf⟩ := bd_s hf
  have KE_2 : ∀ y_, Sum.inr y_ = w_2 → some y_ = some res := by intro y_ e_; subst e_; exact hf
  have KX_2 : Sum.inl () = w_2 → ∀ (ls : Array Slot), lv_has ls 3 [] → W p l e rm_Cl_headNumbered s m args below meth c s.heap [] 0 0 Q (F0 m 38 ls []) := by
    intro e_
    subst e_
    try dsimp only at hf
    intro ls hl
    refine lv_bipush (v := (-4)) hx hb dX1_headNumbered_38 (by decide) ?_
    exact hret ls 40 (-4) dX1_headNumbered_40 (Option.some.inj hf)
  have KL_2 : ∀ (n_ : Nat) (v2_1 : Int32), it (Cl_headNumbered_L2 cl_heads pl_places a1) n_ v2_1 = some w_2 → ∀ (ls : Array Slot), lv_has ls 3 [(0, .ref cl0), (1, .int a1), (2, .int v2_1)] → W p l e rm_Cl_headNumbered s m args below meth c s.heap [] 0 0 Q (F0 m 2 ls []) := by
    intro n_
    induction n_ with
    | zero => intro v2_1 hit; exact (it_z hit).elim
    | succ n_2 ih_2 =>
      intro v2_1 hit
      intro ls hl
      obtain ⟨x_2, hf, hc_2, hq_2⟩ := it_s hit
      dsimp only [Cl_headNumbered_L2] at hf
      refine lv_iload_n hx hb dX1_headNumbered_2 rfl (lv_at hl 2 rfl) ?_
      refine lv_aload_n hx hb dX1_headNumbered_3 rfl (lv_at hl 0 rfl) ?_
      refine va_get (D := E.1) (ci := 1) (v := .ref pl0) (C := RX1) (T := TX1) (N := 6) hx hb hts in_X1_headNumbered_X1 hown hK hP 0 rfl rfl 0 (by decide) q_0 (fun _ h9 => h9) rfl dX1_headNumbered_4 ?_
      obtain ⟨r_3, h_2, hf⟩ := bd_s hf
      refine ca_V (As := []) (rest := [.int v2_1]) ⟨hx, hb, hml, hown, hts⟩ ⟨hK, hN⟩ hP (c_Pl_places l E pl0 pl1 pl2 pl3 pl4 pl_places pl_links pl_mostDrawn pl_ofTen pl_z pl_lengths pl_told pl_delays pl_fractions r_3 h_2) [4, 5, 6, 7, 8] rfl 5 4 rfl rfl rfl gX1_headNumbered_X5_places rfl rfl rfl rfl hd_Pl_places ⟨(Nat.le_of_ble_eq_true rfl), (Nat.le_of_ble_eq_true rfl)⟩ rfl hl.1 rfl (Nat.le_of_ble_eq_true rfl) dX1_headNumbered_7 ⟨(Nat.zero_le _), (Nat.zero_le _)⟩ ?_
      refine lv_icmp_ge (tgt := 38) hx hb dX1_headNumbered_10 (by decide) (fun c_10 => ?_) (fun c_10 => ?_)
      · have hf := ite_t c_10 hf
        exact KX_2 (hq_2 _ (Option.some.inj hf).symm) _ (lv_sub hl [] rfl)
      · have hf := ite_f c_10 hf
        refine lv_aload_n hx hb dX1_headNumbered_13 rfl (lv_at hl 0 rfl) ?_
        refine lv_iload_n hx hb dX1_headNumbered_14 rfl (lv_at hl 2 rfl) ?_
        obtain ⟨r_5, h_4, hf⟩ := bd_s hf
        refine ca_V (As := [.int v2_1]) (rest := []) ⟨hx, hb, hml, hown, hts⟩ ⟨hK, hN⟩ hP (c_Cl_isHead l E cl0 cl1 cl2 cl3 pl0 pl1 pl2 pl3 pl4 pa0 pa1 cl_greatestDelay cl_delays cl_fractions cl_heads pl_places pl_links pl_mostDrawn pl_ofTen pl_z pl_lengths pl_told pl_delays pl_fractions pa_sums v2_1 r_5 h_4) [0, 1, 2, 3, 4, 5, 6, 7, 8, 9, 10] rfl 1 0 rfl rfl rfl gX1_headNumbered_X1_isHead rfl rfl rfl rfl hd_Cl_isHead ⟨(Nat.le_of_ble_eq_true rfl), (Nat.le_of_ble_eq_true rfl)⟩ rfl hl.1 rfl (Nat.le_of_ble_eq_true rfl) dX1_headNumbered_15 ⟨(Nat.zero_le _), (Nat.zero_le _)⟩ ?_
        refine lv_if_eq (tgt := 32) hx hb dX1_headNumbered_18 (by decide) (fun c_9 => ?_) (fun c_9 => ?_)
        · have hf := ite_t c_9 hf
          refine lv_iinc (v := (v2_1 + 1)) (lv' := [(2, .int (v2_1 + 1)), (0, .ref cl0), (1, .int a1)]) hx hb dX1_headNumbered_32 hl (k := 2) rfl rfl (by decide) rfl (fun ls hl => ?_)
          refine lv_goto (tgt := 2) hx hb dX1_headNumbered_35 (by decide) ?_
          exact ih_2 (v2_1 + 1) (hc_2 _ (Option.some.inj hf).symm) _ (lv_sub hl [1, 2, 0] rfl)
        · have hf := ite_f c_9 hf
          refine lv_aload_n hx hb dX1_headNumbered_21 rfl (lv_at hl 0 rfl) ?_
          refine lv_iload_n hx hb dX1_headNumbered_22 rfl (lv_at hl 2 rfl) ?_
          obtain ⟨r_7, h_6, hf⟩ := bd_s hf
          refine ca_V (As := [.int v2_1]) (rest := []) ⟨hx, hb, hml, hown, hts⟩ ⟨hK, hN⟩ hP (c_Cl_numberOf l E cl0 cl1 cl2 cl3 pl0 pl1 pl2 pl3 pl4 pa0 pa1 cl_greatestDelay cl_delays cl_fractions cl_heads pl_places pl_links pl_mostDrawn pl_ofTen pl_z pl_lengths pl_told pl_delays pl_fractions pa_sums v2_1 r_7 h_6) [0, 1, 2, 3, 4, 5, 6, 7, 8, 9, 10] rfl 1 0 rfl rfl rfl gX1_headNumbered_X1_numberOf rfl rfl rfl rfl hd_Cl_numberOf ⟨(Nat.le_of_ble_eq_true rfl), (Nat.le_of_ble_eq_true rfl)⟩ rfl hl.1 rfl (Nat.le_of_ble_eq_true rfl) dX1_headNumbered_23 ⟨(Nat.zero_le _), (Nat.zero_le _)⟩ ?_
          refine lv_iload_n hx hb dX1_headNumbered_26 rfl (lv_at hl 1 rfl) ?_
          refine lv_icmp_ne (tgt := 32) hx hb dX1_headNumbered_27 (by decide) (fun c_8 => ?_) (fun c_8 => ?_)
          · have hf := ite_f c_8 hf
            refine lv_iinc (v := (v2_1 + 1)) (lv' := [(2, .int (v2_1 + 1)), (0, .ref cl0), (1, .int a1)]) hx hb dX1_headNumbered_32 hl (k := 2) rfl rfl (by decide) rfl (fun ls hl => ?_)
            refine lv_goto (tgt := 2) hx hb dX1_headNumbered_35 (by decide) ?_
            exact ih_2 (v2_1 + 1) (hc_2 _ (Option.some.inj hf).symm) _ (lv_sub hl [1, 2, 0] rfl)
          · have hf := ite_t c_8 hf
            refine lv_iload_n hx hb dX1_headNumbered_30 rfl (lv_at hl 2 rfl) ?_
            have hf := KE_2 _ (hq_2 _ (Option.some.inj hf).symm)
            exact hret ls 31 v2_1 dX1_headNumbered_31 (Option.some.inj hf)
  exact KL_2 _ 0 i_2 _ (lv_sub hl [1, 2, 0] rfl)
abbrev rm_Cl_membersOf : Room := { frames := 1, cells := 0, slots := 0, locals := 20 }
theorem hd_Cl_membersOf : hdOK yX1_membersOf 1 := by decide +kernel
theorem in_X1_membersOf_X1 : ∀ w ∈ wsX10, w ∈ wsX1_membersOf := by decide +kernel
set_option maxRecDepth 100000 in
set_option maxHeartbeats 4000000 in
theorem c_Cl_membersOf (l : Launch) (E : En4) (cl0 cl1 cl2 cl3 pl0 pl1 pl2 pl3 pl4 pa0 pa1 : Nat) (cl_greatestDelay : Int32) (cl_delays : Nat → Int32) (cl_fractions : Nat → Int32) (cl_heads : Nat → Int32) (pl_places : Int32) (pl_links : Int32) (pl_mostDrawn : Int32) (pl_ofTen : Int32) (pl_z : Int32) (pl_lengths : Nat → Int32) (pl_told : Nat → Int32) (pl_delays : Nat → Int32) (pl_fractions : Nat → Int32) (pa_sums : Nat → Int32) (a1 : Int32)  (res : Int32) (hf : Cl_membersOf cl_heads pl_places a1 = some res) : Met l yX1_membersOf wsX1_membersOf rm_Cl_membersOf (pcR [.ref cl0, .int a1] E (w_Cl E cl0 cl1 cl2 cl3 pl0 pl1 pl2 pl3 pl4 pa0 pa1 cl_greatestDelay cl_delays cl_fractions cl_heads pl_places pl_links pl_mostDrawn pl_ofTen pl_z pl_lengths pl_told pl_delays pl_fractions pa_sums)) (vp_Si (fun r => r = res)) 0 0 (fun _ => False) := by
  refine mk_Ri (cc := cX1_membersOf) (maxL := 4) (by decide) rfl (Nat.le_of_ble_eq_true rfl) ?_
  intro p e s m args below meth c Q S hKN hP hret ls hl
  obtain ⟨hx, hb, hml, hown, hts⟩ := S
  obtain ⟨hK, hN⟩ := hKN
  have hl : lv_has ls 4 [(0, .ref cl0), (1, .int a1)] := hl
  have q_0 := hts (.fieldLink RX1 21 "DelayClusters$Clustering" "plan" "LDelayClusters$Plan;") (by decide +kernel)
  have q_1 := hts (.fieldLink RX1 18 "DelayClusters$Clustering" "heads" "[I") (by decide +kernel)
  unfold Cl_membersOf at hf
  refine lv_iconst (v := 0) hx hb dX1_membersOf_0 (by decide) ?_
  refine lv_istore_n (lv' := [(2, .int 0), (0, .ref cl0), (1, .int a1)]) hx hb dX1_membersOf_1 rfl hl (by decide) rfl (fun ls hl => ?_)
  refine lv_iconst (v := 0) hx hb dX1_membersOf_2 (by decide) ?_
  refine lv_istore_n (lv' := [(3, .int 0), (2, .int 0), (0, .ref cl0), (1, .int a1)]) hx hb dX1_membersOf_3 rfl hl (by decide) rfl (fun ls hl => ?_)
  obtain ⟨w_4, i_4, hf⟩ := bd_s hf
  have KX_4 : ∀ (v2_8 : Int32), v2_8 = w_4 → ∀ (ls : Array Slot), lv_has ls 4 [(2, .int v2_8)] → W p l e rm_Cl_membersOf s m args below meth c s.heap [] 0 0 Q (F0 m 37 ls []) := by
    intro v2_8 e_
    subst e_
    try dsimp only at hf
    intro ls hl
    refine lv_iload_n hx hb dX1_membersOf_37 rfl (lv_at hl 0 rfl) ?_
    exact hret ls 38 v2_8 dX1_membersOf_38 (Option.some.inj hf)
  have KL_4 : ∀ (n_ : Nat) (v2_1 : Int32) (v3_2 : Int32), it (Cl_membersOf_L4 cl_heads pl_places a1) n_ (v2_1, v3_2) = some w_4 → ∀ (ls : Array Slot), lv_has ls 4 [(0, .ref cl0), (1, .int a1), (2, .int v2_1), (3, .int v3_2)] → W p l e rm_Cl_membersOf s m args below meth c s.heap [] 0 0 Q (F0 m 4 ls []) := by
    intro n_
    induction n_ with
    | zero => intro v2_1 v3_2 hit; exact (it_z hit).elim
    | succ n_4 ih_4 =>
      intro v2_1 v3_2 hit
      intro ls hl
      obtain ⟨x_4, hf, hc_4, hq_4⟩ := it_s hit
      dsimp only [Cl_membersOf_L4] at hf
      refine lv_iload_n hx hb dX1_membersOf_4 rfl (lv_at hl 3 rfl) ?_
      refine lv_aload_n hx hb dX1_membersOf_5 rfl (lv_at hl 0 rfl) ?_
      refine va_get (D := E.1) (ci := 1) (v := .ref pl0) (C := RX1) (T := TX1) (N := 6) hx hb hts in_X1_membersOf_X1 hown hK hP 0 rfl rfl 0 (by decide) q_0 (fun _ h9 => h9) rfl dX1_membersOf_6 ?_
      obtain ⟨r_4, h_3, hf⟩ := bd_s hf
      refine ca_V (As := []) (rest := [.int v3_2]) ⟨hx, hb, hml, hown, hts⟩ ⟨hK, hN⟩ hP (c_Pl_places l E pl0 pl1 pl2 pl3 pl4 pl_places pl_links pl_mostDrawn pl_ofTen pl_z pl_lengths pl_told pl_delays pl_fractions r_4 h_3) [4, 5, 6, 7, 8] rfl 5 4 rfl rfl rfl gX1_membersOf_X5_places rfl rfl rfl rfl hd_Pl_places ⟨(Nat.le_of_ble_eq_true rfl), (Nat.le_of_ble_eq_true rfl)⟩ rfl hl.1 rfl (Nat.le_of_ble_eq_true rfl) dX1_membersOf_9 ⟨(Nat.zero_le _), (Nat.zero_le _)⟩ ?_
      refine lv_icmp_ge (tgt := 37) hx hb dX1_membersOf_12 (by decide) (fun c_7 => ?_) (fun c_7 => ?_)
      · have hf := ite_t c_7 hf
        exact KX_4 v2_1 (hq_4 _ (Option.some.inj hf).symm) _ (lv_sub hl [2] rfl)
      · have hf := ite_f c_7 hf
        refine lv_aload_n hx hb dX1_membersOf_15 rfl (lv_at hl 0 rfl) ?_
        refine va_get (D := E.1) (ci := 1) (v := .ref cl3) (C := RX1) (T := TX1) (N := 6) hx hb hts in_X1_membersOf_X1 hown hK hP 0 rfl rfl 4 (by decide) q_1 (fun _ h9 => h9) rfl dX1_membersOf_16 ?_
        refine lv_iload_n hx hb dX1_membersOf_19 rfl (lv_at hl 3 rfl) ?_
        obtain ⟨g_5, hf⟩ := gk_s hf
        refine va_iald hx hb hK hP 3 0 rfl rfl g_5 dX1_membersOf_20 ?_
        refine lv_iload_n hx hb dX1_membersOf_21 rfl (lv_at hl 1 rfl) ?_
        refine lv_icmp_ne (tgt := 31) hx hb dX1_membersOf_22 (by decide) (fun c_6 => ?_) (fun c_6 => ?_)
        · have hf := ite_f c_6 hf
          refine lv_iinc (v := (v3_2 + 1)) (lv' := [(3, .int (v3_2 + 1)), (0, .ref cl0), (1, .int a1), (2, .int v2_1)]) hx hb dX1_membersOf_31 hl (k := 3) rfl rfl (by decide) rfl (fun ls hl => ?_)
          refine lv_goto (tgt := 4) hx hb dX1_membersOf_34 (by decide) ?_
          exact ih_4 v2_1 (v3_2 + 1) (hc_4 _ (Option.some.inj hf).symm) _ (lv_sub hl [1, 2, 3, 0] rfl)
        · have hf := ite_t c_6 hf
          refine lv_iload_n hx hb dX1_membersOf_25 rfl (lv_at hl 2 rfl) ?_
          refine lv_iconst (v := 1) hx hb dX1_membersOf_26 (by decide) ?_
          refine lv_iload_n hx hb dX1_membersOf_27 rfl (lv_at hl 3 rfl) ?_
          refine lv_ishl hx hb dX1_membersOf_28 ?_
          refine lv_ior hx hb dX1_membersOf_29 ?_
          refine lv_istore_n (lv' := [(2, .int (v2_1 ||| (1 <<< (v3_2 &&& 31)))), (0, .ref cl0), (1, .int a1), (3, .int v3_2)]) hx hb dX1_membersOf_30 rfl hl (by decide) rfl (fun ls hl => ?_)
          refine lv_iinc (v := (v3_2 + 1)) (lv' := [(3, .int (v3_2 + 1)), (2, .int (v2_1 ||| (1 <<< (v3_2 &&& 31)))), (0, .ref cl0), (1, .int a1)]) hx hb dX1_membersOf_31 hl (k := 3) rfl rfl (by decide) rfl (fun ls hl => ?_)
          refine lv_goto (tgt := 4) hx hb dX1_membersOf_34 (by decide) ?_
          exact ih_4 (v2_1 ||| (1 <<< (v3_2 &&& 31))) (v3_2 + 1) (hc_4 _ (Option.some.inj hf).symm) _ (lv_sub hl [2, 3, 1, 0] rfl)
  exact KL_4 _ 0 0 i_4 _ (lv_sub hl [2, 3, 1, 0] rfl)
abbrev rm_Cl_wideOf : Room := { frames := 2, cells := 0, slots := 0, locals := 48 }
theorem hd_Cl_wideOf : hdOK yX1_wideOf 1 := by decide +kernel
theorem in_X1_wideOf_X1 : ∀ w ∈ wsX10, w ∈ wsX1_wideOf := by decide +kernel
set_option maxRecDepth 100000 in
set_option maxHeartbeats 4000000 in
theorem c_Cl_wideOf (l : Launch) (E : En4) (cl0 cl1 cl2 cl3 pl0 pl1 pl2 pl3 pl4 pa0 pa1 : Nat) (cl_greatestDelay : Int32) (cl_delays : Nat → Int32) (cl_fractions : Nat → Int32) (cl_heads : Nat → Int32) (pl_places : Int32) (pl_links : Int32) (pl_mostDrawn : Int32) (pl_ofTen : Int32) (pl_z : Int32) (pl_lengths : Nat → Int32) (pl_told : Nat → Int32) (pl_delays : Nat → Int32) (pl_fractions : Nat → Int32) (pa_sums : Nat → Int32) (a1 : Int32)  (res : Int32) (hf : Cl_wideOf cl_heads pl_places pa_sums a1 = some res) : Met l yX1_wideOf wsX1_wideOf rm_Cl_wideOf (pcR [.ref cl0, .int a1] E (w_Cl E cl0 cl1 cl2 cl3 pl0 pl1 pl2 pl3 pl4 pa0 pa1 cl_greatestDelay cl_delays cl_fractions cl_heads pl_places pl_links pl_mostDrawn pl_ofTen pl_z pl_lengths pl_told pl_delays pl_fractions pa_sums)) (vp_Si (fun r => r = res)) 0 0 (fun _ => False) := by
  refine mk_Ri (cc := cX1_wideOf) (maxL := 4) (by decide) rfl (Nat.le_of_ble_eq_true rfl) ?_
  intro p e s m args below meth c Q S hKN hP hret ls hl
  obtain ⟨hx, hb, hml, hown, hts⟩ := S
  obtain ⟨hK, hN⟩ := hKN
  have hl : lv_has ls 4 [(0, .ref cl0), (1, .int a1)] := hl
  have q_0 := hts (.fieldLink RX1 21 "DelayClusters$Clustering" "plan" "LDelayClusters$Plan;") (by decide +kernel)
  have q_1 := hts (.fieldLink RX1 18 "DelayClusters$Clustering" "heads" "[I") (by decide +kernel)
  have q_2 := hts (.methodLink RX1 53 Lib.Math.max.name) (by decide +kernel)
  have q_3 := hts (.static Lib.Math.max.name) (by decide +kernel)
  have q_4 := hts (.initialized "java/lang/Math") (by decide +kernel)
  have q_5 := hts (.code Lib.Math.max.name Lib.Math.max.code 2 (some .int)) (by decide +kernel)
  unfold Cl_wideOf at hf
  refine lv_iconst (v := 0) hx hb dX1_wideOf_0 (by decide) ?_
  refine lv_istore_n (lv' := [(2, .int 0), (0, .ref cl0), (1, .int a1)]) hx hb dX1_wideOf_1 rfl hl (by decide) rfl (fun ls hl => ?_)
  refine lv_iconst (v := 0) hx hb dX1_wideOf_2 (by decide) ?_
  refine lv_istore_n (lv' := [(3, .int 0), (2, .int 0), (0, .ref cl0), (1, .int a1)]) hx hb dX1_wideOf_3 rfl hl (by decide) rfl (fun ls hl => ?_)
  obtain ⟨w_4, i_4, hf⟩ := bd_s hf
  have KX_4 : ∀ (v2_10 : Int32), v2_10 = w_4 → ∀ (ls : Array Slot), lv_has ls 4 [(2, .int v2_10)] → W p l e rm_Cl_wideOf s m args below meth c s.heap [] 0 0 Q (F0 m 41 ls []) := by
    intro v2_10 e_
    subst e_
    try dsimp only at hf
    intro ls hl
    refine lv_iload_n hx hb dX1_wideOf_41 rfl (lv_at hl 0 rfl) ?_
    exact hret ls 42 v2_10 dX1_wideOf_42 (Option.some.inj hf)
  have KL_4 : ∀ (n_ : Nat) (v2_1 : Int32) (v3_2 : Int32), it (Cl_wideOf_L4 cl_heads pl_places pa_sums a1) n_ (v2_1, v3_2) = some w_4 → ∀ (ls : Array Slot), lv_has ls 4 [(0, .ref cl0), (1, .int a1), (2, .int v2_1), (3, .int v3_2)] → W p l e rm_Cl_wideOf s m args below meth c s.heap [] 0 0 Q (F0 m 4 ls []) := by
    intro n_
    induction n_ with
    | zero => intro v2_1 v3_2 hit; exact (it_z hit).elim
    | succ n_4 ih_4 =>
      intro v2_1 v3_2 hit
      intro ls hl
      obtain ⟨x_4, hf, hc_4, hq_4⟩ := it_s hit
      dsimp only [Cl_wideOf_L4] at hf
      refine lv_iload_n hx hb dX1_wideOf_4 rfl (lv_at hl 3 rfl) ?_
      refine lv_aload_n hx hb dX1_wideOf_5 rfl (lv_at hl 0 rfl) ?_
      refine va_get (D := E.1) (ci := 1) (v := .ref pl0) (C := RX1) (T := TX1) (N := 6) hx hb hts in_X1_wideOf_X1 hown hK hP 0 rfl rfl 0 (by decide) q_0 (fun _ h9 => h9) rfl dX1_wideOf_6 ?_
      obtain ⟨r_4, h_3, hf⟩ := bd_s hf
      refine ca_V (As := []) (rest := [.int v3_2]) ⟨hx, hb, hml, hown, hts⟩ ⟨hK, hN⟩ hP (c_Pl_places l E pl0 pl1 pl2 pl3 pl4 pl_places pl_links pl_mostDrawn pl_ofTen pl_z pl_lengths pl_told pl_delays pl_fractions r_4 h_3) [4, 5, 6, 7, 8] rfl 5 4 rfl rfl rfl gX1_wideOf_X5_places rfl rfl rfl rfl hd_Pl_places ⟨(Nat.le_of_ble_eq_true rfl), (Nat.le_of_ble_eq_true rfl)⟩ rfl hl.1 rfl (Nat.le_of_ble_eq_true rfl) dX1_wideOf_9 ⟨(Nat.zero_le _), (Nat.zero_le _)⟩ ?_
      refine lv_icmp_ge (tgt := 41) hx hb dX1_wideOf_12 (by decide) (fun c_9 => ?_) (fun c_9 => ?_)
      · have hf := ite_t c_9 hf
        exact KX_4 v2_1 (hq_4 _ (Option.some.inj hf).symm) _ (lv_sub hl [2] rfl)
      · have hf := ite_f c_9 hf
        refine lv_aload_n hx hb dX1_wideOf_15 rfl (lv_at hl 0 rfl) ?_
        refine va_get (D := E.1) (ci := 1) (v := .ref cl3) (C := RX1) (T := TX1) (N := 6) hx hb hts in_X1_wideOf_X1 hown hK hP 0 rfl rfl 4 (by decide) q_1 (fun _ h9 => h9) rfl dX1_wideOf_16 ?_
        refine lv_iload_n hx hb dX1_wideOf_19 rfl (lv_at hl 3 rfl) ?_
        obtain ⟨g_5, hf⟩ := gk_s hf
        refine va_iald hx hb hK hP 3 0 rfl rfl g_5 dX1_wideOf_20 ?_
        refine lv_iload_n hx hb dX1_wideOf_21 rfl (lv_at hl 1 rfl) ?_
        refine lv_icmp_ne (tgt := 35) hx hb dX1_wideOf_22 (by decide) (fun c_8 => ?_) (fun c_8 => ?_)
        · have hf := ite_f c_8 hf
          refine lv_iinc (v := (v3_2 + 1)) (lv' := [(3, .int (v3_2 + 1)), (0, .ref cl0), (1, .int a1), (2, .int v2_1)]) hx hb dX1_wideOf_35 hl (k := 3) rfl rfl (by decide) rfl (fun ls hl => ?_)
          refine lv_goto (tgt := 4) hx hb dX1_wideOf_38 (by decide) ?_
          exact ih_4 v2_1 (v3_2 + 1) (hc_4 _ (Option.some.inj hf).symm) _ (lv_sub hl [1, 2, 3, 0] rfl)
        · have hf := ite_t c_8 hf
          refine lv_iload_n hx hb dX1_wideOf_25 rfl (lv_at hl 2 rfl) ?_
          refine lv_aload_n hx hb dX1_wideOf_26 rfl (lv_at hl 0 rfl) ?_
          refine lv_iload_n hx hb dX1_wideOf_27 rfl (lv_at hl 3 rfl) ?_
          obtain ⟨r_7, h_6, hf⟩ := bd_s hf
          refine ca_V (As := [.int v3_2]) (rest := [.int v2_1]) ⟨hx, hb, hml, hown, hts⟩ ⟨hK, hN⟩ hP (c_Cl_depthOf l E cl0 cl1 cl2 cl3 pl0 pl1 pl2 pl3 pl4 pa0 pa1 cl_greatestDelay cl_delays cl_fractions cl_heads pl_places pl_links pl_mostDrawn pl_ofTen pl_z pl_lengths pl_told pl_delays pl_fractions pa_sums v3_2 r_7 h_6) [0, 1, 2, 3, 4, 5, 6, 7, 8, 9, 10] rfl 1 0 rfl rfl rfl gX1_wideOf_X1_depthOf rfl rfl rfl rfl hd_Cl_depthOf ⟨(Nat.le_of_ble_eq_true rfl), (Nat.le_of_ble_eq_true rfl)⟩ rfl hl.1 rfl (Nat.le_of_ble_eq_true rfl) dX1_wideOf_28 ⟨(Nat.zero_le _), (Nat.zero_le _)⟩ ?_
          refine va_mmax hx hb (by rw [hml]; exact hl.1.symm) hown q_2 q_3 q_4 q_5 (Nat.le_of_ble_eq_true rfl) (Nat.le_of_ble_eq_true rfl) (Nat.zero_le _) (Nat.zero_le _) dX1_wideOf_31 ?_
          refine lv_istore_n (lv' := [(2, .int (if v2_1 < r_7 then r_7 else v2_1)), (0, .ref cl0), (1, .int a1), (3, .int v3_2)]) hx hb dX1_wideOf_34 rfl hl (by decide) rfl (fun ls hl => ?_)
          refine lv_iinc (v := (v3_2 + 1)) (lv' := [(3, .int (v3_2 + 1)), (2, .int (if v2_1 < r_7 then r_7 else v2_1)), (0, .ref cl0), (1, .int a1)]) hx hb dX1_wideOf_35 hl (k := 3) rfl rfl (by decide) rfl (fun ls hl => ?_)
          refine lv_goto (tgt := 4) hx hb dX1_wideOf_38 (by decide) ?_
          exact ih_4 (if v2_1 < r_7 then r_7 else v2_1) (v3_2 + 1) (hc_4 _ (Option.some.inj hf).symm) _ (lv_sub hl [2, 3, 1, 0] rfl)
  exact KL_4 _ 0 0 i_4 _ (lv_sub hl [2, 3, 1, 0] rfl)
abbrev rm_Cl_greatestWide : Room := { frames := 2, cells := 0, slots := 0, locals := 48 }
theorem hd_Cl_greatestWide : hdOK yX1_greatestWide 0 := by decide +kernel
theorem in_X1_greatestWide_X1 : ∀ w ∈ wsX10, w ∈ wsX1_greatestWide := by decide +kernel
set_option maxRecDepth 100000 in
set_option maxHeartbeats 4000000 in
theorem c_Cl_greatestWide (l : Launch) (E : En4) (cl0 cl1 cl2 cl3 pl0 pl1 pl2 pl3 pl4 pa0 pa1 : Nat) (cl_greatestDelay : Int32) (cl_delays : Nat → Int32) (cl_fractions : Nat → Int32) (cl_heads : Nat → Int32) (pl_places : Int32) (pl_links : Int32) (pl_mostDrawn : Int32) (pl_ofTen : Int32) (pl_z : Int32) (pl_lengths : Nat → Int32) (pl_told : Nat → Int32) (pl_delays : Nat → Int32) (pl_fractions : Nat → Int32) (pa_sums : Nat → Int32)  (res : Int32) (hf : Cl_greatestWide cl_heads pl_places pa_sums = some res) : Met l yX1_greatestWide wsX1_greatestWide rm_Cl_greatestWide (pcR [.ref cl0] E (w_Cl E cl0 cl1 cl2 cl3 pl0 pl1 pl2 pl3 pl4 pa0 pa1 cl_greatestDelay cl_delays cl_fractions cl_heads pl_places pl_links pl_mostDrawn pl_ofTen pl_z pl_lengths pl_told pl_delays pl_fractions pa_sums)) (vp_Si (fun r => r = res)) 0 0 (fun _ => False) := by
  refine mk_Ri (cc := cX1_greatestWide) (maxL := 3) (by decide) rfl (Nat.le_of_ble_eq_true rfl) ?_
  intro p e s m args below meth c Q S hKN hP hret ls hl
  obtain ⟨hx, hb, hml, hown, hts⟩ := S
  obtain ⟨hK, hN⟩ := hKN
  have hl : lv_has ls 3 [(0, .ref cl0)] := hl
  have q_0 := hts (.fieldLink RX1 21 "DelayClusters$Clustering" "plan" "LDelayClusters$Plan;") (by decide +kernel)
  have q_1 := hts (.methodLink RX1 53 Lib.Math.max.name) (by decide +kernel)
  have q_2 := hts (.static Lib.Math.max.name) (by decide +kernel)
  have q_3 := hts (.initialized "java/lang/Math") (by decide +kernel)
  have q_4 := hts (.code Lib.Math.max.name Lib.Math.max.code 2 (some .int)) (by decide +kernel)
  unfold Cl_greatestWide at hf
  refine lv_iconst (v := 0) hx hb dX1_greatestWide_0 (by decide) ?_
  refine lv_istore_n (lv' := [(1, .int 0), (0, .ref cl0)]) hx hb dX1_greatestWide_1 rfl hl (by decide) rfl (fun ls hl => ?_)
  refine lv_iconst (v := 0) hx hb dX1_greatestWide_2 (by decide) ?_
  refine lv_istore_n (lv' := [(2, .int 0), (1, .int 0), (0, .ref cl0)]) hx hb dX1_greatestWide_3 rfl hl (by decide) rfl (fun ls hl => ?_)
  obtain ⟨w_4, i_4, hf⟩ := bd_s hf
  have KX_4 : ∀ (v1_8 : Int32), v1_8 = w_4 → ∀ (ls : Array Slot), lv_has ls 3 [(1, .int v1_8)] → W p l e rm_Cl_greatestWide s m args below meth c s.heap [] 0 0 Q (F0 m 31 ls []) := by
    intro v1_8 e_
    subst e_
    try dsimp only at hf
    intro ls hl
    refine lv_iload_n hx hb dX1_greatestWide_31 rfl (lv_at hl 0 rfl) ?_
    exact hret ls 32 v1_8 dX1_greatestWide_32 (Option.some.inj hf)
  have KL_4 : ∀ (n_ : Nat) (v1_1 : Int32) (v2_2 : Int32), it (Cl_greatestWide_L4 cl_heads pl_places pa_sums) n_ (v1_1, v2_2) = some w_4 → ∀ (ls : Array Slot), lv_has ls 3 [(0, .ref cl0), (1, .int v1_1), (2, .int v2_2)] → W p l e rm_Cl_greatestWide s m args below meth c s.heap [] 0 0 Q (F0 m 4 ls []) := by
    intro n_
    induction n_ with
    | zero => intro v1_1 v2_2 hit; exact (it_z hit).elim
    | succ n_4 ih_4 =>
      intro v1_1 v2_2 hit
      intro ls hl
      obtain ⟨x_4, hf, hc_4, hq_4⟩ := it_s hit
      dsimp only [Cl_greatestWide_L4] at hf
      refine lv_iload_n hx hb dX1_greatestWide_4 rfl (lv_at hl 2 rfl) ?_
      refine lv_aload_n hx hb dX1_greatestWide_5 rfl (lv_at hl 0 rfl) ?_
      refine va_get (D := E.1) (ci := 1) (v := .ref pl0) (C := RX1) (T := TX1) (N := 6) hx hb hts in_X1_greatestWide_X1 hown hK hP 0 rfl rfl 0 (by decide) q_0 (fun _ h9 => h9) rfl dX1_greatestWide_6 ?_
      obtain ⟨r_4, h_3, hf⟩ := bd_s hf
      refine ca_V (As := []) (rest := [.int v2_2]) ⟨hx, hb, hml, hown, hts⟩ ⟨hK, hN⟩ hP (c_Pl_places l E pl0 pl1 pl2 pl3 pl4 pl_places pl_links pl_mostDrawn pl_ofTen pl_z pl_lengths pl_told pl_delays pl_fractions r_4 h_3) [4, 5, 6, 7, 8] rfl 5 4 rfl rfl rfl gX1_greatestWide_X5_places rfl rfl rfl rfl hd_Pl_places ⟨(Nat.le_of_ble_eq_true rfl), (Nat.le_of_ble_eq_true rfl)⟩ rfl hl.1 rfl (Nat.le_of_ble_eq_true rfl) dX1_greatestWide_9 ⟨(Nat.zero_le _), (Nat.zero_le _)⟩ ?_
      refine lv_icmp_ge (tgt := 31) hx hb dX1_greatestWide_12 (by decide) (fun c_7 => ?_) (fun c_7 => ?_)
      · have hf := ite_t c_7 hf
        exact KX_4 v1_1 (hq_4 _ (Option.some.inj hf).symm) _ (lv_sub hl [1] rfl)
      · have hf := ite_f c_7 hf
        refine lv_iload_n hx hb dX1_greatestWide_15 rfl (lv_at hl 1 rfl) ?_
        refine lv_aload_n hx hb dX1_greatestWide_16 rfl (lv_at hl 0 rfl) ?_
        refine lv_iload_n hx hb dX1_greatestWide_17 rfl (lv_at hl 2 rfl) ?_
        obtain ⟨r_6, h_5, hf⟩ := bd_s hf
        refine ca_V (As := [.int v2_2]) (rest := [.int v1_1]) ⟨hx, hb, hml, hown, hts⟩ ⟨hK, hN⟩ hP (c_Cl_depthOf l E cl0 cl1 cl2 cl3 pl0 pl1 pl2 pl3 pl4 pa0 pa1 cl_greatestDelay cl_delays cl_fractions cl_heads pl_places pl_links pl_mostDrawn pl_ofTen pl_z pl_lengths pl_told pl_delays pl_fractions pa_sums v2_2 r_6 h_5) [0, 1, 2, 3, 4, 5, 6, 7, 8, 9, 10] rfl 1 0 rfl rfl rfl gX1_greatestWide_X1_depthOf rfl rfl rfl rfl hd_Cl_depthOf ⟨(Nat.le_of_ble_eq_true rfl), (Nat.le_of_ble_eq_true rfl)⟩ rfl hl.1 rfl (Nat.le_of_ble_eq_true rfl) dX1_greatestWide_18 ⟨(Nat.zero_le _), (Nat.zero_le _)⟩ ?_
        refine va_mmax hx hb (by rw [hml]; exact hl.1.symm) hown q_1 q_2 q_3 q_4 (Nat.le_of_ble_eq_true rfl) (Nat.le_of_ble_eq_true rfl) (Nat.zero_le _) (Nat.zero_le _) dX1_greatestWide_21 ?_
        refine lv_istore_n (lv' := [(1, .int (if v1_1 < r_6 then r_6 else v1_1)), (0, .ref cl0), (2, .int v2_2)]) hx hb dX1_greatestWide_24 rfl hl (by decide) rfl (fun ls hl => ?_)
        refine lv_iinc (v := (v2_2 + 1)) (lv' := [(2, .int (v2_2 + 1)), (1, .int (if v1_1 < r_6 then r_6 else v1_1)), (0, .ref cl0)]) hx hb dX1_greatestWide_25 hl (k := 2) rfl rfl (by decide) rfl (fun ls hl => ?_)
        refine lv_goto (tgt := 4) hx hb dX1_greatestWide_28 (by decide) ?_
        exact ih_4 (if v1_1 < r_6 then r_6 else v1_1) (v2_2 + 1) (hc_4 _ (Option.some.inj hf).symm) _ (lv_sub hl [2, 1, 0] rfl)
  exact KL_4 _ 0 0 i_4 _ (lv_sub hl [2, 1, 0] rfl)
abbrev rm_Cl_lastHour : Room := { frames := 3, cells := 0, slots := 0, locals := 64 }
theorem hd_Cl_lastHour : hdOK yX1_lastHour 0 := by decide +kernel
theorem in_X1_lastHour_X1 : ∀ w ∈ wsX10, w ∈ wsX1_lastHour := by decide +kernel
set_option maxRecDepth 100000 in
set_option maxHeartbeats 4000000 in
theorem c_Cl_lastHour (l : Launch) (E : En4) (cl0 cl1 cl2 cl3 pl0 pl1 pl2 pl3 pl4 pa0 pa1 : Nat) (cl_greatestDelay : Int32) (cl_delays : Nat → Int32) (cl_fractions : Nat → Int32) (cl_heads : Nat → Int32) (pl_places : Int32) (pl_links : Int32) (pl_mostDrawn : Int32) (pl_ofTen : Int32) (pl_z : Int32) (pl_lengths : Nat → Int32) (pl_told : Nat → Int32) (pl_delays : Nat → Int32) (pl_fractions : Nat → Int32) (pa_sums : Nat → Int32)  (res : Int32) (hf : Cl_lastHour cl_greatestDelay cl_delays cl_heads pl_places pa_sums = some res) : Met l yX1_lastHour wsX1_lastHour rm_Cl_lastHour (pcR [.ref cl0] E (w_Cl E cl0 cl1 cl2 cl3 pl0 pl1 pl2 pl3 pl4 pa0 pa1 cl_greatestDelay cl_delays cl_fractions cl_heads pl_places pl_links pl_mostDrawn pl_ofTen pl_z pl_lengths pl_told pl_delays pl_fractions pa_sums)) (vp_Si (fun r => r = res)) 0 0 (fun _ => False) := by
  refine mk_Ri (cc := cX1_lastHour) (maxL := 3) (by decide) rfl (Nat.le_of_ble_eq_true rfl) ?_
  intro p e s m args below meth c Q S hKN hP hret ls hl
  obtain ⟨hx, hb, hml, hown, hts⟩ := S
  obtain ⟨hK, hN⟩ := hKN
  have hl : lv_has ls 3 [(0, .ref cl0)] := hl
  have q_0 := hts (.fieldLink RX1 21 "DelayClusters$Clustering" "plan" "LDelayClusters$Plan;") (by decide +kernel)
  have q_1 := hts (.methodLink RX1 53 Lib.Math.max.name) (by decide +kernel)
  have q_2 := hts (.static Lib.Math.max.name) (by decide +kernel)
  have q_3 := hts (.initialized "java/lang/Math") (by decide +kernel)
  have q_4 := hts (.code Lib.Math.max.name Lib.Math.max.code 2 (some .int)) (by decide +kernel)
  unfold Cl_lastHour at hf
  refine lv_iconst (v := 0) hx hb dX1_lastHour_0 (by decide) ?_
  refine lv_istore_n (lv' := [(1, .int 0), (0, .ref cl0)]) hx hb dX1_lastHour_1 rfl hl (by decide) rfl (fun ls hl => ?_)
  refine lv_iconst (v := 0) hx hb dX1_lastHour_2 (by decide) ?_
  refine lv_istore_n (lv' := [(2, .int 0), (1, .int 0), (0, .ref cl0)]) hx hb dX1_lastHour_3 rfl hl (by decide) rfl (fun ls hl => ?_)
  obtain ⟨w_4, i_4, hf⟩ := bd_s hf
  have KX_4 : ∀ (v1_8 : Int32), v1_8 = w_4 → ∀ (ls : Array Slot), lv_has ls 3 [(1, .int v1_8)] → W p l e rm_Cl_lastHour s m args below meth c s.heap [] 0 0 Q (F0 m 31 ls []) := by
    intro v1_8 e_
    subst e_
    try dsimp only at hf
    intro ls hl
    refine lv_iload_n hx hb dX1_lastHour_31 rfl (lv_at hl 0 rfl) ?_
    exact hret ls 32 v1_8 dX1_lastHour_32 (Option.some.inj hf)
  have KL_4 : ∀ (n_ : Nat) (v1_1 : Int32) (v2_2 : Int32), it (Cl_lastHour_L4 cl_greatestDelay cl_delays cl_heads pl_places pa_sums) n_ (v1_1, v2_2) = some w_4 → ∀ (ls : Array Slot), lv_has ls 3 [(0, .ref cl0), (1, .int v1_1), (2, .int v2_2)] → W p l e rm_Cl_lastHour s m args below meth c s.heap [] 0 0 Q (F0 m 4 ls []) := by
    intro n_
    induction n_ with
    | zero => intro v1_1 v2_2 hit; exact (it_z hit).elim
    | succ n_4 ih_4 =>
      intro v1_1 v2_2 hit
      intro ls hl
      obtain ⟨x_4, hf, hc_4, hq_4⟩ := it_s hit
      dsimp only [Cl_lastHour_L4] at hf
      refine lv_iload_n hx hb dX1_lastHour_4 rfl (lv_at hl 2 rfl) ?_
      refine lv_aload_n hx hb dX1_lastHour_5 rfl (lv_at hl 0 rfl) ?_
      refine va_get (D := E.1) (ci := 1) (v := .ref pl0) (C := RX1) (T := TX1) (N := 6) hx hb hts in_X1_lastHour_X1 hown hK hP 0 rfl rfl 0 (by decide) q_0 (fun _ h9 => h9) rfl dX1_lastHour_6 ?_
      obtain ⟨r_4, h_3, hf⟩ := bd_s hf
      refine ca_V (As := []) (rest := [.int v2_2]) ⟨hx, hb, hml, hown, hts⟩ ⟨hK, hN⟩ hP (c_Pl_places l E pl0 pl1 pl2 pl3 pl4 pl_places pl_links pl_mostDrawn pl_ofTen pl_z pl_lengths pl_told pl_delays pl_fractions r_4 h_3) [4, 5, 6, 7, 8] rfl 5 4 rfl rfl rfl gX1_lastHour_X5_places rfl rfl rfl rfl hd_Pl_places ⟨(Nat.le_of_ble_eq_true rfl), (Nat.le_of_ble_eq_true rfl)⟩ rfl hl.1 rfl (Nat.le_of_ble_eq_true rfl) dX1_lastHour_9 ⟨(Nat.zero_le _), (Nat.zero_le _)⟩ ?_
      refine lv_icmp_ge (tgt := 31) hx hb dX1_lastHour_12 (by decide) (fun c_7 => ?_) (fun c_7 => ?_)
      · have hf := ite_t c_7 hf
        exact KX_4 v1_1 (hq_4 _ (Option.some.inj hf).symm) _ (lv_sub hl [1] rfl)
      · have hf := ite_f c_7 hf
        refine lv_iload_n hx hb dX1_lastHour_15 rfl (lv_at hl 1 rfl) ?_
        refine lv_aload_n hx hb dX1_lastHour_16 rfl (lv_at hl 0 rfl) ?_
        refine lv_iload_n hx hb dX1_lastHour_17 rfl (lv_at hl 2 rfl) ?_
        obtain ⟨r_6, h_5, hf⟩ := bd_s hf
        refine ca_V (As := [.int v2_2]) (rest := [.int v1_1]) ⟨hx, hb, hml, hown, hts⟩ ⟨hK, hN⟩ hP (c_Cl_hourOf l E cl0 cl1 cl2 cl3 pl0 pl1 pl2 pl3 pl4 pa0 pa1 cl_greatestDelay cl_delays cl_fractions cl_heads pl_places pl_links pl_mostDrawn pl_ofTen pl_z pl_lengths pl_told pl_delays pl_fractions pa_sums v2_2 r_6 h_5) [0, 1, 2, 3, 4, 5, 6, 7, 8, 9, 10] rfl 1 0 rfl rfl rfl gX1_lastHour_X1_hourOf rfl rfl rfl rfl hd_Cl_hourOf ⟨(Nat.le_of_ble_eq_true rfl), (Nat.le_of_ble_eq_true rfl)⟩ rfl hl.1 rfl (Nat.le_of_ble_eq_true rfl) dX1_lastHour_18 ⟨(Nat.zero_le _), (Nat.zero_le _)⟩ ?_
        refine va_mmax hx hb (by rw [hml]; exact hl.1.symm) hown q_1 q_2 q_3 q_4 (Nat.le_of_ble_eq_true rfl) (Nat.le_of_ble_eq_true rfl) (Nat.zero_le _) (Nat.zero_le _) dX1_lastHour_21 ?_
        refine lv_istore_n (lv' := [(1, .int (if v1_1 < r_6 then r_6 else v1_1)), (0, .ref cl0), (2, .int v2_2)]) hx hb dX1_lastHour_24 rfl hl (by decide) rfl (fun ls hl => ?_)
        refine lv_iinc (v := (v2_2 + 1)) (lv' := [(2, .int (v2_2 + 1)), (1, .int (if v1_1 < r_6 then r_6 else v1_1)), (0, .ref cl0)]) hx hb dX1_lastHour_25 hl (k := 2) rfl rfl (by decide) rfl (fun ls hl => ?_)
        refine lv_goto (tgt := 4) hx hb dX1_lastHour_28 (by decide) ?_
        exact ih_4 (if v1_1 < r_6 then r_6 else v1_1) (v2_2 + 1) (hc_4 _ (Option.some.inj hf).symm) _ (lv_sub hl [2, 1, 0] rfl)
  exact KL_4 _ 0 0 i_4 _ (lv_sub hl [2, 1, 0] rfl)
abbrev rm_Cl_kindOf : Room := { frames := 3, cells := 0, slots := 0, locals := 66 }
theorem hd_Cl_kindOf : hdOK yX1_kindOf 2 := by decide +kernel
set_option maxRecDepth 100000 in
set_option maxHeartbeats 4000000 in
theorem c_Cl_kindOf (l : Launch) (E : En4) (cl0 cl1 cl2 cl3 pl0 pl1 pl2 pl3 pl4 pa0 pa1 : Nat) (cl_greatestDelay : Int32) (cl_delays : Nat → Int32) (cl_fractions : Nat → Int32) (cl_heads : Nat → Int32) (pl_places : Int32) (pl_links : Int32) (pl_mostDrawn : Int32) (pl_ofTen : Int32) (pl_z : Int32) (pl_lengths : Nat → Int32) (pl_told : Nat → Int32) (pl_delays : Nat → Int32) (pl_fractions : Nat → Int32) (pa_sums : Nat → Int32) (a1 : Int32) (a2 : Int32)  (res : Int32) (hf : Cl_kindOf cl_heads pl_places pl_lengths pa_sums a1 a2 = some res) : Met l yX1_kindOf wsX1_kindOf rm_Cl_kindOf (pcR [.ref cl0, .int a1, .int a2] E (w_Cl E cl0 cl1 cl2 cl3 pl0 pl1 pl2 pl3 pl4 pa0 pa1 cl_greatestDelay cl_delays cl_fractions cl_heads pl_places pl_links pl_mostDrawn pl_ofTen pl_z pl_lengths pl_told pl_delays pl_fractions pa_sums)) (vp_Si (fun r => r = res)) 0 0 (fun _ => False) := by
  refine mk_Ri (cc := cX1_kindOf) (maxL := 3) (by decide) rfl (Nat.le_of_ble_eq_true rfl) ?_
  intro p e s m args below meth c Q S hKN hP hret ls hl
  obtain ⟨hx, hb, hml, hown, hts⟩ := S
  obtain ⟨hK, hN⟩ := hKN
  have hl : lv_has ls 3 [(0, .ref cl0), (1, .int a1), (2, .int a2)] := hl
  unfold Cl_kindOf at hf
  refine lv_aload_n hx hb dX1_kindOf_0 rfl (lv_at hl 0 rfl) ?_
  refine lv_iload_n hx hb dX1_kindOf_1 rfl (lv_at hl 1 rfl) ?_
  refine lv_iload_n hx hb dX1_kindOf_2 rfl (lv_at hl 2 rfl) ?_
  obtain ⟨r_2, h_1, hf⟩ := bd_s hf
  refine ca_V (As := [.int a1, .int a2]) (rest := []) ⟨hx, hb, hml, hown, hts⟩ ⟨hK, hN⟩ hP (c_Cl_isCut l E cl0 cl1 cl2 cl3 pl0 pl1 pl2 pl3 pl4 pa0 pa1 cl_greatestDelay cl_delays cl_fractions cl_heads pl_places pl_links pl_mostDrawn pl_ofTen pl_z pl_lengths pl_told pl_delays pl_fractions pa_sums a1 a2 r_2 h_1) [0, 1, 2, 3, 4, 5, 6, 7, 8, 9, 10] rfl 1 0 rfl rfl rfl gX1_kindOf_X1_isCut rfl rfl rfl rfl hd_Cl_isCut ⟨(Nat.le_of_ble_eq_true rfl), (Nat.le_of_ble_eq_true rfl)⟩ rfl hl.1 rfl (Nat.le_of_ble_eq_true rfl) dX1_kindOf_3 ⟨(Nat.zero_le _), (Nat.zero_le _)⟩ ?_
  refine lv_if_eq (tgt := 11) hx hb dX1_kindOf_6 (by decide) (fun c_9 => ?_) (fun c_9 => ?_)
  · have hf := ite_t c_9 hf
    refine lv_aload_n hx hb dX1_kindOf_11 rfl (lv_at hl 0 rfl) ?_
    refine lv_iload_n hx hb dX1_kindOf_12 rfl (lv_at hl 1 rfl) ?_
    obtain ⟨r_4, h_3, hf⟩ := bd_s hf
    refine ca_V (As := [.int a1]) (rest := []) ⟨hx, hb, hml, hown, hts⟩ ⟨hK, hN⟩ hP (c_Cl_upOf l E cl0 cl1 cl2 cl3 pl0 pl1 pl2 pl3 pl4 pa0 pa1 cl_greatestDelay cl_delays cl_fractions cl_heads pl_places pl_links pl_mostDrawn pl_ofTen pl_z pl_lengths pl_told pl_delays pl_fractions pa_sums a1 r_4 h_3) [0, 1, 2, 3, 4, 5, 6, 7, 8, 9, 10] rfl 1 0 rfl rfl rfl gX1_kindOf_X1_upOf rfl rfl rfl rfl hd_Cl_upOf ⟨(Nat.le_of_ble_eq_true rfl), (Nat.le_of_ble_eq_true rfl)⟩ rfl hl.1 rfl (Nat.le_of_ble_eq_true rfl) dX1_kindOf_13 ⟨(Nat.zero_le _), (Nat.zero_le _)⟩ ?_
    refine lv_iload_n hx hb dX1_kindOf_16 rfl (lv_at hl 2 rfl) ?_
    refine lv_icmp_eq (tgt := 29) hx hb dX1_kindOf_17 (by decide) (fun c_8 => ?_) (fun c_8 => ?_)
    · have hf := ite_t c_8 hf
      refine lv_iconst (v := 0) hx hb dX1_kindOf_29 (by decide) ?_
      refine lv_goto (tgt := 34) hx hb dX1_kindOf_30 (by decide) ?_
      exact hret ls 34 0 dX1_kindOf_34 (Option.some.inj hf)
    · have hf := ite_f c_8 hf
      refine lv_aload_n hx hb dX1_kindOf_20 rfl (lv_at hl 0 rfl) ?_
      refine lv_iload_n hx hb dX1_kindOf_21 rfl (lv_at hl 2 rfl) ?_
      obtain ⟨r_6, h_5, hf⟩ := bd_s hf
      refine ca_V (As := [.int a2]) (rest := []) ⟨hx, hb, hml, hown, hts⟩ ⟨hK, hN⟩ hP (c_Cl_upOf l E cl0 cl1 cl2 cl3 pl0 pl1 pl2 pl3 pl4 pa0 pa1 cl_greatestDelay cl_delays cl_fractions cl_heads pl_places pl_links pl_mostDrawn pl_ofTen pl_z pl_lengths pl_told pl_delays pl_fractions pa_sums a2 r_6 h_5) [0, 1, 2, 3, 4, 5, 6, 7, 8, 9, 10] rfl 1 0 rfl rfl rfl gX1_kindOf_X1_upOf rfl rfl rfl rfl hd_Cl_upOf ⟨(Nat.le_of_ble_eq_true rfl), (Nat.le_of_ble_eq_true rfl)⟩ rfl hl.1 rfl (Nat.le_of_ble_eq_true rfl) dX1_kindOf_22 ⟨(Nat.zero_le _), (Nat.zero_le _)⟩ ?_
      refine lv_iload_n hx hb dX1_kindOf_25 rfl (lv_at hl 1 rfl) ?_
      refine lv_icmp_ne (tgt := 33) hx hb dX1_kindOf_26 (by decide) (fun c_7 => ?_) (fun c_7 => ?_)
      · have hf := ite_f c_7 hf
        refine lv_iconst (v := 1) hx hb dX1_kindOf_33 (by decide) ?_
        exact hret ls 34 1 dX1_kindOf_34 (Option.some.inj hf)
      · have hf := ite_t c_7 hf
        refine lv_iconst (v := 0) hx hb dX1_kindOf_29 (by decide) ?_
        refine lv_goto (tgt := 34) hx hb dX1_kindOf_30 (by decide) ?_
        exact hret ls 34 0 dX1_kindOf_34 (Option.some.inj hf)
  · have hf := ite_f c_9 hf
    refine lv_iconst (v := 2) hx hb dX1_kindOf_9 (by decide) ?_
    exact hret ls 10 2 dX1_kindOf_10 (Option.some.inj hf)
abbrev rm_Cl_cutLinks : Room := { frames := 1, cells := 0, slots := 0, locals := 22 }
theorem hd_Cl_cutLinks : hdOK yX1_cutLinks 0 := by decide +kernel
theorem in_X1_cutLinks_X1 : ∀ w ∈ wsX10, w ∈ wsX1_cutLinks := by decide +kernel
set_option maxRecDepth 100000 in
set_option maxHeartbeats 4000000 in
theorem c_Cl_cutLinks (l : Launch) (E : En4) (cl0 cl1 cl2 cl3 pl0 pl1 pl2 pl3 pl4 pa0 pa1 : Nat) (cl_greatestDelay : Int32) (cl_delays : Nat → Int32) (cl_fractions : Nat → Int32) (cl_heads : Nat → Int32) (pl_places : Int32) (pl_links : Int32) (pl_mostDrawn : Int32) (pl_ofTen : Int32) (pl_z : Int32) (pl_lengths : Nat → Int32) (pl_told : Nat → Int32) (pl_delays : Nat → Int32) (pl_fractions : Nat → Int32) (pa_sums : Nat → Int32)  (res : Int32) (hf : Cl_cutLinks cl_heads pl_places pl_lengths = some res) : Met l yX1_cutLinks wsX1_cutLinks rm_Cl_cutLinks (pcR [.ref cl0] E (w_Cl E cl0 cl1 cl2 cl3 pl0 pl1 pl2 pl3 pl4 pa0 pa1 cl_greatestDelay cl_delays cl_fractions cl_heads pl_places pl_links pl_mostDrawn pl_ofTen pl_z pl_lengths pl_told pl_delays pl_fractions pa_sums)) (vp_Si (fun r => r = res)) 0 0 (fun _ => False) := by
  refine mk_Ri (cc := cX1_cutLinks) (maxL := 4) (by decide) rfl (Nat.le_of_ble_eq_true rfl) ?_
  intro p e s m args below meth c Q S hKN hP hret ls hl
  obtain ⟨hx, hb, hml, hown, hts⟩ := S
  obtain ⟨hK, hN⟩ := hKN
  have hl : lv_has ls 4 [(0, .ref cl0)] := hl
  have q_0 := hts (.fieldLink RX1 21 "DelayClusters$Clustering" "plan" "LDelayClusters$Plan;") (by decide +kernel)
  unfold Cl_cutLinks at hf
  refine lv_iconst (v := 0) hx hb dX1_cutLinks_0 (by decide) ?_
  refine lv_istore_n (lv' := [(1, .int 0), (0, .ref cl0)]) hx hb dX1_cutLinks_1 rfl hl (by decide) rfl (fun ls hl => ?_)
  refine lv_iconst (v := 0) hx hb dX1_cutLinks_2 (by decide) ?_
  refine lv_istore_n (lv' := [(2, .int 0), (1, .int 0), (0, .ref cl0)]) hx hb dX1_cutLinks_3 rfl hl (by decide) rfl (fun ls hl => ?_)
  obtain ⟨w_4, i_4, hf⟩ := bd_s hf
  have KX_4 : ∀ (v1_16 : Int32), v1_16 = w_4 → ∀ (ls : Array Slot), lv_has ls 4 [(1, .int v1_16)] → W p l e rm_Cl_cutLinks s m args below meth c s.heap [] 0 0 Q (F0 m 58 ls []) := by
    intro v1_16 e_
    subst e_
    try dsimp only at hf
    intro ls hl
    refine lv_iload_n hx hb dX1_cutLinks_58 rfl (lv_at hl 0 rfl) ?_
    exact hret ls 59 v1_16 dX1_cutLinks_59 (Option.some.inj hf)
  have KL_4 : ∀ (n_ : Nat) (v1_1 : Int32) (v2_2 : Int32), it (Cl_cutLinks_L4 cl_heads pl_places pl_lengths) n_ (v1_1, v2_2) = some w_4 → ∀ (ls : Array Slot), lv_has ls 4 [(0, .ref cl0), (1, .int v1_1), (2, .int v2_2)] → W p l e rm_Cl_cutLinks s m args below meth c s.heap [] 0 0 Q (F0 m 4 ls []) := by
    intro n_
    induction n_ with
    | zero => intro v1_1 v2_2 hit; exact (it_z hit).elim
    | succ n_4 ih_4 =>
      intro v1_1 v2_2 hit
      intro ls hl
      obtain ⟨x_4, hf, hc_4, hq_4⟩ := it_s hit
      dsimp only [Cl_cutLinks_L4] at hf
      refine lv_iload_n hx hb dX1_cutLinks_4 rfl (lv_at hl 2 rfl) ?_
      refine lv_aload_n hx hb dX1_cutLinks_5 rfl (lv_at hl 0 rfl) ?_
      refine va_get (D := E.1) (ci := 1) (v := .ref pl0) (C := RX1) (T := TX1) (N := 6) hx hb hts in_X1_cutLinks_X1 hown hK hP 0 rfl rfl 0 (by decide) q_0 (fun _ h9 => h9) rfl dX1_cutLinks_6 ?_
      obtain ⟨r_4, h_3, hf⟩ := bd_s hf
      refine ca_V (As := []) (rest := [.int v2_2]) ⟨hx, hb, hml, hown, hts⟩ ⟨hK, hN⟩ hP (c_Pl_places l E pl0 pl1 pl2 pl3 pl4 pl_places pl_links pl_mostDrawn pl_ofTen pl_z pl_lengths pl_told pl_delays pl_fractions r_4 h_3) [4, 5, 6, 7, 8] rfl 5 4 rfl rfl rfl gX1_cutLinks_X5_places rfl rfl rfl rfl hd_Pl_places ⟨(Nat.le_of_ble_eq_true rfl), (Nat.le_of_ble_eq_true rfl)⟩ rfl hl.1 rfl (Nat.le_of_ble_eq_true rfl) dX1_cutLinks_9 ⟨(Nat.zero_le _), (Nat.zero_le _)⟩ ?_
      refine lv_icmp_ge (tgt := 58) hx hb dX1_cutLinks_12 (by decide) (fun c_15 => ?_) (fun c_15 => ?_)
      · have hf := ite_t c_15 hf
        exact KX_4 v1_1 (hq_4 _ (Option.some.inj hf).symm) _ (lv_sub hl [1] rfl)
      · have hf := ite_f c_15 hf
        refine lv_iconst (v := 0) hx hb dX1_cutLinks_15 (by decide) ?_
        refine lv_istore_n (lv' := [(3, .int 0), (0, .ref cl0), (1, .int v1_1), (2, .int v2_2)]) hx hb dX1_cutLinks_16 rfl hl (by decide) rfl (fun ls hl => ?_)
        obtain ⟨w_17, i_17, hf⟩ := bd_s hf
        have KX_17 : ∀ (v1_14 : Int32), v1_14 = w_17 → ∀ (ls : Array Slot), lv_has ls 4 [(0, .ref cl0), (1, .int v1_14), (2, .int v2_2)] → W p l e rm_Cl_cutLinks s m args below meth c s.heap [] 0 0 Q (F0 m 52 ls []) := by
          intro v1_14 e_
          subst e_
          try dsimp only at hf
          intro ls hl
          refine lv_iinc (v := (v2_2 + 1)) (lv' := [(2, .int (v2_2 + 1)), (0, .ref cl0), (1, .int v1_14)]) hx hb dX1_cutLinks_52 hl (k := 2) rfl rfl (by decide) rfl (fun ls hl => ?_)
          refine lv_goto (tgt := 4) hx hb dX1_cutLinks_55 (by decide) ?_
          exact ih_4 v1_14 (v2_2 + 1) (hc_4 _ (Option.some.inj hf).symm) _ (lv_sub hl [1, 2, 0] rfl)
        have KL_17 : ∀ (n_ : Nat) (v1_5 : Int32) (v3_6 : Int32), it (Cl_cutLinks_L17 cl_heads pl_lengths v2_2) n_ (v1_5, v3_6) = some w_17 → ∀ (ls : Array Slot), lv_has ls 4 [(0, .ref cl0), (1, .int v1_5), (2, .int v2_2), (3, .int v3_6)] → W p l e rm_Cl_cutLinks s m args below meth c s.heap [] 0 0 Q (F0 m 17 ls []) := by
          intro n_
          induction n_ with
          | zero => intro v1_5 v3_6 hit; exact (it_z hit).elim
          | succ n_17 ih_17 =>
            intro v1_5 v3_6 hit
            intro ls hl
            obtain ⟨x_17, hf, hc_17, hq_17⟩ := it_s hit
            dsimp only [Cl_cutLinks_L17] at hf
            refine lv_iload_n hx hb dX1_cutLinks_17 rfl (lv_at hl 3 rfl) ?_
            refine lv_iload_n hx hb dX1_cutLinks_18 rfl (lv_at hl 2 rfl) ?_
            refine lv_icmp_ge (tgt := 52) hx hb dX1_cutLinks_19 (by decide) (fun c_13 => ?_) (fun c_13 => ?_)
            · have hf := ite_t c_13 hf
              exact KX_17 v1_5 (hq_17 _ (Option.some.inj hf).symm) _ (lv_sub hl [0, 1, 2] rfl)
            · have hf := ite_f c_13 hf
              refine lv_aload_n hx hb dX1_cutLinks_22 rfl (lv_at hl 0 rfl) ?_
              refine va_get (D := E.1) (ci := 1) (v := .ref pl0) (C := RX1) (T := TX1) (N := 6) hx hb hts in_X1_cutLinks_X1 hown hK hP 0 rfl rfl 0 (by decide) q_0 (fun _ h9 => h9) rfl dX1_cutLinks_23 ?_
              refine lv_iload_n hx hb dX1_cutLinks_26 rfl (lv_at hl 2 rfl) ?_
              refine lv_iload_n hx hb dX1_cutLinks_27 rfl (lv_at hl 3 rfl) ?_
              obtain ⟨r_8, h_7, hf⟩ := bd_s hf
              refine ca_V (As := [.int v2_2, .int v3_6]) (rest := []) ⟨hx, hb, hml, hown, hts⟩ ⟨hK, hN⟩ hP (c_Pl_lengthOf l E pl0 pl1 pl2 pl3 pl4 pl_places pl_links pl_mostDrawn pl_ofTen pl_z pl_lengths pl_told pl_delays pl_fractions v2_2 v3_6 r_8 h_7) [4, 5, 6, 7, 8] rfl 5 4 rfl rfl rfl gX1_cutLinks_X5_lengthOf rfl rfl rfl rfl hd_Pl_lengthOf ⟨(Nat.le_of_ble_eq_true rfl), (Nat.le_of_ble_eq_true rfl)⟩ rfl hl.1 rfl (Nat.le_of_ble_eq_true rfl) dX1_cutLinks_28 ⟨(Nat.zero_le _), (Nat.zero_le _)⟩ ?_
              refine lv_if_eq (tgt := 46) hx hb dX1_cutLinks_31 (by decide) (fun c_12 => ?_) (fun c_12 => ?_)
              · have hf := ite_t c_12 hf
                refine lv_iinc (v := (v3_6 + 1)) (lv' := [(3, .int (v3_6 + 1)), (0, .ref cl0), (1, .int v1_5), (2, .int v2_2)]) hx hb dX1_cutLinks_46 hl (k := 3) rfl rfl (by decide) rfl (fun ls hl => ?_)
                refine lv_goto (tgt := 17) hx hb dX1_cutLinks_49 (by decide) ?_
                exact ih_17 v1_5 (v3_6 + 1) (hc_17 _ (Option.some.inj hf).symm) _ (lv_sub hl [1, 2, 3, 0] rfl)
              · have hf := ite_f c_12 hf
                refine lv_aload_n hx hb dX1_cutLinks_34 rfl (lv_at hl 0 rfl) ?_
                refine lv_iload_n hx hb dX1_cutLinks_35 rfl (lv_at hl 2 rfl) ?_
                refine lv_iload_n hx hb dX1_cutLinks_36 rfl (lv_at hl 3 rfl) ?_
                obtain ⟨r_10, h_9, hf⟩ := bd_s hf
                refine ca_V (As := [.int v2_2, .int v3_6]) (rest := []) ⟨hx, hb, hml, hown, hts⟩ ⟨hK, hN⟩ hP (c_Cl_isCut l E cl0 cl1 cl2 cl3 pl0 pl1 pl2 pl3 pl4 pa0 pa1 cl_greatestDelay cl_delays cl_fractions cl_heads pl_places pl_links pl_mostDrawn pl_ofTen pl_z pl_lengths pl_told pl_delays pl_fractions pa_sums v2_2 v3_6 r_10 h_9) [0, 1, 2, 3, 4, 5, 6, 7, 8, 9, 10] rfl 1 0 rfl rfl rfl gX1_cutLinks_X1_isCut rfl rfl rfl rfl hd_Cl_isCut ⟨(Nat.le_of_ble_eq_true rfl), (Nat.le_of_ble_eq_true rfl)⟩ rfl hl.1 rfl (Nat.le_of_ble_eq_true rfl) dX1_cutLinks_37 ⟨(Nat.zero_le _), (Nat.zero_le _)⟩ ?_
                refine lv_if_eq (tgt := 46) hx hb dX1_cutLinks_40 (by decide) (fun c_11 => ?_) (fun c_11 => ?_)
                · have hf := ite_t c_11 hf
                  refine lv_iinc (v := (v3_6 + 1)) (lv' := [(3, .int (v3_6 + 1)), (0, .ref cl0), (1, .int v1_5), (2, .int v2_2)]) hx hb dX1_cutLinks_46 hl (k := 3) rfl rfl (by decide) rfl (fun ls hl => ?_)
                  refine lv_goto (tgt := 17) hx hb dX1_cutLinks_49 (by decide) ?_
                  exact ih_17 v1_5 (v3_6 + 1) (hc_17 _ (Option.some.inj hf).symm) _ (lv_sub hl [1, 2, 3, 0] rfl)
                · have hf := ite_f c_11 hf
                  refine lv_iinc (v := (v1_5 + 1)) (lv' := [(1, .int (v1_5 + 1)), (0, .ref cl0), (2, .int v2_2), (3, .int v3_6)]) hx hb dX1_cutLinks_43 hl (k := 1) rfl rfl (by decide) rfl (fun ls hl => ?_)
                  refine lv_iinc (v := (v3_6 + 1)) (lv' := [(3, .int (v3_6 + 1)), (1, .int (v1_5 + 1)), (0, .ref cl0), (2, .int v2_2)]) hx hb dX1_cutLinks_46 hl (k := 3) rfl rfl (by decide) rfl (fun ls hl => ?_)
                  refine lv_goto (tgt := 17) hx hb dX1_cutLinks_49 (by decide) ?_
                  exact ih_17 (v1_5 + 1) (v3_6 + 1) (hc_17 _ (Option.some.inj hf).symm) _ (lv_sub hl [2, 1, 3, 0] rfl)
        exact KL_17 _ v1_1 0 i_17 _ (lv_sub hl [1, 2, 3, 0] rfl)
  exact KL_4 _ 0 0 i_4 _ (lv_sub hl [2, 1, 0] rfl)
abbrev rm_Cl_spareLinks : Room := { frames := 3, cells := 0, slots := 0, locals := 64 }
theorem hd_Cl_spareLinks : hdOK yX1_spareLinks 0 := by decide +kernel
theorem in_X1_spareLinks_X1 : ∀ w ∈ wsX10, w ∈ wsX1_spareLinks := by decide +kernel
set_option maxRecDepth 100000 in
set_option maxHeartbeats 4000000 in
theorem c_Cl_spareLinks (l : Launch) (E : En4) (cl0 cl1 cl2 cl3 pl0 pl1 pl2 pl3 pl4 pa0 pa1 : Nat) (cl_greatestDelay : Int32) (cl_delays : Nat → Int32) (cl_fractions : Nat → Int32) (cl_heads : Nat → Int32) (pl_places : Int32) (pl_links : Int32) (pl_mostDrawn : Int32) (pl_ofTen : Int32) (pl_z : Int32) (pl_lengths : Nat → Int32) (pl_told : Nat → Int32) (pl_delays : Nat → Int32) (pl_fractions : Nat → Int32) (pa_sums : Nat → Int32)  (res : Int32) (hf : Cl_spareLinks cl_heads pl_places pl_links pl_lengths = some res) : Met l yX1_spareLinks wsX1_spareLinks rm_Cl_spareLinks (pcR [.ref cl0] E (w_Cl E cl0 cl1 cl2 cl3 pl0 pl1 pl2 pl3 pl4 pa0 pa1 cl_greatestDelay cl_delays cl_fractions cl_heads pl_places pl_links pl_mostDrawn pl_ofTen pl_z pl_lengths pl_told pl_delays pl_fractions pa_sums)) (vp_Si (fun r => r = res)) 0 0 (fun _ => False) := by
  refine mk_Ri (cc := cX1_spareLinks) (maxL := 2) (by decide) rfl (Nat.le_of_ble_eq_true rfl) ?_
  intro p e s m args below meth c Q S hKN hP hret ls hl
  obtain ⟨hx, hb, hml, hown, hts⟩ := S
  obtain ⟨hK, hN⟩ := hKN
  have hl : lv_has ls 2 [(0, .ref cl0)] := hl
  have q_0 := hts (.fieldLink RX1 21 "DelayClusters$Clustering" "plan" "LDelayClusters$Plan;") (by decide +kernel)
  unfold Cl_spareLinks at hf
  refine lv_aload_n hx hb dX1_spareLinks_0 rfl (lv_at hl 0 rfl) ?_
  refine va_get (D := E.1) (ci := 1) (v := .ref pl0) (C := RX1) (T := TX1) (N := 6) hx hb hts in_X1_spareLinks_X1 hown hK hP 0 rfl rfl 0 (by decide) q_0 (fun _ h9 => h9) rfl dX1_spareLinks_1 ?_
  obtain ⟨r_2, h_1, hf⟩ := bd_s hf
  refine ca_V (As := []) (rest := []) ⟨hx, hb, hml, hown, hts⟩ ⟨hK, hN⟩ hP (c_Pl_places l E pl0 pl1 pl2 pl3 pl4 pl_places pl_links pl_mostDrawn pl_ofTen pl_z pl_lengths pl_told pl_delays pl_fractions r_2 h_1) [4, 5, 6, 7, 8] rfl 5 4 rfl rfl rfl gX1_spareLinks_X5_places rfl rfl rfl rfl hd_Pl_places ⟨(Nat.le_of_ble_eq_true rfl), (Nat.le_of_ble_eq_true rfl)⟩ rfl hl.1 rfl (Nat.le_of_ble_eq_true rfl) dX1_spareLinks_4 ⟨(Nat.zero_le _), (Nat.zero_le _)⟩ ?_
  refine lv_aload_n hx hb dX1_spareLinks_7 rfl (lv_at hl 0 rfl) ?_
  obtain ⟨r_4, h_3, hf⟩ := bd_s hf
  refine ca_V (As := []) (rest := [.int r_2]) ⟨hx, hb, hml, hown, hts⟩ ⟨hK, hN⟩ hP (c_Cl_clusters l E cl0 cl1 cl2 cl3 pl0 pl1 pl2 pl3 pl4 pa0 pa1 cl_greatestDelay cl_delays cl_fractions cl_heads pl_places pl_links pl_mostDrawn pl_ofTen pl_z pl_lengths pl_told pl_delays pl_fractions pa_sums r_4 h_3) [0, 1, 2, 3, 4, 5, 6, 7, 8, 9, 10] rfl 1 0 rfl rfl rfl gX1_spareLinks_X1_clusters rfl rfl rfl rfl hd_Cl_clusters ⟨(Nat.le_of_ble_eq_true rfl), (Nat.le_of_ble_eq_true rfl)⟩ rfl hl.1 rfl (Nat.le_of_ble_eq_true rfl) dX1_spareLinks_8 ⟨(Nat.zero_le _), (Nat.zero_le _)⟩ ?_
  refine lv_isub hx hb dX1_spareLinks_11 ?_
  refine lv_istore_n (lv' := [(1, .int (r_2 - r_4)), (0, .ref cl0)]) hx hb dX1_spareLinks_12 rfl hl (by decide) rfl (fun ls hl => ?_)
  refine lv_aload_n hx hb dX1_spareLinks_13 rfl (lv_at hl 1 rfl) ?_
  refine va_get (D := E.1) (ci := 1) (v := .ref pl0) (C := RX1) (T := TX1) (N := 6) hx hb hts in_X1_spareLinks_X1 hown hK hP 0 rfl rfl 0 (by decide) q_0 (fun _ h9 => h9) rfl dX1_spareLinks_14 ?_
  obtain ⟨r_6, h_5, hf⟩ := bd_s hf
  refine ca_V (As := []) (rest := []) ⟨hx, hb, hml, hown, hts⟩ ⟨hK, hN⟩ hP (c_Pl_links l E pl0 pl1 pl2 pl3 pl4 pl_places pl_links pl_mostDrawn pl_ofTen pl_z pl_lengths pl_told pl_delays pl_fractions r_6 h_5) [4, 5, 6, 7, 8] rfl 5 4 rfl rfl rfl gX1_spareLinks_X5_links rfl rfl rfl rfl hd_Pl_links ⟨(Nat.le_of_ble_eq_true rfl), (Nat.le_of_ble_eq_true rfl)⟩ rfl hl.1 rfl (Nat.le_of_ble_eq_true rfl) dX1_spareLinks_17 ⟨(Nat.zero_le _), (Nat.zero_le _)⟩ ?_
  refine lv_aload_n hx hb dX1_spareLinks_20 rfl (lv_at hl 1 rfl) ?_
  obtain ⟨r_8, h_7, hf⟩ := bd_s hf
  refine ca_V (As := []) (rest := [.int r_6]) ⟨hx, hb, hml, hown, hts⟩ ⟨hK, hN⟩ hP (c_Cl_cutLinks l E cl0 cl1 cl2 cl3 pl0 pl1 pl2 pl3 pl4 pa0 pa1 cl_greatestDelay cl_delays cl_fractions cl_heads pl_places pl_links pl_mostDrawn pl_ofTen pl_z pl_lengths pl_told pl_delays pl_fractions pa_sums r_8 h_7) [0, 1, 2, 3, 4, 5, 6, 7, 8, 9, 10] rfl 1 0 rfl rfl rfl gX1_spareLinks_X1_cutLinks rfl rfl rfl rfl hd_Cl_cutLinks ⟨(Nat.le_of_ble_eq_true rfl), (Nat.le_of_ble_eq_true rfl)⟩ rfl hl.1 rfl (Nat.le_of_ble_eq_true rfl) dX1_spareLinks_21 ⟨(Nat.zero_le _), (Nat.zero_le _)⟩ ?_
  refine lv_isub hx hb dX1_spareLinks_24 ?_
  refine lv_iload_n hx hb dX1_spareLinks_25 rfl (lv_at hl 0 rfl) ?_
  refine lv_isub hx hb dX1_spareLinks_26 ?_
  exact hret ls 27 ((r_6 - r_8) - (r_2 - r_4)) dX1_spareLinks_27 (Option.some.inj hf)
abbrev rm_Cl_isLinkBetween : Room := { frames := 1, cells := 0, slots := 0, locals := 22 }
theorem hd_Cl_isLinkBetween : hdOK yX1_isLinkBetween 4 := by decide +kernel
theorem in_X1_isLinkBetween_X1 : ∀ w ∈ wsX10, w ∈ wsX1_isLinkBetween := by decide +kernel
set_option maxRecDepth 100000 in
set_option maxHeartbeats 4000000 in
theorem c_Cl_isLinkBetween (l : Launch) (E : En4) (cl0 cl1 cl2 cl3 pl0 pl1 pl2 pl3 pl4 pa0 pa1 : Nat) (cl_greatestDelay : Int32) (cl_delays : Nat → Int32) (cl_fractions : Nat → Int32) (cl_heads : Nat → Int32) (pl_places : Int32) (pl_links : Int32) (pl_mostDrawn : Int32) (pl_ofTen : Int32) (pl_z : Int32) (pl_lengths : Nat → Int32) (pl_told : Nat → Int32) (pl_delays : Nat → Int32) (pl_fractions : Nat → Int32) (pa_sums : Nat → Int32) (a1 : Int32) (a2 : Int32) (a3 : Int32) (a4 : Int32)  (res : Int32) (hf : Cl_isLinkBetween cl_heads pl_lengths a1 a2 a3 a4 = some res) : Met l yX1_isLinkBetween wsX1_isLinkBetween rm_Cl_isLinkBetween (pcR [.ref cl0, .int a1, .int a2, .int a3, .int a4] E (w_Cl E cl0 cl1 cl2 cl3 pl0 pl1 pl2 pl3 pl4 pa0 pa1 cl_greatestDelay cl_delays cl_fractions cl_heads pl_places pl_links pl_mostDrawn pl_ofTen pl_z pl_lengths pl_told pl_delays pl_fractions pa_sums)) (vp_Si (fun r => r = res)) 0 0 (fun _ => False) := by
  refine mk_Rz (cc := cX1_isLinkBetween) (maxL := 5) (by decide) rfl (Nat.le_of_ble_eq_true rfl) ?_
  intro p e s m args below meth c Q S hKN hP hret ls hl
  obtain ⟨hx, hb, hml, hown, hts⟩ := S
  obtain ⟨hK, hN⟩ := hKN
  have hl : lv_has ls 5 [(0, .ref cl0), (1, .int a1), (2, .int a2), (3, .int a3), (4, .int a4)] := hl
  have q_0 := hts (.fieldLink RX1 18 "DelayClusters$Clustering" "heads" "[I") (by decide +kernel)
  have q_1 := hts (.fieldLink RX1 21 "DelayClusters$Clustering" "plan" "LDelayClusters$Plan;") (by decide +kernel)
  unfold Cl_isLinkBetween at hf
  refine lv_aload_n hx hb dX1_isLinkBetween_0 rfl (lv_at hl 0 rfl) ?_
  refine va_get (D := E.1) (ci := 1) (v := .ref cl3) (C := RX1) (T := TX1) (N := 6) hx hb hts in_X1_isLinkBetween_X1 hown hK hP 0 rfl rfl 4 (by decide) q_0 (fun _ h9 => h9) rfl dX1_isLinkBetween_1 ?_
  refine lv_iload_n hx hb dX1_isLinkBetween_4 rfl (lv_at hl 1 rfl) ?_
  obtain ⟨g_1, hf⟩ := gk_s hf
  refine va_iald hx hb hK hP 3 0 rfl rfl g_1 dX1_isLinkBetween_5 ?_
  refine lv_iload_n hx hb dX1_isLinkBetween_6 rfl (lv_at hl 3 rfl) ?_
  refine lv_icmp_ne (tgt := 37) hx hb dX1_isLinkBetween_7 (by decide) (fun c_7 => ?_) (fun c_7 => ?_)
  · have hf := ite_f c_7 hf
    refine lv_iconst (v := 0) hx hb dX1_isLinkBetween_37 (by decide) ?_
    exact hret ls 38 0 dX1_isLinkBetween_38 (by decide) (Option.some.inj hf)
  · have hf := ite_t c_7 hf
    refine lv_aload_n hx hb dX1_isLinkBetween_10 rfl (lv_at hl 0 rfl) ?_
    refine va_get (D := E.1) (ci := 1) (v := .ref cl3) (C := RX1) (T := TX1) (N := 6) hx hb hts in_X1_isLinkBetween_X1 hown hK hP 0 rfl rfl 4 (by decide) q_0 (fun _ h9 => h9) rfl dX1_isLinkBetween_11 ?_
    refine lv_iload_n hx hb dX1_isLinkBetween_14 rfl (lv_at hl 2 rfl) ?_
    obtain ⟨g_2, hf⟩ := gk_s hf
    refine va_iald hx hb hK hP 3 0 rfl rfl g_2 dX1_isLinkBetween_15 ?_
    refine lv_iload hx hb dX1_isLinkBetween_16 (lv_at hl 4 rfl) ?_
    refine lv_icmp_ne (tgt := 37) hx hb dX1_isLinkBetween_18 (by decide) (fun c_6 => ?_) (fun c_6 => ?_)
    · have hf := ite_f c_6 hf
      refine lv_iconst (v := 0) hx hb dX1_isLinkBetween_37 (by decide) ?_
      exact hret ls 38 0 dX1_isLinkBetween_38 (by decide) (Option.some.inj hf)
    · have hf := ite_t c_6 hf
      refine lv_aload_n hx hb dX1_isLinkBetween_21 rfl (lv_at hl 0 rfl) ?_
      refine va_get (D := E.1) (ci := 1) (v := .ref pl0) (C := RX1) (T := TX1) (N := 6) hx hb hts in_X1_isLinkBetween_X1 hown hK hP 0 rfl rfl 0 (by decide) q_1 (fun _ h9 => h9) rfl dX1_isLinkBetween_22 ?_
      refine lv_iload_n hx hb dX1_isLinkBetween_25 rfl (lv_at hl 1 rfl) ?_
      refine lv_iload_n hx hb dX1_isLinkBetween_26 rfl (lv_at hl 2 rfl) ?_
      obtain ⟨r_4, h_3, hf⟩ := bd_s hf
      refine ca_V (As := [.int a1, .int a2]) (rest := []) ⟨hx, hb, hml, hown, hts⟩ ⟨hK, hN⟩ hP (c_Pl_lengthOf l E pl0 pl1 pl2 pl3 pl4 pl_places pl_links pl_mostDrawn pl_ofTen pl_z pl_lengths pl_told pl_delays pl_fractions a1 a2 r_4 h_3) [4, 5, 6, 7, 8] rfl 5 4 rfl rfl rfl gX1_isLinkBetween_X5_lengthOf rfl rfl rfl rfl hd_Pl_lengthOf ⟨(Nat.le_of_ble_eq_true rfl), (Nat.le_of_ble_eq_true rfl)⟩ rfl hl.1 rfl (Nat.le_of_ble_eq_true rfl) dX1_isLinkBetween_27 ⟨(Nat.zero_le _), (Nat.zero_le _)⟩ ?_
      refine lv_if_eq (tgt := 37) hx hb dX1_isLinkBetween_30 (by decide) (fun c_5 => ?_) (fun c_5 => ?_)
      · have hf := ite_t c_5 hf
        refine lv_iconst (v := 0) hx hb dX1_isLinkBetween_37 (by decide) ?_
        exact hret ls 38 0 dX1_isLinkBetween_38 (by decide) (Option.some.inj hf)
      · have hf := ite_f c_5 hf
        refine lv_iconst (v := 1) hx hb dX1_isLinkBetween_33 (by decide) ?_
        refine lv_goto (tgt := 38) hx hb dX1_isLinkBetween_34 (by decide) ?_
        exact hret ls 38 1 dX1_isLinkBetween_38 (by decide) (Option.some.inj hf)
abbrev rm_Cl_cutLinksBetween : Room := { frames := 2, cells := 0, slots := 0, locals := 46 }
theorem hd_Cl_cutLinksBetween : hdOK yX1_cutLinksBetween 2 := by decide +kernel
theorem in_X1_cutLinksBetween_X1 : ∀ w ∈ wsX10, w ∈ wsX1_cutLinksBetween := by decide +kernel
set_option maxRecDepth 100000 in
set_option maxHeartbeats 4000000 in
theorem c_Cl_cutLinksBetween (l : Launch) (E : En4) (cl0 cl1 cl2 cl3 pl0 pl1 pl2 pl3 pl4 pa0 pa1 : Nat) (cl_greatestDelay : Int32) (cl_delays : Nat → Int32) (cl_fractions : Nat → Int32) (cl_heads : Nat → Int32) (pl_places : Int32) (pl_links : Int32) (pl_mostDrawn : Int32) (pl_ofTen : Int32) (pl_z : Int32) (pl_lengths : Nat → Int32) (pl_told : Nat → Int32) (pl_delays : Nat → Int32) (pl_fractions : Nat → Int32) (pa_sums : Nat → Int32) (a1 : Int32) (a2 : Int32)  (res : Int32) (hf : Cl_cutLinksBetween cl_heads pl_places pl_lengths a1 a2 = some res) : Met l yX1_cutLinksBetween wsX1_cutLinksBetween rm_Cl_cutLinksBetween (pcR [.ref cl0, .int a1, .int a2] E (w_Cl E cl0 cl1 cl2 cl3 pl0 pl1 pl2 pl3 pl4 pa0 pa1 cl_greatestDelay cl_delays cl_fractions cl_heads pl_places pl_links pl_mostDrawn pl_ofTen pl_z pl_lengths pl_told pl_delays pl_fractions pa_sums)) (vp_Si (fun r => r = res)) 0 0 (fun _ => False) := by
  refine mk_Ri (cc := cX1_cutLinksBetween) (maxL := 6) (by decide) rfl (Nat.le_of_ble_eq_true rfl) ?_
  intro p e s m args below meth c Q S hKN hP hret ls hl
  obtain ⟨hx, hb, hml, hown, hts⟩ := S
  obtain ⟨hK, hN⟩ := hKN
  have hl : lv_has ls 6 [(0, .ref cl0), (1, .int a1), (2, .int a2)] := hl
  have q_0 := hts (.fieldLink RX1 21 "DelayClusters$Clustering" "plan" "LDelayClusters$Plan;") (by decide +kernel)
  unfold Cl_cutLinksBetween at hf
  refine lv_iconst (v := 0) hx hb dX1_cutLinksBetween_0 (by decide) ?_
  refine lv_istore_n (lv' := [(3, .int 0), (0, .ref cl0), (1, .int a1), (2, .int a2)]) hx hb dX1_cutLinksBetween_1 rfl hl (by decide) rfl (fun ls hl => ?_)
  refine lv_iconst (v := 0) hx hb dX1_cutLinksBetween_2 (by decide) ?_
  refine lv_istore (lv' := [(4, .int 0), (3, .int 0), (0, .ref cl0), (1, .int a1), (2, .int a2)]) hx hb dX1_cutLinksBetween_3 hl (by decide) rfl (fun ls hl => ?_)
  obtain ⟨w_5, i_5, hf⟩ := bd_s hf
  have KX_5 : ∀ (v3_15 : Int32), v3_15 = w_5 → ∀ (ls : Array Slot), lv_has ls 6 [(3, .int v3_15)] → W p l e rm_Cl_cutLinksBetween s m args below meth c s.heap [] 0 0 Q (F0 m 60 ls []) := by
    intro v3_15 e_
    subst e_
    try dsimp only at hf
    intro ls hl
    refine lv_iload_n hx hb dX1_cutLinksBetween_60 rfl (lv_at hl 0 rfl) ?_
    exact hret ls 61 v3_15 dX1_cutLinksBetween_61 (Option.some.inj hf)
  have KL_5 : ∀ (n_ : Nat) (v3_1 : Int32) (v4_2 : Int32), it (Cl_cutLinksBetween_L5 cl_heads pl_places pl_lengths a1 a2) n_ (v3_1, v4_2) = some w_5 → ∀ (ls : Array Slot), lv_has ls 6 [(0, .ref cl0), (1, .int a1), (2, .int a2), (3, .int v3_1), (4, .int v4_2)] → W p l e rm_Cl_cutLinksBetween s m args below meth c s.heap [] 0 0 Q (F0 m 5 ls []) := by
    intro n_
    induction n_ with
    | zero => intro v3_1 v4_2 hit; exact (it_z hit).elim
    | succ n_5 ih_5 =>
      intro v3_1 v4_2 hit
      intro ls hl
      obtain ⟨x_5, hf, hc_5, hq_5⟩ := it_s hit
      dsimp only [Cl_cutLinksBetween_L5] at hf
      refine lv_iload hx hb dX1_cutLinksBetween_5 (lv_at hl 4 rfl) ?_
      refine lv_aload_n hx hb dX1_cutLinksBetween_7 rfl (lv_at hl 0 rfl) ?_
      refine va_get (D := E.1) (ci := 1) (v := .ref pl0) (C := RX1) (T := TX1) (N := 6) hx hb hts in_X1_cutLinksBetween_X1 hown hK hP 0 rfl rfl 0 (by decide) q_0 (fun _ h9 => h9) rfl dX1_cutLinksBetween_8 ?_
      obtain ⟨r_4, h_3, hf⟩ := bd_s hf
      refine ca_V (As := []) (rest := [.int v4_2]) ⟨hx, hb, hml, hown, hts⟩ ⟨hK, hN⟩ hP (c_Pl_places l E pl0 pl1 pl2 pl3 pl4 pl_places pl_links pl_mostDrawn pl_ofTen pl_z pl_lengths pl_told pl_delays pl_fractions r_4 h_3) [4, 5, 6, 7, 8] rfl 5 4 rfl rfl rfl gX1_cutLinksBetween_X5_places rfl rfl rfl rfl hd_Pl_places ⟨(Nat.le_of_ble_eq_true rfl), (Nat.le_of_ble_eq_true rfl)⟩ rfl hl.1 rfl (Nat.le_of_ble_eq_true rfl) dX1_cutLinksBetween_11 ⟨(Nat.zero_le _), (Nat.zero_le _)⟩ ?_
      refine lv_icmp_ge (tgt := 60) hx hb dX1_cutLinksBetween_14 (by decide) (fun c_14 => ?_) (fun c_14 => ?_)
      · have hf := ite_t c_14 hf
        exact KX_5 v3_1 (hq_5 _ (Option.some.inj hf).symm) _ (lv_sub hl [3] rfl)
      · have hf := ite_f c_14 hf
        refine lv_iconst (v := 0) hx hb dX1_cutLinksBetween_17 (by decide) ?_
        refine lv_istore (lv' := [(5, .int 0), (0, .ref cl0), (1, .int a1), (2, .int a2), (3, .int v3_1), (4, .int v4_2)]) hx hb dX1_cutLinksBetween_18 hl (by decide) rfl (fun ls hl => ?_)
        obtain ⟨w_20, i_20, hf⟩ := bd_s hf
        have KX_20 : ∀ (v3_13 : Int32), v3_13 = w_20 → ∀ (ls : Array Slot), lv_has ls 6 [(0, .ref cl0), (1, .int a1), (2, .int a2), (3, .int v3_13), (4, .int v4_2)] → W p l e rm_Cl_cutLinksBetween s m args below meth c s.heap [] 0 0 Q (F0 m 54 ls []) := by
          intro v3_13 e_
          subst e_
          try dsimp only at hf
          intro ls hl
          refine lv_iinc (v := (v4_2 + 1)) (lv' := [(4, .int (v4_2 + 1)), (0, .ref cl0), (1, .int a1), (2, .int a2), (3, .int v3_13)]) hx hb dX1_cutLinksBetween_54 hl (k := 4) rfl rfl (by decide) rfl (fun ls hl => ?_)
          refine lv_goto (tgt := 5) hx hb dX1_cutLinksBetween_57 (by decide) ?_
          exact ih_5 v3_13 (v4_2 + 1) (hc_5 _ (Option.some.inj hf).symm) _ (lv_sub hl [1, 2, 3, 4, 0] rfl)
        have KL_20 : ∀ (n_ : Nat) (v3_5 : Int32) (v5_6 : Int32), it (Cl_cutLinksBetween_L20 cl_heads pl_places pl_lengths a1 a2 v4_2) n_ (v3_5, v5_6) = some w_20 → ∀ (ls : Array Slot), lv_has ls 6 [(0, .ref cl0), (1, .int a1), (2, .int a2), (3, .int v3_5), (4, .int v4_2), (5, .int v5_6)] → W p l e rm_Cl_cutLinksBetween s m args below meth c s.heap [] 0 0 Q (F0 m 20 ls []) := by
          intro n_
          induction n_ with
          | zero => intro v3_5 v5_6 hit; exact (it_z hit).elim
          | succ n_20 ih_20 =>
            intro v3_5 v5_6 hit
            intro ls hl
            obtain ⟨x_20, hf, hc_20, hq_20⟩ := it_s hit
            dsimp only [Cl_cutLinksBetween_L20] at hf
            refine lv_iload hx hb dX1_cutLinksBetween_20 (lv_at hl 5 rfl) ?_
            refine lv_aload_n hx hb dX1_cutLinksBetween_22 rfl (lv_at hl 0 rfl) ?_
            refine va_get (D := E.1) (ci := 1) (v := .ref pl0) (C := RX1) (T := TX1) (N := 6) hx hb hts in_X1_cutLinksBetween_X1 hown hK hP 0 rfl rfl 0 (by decide) q_0 (fun _ h9 => h9) rfl dX1_cutLinksBetween_23 ?_
            obtain ⟨r_8, h_7, hf⟩ := bd_s hf
            refine ca_V (As := []) (rest := [.int v5_6]) ⟨hx, hb, hml, hown, hts⟩ ⟨hK, hN⟩ hP (c_Pl_places l E pl0 pl1 pl2 pl3 pl4 pl_places pl_links pl_mostDrawn pl_ofTen pl_z pl_lengths pl_told pl_delays pl_fractions r_8 h_7) [4, 5, 6, 7, 8] rfl 5 4 rfl rfl rfl gX1_cutLinksBetween_X5_places rfl rfl rfl rfl hd_Pl_places ⟨(Nat.le_of_ble_eq_true rfl), (Nat.le_of_ble_eq_true rfl)⟩ rfl hl.1 rfl (Nat.le_of_ble_eq_true rfl) dX1_cutLinksBetween_26 ⟨(Nat.zero_le _), (Nat.zero_le _)⟩ ?_
            refine lv_icmp_ge (tgt := 54) hx hb dX1_cutLinksBetween_29 (by decide) (fun c_12 => ?_) (fun c_12 => ?_)
            · have hf := ite_t c_12 hf
              exact KX_20 v3_5 (hq_20 _ (Option.some.inj hf).symm) _ (lv_sub hl [0, 1, 2, 3, 4] rfl)
            · have hf := ite_f c_12 hf
              refine lv_aload_n hx hb dX1_cutLinksBetween_32 rfl (lv_at hl 0 rfl) ?_
              refine lv_iload hx hb dX1_cutLinksBetween_33 (lv_at hl 4 rfl) ?_
              refine lv_iload hx hb dX1_cutLinksBetween_35 (lv_at hl 5 rfl) ?_
              refine lv_iload_n hx hb dX1_cutLinksBetween_37 rfl (lv_at hl 1 rfl) ?_
              refine lv_iload_n hx hb dX1_cutLinksBetween_38 rfl (lv_at hl 2 rfl) ?_
              obtain ⟨r_10, h_9, hf⟩ := bd_s hf
              refine ca_V (As := [.int v4_2, .int v5_6, .int a1, .int a2]) (rest := []) ⟨hx, hb, hml, hown, hts⟩ ⟨hK, hN⟩ hP (c_Cl_isLinkBetween l E cl0 cl1 cl2 cl3 pl0 pl1 pl2 pl3 pl4 pa0 pa1 cl_greatestDelay cl_delays cl_fractions cl_heads pl_places pl_links pl_mostDrawn pl_ofTen pl_z pl_lengths pl_told pl_delays pl_fractions pa_sums v4_2 v5_6 a1 a2 r_10 h_9) [0, 1, 2, 3, 4, 5, 6, 7, 8, 9, 10] rfl 1 0 rfl rfl rfl gX1_cutLinksBetween_X1_isLinkBetween rfl rfl rfl rfl hd_Cl_isLinkBetween ⟨(Nat.le_of_ble_eq_true rfl), (Nat.le_of_ble_eq_true rfl)⟩ rfl hl.1 rfl (Nat.le_of_ble_eq_true rfl) dX1_cutLinksBetween_39 ⟨(Nat.zero_le _), (Nat.zero_le _)⟩ ?_
              refine lv_if_eq (tgt := 48) hx hb dX1_cutLinksBetween_42 (by decide) (fun c_11 => ?_) (fun c_11 => ?_)
              · have hf := ite_t c_11 hf
                refine lv_iinc (v := (v5_6 + 1)) (lv' := [(5, .int (v5_6 + 1)), (0, .ref cl0), (1, .int a1), (2, .int a2), (3, .int v3_5), (4, .int v4_2)]) hx hb dX1_cutLinksBetween_48 hl (k := 5) rfl rfl (by decide) rfl (fun ls hl => ?_)
                refine lv_goto (tgt := 20) hx hb dX1_cutLinksBetween_51 (by decide) ?_
                exact ih_20 v3_5 (v5_6 + 1) (hc_20 _ (Option.some.inj hf).symm) _ (lv_sub hl [1, 2, 3, 4, 5, 0] rfl)
              · have hf := ite_f c_11 hf
                refine lv_iinc (v := (v3_5 + 1)) (lv' := [(3, .int (v3_5 + 1)), (0, .ref cl0), (1, .int a1), (2, .int a2), (4, .int v4_2), (5, .int v5_6)]) hx hb dX1_cutLinksBetween_45 hl (k := 3) rfl rfl (by decide) rfl (fun ls hl => ?_)
                refine lv_iinc (v := (v5_6 + 1)) (lv' := [(5, .int (v5_6 + 1)), (3, .int (v3_5 + 1)), (0, .ref cl0), (1, .int a1), (2, .int a2), (4, .int v4_2)]) hx hb dX1_cutLinksBetween_48 hl (k := 5) rfl rfl (by decide) rfl (fun ls hl => ?_)
                refine lv_goto (tgt := 20) hx hb dX1_cutLinksBetween_51 (by decide) ?_
                exact ih_20 (v3_5 + 1) (v5_6 + 1) (hc_20 _ (Option.some.inj hf).symm) _ (lv_sub hl [2, 3, 4, 1, 5, 0] rfl)
        exact KL_20 _ v3_1 0 i_20 _ (lv_sub hl [1, 2, 3, 4, 5, 0] rfl)
  exact KL_5 _ 0 0 i_5 _ (lv_sub hl [2, 3, 4, 1, 0] rfl)
abbrev rm_Cl_cutLinksOf : Room := { frames := 3, cells := 0, slots := 0, locals := 71 }
theorem hd_Cl_cutLinksOf : hdOK yX1_cutLinksOf 1 := by decide +kernel
theorem in_X1_cutLinksOf_X1 : ∀ w ∈ wsX10, w ∈ wsX1_cutLinksOf := by decide +kernel
set_option maxRecDepth 100000 in
set_option maxHeartbeats 4000000 in
theorem c_Cl_cutLinksOf (l : Launch) (E : En4) (cl0 cl1 cl2 cl3 pl0 pl1 pl2 pl3 pl4 pa0 pa1 : Nat) (cl_greatestDelay : Int32) (cl_delays : Nat → Int32) (cl_fractions : Nat → Int32) (cl_heads : Nat → Int32) (pl_places : Int32) (pl_links : Int32) (pl_mostDrawn : Int32) (pl_ofTen : Int32) (pl_z : Int32) (pl_lengths : Nat → Int32) (pl_told : Nat → Int32) (pl_delays : Nat → Int32) (pl_fractions : Nat → Int32) (pa_sums : Nat → Int32) (a1 : Int32)  (res : Int32) (hf : Cl_cutLinksOf cl_heads pl_places pl_lengths a1 = some res) : Met l yX1_cutLinksOf wsX1_cutLinksOf rm_Cl_cutLinksOf (pcR [.ref cl0, .int a1] E (w_Cl E cl0 cl1 cl2 cl3 pl0 pl1 pl2 pl3 pl4 pa0 pa1 cl_greatestDelay cl_delays cl_fractions cl_heads pl_places pl_links pl_mostDrawn pl_ofTen pl_z pl_lengths pl_told pl_delays pl_fractions pa_sums)) (vp_Si (fun r => r = res)) 0 0 (fun _ => False) := by
  refine mk_Ri (cc := cX1_cutLinksOf) (maxL := 4) (by decide) rfl (Nat.le_of_ble_eq_true rfl) ?_
  intro p e s m args below meth c Q S hKN hP hret ls hl
  obtain ⟨hx, hb, hml, hown, hts⟩ := S
  obtain ⟨hK, hN⟩ := hKN
  have hl : lv_has ls 4 [(0, .ref cl0), (1, .int a1)] := hl
  have q_0 := hts (.fieldLink RX1 21 "DelayClusters$Clustering" "plan" "LDelayClusters$Plan;") (by decide +kernel)
  unfold Cl_cutLinksOf at hf
  refine lv_iconst (v := 0) hx hb dX1_cutLinksOf_0 (by decide) ?_
  refine lv_istore_n (lv' := [(2, .int 0), (0, .ref cl0), (1, .int a1)]) hx hb dX1_cutLinksOf_1 rfl hl (by decide) rfl (fun ls hl => ?_)
  refine lv_iconst (v := 0) hx hb dX1_cutLinksOf_2 (by decide) ?_
  refine lv_istore_n (lv' := [(3, .int 0), (2, .int 0), (0, .ref cl0), (1, .int a1)]) hx hb dX1_cutLinksOf_3 rfl hl (by decide) rfl (fun ls hl => ?_)
  obtain ⟨w_4, i_4, hf⟩ := bd_s hf
  have KX_4 : ∀ (v2_9 : Int32), v2_9 = w_4 → ∀ (ls : Array Slot), lv_has ls 4 [(2, .int v2_9)] → W p l e rm_Cl_cutLinksOf s m args below meth c s.heap [] 0 0 Q (F0 m 35 ls []) := by
    intro v2_9 e_
    subst e_
    try dsimp only at hf
    intro ls hl
    refine lv_iload_n hx hb dX1_cutLinksOf_35 rfl (lv_at hl 0 rfl) ?_
    exact hret ls 36 v2_9 dX1_cutLinksOf_36 (Option.some.inj hf)
  have KL_4 : ∀ (n_ : Nat) (v2_1 : Int32) (v3_2 : Int32), it (Cl_cutLinksOf_L4 cl_heads pl_places pl_lengths a1) n_ (v2_1, v3_2) = some w_4 → ∀ (ls : Array Slot), lv_has ls 4 [(0, .ref cl0), (1, .int a1), (2, .int v2_1), (3, .int v3_2)] → W p l e rm_Cl_cutLinksOf s m args below meth c s.heap [] 0 0 Q (F0 m 4 ls []) := by
    intro n_
    induction n_ with
    | zero => intro v2_1 v3_2 hit; exact (it_z hit).elim
    | succ n_4 ih_4 =>
      intro v2_1 v3_2 hit
      intro ls hl
      obtain ⟨x_4, hf, hc_4, hq_4⟩ := it_s hit
      dsimp only [Cl_cutLinksOf_L4] at hf
      refine lv_iload_n hx hb dX1_cutLinksOf_4 rfl (lv_at hl 3 rfl) ?_
      refine lv_aload_n hx hb dX1_cutLinksOf_5 rfl (lv_at hl 0 rfl) ?_
      refine va_get (D := E.1) (ci := 1) (v := .ref pl0) (C := RX1) (T := TX1) (N := 6) hx hb hts in_X1_cutLinksOf_X1 hown hK hP 0 rfl rfl 0 (by decide) q_0 (fun _ h9 => h9) rfl dX1_cutLinksOf_6 ?_
      obtain ⟨r_4, h_3, hf⟩ := bd_s hf
      refine ca_V (As := []) (rest := [.int v3_2]) ⟨hx, hb, hml, hown, hts⟩ ⟨hK, hN⟩ hP (c_Pl_places l E pl0 pl1 pl2 pl3 pl4 pl_places pl_links pl_mostDrawn pl_ofTen pl_z pl_lengths pl_told pl_delays pl_fractions r_4 h_3) [4, 5, 6, 7, 8] rfl 5 4 rfl rfl rfl gX1_cutLinksOf_X5_places rfl rfl rfl rfl hd_Pl_places ⟨(Nat.le_of_ble_eq_true rfl), (Nat.le_of_ble_eq_true rfl)⟩ rfl hl.1 rfl (Nat.le_of_ble_eq_true rfl) dX1_cutLinksOf_9 ⟨(Nat.zero_le _), (Nat.zero_le _)⟩ ?_
      refine lv_icmp_ge (tgt := 35) hx hb dX1_cutLinksOf_12 (by decide) (fun c_8 => ?_) (fun c_8 => ?_)
      · have hf := ite_t c_8 hf
        exact KX_4 v2_1 (hq_4 _ (Option.some.inj hf).symm) _ (lv_sub hl [2] rfl)
      · have hf := ite_f c_8 hf
        refine lv_iload_n hx hb dX1_cutLinksOf_15 rfl (lv_at hl 3 rfl) ?_
        refine lv_iload_n hx hb dX1_cutLinksOf_16 rfl (lv_at hl 1 rfl) ?_
        refine lv_icmp_eq (tgt := 29) hx hb dX1_cutLinksOf_17 (by decide) (fun c_7 => ?_) (fun c_7 => ?_)
        · have hf := ite_t c_7 hf
          refine lv_iinc (v := (v3_2 + 1)) (lv' := [(3, .int (v3_2 + 1)), (0, .ref cl0), (1, .int a1), (2, .int v2_1)]) hx hb dX1_cutLinksOf_29 hl (k := 3) rfl rfl (by decide) rfl (fun ls hl => ?_)
          refine lv_goto (tgt := 4) hx hb dX1_cutLinksOf_32 (by decide) ?_
          exact ih_4 v2_1 (v3_2 + 1) (hc_4 _ (Option.some.inj hf).symm) _ (lv_sub hl [1, 2, 3, 0] rfl)
        · have hf := ite_f c_7 hf
          refine lv_iload_n hx hb dX1_cutLinksOf_20 rfl (lv_at hl 2 rfl) ?_
          refine lv_aload_n hx hb dX1_cutLinksOf_21 rfl (lv_at hl 0 rfl) ?_
          refine lv_iload_n hx hb dX1_cutLinksOf_22 rfl (lv_at hl 1 rfl) ?_
          refine lv_iload_n hx hb dX1_cutLinksOf_23 rfl (lv_at hl 3 rfl) ?_
          obtain ⟨r_6, h_5, hf⟩ := bd_s hf
          refine ca_V (As := [.int a1, .int v3_2]) (rest := [.int v2_1]) ⟨hx, hb, hml, hown, hts⟩ ⟨hK, hN⟩ hP (c_Cl_cutLinksBetween l E cl0 cl1 cl2 cl3 pl0 pl1 pl2 pl3 pl4 pa0 pa1 cl_greatestDelay cl_delays cl_fractions cl_heads pl_places pl_links pl_mostDrawn pl_ofTen pl_z pl_lengths pl_told pl_delays pl_fractions pa_sums a1 v3_2 r_6 h_5) [0, 1, 2, 3, 4, 5, 6, 7, 8, 9, 10] rfl 1 0 rfl rfl rfl gX1_cutLinksOf_X1_cutLinksBetween rfl rfl rfl rfl hd_Cl_cutLinksBetween ⟨(Nat.le_of_ble_eq_true rfl), (Nat.le_of_ble_eq_true rfl)⟩ rfl hl.1 rfl (Nat.le_of_ble_eq_true rfl) dX1_cutLinksOf_24 ⟨(Nat.zero_le _), (Nat.zero_le _)⟩ ?_
          refine lv_iadd hx hb dX1_cutLinksOf_27 ?_
          refine lv_istore_n (lv' := [(2, .int (v2_1 + r_6)), (0, .ref cl0), (1, .int a1), (3, .int v3_2)]) hx hb dX1_cutLinksOf_28 rfl hl (by decide) rfl (fun ls hl => ?_)
          refine lv_iinc (v := (v3_2 + 1)) (lv' := [(3, .int (v3_2 + 1)), (2, .int (v2_1 + r_6)), (0, .ref cl0), (1, .int a1)]) hx hb dX1_cutLinksOf_29 hl (k := 3) rfl rfl (by decide) rfl (fun ls hl => ?_)
          refine lv_goto (tgt := 4) hx hb dX1_cutLinksOf_32 (by decide) ?_
          exact ih_4 (v2_1 + r_6) (v3_2 + 1) (hc_4 _ (Option.some.inj hf).symm) _ (lv_sub hl [2, 3, 1, 0] rfl)
  exact KL_4 _ 0 0 i_4 _ (lv_sub hl [2, 3, 1, 0] rfl)
abbrev rm_Cl_neighboursOf : Room := { frames := 3, cells := 0, slots := 0, locals := 71 }
theorem hd_Cl_neighboursOf : hdOK yX1_neighboursOf 1 := by decide +kernel
theorem in_X1_neighboursOf_X1 : ∀ w ∈ wsX10, w ∈ wsX1_neighboursOf := by decide +kernel
set_option maxRecDepth 100000 in
set_option maxHeartbeats 4000000 in
theorem c_Cl_neighboursOf (l : Launch) (E : En4) (cl0 cl1 cl2 cl3 pl0 pl1 pl2 pl3 pl4 pa0 pa1 : Nat) (cl_greatestDelay : Int32) (cl_delays : Nat → Int32) (cl_fractions : Nat → Int32) (cl_heads : Nat → Int32) (pl_places : Int32) (pl_links : Int32) (pl_mostDrawn : Int32) (pl_ofTen : Int32) (pl_z : Int32) (pl_lengths : Nat → Int32) (pl_told : Nat → Int32) (pl_delays : Nat → Int32) (pl_fractions : Nat → Int32) (pa_sums : Nat → Int32) (a1 : Int32)  (res : Int32) (hf : Cl_neighboursOf cl_heads pl_places pl_lengths a1 = some res) : Met l yX1_neighboursOf wsX1_neighboursOf rm_Cl_neighboursOf (pcR [.ref cl0, .int a1] E (w_Cl E cl0 cl1 cl2 cl3 pl0 pl1 pl2 pl3 pl4 pa0 pa1 cl_greatestDelay cl_delays cl_fractions cl_heads pl_places pl_links pl_mostDrawn pl_ofTen pl_z pl_lengths pl_told pl_delays pl_fractions pa_sums)) (vp_Si (fun r => r = res)) 0 0 (fun _ => False) := by
  refine mk_Ri (cc := cX1_neighboursOf) (maxL := 4) (by decide) rfl (Nat.le_of_ble_eq_true rfl) ?_
  intro p e s m args below meth c Q S hKN hP hret ls hl
  obtain ⟨hx, hb, hml, hown, hts⟩ := S
  obtain ⟨hK, hN⟩ := hKN
  have hl : lv_has ls 4 [(0, .ref cl0), (1, .int a1)] := hl
  have q_0 := hts (.fieldLink RX1 21 "DelayClusters$Clustering" "plan" "LDelayClusters$Plan;") (by decide +kernel)
  unfold Cl_neighboursOf at hf
  refine lv_iconst (v := 0) hx hb dX1_neighboursOf_0 (by decide) ?_
  refine lv_istore_n (lv' := [(2, .int 0), (0, .ref cl0), (1, .int a1)]) hx hb dX1_neighboursOf_1 rfl hl (by decide) rfl (fun ls hl => ?_)
  refine lv_iconst (v := 0) hx hb dX1_neighboursOf_2 (by decide) ?_
  refine lv_istore_n (lv' := [(3, .int 0), (2, .int 0), (0, .ref cl0), (1, .int a1)]) hx hb dX1_neighboursOf_3 rfl hl (by decide) rfl (fun ls hl => ?_)
  obtain ⟨w_4, i_4, hf⟩ := bd_s hf
  have KX_4 : ∀ (v2_10 : Int32), v2_10 = w_4 → ∀ (ls : Array Slot), lv_has ls 4 [(2, .int v2_10)] → W p l e rm_Cl_neighboursOf s m args below meth c s.heap [] 0 0 Q (F0 m 38 ls []) := by
    intro v2_10 e_
    subst e_
    try dsimp only at hf
    intro ls hl
    refine lv_iload_n hx hb dX1_neighboursOf_38 rfl (lv_at hl 0 rfl) ?_
    exact hret ls 39 v2_10 dX1_neighboursOf_39 (Option.some.inj hf)
  have KL_4 : ∀ (n_ : Nat) (v2_1 : Int32) (v3_2 : Int32), it (Cl_neighboursOf_L4 cl_heads pl_places pl_lengths a1) n_ (v2_1, v3_2) = some w_4 → ∀ (ls : Array Slot), lv_has ls 4 [(0, .ref cl0), (1, .int a1), (2, .int v2_1), (3, .int v3_2)] → W p l e rm_Cl_neighboursOf s m args below meth c s.heap [] 0 0 Q (F0 m 4 ls []) := by
    intro n_
    induction n_ with
    | zero => intro v2_1 v3_2 hit; exact (it_z hit).elim
    | succ n_4 ih_4 =>
      intro v2_1 v3_2 hit
      intro ls hl
      obtain ⟨x_4, hf, hc_4, hq_4⟩ := it_s hit
      dsimp only [Cl_neighboursOf_L4] at hf
      refine lv_iload_n hx hb dX1_neighboursOf_4 rfl (lv_at hl 3 rfl) ?_
      refine lv_aload_n hx hb dX1_neighboursOf_5 rfl (lv_at hl 0 rfl) ?_
      refine va_get (D := E.1) (ci := 1) (v := .ref pl0) (C := RX1) (T := TX1) (N := 6) hx hb hts in_X1_neighboursOf_X1 hown hK hP 0 rfl rfl 0 (by decide) q_0 (fun _ h9 => h9) rfl dX1_neighboursOf_6 ?_
      obtain ⟨r_4, h_3, hf⟩ := bd_s hf
      refine ca_V (As := []) (rest := [.int v3_2]) ⟨hx, hb, hml, hown, hts⟩ ⟨hK, hN⟩ hP (c_Pl_places l E pl0 pl1 pl2 pl3 pl4 pl_places pl_links pl_mostDrawn pl_ofTen pl_z pl_lengths pl_told pl_delays pl_fractions r_4 h_3) [4, 5, 6, 7, 8] rfl 5 4 rfl rfl rfl gX1_neighboursOf_X5_places rfl rfl rfl rfl hd_Pl_places ⟨(Nat.le_of_ble_eq_true rfl), (Nat.le_of_ble_eq_true rfl)⟩ rfl hl.1 rfl (Nat.le_of_ble_eq_true rfl) dX1_neighboursOf_9 ⟨(Nat.zero_le _), (Nat.zero_le _)⟩ ?_
      refine lv_icmp_ge (tgt := 38) hx hb dX1_neighboursOf_12 (by decide) (fun c_9 => ?_) (fun c_9 => ?_)
      · have hf := ite_t c_9 hf
        exact KX_4 v2_1 (hq_4 _ (Option.some.inj hf).symm) _ (lv_sub hl [2] rfl)
      · have hf := ite_f c_9 hf
        refine lv_iload_n hx hb dX1_neighboursOf_15 rfl (lv_at hl 3 rfl) ?_
        refine lv_iload_n hx hb dX1_neighboursOf_16 rfl (lv_at hl 1 rfl) ?_
        refine lv_icmp_eq (tgt := 32) hx hb dX1_neighboursOf_17 (by decide) (fun c_8 => ?_) (fun c_8 => ?_)
        · have hf := ite_t c_8 hf
          refine lv_iinc (v := (v3_2 + 1)) (lv' := [(3, .int (v3_2 + 1)), (0, .ref cl0), (1, .int a1), (2, .int v2_1)]) hx hb dX1_neighboursOf_32 hl (k := 3) rfl rfl (by decide) rfl (fun ls hl => ?_)
          refine lv_goto (tgt := 4) hx hb dX1_neighboursOf_35 (by decide) ?_
          exact ih_4 v2_1 (v3_2 + 1) (hc_4 _ (Option.some.inj hf).symm) _ (lv_sub hl [1, 2, 3, 0] rfl)
        · have hf := ite_f c_8 hf
          refine lv_aload_n hx hb dX1_neighboursOf_20 rfl (lv_at hl 0 rfl) ?_
          refine lv_iload_n hx hb dX1_neighboursOf_21 rfl (lv_at hl 1 rfl) ?_
          refine lv_iload_n hx hb dX1_neighboursOf_22 rfl (lv_at hl 3 rfl) ?_
          obtain ⟨r_6, h_5, hf⟩ := bd_s hf
          refine ca_V (As := [.int a1, .int v3_2]) (rest := []) ⟨hx, hb, hml, hown, hts⟩ ⟨hK, hN⟩ hP (c_Cl_cutLinksBetween l E cl0 cl1 cl2 cl3 pl0 pl1 pl2 pl3 pl4 pa0 pa1 cl_greatestDelay cl_delays cl_fractions cl_heads pl_places pl_links pl_mostDrawn pl_ofTen pl_z pl_lengths pl_told pl_delays pl_fractions pa_sums a1 v3_2 r_6 h_5) [0, 1, 2, 3, 4, 5, 6, 7, 8, 9, 10] rfl 1 0 rfl rfl rfl gX1_neighboursOf_X1_cutLinksBetween rfl rfl rfl rfl hd_Cl_cutLinksBetween ⟨(Nat.le_of_ble_eq_true rfl), (Nat.le_of_ble_eq_true rfl)⟩ rfl hl.1 rfl (Nat.le_of_ble_eq_true rfl) dX1_neighboursOf_23 ⟨(Nat.zero_le _), (Nat.zero_le _)⟩ ?_
          refine lv_if_le (tgt := 32) hx hb dX1_neighboursOf_26 (by decide) (fun c_7 => ?_) (fun c_7 => ?_)
          · have hf := ite_t c_7 hf
            refine lv_iinc (v := (v3_2 + 1)) (lv' := [(3, .int (v3_2 + 1)), (0, .ref cl0), (1, .int a1), (2, .int v2_1)]) hx hb dX1_neighboursOf_32 hl (k := 3) rfl rfl (by decide) rfl (fun ls hl => ?_)
            refine lv_goto (tgt := 4) hx hb dX1_neighboursOf_35 (by decide) ?_
            exact ih_4 v2_1 (v3_2 + 1) (hc_4 _ (Option.some.inj hf).symm) _ (lv_sub hl [1, 2, 3, 0] rfl)
          · have hf := ite_f c_7 hf
            refine lv_iinc (v := (v2_1 + 1)) (lv' := [(2, .int (v2_1 + 1)), (0, .ref cl0), (1, .int a1), (3, .int v3_2)]) hx hb dX1_neighboursOf_29 hl (k := 2) rfl rfl (by decide) rfl (fun ls hl => ?_)
            refine lv_iinc (v := (v3_2 + 1)) (lv' := [(3, .int (v3_2 + 1)), (2, .int (v2_1 + 1)), (0, .ref cl0), (1, .int a1)]) hx hb dX1_neighboursOf_32 hl (k := 3) rfl rfl (by decide) rfl (fun ls hl => ?_)
            refine lv_goto (tgt := 4) hx hb dX1_neighboursOf_35 (by decide) ?_
            exact ih_4 (v2_1 + 1) (v3_2 + 1) (hc_4 _ (Option.some.inj hf).symm) _ (lv_sub hl [2, 3, 1, 0] rfl)
  exact KL_4 _ 0 0 i_4 _ (lv_sub hl [2, 3, 1, 0] rfl)
abbrev rm_Cl_shortestBetween : Room := { frames := 2, cells := 0, slots := 0, locals := 46 }
theorem hd_Cl_shortestBetween : hdOK yX1_shortestBetween 2 := by decide +kernel
theorem in_X1_shortestBetween_X1 : ∀ w ∈ wsX10, w ∈ wsX1_shortestBetween := by decide +kernel
set_option maxRecDepth 100000 in
set_option maxHeartbeats 4000000 in
theorem c_Cl_shortestBetween (l : Launch) (E : En4) (cl0 cl1 cl2 cl3 pl0 pl1 pl2 pl3 pl4 pa0 pa1 : Nat) (cl_greatestDelay : Int32) (cl_delays : Nat → Int32) (cl_fractions : Nat → Int32) (cl_heads : Nat → Int32) (pl_places : Int32) (pl_links : Int32) (pl_mostDrawn : Int32) (pl_ofTen : Int32) (pl_z : Int32) (pl_lengths : Nat → Int32) (pl_told : Nat → Int32) (pl_delays : Nat → Int32) (pl_fractions : Nat → Int32) (pa_sums : Nat → Int32) (a1 : Int32) (a2 : Int32)  (res : Int32) (hf : Cl_shortestBetween cl_heads pl_places pl_lengths a1 a2 = some res) : Met l yX1_shortestBetween wsX1_shortestBetween rm_Cl_shortestBetween (pcR [.ref cl0, .int a1, .int a2] E (w_Cl E cl0 cl1 cl2 cl3 pl0 pl1 pl2 pl3 pl4 pa0 pa1 cl_greatestDelay cl_delays cl_fractions cl_heads pl_places pl_links pl_mostDrawn pl_ofTen pl_z pl_lengths pl_told pl_delays pl_fractions pa_sums)) (vp_Si (fun r => r = res)) 0 0 (fun _ => False) := by
  refine mk_Ri (cc := cX1_shortestBetween) (maxL := 6) (by decide) rfl (Nat.le_of_ble_eq_true rfl) ?_
  intro p e s m args below meth c Q S hKN hP hret ls hl
  obtain ⟨hx, hb, hml, hown, hts⟩ := S
  obtain ⟨hK, hN⟩ := hKN
  have hl : lv_has ls 6 [(0, .ref cl0), (1, .int a1), (2, .int a2)] := hl
  have q_0 := hts (.fieldLink RX1 21 "DelayClusters$Clustering" "plan" "LDelayClusters$Plan;") (by decide +kernel)
  unfold Cl_shortestBetween at hf
  refine lv_bipush (v := (-4)) hx hb dX1_shortestBetween_0 (by decide) ?_
  refine lv_istore_n (lv' := [(3, .int (-4)), (0, .ref cl0), (1, .int a1), (2, .int a2)]) hx hb dX1_shortestBetween_2 rfl hl (by decide) rfl (fun ls hl => ?_)
  refine lv_iconst (v := 0) hx hb dX1_shortestBetween_3 (by decide) ?_
  refine lv_istore (lv' := [(4, .int 0), (3, .int (-4)), (0, .ref cl0), (1, .int a1), (2, .int a2)]) hx hb dX1_shortestBetween_4 hl (by decide) rfl (fun ls hl => ?_)
  obtain ⟨w_6, i_6, hf⟩ := bd_s hf
  have KX_6 : ∀ (v3_23 : Int32), v3_23 = w_6 → ∀ (ls : Array Slot), lv_has ls 6 [(3, .int v3_23)] → W p l e rm_Cl_shortestBetween s m args below meth c s.heap [] 0 0 Q (F0 m 91 ls []) := by
    intro v3_23 e_
    subst e_
    try dsimp only at hf
    intro ls hl
    refine lv_iload_n hx hb dX1_shortestBetween_91 rfl (lv_at hl 0 rfl) ?_
    exact hret ls 92 v3_23 dX1_shortestBetween_92 (Option.some.inj hf)
  have KL_6 : ∀ (n_ : Nat) (v3_1 : Int32) (v4_2 : Int32), it (Cl_shortestBetween_L6 cl_heads pl_places pl_lengths a1 a2) n_ (v3_1, v4_2) = some w_6 → ∀ (ls : Array Slot), lv_has ls 6 [(0, .ref cl0), (1, .int a1), (2, .int a2), (3, .int v3_1), (4, .int v4_2)] → W p l e rm_Cl_shortestBetween s m args below meth c s.heap [] 0 0 Q (F0 m 6 ls []) := by
    intro n_
    induction n_ with
    | zero => intro v3_1 v4_2 hit; exact (it_z hit).elim
    | succ n_6 ih_6 =>
      intro v3_1 v4_2 hit
      intro ls hl
      obtain ⟨x_6, hf, hc_6, hq_6⟩ := it_s hit
      dsimp only [Cl_shortestBetween_L6] at hf
      refine lv_iload hx hb dX1_shortestBetween_6 (lv_at hl 4 rfl) ?_
      refine lv_aload_n hx hb dX1_shortestBetween_8 rfl (lv_at hl 0 rfl) ?_
      refine va_get (D := E.1) (ci := 1) (v := .ref pl0) (C := RX1) (T := TX1) (N := 6) hx hb hts in_X1_shortestBetween_X1 hown hK hP 0 rfl rfl 0 (by decide) q_0 (fun _ h9 => h9) rfl dX1_shortestBetween_9 ?_
      obtain ⟨r_4, h_3, hf⟩ := bd_s hf
      refine ca_V (As := []) (rest := [.int v4_2]) ⟨hx, hb, hml, hown, hts⟩ ⟨hK, hN⟩ hP (c_Pl_places l E pl0 pl1 pl2 pl3 pl4 pl_places pl_links pl_mostDrawn pl_ofTen pl_z pl_lengths pl_told pl_delays pl_fractions r_4 h_3) [4, 5, 6, 7, 8] rfl 5 4 rfl rfl rfl gX1_shortestBetween_X5_places rfl rfl rfl rfl hd_Pl_places ⟨(Nat.le_of_ble_eq_true rfl), (Nat.le_of_ble_eq_true rfl)⟩ rfl hl.1 rfl (Nat.le_of_ble_eq_true rfl) dX1_shortestBetween_12 ⟨(Nat.zero_le _), (Nat.zero_le _)⟩ ?_
      refine lv_icmp_ge (tgt := 91) hx hb dX1_shortestBetween_15 (by decide) (fun c_22 => ?_) (fun c_22 => ?_)
      · have hf := ite_t c_22 hf
        exact KX_6 v3_1 (hq_6 _ (Option.some.inj hf).symm) _ (lv_sub hl [3] rfl)
      · have hf := ite_f c_22 hf
        refine lv_iconst (v := 0) hx hb dX1_shortestBetween_18 (by decide) ?_
        refine lv_istore (lv' := [(5, .int 0), (0, .ref cl0), (1, .int a1), (2, .int a2), (3, .int v3_1), (4, .int v4_2)]) hx hb dX1_shortestBetween_19 hl (by decide) rfl (fun ls hl => ?_)
        obtain ⟨w_21, i_21, hf⟩ := bd_s hf
        have KX_21 : ∀ (v3_21 : Int32), v3_21 = w_21 → ∀ (ls : Array Slot), lv_has ls 6 [(0, .ref cl0), (1, .int a1), (2, .int a2), (3, .int v3_21), (4, .int v4_2)] → W p l e rm_Cl_shortestBetween s m args below meth c s.heap [] 0 0 Q (F0 m 85 ls []) := by
          intro v3_21 e_
          subst e_
          try dsimp only at hf
          intro ls hl
          refine lv_iinc (v := (v4_2 + 1)) (lv' := [(4, .int (v4_2 + 1)), (0, .ref cl0), (1, .int a1), (2, .int a2), (3, .int v3_21)]) hx hb dX1_shortestBetween_85 hl (k := 4) rfl rfl (by decide) rfl (fun ls hl => ?_)
          refine lv_goto (tgt := 6) hx hb dX1_shortestBetween_88 (by decide) ?_
          exact ih_6 v3_21 (v4_2 + 1) (hc_6 _ (Option.some.inj hf).symm) _ (lv_sub hl [1, 2, 3, 4, 0] rfl)
        have KL_21 : ∀ (n_ : Nat) (v3_5 : Int32) (v5_6 : Int32), it (Cl_shortestBetween_L21 cl_heads pl_places pl_lengths a1 a2 v4_2) n_ (v3_5, v5_6) = some w_21 → ∀ (ls : Array Slot), lv_has ls 6 [(0, .ref cl0), (1, .int a1), (2, .int a2), (3, .int v3_5), (4, .int v4_2), (5, .int v5_6)] → W p l e rm_Cl_shortestBetween s m args below meth c s.heap [] 0 0 Q (F0 m 21 ls []) := by
          intro n_
          induction n_ with
          | zero => intro v3_5 v5_6 hit; exact (it_z hit).elim
          | succ n_21 ih_21 =>
            intro v3_5 v5_6 hit
            intro ls hl
            obtain ⟨x_21, hf, hc_21, hq_21⟩ := it_s hit
            dsimp only [Cl_shortestBetween_L21] at hf
            refine lv_iload hx hb dX1_shortestBetween_21 (lv_at hl 5 rfl) ?_
            refine lv_aload_n hx hb dX1_shortestBetween_23 rfl (lv_at hl 0 rfl) ?_
            refine va_get (D := E.1) (ci := 1) (v := .ref pl0) (C := RX1) (T := TX1) (N := 6) hx hb hts in_X1_shortestBetween_X1 hown hK hP 0 rfl rfl 0 (by decide) q_0 (fun _ h9 => h9) rfl dX1_shortestBetween_24 ?_
            obtain ⟨r_8, h_7, hf⟩ := bd_s hf
            refine ca_V (As := []) (rest := [.int v5_6]) ⟨hx, hb, hml, hown, hts⟩ ⟨hK, hN⟩ hP (c_Pl_places l E pl0 pl1 pl2 pl3 pl4 pl_places pl_links pl_mostDrawn pl_ofTen pl_z pl_lengths pl_told pl_delays pl_fractions r_8 h_7) [4, 5, 6, 7, 8] rfl 5 4 rfl rfl rfl gX1_shortestBetween_X5_places rfl rfl rfl rfl hd_Pl_places ⟨(Nat.le_of_ble_eq_true rfl), (Nat.le_of_ble_eq_true rfl)⟩ rfl hl.1 rfl (Nat.le_of_ble_eq_true rfl) dX1_shortestBetween_27 ⟨(Nat.zero_le _), (Nat.zero_le _)⟩ ?_
            refine lv_icmp_ge (tgt := 85) hx hb dX1_shortestBetween_30 (by decide) (fun c_20 => ?_) (fun c_20 => ?_)
            · have hf := ite_t c_20 hf
              exact KX_21 v3_5 (hq_21 _ (Option.some.inj hf).symm) _ (lv_sub hl [0, 1, 2, 3, 4] rfl)
            · have hf := ite_f c_20 hf
              refine lv_aload_n hx hb dX1_shortestBetween_33 rfl (lv_at hl 0 rfl) ?_
              refine lv_iload hx hb dX1_shortestBetween_34 (lv_at hl 4 rfl) ?_
              refine lv_iload hx hb dX1_shortestBetween_36 (lv_at hl 5 rfl) ?_
              refine lv_iload_n hx hb dX1_shortestBetween_38 rfl (lv_at hl 1 rfl) ?_
              refine lv_iload_n hx hb dX1_shortestBetween_39 rfl (lv_at hl 2 rfl) ?_
              obtain ⟨r_10, h_9, hf⟩ := bd_s hf
              refine ca_V (As := [.int v4_2, .int v5_6, .int a1, .int a2]) (rest := []) ⟨hx, hb, hml, hown, hts⟩ ⟨hK, hN⟩ hP (c_Cl_isLinkBetween l E cl0 cl1 cl2 cl3 pl0 pl1 pl2 pl3 pl4 pa0 pa1 cl_greatestDelay cl_delays cl_fractions cl_heads pl_places pl_links pl_mostDrawn pl_ofTen pl_z pl_lengths pl_told pl_delays pl_fractions pa_sums v4_2 v5_6 a1 a2 r_10 h_9) [0, 1, 2, 3, 4, 5, 6, 7, 8, 9, 10] rfl 1 0 rfl rfl rfl gX1_shortestBetween_X1_isLinkBetween rfl rfl rfl rfl hd_Cl_isLinkBetween ⟨(Nat.le_of_ble_eq_true rfl), (Nat.le_of_ble_eq_true rfl)⟩ rfl hl.1 rfl (Nat.le_of_ble_eq_true rfl) dX1_shortestBetween_40 ⟨(Nat.zero_le _), (Nat.zero_le _)⟩ ?_
              refine lv_if_eq (tgt := 79) hx hb dX1_shortestBetween_43 (by decide) (fun c_19 => ?_) (fun c_19 => ?_)
              · have hf := ite_t c_19 hf
                refine lv_iinc (v := (v5_6 + 1)) (lv' := [(5, .int (v5_6 + 1)), (0, .ref cl0), (1, .int a1), (2, .int a2), (3, .int v3_5), (4, .int v4_2)]) hx hb dX1_shortestBetween_79 hl (k := 5) rfl rfl (by decide) rfl (fun ls hl => ?_)
                refine lv_goto (tgt := 21) hx hb dX1_shortestBetween_82 (by decide) ?_
                exact ih_21 v3_5 (v5_6 + 1) (hc_21 _ (Option.some.inj hf).symm) _ (lv_sub hl [1, 2, 3, 4, 5, 0] rfl)
              · have hf := ite_f c_19 hf
                refine lv_iload_n hx hb dX1_shortestBetween_46 rfl (lv_at hl 3 rfl) ?_
                refine lv_bipush (v := (-4)) hx hb dX1_shortestBetween_47 (by decide) ?_
                refine lv_icmp_eq (tgt := 67) hx hb dX1_shortestBetween_49 (by decide) (fun c_18 => ?_) (fun c_18 => ?_)
                · have hf := ite_t c_18 hf
                  refine lv_aload_n hx hb dX1_shortestBetween_67 rfl (lv_at hl 0 rfl) ?_
                  refine va_get (D := E.1) (ci := 1) (v := .ref pl0) (C := RX1) (T := TX1) (N := 6) hx hb hts in_X1_shortestBetween_X1 hown hK hP 0 rfl rfl 0 (by decide) q_0 (fun _ h9 => h9) rfl dX1_shortestBetween_68 ?_
                  refine lv_iload hx hb dX1_shortestBetween_71 (lv_at hl 4 rfl) ?_
                  refine lv_iload hx hb dX1_shortestBetween_73 (lv_at hl 5 rfl) ?_
                  obtain ⟨r_12, h_11, hf⟩ := bd_s hf
                  refine ca_V (As := [.int v4_2, .int v5_6]) (rest := []) ⟨hx, hb, hml, hown, hts⟩ ⟨hK, hN⟩ hP (c_Pl_lengthOf l E pl0 pl1 pl2 pl3 pl4 pl_places pl_links pl_mostDrawn pl_ofTen pl_z pl_lengths pl_told pl_delays pl_fractions v4_2 v5_6 r_12 h_11) [4, 5, 6, 7, 8] rfl 5 4 rfl rfl rfl gX1_shortestBetween_X5_lengthOf rfl rfl rfl rfl hd_Pl_lengthOf ⟨(Nat.le_of_ble_eq_true rfl), (Nat.le_of_ble_eq_true rfl)⟩ rfl hl.1 rfl (Nat.le_of_ble_eq_true rfl) dX1_shortestBetween_75 ⟨(Nat.zero_le _), (Nat.zero_le _)⟩ ?_
                  refine lv_istore_n (lv' := [(3, .int r_12), (0, .ref cl0), (1, .int a1), (2, .int a2), (4, .int v4_2), (5, .int v5_6)]) hx hb dX1_shortestBetween_78 rfl hl (by decide) rfl (fun ls hl => ?_)
                  refine lv_iinc (v := (v5_6 + 1)) (lv' := [(5, .int (v5_6 + 1)), (3, .int r_12), (0, .ref cl0), (1, .int a1), (2, .int a2), (4, .int v4_2)]) hx hb dX1_shortestBetween_79 hl (k := 5) rfl rfl (by decide) rfl (fun ls hl => ?_)
                  refine lv_goto (tgt := 21) hx hb dX1_shortestBetween_82 (by decide) ?_
                  exact ih_21 r_12 (v5_6 + 1) (hc_21 _ (Option.some.inj hf).symm) _ (lv_sub hl [2, 3, 4, 1, 5, 0] rfl)
                · have hf := ite_f c_18 hf
                  refine lv_aload_n hx hb dX1_shortestBetween_52 rfl (lv_at hl 0 rfl) ?_
                  refine va_get (D := E.1) (ci := 1) (v := .ref pl0) (C := RX1) (T := TX1) (N := 6) hx hb hts in_X1_shortestBetween_X1 hown hK hP 0 rfl rfl 0 (by decide) q_0 (fun _ h9 => h9) rfl dX1_shortestBetween_53 ?_
                  refine lv_iload hx hb dX1_shortestBetween_56 (lv_at hl 4 rfl) ?_
                  refine lv_iload hx hb dX1_shortestBetween_58 (lv_at hl 5 rfl) ?_
                  obtain ⟨r_14, h_13, hf⟩ := bd_s hf
                  refine ca_V (As := [.int v4_2, .int v5_6]) (rest := []) ⟨hx, hb, hml, hown, hts⟩ ⟨hK, hN⟩ hP (c_Pl_lengthOf l E pl0 pl1 pl2 pl3 pl4 pl_places pl_links pl_mostDrawn pl_ofTen pl_z pl_lengths pl_told pl_delays pl_fractions v4_2 v5_6 r_14 h_13) [4, 5, 6, 7, 8] rfl 5 4 rfl rfl rfl gX1_shortestBetween_X5_lengthOf rfl rfl rfl rfl hd_Pl_lengthOf ⟨(Nat.le_of_ble_eq_true rfl), (Nat.le_of_ble_eq_true rfl)⟩ rfl hl.1 rfl (Nat.le_of_ble_eq_true rfl) dX1_shortestBetween_60 ⟨(Nat.zero_le _), (Nat.zero_le _)⟩ ?_
                  refine lv_iload_n hx hb dX1_shortestBetween_63 rfl (lv_at hl 3 rfl) ?_
                  refine lv_icmp_ge (tgt := 79) hx hb dX1_shortestBetween_64 (by decide) (fun c_17 => ?_) (fun c_17 => ?_)
                  · have hf := ite_t c_17 hf
                    refine lv_iinc (v := (v5_6 + 1)) (lv' := [(5, .int (v5_6 + 1)), (0, .ref cl0), (1, .int a1), (2, .int a2), (3, .int v3_5), (4, .int v4_2)]) hx hb dX1_shortestBetween_79 hl (k := 5) rfl rfl (by decide) rfl (fun ls hl => ?_)
                    refine lv_goto (tgt := 21) hx hb dX1_shortestBetween_82 (by decide) ?_
                    exact ih_21 v3_5 (v5_6 + 1) (hc_21 _ (Option.some.inj hf).symm) _ (lv_sub hl [1, 2, 3, 4, 5, 0] rfl)
                  · have hf := ite_f c_17 hf
                    refine lv_aload_n hx hb dX1_shortestBetween_67 rfl (lv_at hl 0 rfl) ?_
                    refine va_get (D := E.1) (ci := 1) (v := .ref pl0) (C := RX1) (T := TX1) (N := 6) hx hb hts in_X1_shortestBetween_X1 hown hK hP 0 rfl rfl 0 (by decide) q_0 (fun _ h9 => h9) rfl dX1_shortestBetween_68 ?_
                    refine lv_iload hx hb dX1_shortestBetween_71 (lv_at hl 4 rfl) ?_
                    refine lv_iload hx hb dX1_shortestBetween_73 (lv_at hl 5 rfl) ?_
                    obtain ⟨r_16, h_15, hf⟩ := bd_s hf
                    refine ca_V (As := [.int v4_2, .int v5_6]) (rest := []) ⟨hx, hb, hml, hown, hts⟩ ⟨hK, hN⟩ hP (c_Pl_lengthOf l E pl0 pl1 pl2 pl3 pl4 pl_places pl_links pl_mostDrawn pl_ofTen pl_z pl_lengths pl_told pl_delays pl_fractions v4_2 v5_6 r_16 h_15) [4, 5, 6, 7, 8] rfl 5 4 rfl rfl rfl gX1_shortestBetween_X5_lengthOf rfl rfl rfl rfl hd_Pl_lengthOf ⟨(Nat.le_of_ble_eq_true rfl), (Nat.le_of_ble_eq_true rfl)⟩ rfl hl.1 rfl (Nat.le_of_ble_eq_true rfl) dX1_shortestBetween_75 ⟨(Nat.zero_le _), (Nat.zero_le _)⟩ ?_
                    refine lv_istore_n (lv' := [(3, .int r_16), (0, .ref cl0), (1, .int a1), (2, .int a2), (4, .int v4_2), (5, .int v5_6)]) hx hb dX1_shortestBetween_78 rfl hl (by decide) rfl (fun ls hl => ?_)
                    refine lv_iinc (v := (v5_6 + 1)) (lv' := [(5, .int (v5_6 + 1)), (3, .int r_16), (0, .ref cl0), (1, .int a1), (2, .int a2), (4, .int v4_2)]) hx hb dX1_shortestBetween_79 hl (k := 5) rfl rfl (by decide) rfl (fun ls hl => ?_)
                    refine lv_goto (tgt := 21) hx hb dX1_shortestBetween_82 (by decide) ?_
                    exact ih_21 r_16 (v5_6 + 1) (hc_21 _ (Option.some.inj hf).symm) _ (lv_sub hl [2, 3, 4, 1, 5, 0] rfl)
        exact KL_21 _ v3_1 0 i_21 _ (lv_sub hl [1, 2, 3, 4, 5, 0] rfl)
  exact KL_6 _ (-4) 0 i_6 _ (lv_sub hl [2, 3, 4, 1, 0] rfl)
