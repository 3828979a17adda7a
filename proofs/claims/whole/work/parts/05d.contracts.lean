abbrev rm_Mo_isIn : Room := { frames := 0, cells := 0, slots := 0, locals := 0 }
theorem hd_Mo_isIn : hdOK yX8_isIn 3 := by decide +kernel
set_option maxRecDepth 100000 in
set_option maxHeartbeats 4000000 in
theorem c_Mo_isIn (l : Launch) (E : En4) (a0 : Int32) (a1 : Int32) (a2 : Int32)  (res : Int32) (hf : Mo_isIn a0 a1 a2 = some res) : Met l yX8_isIn wsX8_isIn rm_Mo_isIn (pcR [.int a0, .int a1, .int a2] E (w_No E)) (vp_Si (fun r => r = res)) 0 0 (fun _ => False) := by
  refine mk_Rz (cc := cX8_isIn) (maxL := 3) (by decide) rfl (Nat.le_of_ble_eq_true rfl) ?_
  intro p e s m args below meth c Q S hKN hP hret ls hl
  obtain ⟨hx, hb, hml, hown, hts⟩ := S
  obtain ⟨hK, hN⟩ := hKN
  have hl : lv_has ls 3 [(0, .int a0), (1, .int a1), (2, .int a2)] := hl
  unfold Mo_isIn at hf
  refine lv_iload_n hx hb dX8_isIn_0 rfl (lv_at hl 0 rfl) ?_
  refine lv_iload_n hx hb dX8_isIn_1 rfl (lv_at hl 1 rfl) ?_
  refine lv_icmp_lt (tgt := 14) hx hb dX8_isIn_2 (by decide) (fun c_2 => ?_) (fun c_2 => ?_)
  · have hf := ite_t c_2 hf
    refine lv_iconst (v := 0) hx hb dX8_isIn_14 (by decide) ?_
    exact hret ls 15 0 dX8_isIn_15 (by decide) (Option.some.inj hf)
  · have hf := ite_f c_2 hf
    refine lv_iload_n hx hb dX8_isIn_5 rfl (lv_at hl 0 rfl) ?_
    refine lv_iload_n hx hb dX8_isIn_6 rfl (lv_at hl 2 rfl) ?_
    refine lv_icmp_gt (tgt := 14) hx hb dX8_isIn_7 (by decide) (fun c_1 => ?_) (fun c_1 => ?_)
    · have hf := ite_t c_1 hf
      refine lv_iconst (v := 0) hx hb dX8_isIn_14 (by decide) ?_
      exact hret ls 15 0 dX8_isIn_15 (by decide) (Option.some.inj hf)
    · have hf := ite_f c_1 hf
      refine lv_iconst (v := 1) hx hb dX8_isIn_10 (by decide) ?_
      refine lv_goto (tgt := 15) hx hb dX8_isIn_11 (by decide) ?_
      exact hret ls 15 1 dX8_isIn_15 (by decide) (Option.some.inj hf)
abbrev rm_Mo_joins : Room := { frames := 0, cells := 0, slots := 0, locals := 0 }
theorem hd_Mo_joins : hdOK yX8_joins 3 := by decide +kernel
theorem in_X8_joins_X8 : ∀ w ∈ wsX80, w ∈ wsX8_joins := by decide +kernel
set_option maxRecDepth 100000 in
set_option maxHeartbeats 4000000 in
theorem c_Mo_joins (l : Launch) (E : En4) (m0 m1 m2 m3 m4 m5 m6 m7 m8 m9 m10 m11 : Nat) (sz : Nat) (m_length : Int32) (m_places : Int32) (m_most : Int32) (m_tenths : Int32) (m_changes : Int32) (m_readPlaces : Int32) (m_value : Int32) (m_ends : Int32) (m_clusters : Int32) (m_text : Nat → Int32) (m_now : Nat → Int32) (m_read : Nat → Int32) (m_was : Nat → Int32) (m_readRule : Nat → Int32) (m_dist : Nat → Int32) (m_delays : Nat → Int32) (m_fractions : Nat → Int32) (m_head : Nat → Int32) (m_hour : Nat → Int32) (m_number : Nat → Int32) (a1 : Int32) (a2 : Int32) (a3 : Int32)  (res : (Nat → Int32)) (hf : Mo_joins m_read a1 a2 a3 = some res) : Met l yX8_joins wsX8_joins rm_Mo_joins (pcM [.ref m0, .int a1, .int a2, .int a3] E sz (w_Mo E m0 m1 m2 m3 m4 m5 m6 m7 m8 m9 m10 m11 m_length m_places m_most m_tenths m_changes m_readPlaces m_value m_ends m_clusters m_text m_now m_read m_was m_readRule m_dist m_delays m_fractions m_head m_hour m_number)) (QMv E sz (w_Mo E m0 m1 m2 m3 m4 m5 m6 m7 m8 m9 m10 m11 m_length m_places m_most m_tenths m_changes m_readPlaces m_value m_ends m_clusters m_text m_now m_read m_was m_readRule m_dist m_delays m_fractions m_head m_hour m_number) (fun (u : (Nat → Int32)) => (w_Mo E m0 m1 m2 m3 m4 m5 m6 m7 m8 m9 m10 m11 m_length m_places m_most m_tenths m_changes m_readPlaces m_value m_ends m_clusters m_text m_now u m_was m_readRule m_dist m_delays m_fractions m_head m_hour m_number)) res) 0 0 (va_A (w_Mo E m0 m1 m2 m3 m4 m5 m6 m7 m8 m9 m10 m11 m_length m_places m_most m_tenths m_changes m_readPlaces m_value m_ends m_clusters m_text m_now m_read m_was m_readRule m_dist m_delays m_fractions m_head m_hour m_number) sz) := by
  refine mk_Mv (cc := cX8_joins) (maxL := 4) (by decide) rfl (Nat.le_of_ble_eq_true rfl) ?_
  intro p e s m args below meth c Q A S hKN hA hret H locs ls hP hD hS hl
  obtain ⟨hx, hb, hml, hown, hts⟩ := S
  obtain ⟨hK, hN⟩ := hKN
  have hl : lv_has ls 4 [(0, .ref m0), (1, .int a1), (2, .int a2), (3, .int a3)] := hl
  have q_0 := hts (.fieldLink RX8 16 "DelayClustersModel" "read" "[I") (by decide +kernel)
  unfold Mo_joins at hf
  refine lv_aload_n hx hb dX8_joins_0 rfl (lv_at hl 0 rfl) ?_
  refine va_get (D := E.1) (ci := 8) (v := .ref m3) (C := RX8) (T := TX8) (N := 20) hx hb hts in_X8_joins_X8 hown hK hP 0 rfl rfl 6 (by decide) q_0 (fun _ h9 => h9) rfl dX8_joins_1 ?_
  refine lv_bipush (v := 16) hx hb dX8_joins_4 (by decide) ?_
  refine lv_iload_n hx hb dX8_joins_6 rfl (lv_at hl 1 rfl) ?_
  refine lv_imul hx hb dX8_joins_7 ?_
  refine lv_iload_n hx hb dX8_joins_8 rfl (lv_at hl 2 rfl) ?_
  refine lv_iadd hx hb dX8_joins_9 ?_
  refine lv_iload_n hx hb dX8_joins_10 rfl (lv_at hl 3 rfl) ?_
  obtain ⟨g_1, hf⟩ := gk_s hf
  refine va_iast hx hb hK hP hD hS 3 0 rfl rfl g_1 dX8_joins_11 (fun H locs hP hD hS => ?_)
  have hP : va_P E.1 vwCl (w_Mo E m0 m1 m2 m3 m4 m5 m6 m7 m8 m9 m10 m11 m_length m_places m_most m_tenths m_changes m_readPlaces m_value m_ends m_clusters m_text m_now (upd m_read ((16 * a1) + a2).toNatClampNeg a3) m_was m_readRule m_dist m_delays m_fractions m_head m_hour m_number) H := hP
  have hD : va_D A (w_Mo E m0 m1 m2 m3 m4 m5 m6 m7 m8 m9 m10 m11 m_length m_places m_most m_tenths m_changes m_readPlaces m_value m_ends m_clusters m_text m_now (upd m_read ((16 * a1) + a2).toNatClampNeg a3) m_was m_readRule m_dist m_delays m_fractions m_head m_hour m_number) := hD
  refine lv_aload_n hx hb dX8_joins_12 rfl (lv_at hl 0 rfl) ?_
  refine va_get (D := E.1) (ci := 8) (v := .ref m3) (C := RX8) (T := TX8) (N := 20) hx hb hts in_X8_joins_X8 hown hK hP 0 rfl rfl 6 (by decide) q_0 (fun _ h9 => h9) rfl dX8_joins_13 ?_
  refine lv_bipush (v := 16) hx hb dX8_joins_16 (by decide) ?_
  refine lv_iload_n hx hb dX8_joins_18 rfl (lv_at hl 2 rfl) ?_
  refine lv_imul hx hb dX8_joins_19 ?_
  refine lv_iload_n hx hb dX8_joins_20 rfl (lv_at hl 1 rfl) ?_
  refine lv_iadd hx hb dX8_joins_21 ?_
  refine lv_iload_n hx hb dX8_joins_22 rfl (lv_at hl 3 rfl) ?_
  obtain ⟨g_2, hf⟩ := gk_s hf
  refine va_iast hx hb hK hP hD hS 3 0 rfl rfl g_2 dX8_joins_23 (fun H locs hP hD hS => ?_)
  have hP : va_P E.1 vwCl (w_Mo E m0 m1 m2 m3 m4 m5 m6 m7 m8 m9 m10 m11 m_length m_places m_most m_tenths m_changes m_readPlaces m_value m_ends m_clusters m_text m_now (upd (upd m_read ((16 * a1) + a2).toNatClampNeg a3) ((16 * a2) + a1).toNatClampNeg a3) m_was m_readRule m_dist m_delays m_fractions m_head m_hour m_number) H := hP
  have hD : va_D A (w_Mo E m0 m1 m2 m3 m4 m5 m6 m7 m8 m9 m10 m11 m_length m_places m_most m_tenths m_changes m_readPlaces m_value m_ends m_clusters m_text m_now (upd (upd m_read ((16 * a1) + a2).toNatClampNeg a3) ((16 * a2) + a1).toNatClampNeg a3) m_was m_readRule m_dist m_delays m_fractions m_head m_hour m_number) := hD
  exact hret H locs ls 24 (upd (upd m_read ((16 * a1) + a2).toNatClampNeg a3) ((16 * a2) + a1).toNatClampNeg a3) dX8_joins_24 (Option.some.inj hf) hP hD hS
abbrev rm_Mo_clears : Room := { frames := 0, cells := 0, slots := 0, locals := 0 }
theorem hd_Mo_clears : hdOK yX8_clears 0 := by decide +kernel
theorem in_X8_clears_X8 : ∀ w ∈ wsX80, w ∈ wsX8_clears := by decide +kernel
set_option maxRecDepth 100000 in
set_option maxHeartbeats 4000000 in
theorem c_Mo_clears (l : Launch) (E : En4) (m0 m1 m2 m3 m4 m5 m6 m7 m8 m9 m10 m11 : Nat) (sz : Nat) (m_length : Int32) (m_places : Int32) (m_most : Int32) (m_tenths : Int32) (m_changes : Int32) (m_readPlaces : Int32) (m_value : Int32) (m_ends : Int32) (m_clusters : Int32) (m_text : Nat → Int32) (m_now : Nat → Int32) (m_read : Nat → Int32) (m_was : Nat → Int32) (m_readRule : Nat → Int32) (m_dist : Nat → Int32) (m_delays : Nat → Int32) (m_fractions : Nat → Int32) (m_head : Nat → Int32) (m_hour : Nat → Int32) (m_number : Nat → Int32)  (res : Int32 × (Nat → Int32) × (Nat → Int32)) (hf : Mo_clears m_readPlaces m_read m_readRule = some res) : Met l yX8_clears wsX8_clears rm_Mo_clears (pcM [.ref m0] E sz (w_Mo E m0 m1 m2 m3 m4 m5 m6 m7 m8 m9 m10 m11 m_length m_places m_most m_tenths m_changes m_readPlaces m_value m_ends m_clusters m_text m_now m_read m_was m_readRule m_dist m_delays m_fractions m_head m_hour m_number)) (QMv E sz (w_Mo E m0 m1 m2 m3 m4 m5 m6 m7 m8 m9 m10 m11 m_length m_places m_most m_tenths m_changes m_readPlaces m_value m_ends m_clusters m_text m_now m_read m_was m_readRule m_dist m_delays m_fractions m_head m_hour m_number) (fun (u : Int32 × (Nat → Int32) × (Nat → Int32)) => (w_Mo E m0 m1 m2 m3 m4 m5 m6 m7 m8 m9 m10 m11 m_length m_places m_most m_tenths m_changes u.1 m_value m_ends m_clusters m_text m_now u.2.1 m_was u.2.2 m_dist m_delays m_fractions m_head m_hour m_number)) res) 0 0 (va_A (w_Mo E m0 m1 m2 m3 m4 m5 m6 m7 m8 m9 m10 m11 m_length m_places m_most m_tenths m_changes m_readPlaces m_value m_ends m_clusters m_text m_now m_read m_was m_readRule m_dist m_delays m_fractions m_head m_hour m_number) sz) := by
  refine mk_Mv (cc := cX8_clears) (maxL := 2) (by decide) rfl (Nat.le_of_ble_eq_true rfl) ?_
  intro p e s m args below meth c Q A S hKN hA hret H locs ls hP hD hS hl
  obtain ⟨hx, hb, hml, hown, hts⟩ := S
  obtain ⟨hK, hN⟩ := hKN
  have hl : lv_has ls 2 [(0, .ref m0)] := hl
  have q_0 := hts (.fieldLink RX8 46 "DelayClustersModel" "readPlaces" "I") (by decide +kernel)
  have q_1 := hts (.fieldLink RX8 22 "DelayClustersModel" "readRule" "[I") (by decide +kernel)
  have q_2 := hts (.fieldLink RX8 16 "DelayClustersModel" "read" "[I") (by decide +kernel)
  unfold Mo_clears at hf
  refine lv_aload_n hx hb dX8_clears_0 rfl (lv_at hl 0 rfl) ?_
  refine lv_iconst (v := 0) hx hb dX8_clears_1 (by decide) ?_
  refine va_put (D := E.1) (ci := 8) (v := .int 0) (ty := .int) (C := RX8) (T := TX8) (N := 20) hx hb hts in_X8_clears_X8 tyX8 tyX8_ok nmX8 hown hK hP hD hS 0 rfl rfl 9 (by decide) q_0 (fun _ h9 => h9) rfl (by decide +kernel) rfl rfl (Nat.le_of_ble_eq_true rfl) dX8_clears_2 (fun H locs hP hD hS => ?_)
  have hP : va_P E.1 vwCl (w_Mo E m0 m1 m2 m3 m4 m5 m6 m7 m8 m9 m10 m11 m_length m_places m_most m_tenths m_changes 0 m_value m_ends m_clusters m_text m_now m_read m_was m_readRule m_dist m_delays m_fractions m_head m_hour m_number) H := hP
  have hD : va_D A (w_Mo E m0 m1 m2 m3 m4 m5 m6 m7 m8 m9 m10 m11 m_length m_places m_most m_tenths m_changes 0 m_value m_ends m_clusters m_text m_now m_read m_was m_readRule m_dist m_delays m_fractions m_head m_hour m_number) := hD
  refine lv_aload_n hx hb dX8_clears_5 rfl (lv_at hl 0 rfl) ?_
  refine va_get (D := E.1) (ci := 8) (v := .ref m5) (C := RX8) (T := TX8) (N := 20) hx hb hts in_X8_clears_X8 hown hK hP 0 rfl rfl 10 (by decide) q_1 (fun _ h9 => h9) rfl dX8_clears_6 ?_
  refine lv_iconst (v := 0) hx hb dX8_clears_9 (by decide) ?_
  refine lv_bipush (v := 8) hx hb dX8_clears_10 (by decide) ?_
  refine va_iast hx hb hK hP hD hS 5 0 rfl rfl (ck_in (by decide)) dX8_clears_12 (fun H locs hP hD hS => ?_)
  have hP : va_P E.1 vwCl (w_Mo E m0 m1 m2 m3 m4 m5 m6 m7 m8 m9 m10 m11 m_length m_places m_most m_tenths m_changes 0 m_value m_ends m_clusters m_text m_now m_read m_was (upd m_readRule (0 : Int32).toNatClampNeg 8) m_dist m_delays m_fractions m_head m_hour m_number) H := hP
  have hD : va_D A (w_Mo E m0 m1 m2 m3 m4 m5 m6 m7 m8 m9 m10 m11 m_length m_places m_most m_tenths m_changes 0 m_value m_ends m_clusters m_text m_now m_read m_was (upd m_readRule (0 : Int32).toNatClampNeg 8) m_dist m_delays m_fractions m_head m_hour m_number) := hD
  refine lv_aload_n hx hb dX8_clears_13 rfl (lv_at hl 0 rfl) ?_
  refine va_get (D := E.1) (ci := 8) (v := .ref m5) (C := RX8) (T := TX8) (N := 20) hx hb hts in_X8_clears_X8 hown hK hP 0 rfl rfl 10 (by decide) q_1 (fun _ h9 => h9) rfl dX8_clears_14 ?_
  refine lv_iconst (v := 1) hx hb dX8_clears_17 (by decide) ?_
  refine lv_bipush (v := 6) hx hb dX8_clears_18 (by decide) ?_
  refine va_iast hx hb hK hP hD hS 5 0 rfl rfl (ck_in (by decide)) dX8_clears_20 (fun H locs hP hD hS => ?_)
  have hP : va_P E.1 vwCl (w_Mo E m0 m1 m2 m3 m4 m5 m6 m7 m8 m9 m10 m11 m_length m_places m_most m_tenths m_changes 0 m_value m_ends m_clusters m_text m_now m_read m_was (upd (upd m_readRule (0 : Int32).toNatClampNeg 8) (1 : Int32).toNatClampNeg 6) m_dist m_delays m_fractions m_head m_hour m_number) H := hP
  have hD : va_D A (w_Mo E m0 m1 m2 m3 m4 m5 m6 m7 m8 m9 m10 m11 m_length m_places m_most m_tenths m_changes 0 m_value m_ends m_clusters m_text m_now m_read m_was (upd (upd m_readRule (0 : Int32).toNatClampNeg 8) (1 : Int32).toNatClampNeg 6) m_dist m_delays m_fractions m_head m_hour m_number) := hD
  refine lv_iconst (v := 0) hx hb dX8_clears_21 (by decide) ?_
  refine lv_istore_n (lv' := [(1, .int 0), (0, .ref m0)]) hx hb dX8_clears_22 rfl hl (by decide) rfl (fun ls hl => ?_)
  obtain ⟨w_23, i_23, hf⟩ := bd_s hf
  have KX_23 : ∀ (m_read_5 : Nat → Int32), m_read_5 = w_23 → ∀ (H : Heap) (locs : List Loc) (ls : Array Slot), va_P E.1 vwCl (w_Mo E m0 m1 m2 m3 m4 m5 m6 m7 m8 m9 m10 m11 m_length m_places m_most m_tenths m_changes 0 m_value m_ends m_clusters m_text m_now m_read_5 m_was (upd (upd m_readRule (0 : Int32).toNatClampNeg 8) (1 : Int32).toNatClampNeg 6) m_dist m_delays m_fractions m_head m_hour m_number) H → va_D A (w_Mo E m0 m1 m2 m3 m4 m5 m6 m7 m8 m9 m10 m11 m_length m_places m_most m_tenths m_changes 0 m_value m_ends m_clusters m_text m_now m_read_5 m_was (upd (upd m_readRule (0 : Int32).toNatClampNeg 8) (1 : Int32).toNatClampNeg 6) m_dist m_delays m_fractions m_head m_hour m_number) → va_S A s.heap H locs → lv_has ls 2 [] → W p l e rm_Mo_clears s m args below meth c H locs 0 0 Q (F0 m 43 ls []) := by
    intro m_read_5 e_
    subst e_
    try dsimp only at hf
    intro H locs ls hP hD hS hl
    exact hret H locs ls 43 (0, m_read_5, (upd (upd m_readRule (0 : Int32).toNatClampNeg 8) (1 : Int32).toNatClampNeg 6)) dX8_clears_43 (Option.some.inj hf) hP hD hS
  have KL_23 : ∀ (n_ : Nat) (v1_1 : Int32) (m_read_2 : Nat → Int32), it Mo_clears_L23 n_ (v1_1, m_read_2) = some w_23 → ∀ (H : Heap) (locs : List Loc) (ls : Array Slot), va_P E.1 vwCl (w_Mo E m0 m1 m2 m3 m4 m5 m6 m7 m8 m9 m10 m11 m_length m_places m_most m_tenths m_changes 0 m_value m_ends m_clusters m_text m_now m_read_2 m_was (upd (upd m_readRule (0 : Int32).toNatClampNeg 8) (1 : Int32).toNatClampNeg 6) m_dist m_delays m_fractions m_head m_hour m_number) H → va_D A (w_Mo E m0 m1 m2 m3 m4 m5 m6 m7 m8 m9 m10 m11 m_length m_places m_most m_tenths m_changes 0 m_value m_ends m_clusters m_text m_now m_read_2 m_was (upd (upd m_readRule (0 : Int32).toNatClampNeg 8) (1 : Int32).toNatClampNeg 6) m_dist m_delays m_fractions m_head m_hour m_number) → va_S A s.heap H locs → lv_has ls 2 [(0, .ref m0), (1, .int v1_1)] → W p l e rm_Mo_clears s m args below meth c H locs 0 0 Q (F0 m 23 ls []) := by
    intro n_
    induction n_ with
    | zero => intro v1_1 m_read_2 hit; exact (it_z hit).elim
    | succ n_23 ih_23 =>
      intro v1_1 m_read_2 hit
      intro H locs ls hP hD hS hl
      obtain ⟨x_23, hf, hc_23, hq_23⟩ := it_s hit
      dsimp only [Mo_clears_L23] at hf
      refine lv_iload_n hx hb dX8_clears_23 rfl (lv_at hl 1 rfl) ?_
      refine lv_sipush (v := 289) hx hb dX8_clears_24 (by decide) ?_
      refine lv_icmp_ge (tgt := 43) hx hb dX8_clears_27 (by decide) (fun c_4 => ?_) (fun c_4 => ?_)
      · have hf := ite_t c_4 hf
        exact KX_23 m_read_2 (hq_23 _ (Option.some.inj hf).symm) H locs _ hP hD hS (lv_sub hl [] rfl)
      · have hf := ite_f c_4 hf
        refine lv_aload_n hx hb dX8_clears_30 rfl (lv_at hl 0 rfl) ?_
        refine va_get (D := E.1) (ci := 8) (v := .ref m3) (C := RX8) (T := TX8) (N := 20) hx hb hts in_X8_clears_X8 hown hK hP 0 rfl rfl 6 (by decide) q_2 (fun _ h9 => h9) rfl dX8_clears_31 ?_
        refine lv_iload_n hx hb dX8_clears_34 rfl (lv_at hl 1 rfl) ?_
        refine lv_iconst (v := 0) hx hb dX8_clears_35 (by decide) ?_
        obtain ⟨g_3, hf⟩ := gk_s hf
        refine va_iast hx hb hK hP hD hS 3 0 rfl rfl g_3 dX8_clears_36 (fun H locs hP hD hS => ?_)
        have hP : va_P E.1 vwCl (w_Mo E m0 m1 m2 m3 m4 m5 m6 m7 m8 m9 m10 m11 m_length m_places m_most m_tenths m_changes 0 m_value m_ends m_clusters m_text m_now (upd m_read_2 v1_1.toNatClampNeg 0) m_was (upd (upd m_readRule (0 : Int32).toNatClampNeg 8) (1 : Int32).toNatClampNeg 6) m_dist m_delays m_fractions m_head m_hour m_number) H := hP
        have hD : va_D A (w_Mo E m0 m1 m2 m3 m4 m5 m6 m7 m8 m9 m10 m11 m_length m_places m_most m_tenths m_changes 0 m_value m_ends m_clusters m_text m_now (upd m_read_2 v1_1.toNatClampNeg 0) m_was (upd (upd m_readRule (0 : Int32).toNatClampNeg 8) (1 : Int32).toNatClampNeg 6) m_dist m_delays m_fractions m_head m_hour m_number) := hD
        refine lv_iinc (v := (v1_1 + 1)) (lv' := [(1, .int (v1_1 + 1)), (0, .ref m0)]) hx hb dX8_clears_37 hl (k := 1) rfl rfl (by decide) rfl (fun ls hl => ?_)
        refine lv_goto (tgt := 23) hx hb dX8_clears_40 (by decide) ?_
        exact ih_23 (v1_1 + 1) (upd m_read_2 v1_1.toNatClampNeg 0) (hc_23 _ (Option.some.inj hf).symm) H locs _ hP hD hS (lv_sub hl [1, 0] rfl)
  exact KL_23 _ 0 m_read i_23 H locs _ hP hD hS (lv_sub hl [1, 0] rfl)
abbrev rm_Mo_takes : Room := { frames := 0, cells := 0, slots := 0, locals := 0 }
theorem hd_Mo_takes : hdOK yX8_takes 0 := by decide +kernel
theorem in_X8_takes_X8 : ∀ w ∈ wsX80, w ∈ wsX8_takes := by decide +kernel
set_option maxRecDepth 100000 in
set_option maxHeartbeats 4000000 in
theorem c_Mo_takes (l : Launch) (E : En4) (m0 m1 m2 m3 m4 m5 m6 m7 m8 m9 m10 m11 : Nat) (sz : Nat) (m_length : Int32) (m_places : Int32) (m_most : Int32) (m_tenths : Int32) (m_changes : Int32) (m_readPlaces : Int32) (m_value : Int32) (m_ends : Int32) (m_clusters : Int32) (m_text : Nat → Int32) (m_now : Nat → Int32) (m_read : Nat → Int32) (m_was : Nat → Int32) (m_readRule : Nat → Int32) (m_dist : Nat → Int32) (m_delays : Nat → Int32) (m_fractions : Nat → Int32) (m_head : Nat → Int32) (m_hour : Nat → Int32) (m_number : Nat → Int32)  (res : Int32 × Int32 × Int32 × Int32 × (Nat → Int32)) (hf : Mo_takes m_places m_most m_tenths m_changes m_readPlaces m_now m_read m_readRule = some res) : Met l yX8_takes wsX8_takes rm_Mo_takes (pcM [.ref m0] E sz (w_Mo E m0 m1 m2 m3 m4 m5 m6 m7 m8 m9 m10 m11 m_length m_places m_most m_tenths m_changes m_readPlaces m_value m_ends m_clusters m_text m_now m_read m_was m_readRule m_dist m_delays m_fractions m_head m_hour m_number)) (QMv E sz (w_Mo E m0 m1 m2 m3 m4 m5 m6 m7 m8 m9 m10 m11 m_length m_places m_most m_tenths m_changes m_readPlaces m_value m_ends m_clusters m_text m_now m_read m_was m_readRule m_dist m_delays m_fractions m_head m_hour m_number) (fun (u : Int32 × Int32 × Int32 × Int32 × (Nat → Int32)) => (w_Mo E m0 m1 m2 m3 m4 m5 m6 m7 m8 m9 m10 m11 m_length u.1 u.2.1 u.2.2.1 u.2.2.2.1 m_readPlaces m_value m_ends m_clusters m_text u.2.2.2.2 m_read m_was m_readRule m_dist m_delays m_fractions m_head m_hour m_number)) res) 0 0 (va_A (w_Mo E m0 m1 m2 m3 m4 m5 m6 m7 m8 m9 m10 m11 m_length m_places m_most m_tenths m_changes m_readPlaces m_value m_ends m_clusters m_text m_now m_read m_was m_readRule m_dist m_delays m_fractions m_head m_hour m_number) sz) := by
  refine mk_Mv (cc := cX8_takes) (maxL := 2) (by decide) rfl (Nat.le_of_ble_eq_true rfl) ?_
  intro p e s m args below meth c Q A S hKN hA hret H locs ls hP hD hS hl
  obtain ⟨hx, hb, hml, hown, hts⟩ := S
  obtain ⟨hK, hN⟩ := hKN
  have hl : lv_has ls 2 [(0, .ref m0)] := hl
  have q_0 := hts (.fieldLink RX8 46 "DelayClustersModel" "readPlaces" "I") (by decide +kernel)
  have q_1 := hts (.fieldLink RX8 57 "DelayClustersModel" "places" "I") (by decide +kernel)
  have q_2 := hts (.fieldLink RX8 22 "DelayClustersModel" "readRule" "[I") (by decide +kernel)
  have q_3 := hts (.fieldLink RX8 60 "DelayClustersModel" "most" "I") (by decide +kernel)
  have q_4 := hts (.fieldLink RX8 63 "DelayClustersModel" "tenths" "I") (by decide +kernel)
  have q_5 := hts (.fieldLink RX8 13 "DelayClustersModel" "now" "[I") (by decide +kernel)
  have q_6 := hts (.fieldLink RX8 16 "DelayClustersModel" "read" "[I") (by decide +kernel)
  have q_7 := hts (.fieldLink RX8 66 "DelayClustersModel" "changes" "I") (by decide +kernel)
  unfold Mo_takes at hf
  refine lv_aload_n hx hb dX8_takes_0 rfl (lv_at hl 0 rfl) ?_
  refine lv_aload_n hx hb dX8_takes_1 rfl (lv_at hl 0 rfl) ?_
  refine va_get (D := E.1) (ci := 8) (v := .int m_readPlaces) (C := RX8) (T := TX8) (N := 20) hx hb hts in_X8_takes_X8 hown hK hP 0 rfl rfl 9 (by decide) q_0 (fun _ h9 => h9) rfl dX8_takes_2 ?_
  refine va_put (D := E.1) (ci := 8) (v := .int m_readPlaces) (ty := .int) (C := RX8) (T := TX8) (N := 20) hx hb hts in_X8_takes_X8 tyX8 tyX8_ok nmX8 hown hK hP hD hS 0 rfl rfl 2 (by decide) q_1 (fun _ h9 => h9) rfl (by decide +kernel) rfl rfl (Nat.le_of_ble_eq_true rfl) dX8_takes_5 (fun H locs hP hD hS => ?_)
  have hP : va_P E.1 vwCl (w_Mo E m0 m1 m2 m3 m4 m5 m6 m7 m8 m9 m10 m11 m_length m_readPlaces m_most m_tenths m_changes m_readPlaces m_value m_ends m_clusters m_text m_now m_read m_was m_readRule m_dist m_delays m_fractions m_head m_hour m_number) H := hP
  have hD : va_D A (w_Mo E m0 m1 m2 m3 m4 m5 m6 m7 m8 m9 m10 m11 m_length m_readPlaces m_most m_tenths m_changes m_readPlaces m_value m_ends m_clusters m_text m_now m_read m_was m_readRule m_dist m_delays m_fractions m_head m_hour m_number) := hD
  refine lv_aload_n hx hb dX8_takes_8 rfl (lv_at hl 0 rfl) ?_
  refine lv_aload_n hx hb dX8_takes_9 rfl (lv_at hl 0 rfl) ?_
  refine va_get (D := E.1) (ci := 8) (v := .ref m5) (C := RX8) (T := TX8) (N := 20) hx hb hts in_X8_takes_X8 hown hK hP 0 rfl rfl 10 (by decide) q_2 (fun _ h9 => h9) rfl dX8_takes_10 ?_
  refine lv_iconst (v := 0) hx hb dX8_takes_13 (by decide) ?_
  refine va_iald hx hb hK hP 5 0 rfl rfl (ck_in (by decide)) dX8_takes_14 ?_
  refine va_put (D := E.1) (ci := 8) (v := .int (m_readRule (0 : Int32).toNatClampNeg)) (ty := .int) (C := RX8) (T := TX8) (N := 20) hx hb hts in_X8_takes_X8 tyX8 tyX8_ok nmX8 hown hK hP hD hS 0 rfl rfl 3 (by decide) q_3 (fun _ h9 => h9) rfl (by decide +kernel) rfl rfl (Nat.le_of_ble_eq_true rfl) dX8_takes_15 (fun H locs hP hD hS => ?_)
  have hP : va_P E.1 vwCl (w_Mo E m0 m1 m2 m3 m4 m5 m6 m7 m8 m9 m10 m11 m_length m_readPlaces (m_readRule (0 : Int32).toNatClampNeg) m_tenths m_changes m_readPlaces m_value m_ends m_clusters m_text m_now m_read m_was m_readRule m_dist m_delays m_fractions m_head m_hour m_number) H := hP
  have hD : va_D A (w_Mo E m0 m1 m2 m3 m4 m5 m6 m7 m8 m9 m10 m11 m_length m_readPlaces (m_readRule (0 : Int32).toNatClampNeg) m_tenths m_changes m_readPlaces m_value m_ends m_clusters m_text m_now m_read m_was m_readRule m_dist m_delays m_fractions m_head m_hour m_number) := hD
  refine lv_aload_n hx hb dX8_takes_18 rfl (lv_at hl 0 rfl) ?_
  refine lv_aload_n hx hb dX8_takes_19 rfl (lv_at hl 0 rfl) ?_
  refine va_get (D := E.1) (ci := 8) (v := .ref m5) (C := RX8) (T := TX8) (N := 20) hx hb hts in_X8_takes_X8 hown hK hP 0 rfl rfl 10 (by decide) q_2 (fun _ h9 => h9) rfl dX8_takes_20 ?_
  refine lv_iconst (v := 1) hx hb dX8_takes_23 (by decide) ?_
  refine va_iald hx hb hK hP 5 0 rfl rfl (ck_in (by decide)) dX8_takes_24 ?_
  refine va_put (D := E.1) (ci := 8) (v := .int (m_readRule (1 : Int32).toNatClampNeg)) (ty := .int) (C := RX8) (T := TX8) (N := 20) hx hb hts in_X8_takes_X8 tyX8 tyX8_ok nmX8 hown hK hP hD hS 0 rfl rfl 4 (by decide) q_4 (fun _ h9 => h9) rfl (by decide +kernel) rfl rfl (Nat.le_of_ble_eq_true rfl) dX8_takes_25 (fun H locs hP hD hS => ?_)
  have hP : va_P E.1 vwCl (w_Mo E m0 m1 m2 m3 m4 m5 m6 m7 m8 m9 m10 m11 m_length m_readPlaces (m_readRule (0 : Int32).toNatClampNeg) (m_readRule (1 : Int32).toNatClampNeg) m_changes m_readPlaces m_value m_ends m_clusters m_text m_now m_read m_was m_readRule m_dist m_delays m_fractions m_head m_hour m_number) H := hP
  have hD : va_D A (w_Mo E m0 m1 m2 m3 m4 m5 m6 m7 m8 m9 m10 m11 m_length m_readPlaces (m_readRule (0 : Int32).toNatClampNeg) (m_readRule (1 : Int32).toNatClampNeg) m_changes m_readPlaces m_value m_ends m_clusters m_text m_now m_read m_was m_readRule m_dist m_delays m_fractions m_head m_hour m_number) := hD
  refine lv_iconst (v := 0) hx hb dX8_takes_28 (by decide) ?_
  refine lv_istore_n (lv' := [(1, .int 0), (0, .ref m0)]) hx hb dX8_takes_29 rfl hl (by decide) rfl (fun ls hl => ?_)
  obtain ⟨w_30, i_30, hf⟩ := bd_s hf
  have KX_30 : ∀ (m_now_6 : Nat → Int32), m_now_6 = w_30 → ∀ (H : Heap) (locs : List Loc) (ls : Array Slot), va_P E.1 vwCl (w_Mo E m0 m1 m2 m3 m4 m5 m6 m7 m8 m9 m10 m11 m_length m_readPlaces (m_readRule (0 : Int32).toNatClampNeg) (m_readRule (1 : Int32).toNatClampNeg) m_changes m_readPlaces m_value m_ends m_clusters m_text m_now_6 m_read m_was m_readRule m_dist m_delays m_fractions m_head m_hour m_number) H → va_D A (w_Mo E m0 m1 m2 m3 m4 m5 m6 m7 m8 m9 m10 m11 m_length m_readPlaces (m_readRule (0 : Int32).toNatClampNeg) (m_readRule (1 : Int32).toNatClampNeg) m_changes m_readPlaces m_value m_ends m_clusters m_text m_now_6 m_read m_was m_readRule m_dist m_delays m_fractions m_head m_hour m_number) → va_S A s.heap H locs → lv_has ls 2 [(0, .ref m0)] → W p l e rm_Mo_takes s m args below meth c H locs 0 0 Q (F0 m 55 ls []) := by
    intro m_now_6 e_
    subst e_
    try dsimp only at hf
    intro H locs ls hP hD hS hl
    refine lv_aload_n hx hb dX8_takes_55 rfl (lv_at hl 0 rfl) ?_
    refine lv_iconst (v := 0) hx hb dX8_takes_56 (by decide) ?_
    refine va_put (D := E.1) (ci := 8) (v := .int 0) (ty := .int) (C := RX8) (T := TX8) (N := 20) hx hb hts in_X8_takes_X8 tyX8 tyX8_ok nmX8 hown hK hP hD hS 0 rfl rfl 8 (by decide) q_7 (fun _ h9 => h9) rfl (by decide +kernel) rfl rfl (Nat.le_of_ble_eq_true rfl) dX8_takes_57 (fun H locs hP hD hS => ?_)
    have hP : va_P E.1 vwCl (w_Mo E m0 m1 m2 m3 m4 m5 m6 m7 m8 m9 m10 m11 m_length m_readPlaces (m_readRule (0 : Int32).toNatClampNeg) (m_readRule (1 : Int32).toNatClampNeg) 0 m_readPlaces m_value m_ends m_clusters m_text m_now_6 m_read m_was m_readRule m_dist m_delays m_fractions m_head m_hour m_number) H := hP
    have hD : va_D A (w_Mo E m0 m1 m2 m3 m4 m5 m6 m7 m8 m9 m10 m11 m_length m_readPlaces (m_readRule (0 : Int32).toNatClampNeg) (m_readRule (1 : Int32).toNatClampNeg) 0 m_readPlaces m_value m_ends m_clusters m_text m_now_6 m_read m_was m_readRule m_dist m_delays m_fractions m_head m_hour m_number) := hD
    exact hret H locs ls 60 (m_readPlaces, (m_readRule (0 : Int32).toNatClampNeg), (m_readRule (1 : Int32).toNatClampNeg), 0, m_now_6) dX8_takes_60 (Option.some.inj hf) hP hD hS
  have KL_30 : ∀ (n_ : Nat) (v1_1 : Int32) (m_now_2 : Nat → Int32), it (Mo_takes_L30 m_read) n_ (v1_1, m_now_2) = some w_30 → ∀ (H : Heap) (locs : List Loc) (ls : Array Slot), va_P E.1 vwCl (w_Mo E m0 m1 m2 m3 m4 m5 m6 m7 m8 m9 m10 m11 m_length m_readPlaces (m_readRule (0 : Int32).toNatClampNeg) (m_readRule (1 : Int32).toNatClampNeg) m_changes m_readPlaces m_value m_ends m_clusters m_text m_now_2 m_read m_was m_readRule m_dist m_delays m_fractions m_head m_hour m_number) H → va_D A (w_Mo E m0 m1 m2 m3 m4 m5 m6 m7 m8 m9 m10 m11 m_length m_readPlaces (m_readRule (0 : Int32).toNatClampNeg) (m_readRule (1 : Int32).toNatClampNeg) m_changes m_readPlaces m_value m_ends m_clusters m_text m_now_2 m_read m_was m_readRule m_dist m_delays m_fractions m_head m_hour m_number) → va_S A s.heap H locs → lv_has ls 2 [(0, .ref m0), (1, .int v1_1)] → W p l e rm_Mo_takes s m args below meth c H locs 0 0 Q (F0 m 30 ls []) := by
    intro n_
    induction n_ with
    | zero => intro v1_1 m_now_2 hit; exact (it_z hit).elim
    | succ n_30 ih_30 =>
      intro v1_1 m_now_2 hit
      intro H locs ls hP hD hS hl
      obtain ⟨x_30, hf, hc_30, hq_30⟩ := it_s hit
      dsimp only [Mo_takes_L30] at hf
      refine lv_iload_n hx hb dX8_takes_30 rfl (lv_at hl 1 rfl) ?_
      refine lv_sipush (v := 289) hx hb dX8_takes_31 (by decide) ?_
      refine lv_icmp_ge (tgt := 55) hx hb dX8_takes_34 (by decide) (fun c_5 => ?_) (fun c_5 => ?_)
      · have hf := ite_t c_5 hf
        exact KX_30 m_now_2 (hq_30 _ (Option.some.inj hf).symm) H locs _ hP hD hS (lv_sub hl [0] rfl)
      · have hf := ite_f c_5 hf
        refine lv_aload_n hx hb dX8_takes_37 rfl (lv_at hl 0 rfl) ?_
        refine va_get (D := E.1) (ci := 8) (v := .ref m2) (C := RX8) (T := TX8) (N := 20) hx hb hts in_X8_takes_X8 hown hK hP 0 rfl rfl 5 (by decide) q_5 (fun _ h9 => h9) rfl dX8_takes_38 ?_
        refine lv_iload_n hx hb dX8_takes_41 rfl (lv_at hl 1 rfl) ?_
        refine lv_aload_n hx hb dX8_takes_42 rfl (lv_at hl 0 rfl) ?_
        refine va_get (D := E.1) (ci := 8) (v := .ref m3) (C := RX8) (T := TX8) (N := 20) hx hb hts in_X8_takes_X8 hown hK hP 0 rfl rfl 6 (by decide) q_6 (fun _ h9 => h9) rfl dX8_takes_43 ?_
        refine lv_iload_n hx hb dX8_takes_46 rfl (lv_at hl 1 rfl) ?_
        obtain ⟨g_3, hf⟩ := gk_s hf
        refine va_iald hx hb hK hP 3 0 rfl rfl g_3 dX8_takes_47 ?_
        obtain ⟨g_4, hf⟩ := gk_s hf
        refine va_iast hx hb hK hP hD hS 2 0 rfl rfl g_4 dX8_takes_48 (fun H locs hP hD hS => ?_)
        have hP : va_P E.1 vwCl (w_Mo E m0 m1 m2 m3 m4 m5 m6 m7 m8 m9 m10 m11 m_length m_readPlaces (m_readRule (0 : Int32).toNatClampNeg) (m_readRule (1 : Int32).toNatClampNeg) m_changes m_readPlaces m_value m_ends m_clusters m_text (upd m_now_2 v1_1.toNatClampNeg (m_read v1_1.toNatClampNeg)) m_read m_was m_readRule m_dist m_delays m_fractions m_head m_hour m_number) H := hP
        have hD : va_D A (w_Mo E m0 m1 m2 m3 m4 m5 m6 m7 m8 m9 m10 m11 m_length m_readPlaces (m_readRule (0 : Int32).toNatClampNeg) (m_readRule (1 : Int32).toNatClampNeg) m_changes m_readPlaces m_value m_ends m_clusters m_text (upd m_now_2 v1_1.toNatClampNeg (m_read v1_1.toNatClampNeg)) m_read m_was m_readRule m_dist m_delays m_fractions m_head m_hour m_number) := hD
        refine lv_iinc (v := (v1_1 + 1)) (lv' := [(1, .int (v1_1 + 1)), (0, .ref m0)]) hx hb dX8_takes_49 hl (k := 1) rfl rfl (by decide) rfl (fun ls hl => ?_)
        refine lv_goto (tgt := 30) hx hb dX8_takes_52 (by decide) ?_
        exact ih_30 (v1_1 + 1) (upd m_now_2 v1_1.toNatClampNeg (m_read v1_1.toNatClampNeg)) (hc_30 _ (Option.some.inj hf).symm) H locs _ hP hD hS (lv_sub hl [1, 0] rfl)
  exact KL_30 _ 0 m_now i_30 H locs _ hP hD hS (lv_sub hl [1, 0] rfl)
abbrev rm_Mo_letterAt : Room := { frames := 0, cells := 0, slots := 0, locals := 0 }
theorem hd_Mo_letterAt : hdOK yX8_letterAt 1 := by decide +kernel
theorem in_X8_letterAt_X8 : ∀ w ∈ wsX80, w ∈ wsX8_letterAt := by decide +kernel
set_option maxRecDepth 100000 in
set_option maxHeartbeats 4000000 in
theorem c_Mo_letterAt (l : Launch) (E : En4) (m0 m1 m2 m3 m4 m5 m6 m7 m8 m9 m10 m11 : Nat) (m_length : Int32) (m_places : Int32) (m_most : Int32) (m_tenths : Int32) (m_changes : Int32) (m_readPlaces : Int32) (m_value : Int32) (m_ends : Int32) (m_clusters : Int32) (m_text : Nat → Int32) (m_now : Nat → Int32) (m_read : Nat → Int32) (m_was : Nat → Int32) (m_readRule : Nat → Int32) (m_dist : Nat → Int32) (m_delays : Nat → Int32) (m_fractions : Nat → Int32) (m_head : Nat → Int32) (m_hour : Nat → Int32) (m_number : Nat → Int32) (a1 : Int32)  (res : Int32) (hf : Mo_letterAt m_length m_text a1 = some res) : Met l yX8_letterAt wsX8_letterAt rm_Mo_letterAt (pcR [.ref m0, .int a1] E (w_Mo E m0 m1 m2 m3 m4 m5 m6 m7 m8 m9 m10 m11 m_length m_places m_most m_tenths m_changes m_readPlaces m_value m_ends m_clusters m_text m_now m_read m_was m_readRule m_dist m_delays m_fractions m_head m_hour m_number)) (vp_Si (fun r => r = res)) 0 0 (fun _ => False) := by
  refine mk_Ri (cc := cX8_letterAt) (maxL := 2) (by decide) rfl (Nat.le_of_ble_eq_true rfl) ?_
  intro p e s m args below meth c Q S hKN hP hret ls hl
  obtain ⟨hx, hb, hml, hown, hts⟩ := S
  obtain ⟨hK, hN⟩ := hKN
  have hl : lv_has ls 2 [(0, .ref m0), (1, .int a1)] := hl
  have q_0 := hts (.fieldLink RX8 69 "DelayClustersModel" "length" "I") (by decide +kernel)
  have q_1 := hts (.fieldLink RX8 7 "DelayClustersModel" "text" "[I") (by decide +kernel)
  unfold Mo_letterAt at hf
  refine lv_iload_n hx hb dX8_letterAt_0 rfl (lv_at hl 1 rfl) ?_
  refine lv_aload_n hx hb dX8_letterAt_1 rfl (lv_at hl 0 rfl) ?_
  refine va_get (D := E.1) (ci := 8) (v := .int m_length) (C := RX8) (T := TX8) (N := 20) hx hb hts in_X8_letterAt_X8 hown hK hP 0 rfl rfl 0 (by decide) q_0 (fun _ h9 => h9) rfl dX8_letterAt_2 ?_
  refine lv_icmp_ge (tgt := 17) hx hb dX8_letterAt_5 (by decide) (fun c_2 => ?_) (fun c_2 => ?_)
  · have hf := ite_t c_2 hf
    refine lv_iconst (v := 0) hx hb dX8_letterAt_17 (by decide) ?_
    exact hret ls 18 0 dX8_letterAt_18 (Option.some.inj hf)
  · have hf := ite_f c_2 hf
    refine lv_aload_n hx hb dX8_letterAt_8 rfl (lv_at hl 0 rfl) ?_
    refine va_get (D := E.1) (ci := 8) (v := .ref m1) (C := RX8) (T := TX8) (N := 20) hx hb hts in_X8_letterAt_X8 hown hK hP 0 rfl rfl 1 (by decide) q_1 (fun _ h9 => h9) rfl dX8_letterAt_9 ?_
    refine lv_iload_n hx hb dX8_letterAt_12 rfl (lv_at hl 1 rfl) ?_
    obtain ⟨g_1, hf⟩ := gk_s hf
    refine va_iald hx hb hK hP 1 0 rfl rfl g_1 dX8_letterAt_13 ?_
    refine lv_goto (tgt := 18) hx hb dX8_letterAt_14 (by decide) ?_
    exact hret ls 18 (m_text a1.toNatClampNeg) dX8_letterAt_18 (Option.some.inj hf)
abbrev rm_Mo_number : Room := { frames := 1, cells := 0, slots := 0, locals := 22 }
theorem hd_Mo_number : hdOK yX8_number 3 := by decide +kernel
theorem in_X8_number_X8 : ∀ w ∈ wsX80, w ∈ wsX8_number := by decide +kernel
set_option maxRecDepth 100000 in
set_option maxHeartbeats 4000000 in
theorem c_Mo_number (l : Launch) (E : En4) (m0 m1 m2 m3 m4 m5 m6 m7 m8 m9 m10 m11 : Nat) (sz : Nat) (m_length : Int32) (m_places : Int32) (m_most : Int32) (m_tenths : Int32) (m_changes : Int32) (m_readPlaces : Int32) (m_value : Int32) (m_ends : Int32) (m_clusters : Int32) (m_text : Nat → Int32) (m_now : Nat → Int32) (m_read : Nat → Int32) (m_was : Nat → Int32) (m_readRule : Nat → Int32) (m_dist : Nat → Int32) (m_delays : Nat → Int32) (m_fractions : Nat → Int32) (m_head : Nat → Int32) (m_hour : Nat → Int32) (m_number : Nat → Int32) (a1 : Int32) (a2 : Int32) (a3 : Int32)  (res : Int32 × Int32 × Int32) (hf : Mo_number m_length m_value m_ends m_text a1 a2 a3 = some res) : Met l yX8_number wsX8_number rm_Mo_number (pcM [.ref m0, .int a1, .int a2, .int a3] E sz (w_Mo E m0 m1 m2 m3 m4 m5 m6 m7 m8 m9 m10 m11 m_length m_places m_most m_tenths m_changes m_readPlaces m_value m_ends m_clusters m_text m_now m_read m_was m_readRule m_dist m_delays m_fractions m_head m_hour m_number)) (QMi E sz (w_Mo E m0 m1 m2 m3 m4 m5 m6 m7 m8 m9 m10 m11 m_length m_places m_most m_tenths m_changes m_readPlaces m_value m_ends m_clusters m_text m_now m_read m_was m_readRule m_dist m_delays m_fractions m_head m_hour m_number) (fun (u : Int32 × Int32) => (w_Mo E m0 m1 m2 m3 m4 m5 m6 m7 m8 m9 m10 m11 m_length m_places m_most m_tenths m_changes m_readPlaces u.1 u.2 m_clusters m_text m_now m_read m_was m_readRule m_dist m_delays m_fractions m_head m_hour m_number)) res) 0 0 (va_A (w_Mo E m0 m1 m2 m3 m4 m5 m6 m7 m8 m9 m10 m11 m_length m_places m_most m_tenths m_changes m_readPlaces m_value m_ends m_clusters m_text m_now m_read m_was m_readRule m_dist m_delays m_fractions m_head m_hour m_number) sz) := by
  refine mk_Mz (cc := cX8_number) (maxL := 4) (by decide) rfl (Nat.le_of_ble_eq_true rfl) ?_
  intro p e s m args below meth c Q A S hKN hA hret H locs ls hP hD hS hl
  obtain ⟨hx, hb, hml, hown, hts⟩ := S
  obtain ⟨hK, hN⟩ := hKN
  have hl : lv_has ls 4 [(0, .ref m0), (1, .int a1), (2, .int a2), (3, .int a3)] := hl
  have q_0 := hts (.fieldLink RX8 72 "DelayClustersModel" "value" "I") (by decide +kernel)
  have q_1 := hts (.fieldLink RX8 75 "DelayClustersModel" "ends" "I") (by decide +kernel)
  have q_2 := hts (.fieldLink RX8 7 "DelayClustersModel" "text" "[I") (by decide +kernel)
  unfold Mo_number at hf
  refine lv_aload_n hx hb dX8_number_0 rfl (lv_at hl 0 rfl) ?_
  refine lv_iconst (v := 0) hx hb dX8_number_1 (by decide) ?_
  refine va_put (D := E.1) (ci := 8) (v := .int 0) (ty := .int) (C := RX8) (T := TX8) (N := 20) hx hb hts in_X8_number_X8 tyX8 tyX8_ok nmX8 hown hK hP hD hS 0 rfl rfl 11 (by decide) q_0 (fun _ h9 => h9) rfl (by decide +kernel) rfl rfl (Nat.le_of_ble_eq_true rfl) dX8_number_2 (fun H locs hP hD hS => ?_)
  have hP : va_P E.1 vwCl (w_Mo E m0 m1 m2 m3 m4 m5 m6 m7 m8 m9 m10 m11 m_length m_places m_most m_tenths m_changes m_readPlaces 0 m_ends m_clusters m_text m_now m_read m_was m_readRule m_dist m_delays m_fractions m_head m_hour m_number) H := hP
  have hD : va_D A (w_Mo E m0 m1 m2 m3 m4 m5 m6 m7 m8 m9 m10 m11 m_length m_places m_most m_tenths m_changes m_readPlaces 0 m_ends m_clusters m_text m_now m_read m_was m_readRule m_dist m_delays m_fractions m_head m_hour m_number) := hD
  refine lv_aload_n hx hb dX8_number_5 rfl (lv_at hl 0 rfl) ?_
  refine lv_iload_n hx hb dX8_number_6 rfl (lv_at hl 1 rfl) ?_
  refine va_put (D := E.1) (ci := 8) (v := .int a1) (ty := .int) (C := RX8) (T := TX8) (N := 20) hx hb hts in_X8_number_X8 tyX8 tyX8_ok nmX8 hown hK hP hD hS 0 rfl rfl 12 (by decide) q_1 (fun _ h9 => h9) rfl (by decide +kernel) rfl rfl (Nat.le_of_ble_eq_true rfl) dX8_number_7 (fun H locs hP hD hS => ?_)
  have hP : va_P E.1 vwCl (w_Mo E m0 m1 m2 m3 m4 m5 m6 m7 m8 m9 m10 m11 m_length m_places m_most m_tenths m_changes m_readPlaces 0 a1 m_clusters m_text m_now m_read m_was m_readRule m_dist m_delays m_fractions m_head m_hour m_number) H := hP
  have hD : va_D A (w_Mo E m0 m1 m2 m3 m4 m5 m6 m7 m8 m9 m10 m11 m_length m_places m_most m_tenths m_changes m_readPlaces 0 a1 m_clusters m_text m_now m_read m_was m_readRule m_dist m_delays m_fractions m_head m_hour m_number) := hD
  obtain ⟨w_10, i_10, hf⟩ := bd_s hf
  have KX_10 : ∀ (m_value_11 : Int32) (m_ends_12 : Int32), (m_value_11, m_ends_12) = w_10 → ∀ (H : Heap) (locs : List Loc) (ls : Array Slot), va_P E.1 vwCl (w_Mo E m0 m1 m2 m3 m4 m5 m6 m7 m8 m9 m10 m11 m_length m_places m_most m_tenths m_changes m_readPlaces m_value_11 m_ends_12 m_clusters m_text m_now m_read m_was m_readRule m_dist m_delays m_fractions m_head m_hour m_number) H → va_D A (w_Mo E m0 m1 m2 m3 m4 m5 m6 m7 m8 m9 m10 m11 m_length m_places m_most m_tenths m_changes m_readPlaces m_value_11 m_ends_12 m_clusters m_text m_now m_read m_was m_readRule m_dist m_delays m_fractions m_head m_hour m_number) → va_S A s.heap H locs → lv_has ls 4 [(0, .ref m0), (1, .int a1), (2, .int a2), (3, .int a3)] → W p l e rm_Mo_number s m args below meth c H locs 0 0 Q (F0 m 83 ls []) := by
    intro m_value_11 m_ends_12 e_
    subst e_
    try dsimp only at hf
    intro H locs ls hP hD hS hl
    refine lv_aload_n hx hb dX8_number_83 rfl (lv_at hl 0 rfl) ?_
    refine va_get (D := E.1) (ci := 8) (v := .int m_ends_12) (C := RX8) (T := TX8) (N := 20) hx hb hts in_X8_number_X8 hown hK hP 0 rfl rfl 12 (by decide) q_1 (fun _ h9 => h9) rfl dX8_number_84 ?_
    refine lv_iload_n hx hb dX8_number_87 rfl (lv_at hl 1 rfl) ?_
    refine lv_icmp_le (tgt := 107) hx hb dX8_number_88 (by decide) (fun c_16 => ?_) (fun c_16 => ?_)
    · have hf := ite_t c_16 hf
      refine lv_iconst (v := 0) hx hb dX8_number_107 (by decide) ?_
      exact hret H locs ls 108 0 (m_value_11, m_ends_12) dX8_number_108 (by decide) (Option.some.inj hf) hP hD hS
    · have hf := ite_f c_16 hf
      refine lv_aload_n hx hb dX8_number_91 rfl (lv_at hl 0 rfl) ?_
      refine va_get (D := E.1) (ci := 8) (v := .int m_value_11) (C := RX8) (T := TX8) (N := 20) hx hb hts in_X8_number_X8 hown hK hP 0 rfl rfl 11 (by decide) q_0 (fun _ h9 => h9) rfl dX8_number_92 ?_
      refine lv_iload_n hx hb dX8_number_95 rfl (lv_at hl 2 rfl) ?_
      refine lv_iload_n hx hb dX8_number_96 rfl (lv_at hl 3 rfl) ?_
      obtain ⟨r_14, h_13, hf⟩ := bd_s hf
      refine ca_S (As := [.int m_value_11, .int a2, .int a3]) (rest := []) ⟨hx, hb, hml, hown, hts⟩ ⟨hK, hN⟩ hP (c_Mo_isIn l E   m_value_11 a2 a3 r_14 h_13) [] rfl gX8_number_X8_isIn rfl rfl rfl hd_Mo_isIn ⟨(Nat.le_of_ble_eq_true rfl), (Nat.le_of_ble_eq_true rfl)⟩ rfl hl.1 rfl (Nat.le_of_ble_eq_true rfl) dX8_number_97 ⟨(Nat.zero_le _), (Nat.zero_le _)⟩ ?_
      refine lv_if_eq (tgt := 107) hx hb dX8_number_100 (by decide) (fun c_15 => ?_) (fun c_15 => ?_)
      · have hf := ite_t c_15 hf
        refine lv_iconst (v := 0) hx hb dX8_number_107 (by decide) ?_
        exact hret H locs ls 108 0 (m_value_11, m_ends_12) dX8_number_108 (by decide) (Option.some.inj hf) hP hD hS
      · have hf := ite_f c_15 hf
        refine lv_iconst (v := 1) hx hb dX8_number_103 (by decide) ?_
        refine lv_goto (tgt := 108) hx hb dX8_number_104 (by decide) ?_
        exact hret H locs ls 108 1 (m_value_11, m_ends_12) dX8_number_108 (by decide) (Option.some.inj hf) hP hD hS
  have KL_10 : ∀ (n_ : Nat) (m_value_1 : Int32) (m_ends_2 : Int32), it (Mo_number_L10 m_length m_text a1) n_ (m_value_1, m_ends_2) = some w_10 → ∀ (H : Heap) (locs : List Loc) (ls : Array Slot), va_P E.1 vwCl (w_Mo E m0 m1 m2 m3 m4 m5 m6 m7 m8 m9 m10 m11 m_length m_places m_most m_tenths m_changes m_readPlaces m_value_1 m_ends_2 m_clusters m_text m_now m_read m_was m_readRule m_dist m_delays m_fractions m_head m_hour m_number) H → va_D A (w_Mo E m0 m1 m2 m3 m4 m5 m6 m7 m8 m9 m10 m11 m_length m_places m_most m_tenths m_changes m_readPlaces m_value_1 m_ends_2 m_clusters m_text m_now m_read m_was m_readRule m_dist m_delays m_fractions m_head m_hour m_number) → va_S A s.heap H locs → lv_has ls 4 [(0, .ref m0), (1, .int a1), (2, .int a2), (3, .int a3)] → W p l e rm_Mo_number s m args below meth c H locs 0 0 Q (F0 m 10 ls []) := by
    intro n_
    induction n_ with
    | zero => intro m_value_1 m_ends_2 hit; exact (it_z hit).elim
    | succ n_10 ih_10 =>
      intro m_value_1 m_ends_2 hit
      intro H locs ls hP hD hS hl
      obtain ⟨x_10, hf, hc_10, hq_10⟩ := it_s hit
      dsimp only [Mo_number_L10] at hf
      refine lv_aload_n hx hb dX8_number_10 rfl (lv_at hl 0 rfl) ?_
      refine va_get (D := E.1) (ci := 8) (v := .int m_ends_2) (C := RX8) (T := TX8) (N := 20) hx hb hts in_X8_number_X8 hown hK hP 0 rfl rfl 12 (by decide) q_1 (fun _ h9 => h9) rfl dX8_number_11 ?_
      refine lv_iload_n hx hb dX8_number_14 rfl (lv_at hl 1 rfl) ?_
      refine lv_iconst (v := 4) hx hb dX8_number_15 (by decide) ?_
      refine lv_iadd hx hb dX8_number_16 ?_
      refine lv_icmp_ge (tgt := 83) hx hb dX8_number_17 (by decide) (fun c_10 => ?_) (fun c_10 => ?_)
      · have hf := ite_t c_10 hf
        exact KX_10 m_value_1 m_ends_2 (hq_10 _ (Option.some.inj hf).symm) H locs _ hP hD hS (lv_sub hl [0, 1, 2, 3] rfl)
      · have hf := ite_f c_10 hf
        refine lv_aload_n hx hb dX8_number_20 rfl (lv_at hl 0 rfl) ?_
        refine lv_aload_n hx hb dX8_number_21 rfl (lv_at hl 0 rfl) ?_
        refine va_get (D := E.1) (ci := 8) (v := .int m_ends_2) (C := RX8) (T := TX8) (N := 20) hx hb hts in_X8_number_X8 hown hK hP 0 rfl rfl 12 (by decide) q_1 (fun _ h9 => h9) rfl dX8_number_22 ?_
        obtain ⟨r_4, h_3, hf⟩ := bd_s hf
        refine ca_V (As := [.int m_ends_2]) (rest := []) ⟨hx, hb, hml, hown, hts⟩ ⟨hK, hN⟩ hP (c_Mo_letterAt l E m0 m1 m2 m3 m4 m5 m6 m7 m8 m9 m10 m11 m_length m_places m_most m_tenths m_changes m_readPlaces m_value_1 m_ends_2 m_clusters m_text m_now m_read m_was m_readRule m_dist m_delays m_fractions m_head m_hour m_number m_ends_2 r_4 h_3) [0, 1, 2, 3, 4, 5, 6, 7, 8, 9, 10, 11] rfl 8 0 rfl rfl rfl gX8_number_X8_letterAt rfl rfl rfl rfl hd_Mo_letterAt ⟨(Nat.le_of_ble_eq_true rfl), (Nat.le_of_ble_eq_true rfl)⟩ rfl hl.1 rfl (Nat.le_of_ble_eq_true rfl) dX8_number_25 ⟨(Nat.zero_le _), (Nat.zero_le _)⟩ ?_
        refine lv_bipush (v := 48) hx hb dX8_number_28 (by decide) ?_
        refine lv_icmp_lt (tgt := 83) hx hb dX8_number_30 (by decide) (fun c_9 => ?_) (fun c_9 => ?_)
        · have hf := ite_t c_9 hf
          exact KX_10 m_value_1 m_ends_2 (hq_10 _ (Option.some.inj hf).symm) H locs _ hP hD hS (lv_sub hl [0, 1, 2, 3] rfl)
        · have hf := ite_f c_9 hf
          refine lv_aload_n hx hb dX8_number_33 rfl (lv_at hl 0 rfl) ?_
          refine lv_aload_n hx hb dX8_number_34 rfl (lv_at hl 0 rfl) ?_
          refine va_get (D := E.1) (ci := 8) (v := .int m_ends_2) (C := RX8) (T := TX8) (N := 20) hx hb hts in_X8_number_X8 hown hK hP 0 rfl rfl 12 (by decide) q_1 (fun _ h9 => h9) rfl dX8_number_35 ?_
          obtain ⟨r_6, h_5, hf⟩ := bd_s hf
          refine ca_V (As := [.int m_ends_2]) (rest := []) ⟨hx, hb, hml, hown, hts⟩ ⟨hK, hN⟩ hP (c_Mo_letterAt l E m0 m1 m2 m3 m4 m5 m6 m7 m8 m9 m10 m11 m_length m_places m_most m_tenths m_changes m_readPlaces m_value_1 m_ends_2 m_clusters m_text m_now m_read m_was m_readRule m_dist m_delays m_fractions m_head m_hour m_number m_ends_2 r_6 h_5) [0, 1, 2, 3, 4, 5, 6, 7, 8, 9, 10, 11] rfl 8 0 rfl rfl rfl gX8_number_X8_letterAt rfl rfl rfl rfl hd_Mo_letterAt ⟨(Nat.le_of_ble_eq_true rfl), (Nat.le_of_ble_eq_true rfl)⟩ rfl hl.1 rfl (Nat.le_of_ble_eq_true rfl) dX8_number_38 ⟨(Nat.zero_le _), (Nat.zero_le _)⟩ ?_
          refine lv_bipush (v := 57) hx hb dX8_number_41 (by decide) ?_
          refine lv_icmp_gt (tgt := 83) hx hb dX8_number_43 (by decide) (fun c_8 => ?_) (fun c_8 => ?_)
          · have hf := ite_t c_8 hf
            exact KX_10 m_value_1 m_ends_2 (hq_10 _ (Option.some.inj hf).symm) H locs _ hP hD hS (lv_sub hl [0, 1, 2, 3] rfl)
          · have hf := ite_f c_8 hf
            refine lv_aload_n hx hb dX8_number_46 rfl (lv_at hl 0 rfl) ?_
            refine lv_bipush (v := 10) hx hb dX8_number_47 (by decide) ?_
            refine lv_aload_n hx hb dX8_number_49 rfl (lv_at hl 0 rfl) ?_
            refine va_get (D := E.1) (ci := 8) (v := .int m_value_1) (C := RX8) (T := TX8) (N := 20) hx hb hts in_X8_number_X8 hown hK hP 0 rfl rfl 11 (by decide) q_0 (fun _ h9 => h9) rfl dX8_number_50 ?_
            refine lv_imul hx hb dX8_number_53 ?_
            refine lv_aload_n hx hb dX8_number_54 rfl (lv_at hl 0 rfl) ?_
            refine va_get (D := E.1) (ci := 8) (v := .ref m1) (C := RX8) (T := TX8) (N := 20) hx hb hts in_X8_number_X8 hown hK hP 0 rfl rfl 1 (by decide) q_2 (fun _ h9 => h9) rfl dX8_number_55 ?_
            refine lv_aload_n hx hb dX8_number_58 rfl (lv_at hl 0 rfl) ?_
            refine va_get (D := E.1) (ci := 8) (v := .int m_ends_2) (C := RX8) (T := TX8) (N := 20) hx hb hts in_X8_number_X8 hown hK hP 0 rfl rfl 12 (by decide) q_1 (fun _ h9 => h9) rfl dX8_number_59 ?_
            obtain ⟨g_7, hf⟩ := gk_s hf
            refine va_iald hx hb hK hP 1 0 rfl rfl g_7 dX8_number_62 ?_
            refine lv_iadd hx hb dX8_number_63 ?_
            refine lv_bipush (v := 48) hx hb dX8_number_64 (by decide) ?_
            refine lv_isub hx hb dX8_number_66 ?_
            refine va_put (D := E.1) (ci := 8) (v := .int (((10 * m_value_1) + (m_text m_ends_2.toNatClampNeg)) - 48)) (ty := .int) (C := RX8) (T := TX8) (N := 20) hx hb hts in_X8_number_X8 tyX8 tyX8_ok nmX8 hown hK hP hD hS 0 rfl rfl 11 (by decide) q_0 (fun _ h9 => h9) rfl (by decide +kernel) rfl rfl (Nat.le_of_ble_eq_true rfl) dX8_number_67 (fun H locs hP hD hS => ?_)
            have hP : va_P E.1 vwCl (w_Mo E m0 m1 m2 m3 m4 m5 m6 m7 m8 m9 m10 m11 m_length m_places m_most m_tenths m_changes m_readPlaces (((10 * m_value_1) + (m_text m_ends_2.toNatClampNeg)) - 48) m_ends_2 m_clusters m_text m_now m_read m_was m_readRule m_dist m_delays m_fractions m_head m_hour m_number) H := hP
            have hD : va_D A (w_Mo E m0 m1 m2 m3 m4 m5 m6 m7 m8 m9 m10 m11 m_length m_places m_most m_tenths m_changes m_readPlaces (((10 * m_value_1) + (m_text m_ends_2.toNatClampNeg)) - 48) m_ends_2 m_clusters m_text m_now m_read m_was m_readRule m_dist m_delays m_fractions m_head m_hour m_number) := hD
            refine lv_aload_n hx hb dX8_number_70 rfl (lv_at hl 0 rfl) ?_
            refine lv_dup hx hb dX8_number_71 rfl ?_
            refine va_get (D := E.1) (ci := 8) (v := .int m_ends_2) (C := RX8) (T := TX8) (N := 20) hx hb hts in_X8_number_X8 hown hK hP 0 rfl rfl 12 (by decide) q_1 (fun _ h9 => h9) rfl dX8_number_72 ?_
            refine lv_iconst (v := 1) hx hb dX8_number_75 (by decide) ?_
            refine lv_iadd hx hb dX8_number_76 ?_
            refine va_put (D := E.1) (ci := 8) (v := .int (m_ends_2 + 1)) (ty := .int) (C := RX8) (T := TX8) (N := 20) hx hb hts in_X8_number_X8 tyX8 tyX8_ok nmX8 hown hK hP hD hS 0 rfl rfl 12 (by decide) q_1 (fun _ h9 => h9) rfl (by decide +kernel) rfl rfl (Nat.le_of_ble_eq_true rfl) dX8_number_77 (fun H locs hP hD hS => ?_)
            have hP : va_P E.1 vwCl (w_Mo E m0 m1 m2 m3 m4 m5 m6 m7 m8 m9 m10 m11 m_length m_places m_most m_tenths m_changes m_readPlaces (((10 * m_value_1) + (m_text m_ends_2.toNatClampNeg)) - 48) (m_ends_2 + 1) m_clusters m_text m_now m_read m_was m_readRule m_dist m_delays m_fractions m_head m_hour m_number) H := hP
            have hD : va_D A (w_Mo E m0 m1 m2 m3 m4 m5 m6 m7 m8 m9 m10 m11 m_length m_places m_most m_tenths m_changes m_readPlaces (((10 * m_value_1) + (m_text m_ends_2.toNatClampNeg)) - 48) (m_ends_2 + 1) m_clusters m_text m_now m_read m_was m_readRule m_dist m_delays m_fractions m_head m_hour m_number) := hD
            refine lv_goto (tgt := 10) hx hb dX8_number_80 (by decide) ?_
            exact ih_10 (((10 * m_value_1) + (m_text m_ends_2.toNatClampNeg)) - 48) (m_ends_2 + 1) (hc_10 _ (Option.some.inj hf).symm) H locs _ hP hD hS (lv_sub hl [0, 1, 2, 3] rfl)
  exact KL_10 _ 0 a1 i_10 H locs _ hP hD hS (lv_sub hl [0, 1, 2, 3] rfl)
abbrev rm_Mo_more : Room := { frames := 2, cells := 0, slots := 0, locals := 45 }
theorem hd_Mo_more : hdOK yX8_more 2 := by decide +kernel
theorem in_X8_more_X8 : ∀ w ∈ wsX80, w ∈ wsX8_more := by decide +kernel
set_option maxRecDepth 100000 in
set_option maxHeartbeats 4000000 in
theorem c_Mo_more (l : Launch) (E : En4) (m0 m1 m2 m3 m4 m5 m6 m7 m8 m9 m10 m11 : Nat) (sz : Nat) (m_length : Int32) (m_places : Int32) (m_most : Int32) (m_tenths : Int32) (m_changes : Int32) (m_readPlaces : Int32) (m_value : Int32) (m_ends : Int32) (m_clusters : Int32) (m_text : Nat → Int32) (m_now : Nat → Int32) (m_read : Nat → Int32) (m_was : Nat → Int32) (m_readRule : Nat → Int32) (m_dist : Nat → Int32) (m_delays : Nat → Int32) (m_fractions : Nat → Int32) (m_head : Nat → Int32) (m_hour : Nat → Int32) (m_number : Nat → Int32) (a1 : Int32) (a2 : Int32)  (res : Int32 × Int32 × Int32) (hf : Mo_more m_length m_value m_ends m_text a1 a2 = some res) : Met l yX8_more wsX8_more rm_Mo_more (pcM [.ref m0, .int a1, .int a2] E sz (w_Mo E m0 m1 m2 m3 m4 m5 m6 m7 m8 m9 m10 m11 m_length m_places m_most m_tenths m_changes m_readPlaces m_value m_ends m_clusters m_text m_now m_read m_was m_readRule m_dist m_delays m_fractions m_head m_hour m_number)) (QMi E sz (w_Mo E m0 m1 m2 m3 m4 m5 m6 m7 m8 m9 m10 m11 m_length m_places m_most m_tenths m_changes m_readPlaces m_value m_ends m_clusters m_text m_now m_read m_was m_readRule m_dist m_delays m_fractions m_head m_hour m_number) (fun (u : Int32 × Int32) => (w_Mo E m0 m1 m2 m3 m4 m5 m6 m7 m8 m9 m10 m11 m_length m_places m_most m_tenths m_changes m_readPlaces u.1 u.2 m_clusters m_text m_now m_read m_was m_readRule m_dist m_delays m_fractions m_head m_hour m_number)) res) 0 0 (va_A (w_Mo E m0 m1 m2 m3 m4 m5 m6 m7 m8 m9 m10 m11 m_length m_places m_most m_tenths m_changes m_readPlaces m_value m_ends m_clusters m_text m_now m_read m_was m_readRule m_dist m_delays m_fractions m_head m_hour m_number) sz) := by
  refine mk_Mz (cc := cX8_more) (maxL := 3) (by decide) rfl (Nat.le_of_ble_eq_true rfl) ?_
  intro p e s m args below meth c Q A S hKN hA hret H locs ls hP hD hS hl
  obtain ⟨hx, hb, hml, hown, hts⟩ := S
  obtain ⟨hK, hN⟩ := hKN
  have hl : lv_has ls 3 [(0, .ref m0), (1, .int a1), (2, .int a2)] := hl
  have q_0 := hts (.fieldLink RX8 75 "DelayClustersModel" "ends" "I") (by decide +kernel)
  unfold Mo_more at hf
  refine lv_aload_n hx hb dX8_more_0 rfl (lv_at hl 0 rfl) ?_
  refine lv_aload_n hx hb dX8_more_1 rfl (lv_at hl 0 rfl) ?_
  refine va_get (D := E.1) (ci := 8) (v := .int m_ends) (C := RX8) (T := TX8) (N := 20) hx hb hts in_X8_more_X8 hown hK hP 0 rfl rfl 12 (by decide) q_0 (fun _ h9 => h9) rfl dX8_more_2 ?_
  obtain ⟨r_2, h_1, hf⟩ := bd_s hf
  refine ca_V (As := [.int m_ends]) (rest := []) ⟨hx, hb, hml, hown, hts⟩ ⟨hK, hN⟩ hP (c_Mo_letterAt l E m0 m1 m2 m3 m4 m5 m6 m7 m8 m9 m10 m11 m_length m_places m_most m_tenths m_changes m_readPlaces m_value m_ends m_clusters m_text m_now m_read m_was m_readRule m_dist m_delays m_fractions m_head m_hour m_number m_ends r_2 h_1) [0, 1, 2, 3, 4, 5, 6, 7, 8, 9, 10, 11] rfl 8 0 rfl rfl rfl gX8_more_X8_letterAt rfl rfl rfl rfl hd_Mo_letterAt ⟨(Nat.le_of_ble_eq_true rfl), (Nat.le_of_ble_eq_true rfl)⟩ rfl hl.1 rfl (Nat.le_of_ble_eq_true rfl) dX8_more_5 ⟨(Nat.zero_le _), (Nat.zero_le _)⟩ ?_
  refine lv_bipush (v := 44) hx hb dX8_more_8 (by decide) ?_
  refine lv_icmp_ne (tgt := 32) hx hb dX8_more_10 (by decide) (fun c_8 => ?_) (fun c_8 => ?_)
  · have hf := ite_f c_8 hf
    refine lv_iconst (v := 0) hx hb dX8_more_32 (by decide) ?_
    exact hret H locs ls 33 0 (m_value, m_ends) dX8_more_33 (by decide) (Option.some.inj hf) hP hD hS
  · have hf := ite_t c_8 hf
    refine lv_aload_n hx hb dX8_more_13 rfl (lv_at hl 0 rfl) ?_
    refine lv_aload_n hx hb dX8_more_14 rfl (lv_at hl 0 rfl) ?_
    refine va_get (D := E.1) (ci := 8) (v := .int m_ends) (C := RX8) (T := TX8) (N := 20) hx hb hts in_X8_more_X8 hown hK hP 0 rfl rfl 12 (by decide) q_0 (fun _ h9 => h9) rfl dX8_more_15 ?_
    refine lv_iconst (v := 1) hx hb dX8_more_18 (by decide) ?_
    refine lv_iadd hx hb dX8_more_19 ?_
    refine lv_iload_n hx hb dX8_more_20 rfl (lv_at hl 1 rfl) ?_
    refine lv_iload_n hx hb dX8_more_21 rfl (lv_at hl 2 rfl) ?_
    obtain ⟨⟨r_4, m_value_5, m_ends_6⟩, h_3, hf⟩ := bd_s hf
    try dsimp only at hf
    refine ca_Mi (w2 := (w_Mo E m0 m1 m2 m3 m4 m5 m6 m7 m8 m9 m10 m11 m_length m_places m_most m_tenths m_changes m_readPlaces m_value_5 m_ends_6 m_clusters m_text m_now m_read m_was m_readRule m_dist m_delays m_fractions m_head m_hour m_number)) (As := [.int (m_ends + 1), .int a1, .int a2]) (rest := []) ⟨hx, hb, hml, hown, hts⟩ ⟨hK, hN⟩ hP hD hS hA (c_Mo_number l E m0 m1 m2 m3 m4 m5 m6 m7 m8 m9 m10 m11 H.size m_length m_places m_most m_tenths m_changes m_readPlaces m_value m_ends m_clusters m_text m_now m_read m_was m_readRule m_dist m_delays m_fractions m_head m_hour m_number (m_ends + 1) a1 a2 (r_4, m_value_5, m_ends_6) h_3) [0, 1, 2, 3, 4, 5, 6, 7, 8, 9, 10, 11] [] [0, 1, 2, 3, 4, 5, 6, 7, 8, 9, 10, 11] rfl rfl rfl rfl (by decide) rfl rfl 8 0 rfl rfl rfl gX8_more_X8_number rfl rfl rfl rfl hd_Mo_number ⟨(Nat.le_of_ble_eq_true rfl), (Nat.le_of_ble_eq_true rfl)⟩ rfl hl.1 rfl (Nat.le_of_ble_eq_true rfl) dX8_more_22 ⟨(Nat.zero_le _), (Nat.zero_le _)⟩ (fun H locs hP hD hS => ?_)
    refine lv_if_eq (tgt := 32) hx hb dX8_more_25 (by decide) (fun c_7 => ?_) (fun c_7 => ?_)
    · have hf := ite_t c_7 hf
      refine lv_iconst (v := 0) hx hb dX8_more_32 (by decide) ?_
      exact hret H locs ls 33 0 (m_value_5, m_ends_6) dX8_more_33 (by decide) (Option.some.inj hf) hP hD hS
    · have hf := ite_f c_7 hf
      refine lv_iconst (v := 1) hx hb dX8_more_28 (by decide) ?_
      refine lv_goto (tgt := 33) hx hb dX8_more_29 (by decide) ?_
      exact hret H locs ls 33 1 (m_value_5, m_ends_6) dX8_more_33 (by decide) (Option.some.inj hf) hP hD hS
abbrev rm_Mo_linksOf : Room := { frames := 0, cells := 0, slots := 0, locals := 0 }
theorem hd_Mo_linksOf : hdOK yX8_linksOf 1 := by decide +kernel
set_option maxRecDepth 100000 in
set_option maxHeartbeats 4000000 in
theorem c_Mo_linksOf (l : Launch) (E : En4) (row0 : Nat) (row_f : Nat → Int32)  (res : Int32) (hf : Mo_linksOf row_f = some res) : Met l yX8_linksOf wsX8_linksOf rm_Mo_linksOf (pcR [.ref row0] E (w_Ro E row0 row_f)) (vp_Si (fun r => r = res)) 0 0 (fun _ => False) := by
  refine mk_Ri (cc := cX8_linksOf) (maxL := 4) (by decide) rfl (Nat.le_of_ble_eq_true rfl) ?_
  intro p e s m args below meth c Q S hKN hP hret ls hl
  obtain ⟨hx, hb, hml, hown, hts⟩ := S
  obtain ⟨hK, hN⟩ := hKN
  have hl : lv_has ls 4 [(0, .ref row0)] := hl
  unfold Mo_linksOf at hf
  refine lv_iconst (v := 0) hx hb dX8_linksOf_0 (by decide) ?_
  refine lv_istore_n (lv' := [(1, .int 0), (0, .ref row0)]) hx hb dX8_linksOf_1 rfl hl (by decide) rfl (fun ls hl => ?_)
  refine lv_iconst (v := 0) hx hb dX8_linksOf_2 (by decide) ?_
  refine lv_istore_n (lv' := [(2, .int 0), (1, .int 0), (0, .ref row0)]) hx hb dX8_linksOf_3 rfl hl (by decide) rfl (fun ls hl => ?_)
  obtain ⟨w_4, i_4, hf⟩ := bd_s hf
  have KX_4 : ∀ (v1_10 : Int32), v1_10 = w_4 → ∀ (ls : Array Slot), lv_has ls 4 [(1, .int v1_10)] → W p l e rm_Mo_linksOf s m args below meth c s.heap [] 0 0 Q (F0 m 48 ls []) := by
    intro v1_10 e_
    subst e_
    try dsimp only at hf
    intro ls hl
    refine lv_iload_n hx hb dX8_linksOf_48 rfl (lv_at hl 0 rfl) ?_
    exact hret ls 49 v1_10 dX8_linksOf_49 (Option.some.inj hf)
  have KL_4 : ∀ (n_ : Nat) (v1_1 : Int32) (v2_2 : Int32), it (Mo_linksOf_L4 row_f) n_ (v1_1, v2_2) = some w_4 → ∀ (ls : Array Slot), lv_has ls 4 [(0, .ref row0), (1, .int v1_1), (2, .int v2_2)] → W p l e rm_Mo_linksOf s m args below meth c s.heap [] 0 0 Q (F0 m 4 ls []) := by
    intro n_
    induction n_ with
    | zero => intro v1_1 v2_2 hit; exact (it_z hit).elim
    | succ n_4 ih_4 =>
      intro v1_1 v2_2 hit
      intro ls hl
      obtain ⟨x_4, hf, hc_4, hq_4⟩ := it_s hit
      dsimp only [Mo_linksOf_L4] at hf
      refine lv_iload_n hx hb dX8_linksOf_4 rfl (lv_at hl 2 rfl) ?_
      refine lv_bipush (v := 16) hx hb dX8_linksOf_5 (by decide) ?_
      refine lv_icmp_ge (tgt := 48) hx hb dX8_linksOf_7 (by decide) (fun c_9 => ?_) (fun c_9 => ?_)
      · have hf := ite_t c_9 hf
        exact KX_4 v1_1 (hq_4 _ (Option.some.inj hf).symm) _ (lv_sub hl [1] rfl)
      · have hf := ite_f c_9 hf
        refine lv_iconst (v := 0) hx hb dX8_linksOf_10 (by decide) ?_
        refine lv_istore_n (lv' := [(3, .int 0), (0, .ref row0), (1, .int v1_1), (2, .int v2_2)]) hx hb dX8_linksOf_11 rfl hl (by decide) rfl (fun ls hl => ?_)
        obtain ⟨w_12, i_12, hf⟩ := bd_s hf
        have KX_12 : ∀ (v1_8 : Int32), v1_8 = w_12 → ∀ (ls : Array Slot), lv_has ls 4 [(0, .ref row0), (1, .int v1_8), (2, .int v2_2)] → W p l e rm_Mo_linksOf s m args below meth c s.heap [] 0 0 Q (F0 m 42 ls []) := by
          intro v1_8 e_
          subst e_
          try dsimp only at hf
          intro ls hl
          refine lv_iinc (v := (v2_2 + 1)) (lv' := [(2, .int (v2_2 + 1)), (0, .ref row0), (1, .int v1_8)]) hx hb dX8_linksOf_42 hl (k := 2) rfl rfl (by decide) rfl (fun ls hl => ?_)
          refine lv_goto (tgt := 4) hx hb dX8_linksOf_45 (by decide) ?_
          exact ih_4 v1_8 (v2_2 + 1) (hc_4 _ (Option.some.inj hf).symm) _ (lv_sub hl [1, 2, 0] rfl)
        have KL_12 : ∀ (n_ : Nat) (v1_3 : Int32) (v3_4 : Int32), it (Mo_linksOf_L12 row_f v2_2) n_ (v1_3, v3_4) = some w_12 → ∀ (ls : Array Slot), lv_has ls 4 [(0, .ref row0), (1, .int v1_3), (2, .int v2_2), (3, .int v3_4)] → W p l e rm_Mo_linksOf s m args below meth c s.heap [] 0 0 Q (F0 m 12 ls []) := by
          intro n_
          induction n_ with
          | zero => intro v1_3 v3_4 hit; exact (it_z hit).elim
          | succ n_12 ih_12 =>
            intro v1_3 v3_4 hit
            intro ls hl
            obtain ⟨x_12, hf, hc_12, hq_12⟩ := it_s hit
            dsimp only [Mo_linksOf_L12] at hf
            refine lv_iload_n hx hb dX8_linksOf_12 rfl (lv_at hl 3 rfl) ?_
            refine lv_iload_n hx hb dX8_linksOf_13 rfl (lv_at hl 2 rfl) ?_
            refine lv_icmp_ge (tgt := 42) hx hb dX8_linksOf_14 (by decide) (fun c_7 => ?_) (fun c_7 => ?_)
            · have hf := ite_t c_7 hf
              exact KX_12 v1_3 (hq_12 _ (Option.some.inj hf).symm) _ (lv_sub hl [0, 1, 2] rfl)
            · have hf := ite_f c_7 hf
              refine lv_iload_n hx hb dX8_linksOf_17 rfl (lv_at hl 1 rfl) ?_
              refine lv_aload_n hx hb dX8_linksOf_18 rfl (lv_at hl 0 rfl) ?_
              refine lv_bipush (v := 16) hx hb dX8_linksOf_19 (by decide) ?_
              refine lv_iload_n hx hb dX8_linksOf_21 rfl (lv_at hl 2 rfl) ?_
              refine lv_imul hx hb dX8_linksOf_22 ?_
              refine lv_iload_n hx hb dX8_linksOf_23 rfl (lv_at hl 3 rfl) ?_
              refine lv_iadd hx hb dX8_linksOf_24 ?_
              obtain ⟨g_5, hf⟩ := gk_s hf
              refine va_iald hx hb hK hP 0 0 rfl rfl g_5 dX8_linksOf_25 ?_
              refine lv_if_le (tgt := 33) hx hb dX8_linksOf_26 (by decide) (fun c_6 => ?_) (fun c_6 => ?_)
              · have hf := ite_t c_6 hf
                refine lv_iconst (v := 0) hx hb dX8_linksOf_33 (by decide) ?_
                refine lv_iadd hx hb dX8_linksOf_34 ?_
                refine lv_istore_n (lv' := [(1, .int (v1_3 + 0)), (0, .ref row0), (2, .int v2_2), (3, .int v3_4)]) hx hb dX8_linksOf_35 rfl hl (by decide) rfl (fun ls hl => ?_)
                refine lv_iinc (v := (v3_4 + 1)) (lv' := [(3, .int (v3_4 + 1)), (1, .int (v1_3 + 0)), (0, .ref row0), (2, .int v2_2)]) hx hb dX8_linksOf_36 hl (k := 3) rfl rfl (by decide) rfl (fun ls hl => ?_)
                refine lv_goto (tgt := 12) hx hb dX8_linksOf_39 (by decide) ?_
                exact ih_12 (v1_3 + 0) (v3_4 + 1) (hc_12 _ (Option.some.inj hf).symm) _ (lv_sub hl [2, 1, 3, 0] rfl)
              · have hf := ite_f c_6 hf
                refine lv_iconst (v := 1) hx hb dX8_linksOf_29 (by decide) ?_
                refine lv_goto (tgt := 34) hx hb dX8_linksOf_30 (by decide) ?_
                refine lv_iadd hx hb dX8_linksOf_34 ?_
                refine lv_istore_n (lv' := [(1, .int (v1_3 + 1)), (0, .ref row0), (2, .int v2_2), (3, .int v3_4)]) hx hb dX8_linksOf_35 rfl hl (by decide) rfl (fun ls hl => ?_)
                refine lv_iinc (v := (v3_4 + 1)) (lv' := [(3, .int (v3_4 + 1)), (1, .int (v1_3 + 1)), (0, .ref row0), (2, .int v2_2)]) hx hb dX8_linksOf_36 hl (k := 3) rfl rfl (by decide) rfl (fun ls hl => ?_)
                refine lv_goto (tgt := 12) hx hb dX8_linksOf_39 (by decide) ?_
                exact ih_12 (v1_3 + 1) (v3_4 + 1) (hc_12 _ (Option.some.inj hf).symm) _ (lv_sub hl [2, 1, 3, 0] rfl)
        exact KL_12 _ v1_1 0 i_12 _ (lv_sub hl [1, 2, 3, 0] rfl)
  exact KL_4 _ 0 0 i_4 _ (lv_sub hl [2, 1, 0] rfl)
abbrev rm_Mo_readsLink : Room := { frames := 3, cells := 0, slots := 0, locals := 67 }
theorem hd_Mo_readsLink : hdOK yX8_readsLink 1 := by decide +kernel
theorem in_X8_readsLink_X8 : ∀ w ∈ wsX80, w ∈ wsX8_readsLink := by decide +kernel
set_option maxRecDepth 100000 in
set_option maxHeartbeats 4000000 in
theorem c_Mo_readsLink (l : Launch) (E : En4) (m0 m1 m2 m3 m4 m5 m6 m7 m8 m9 m10 m11 : Nat) (sz : Nat) (m_length : Int32) (m_places : Int32) (m_most : Int32) (m_tenths : Int32) (m_changes : Int32) (m_readPlaces : Int32) (m_value : Int32) (m_ends : Int32) (m_clusters : Int32) (m_text : Nat → Int32) (m_now : Nat → Int32) (m_read : Nat → Int32) (m_was : Nat → Int32) (m_readRule : Nat → Int32) (m_dist : Nat → Int32) (m_delays : Nat → Int32) (m_fractions : Nat → Int32) (m_head : Nat → Int32) (m_hour : Nat → Int32) (m_number : Nat → Int32) (a1 : Int32)  (res : Int32 × Int32 × Int32 × (Nat → Int32)) (hf : Mo_readsLink m_length m_readPlaces m_value m_ends m_text m_read a1 = some res) : Met l yX8_readsLink wsX8_readsLink rm_Mo_readsLink (pcM [.ref m0, .int a1] E sz (w_Mo E m0 m1 m2 m3 m4 m5 m6 m7 m8 m9 m10 m11 m_length m_places m_most m_tenths m_changes m_readPlaces m_value m_ends m_clusters m_text m_now m_read m_was m_readRule m_dist m_delays m_fractions m_head m_hour m_number)) (QMi E sz (w_Mo E m0 m1 m2 m3 m4 m5 m6 m7 m8 m9 m10 m11 m_length m_places m_most m_tenths m_changes m_readPlaces m_value m_ends m_clusters m_text m_now m_read m_was m_readRule m_dist m_delays m_fractions m_head m_hour m_number) (fun (u : Int32 × Int32 × (Nat → Int32)) => (w_Mo E m0 m1 m2 m3 m4 m5 m6 m7 m8 m9 m10 m11 m_length m_places m_most m_tenths m_changes m_readPlaces u.1 u.2.1 m_clusters m_text m_now u.2.2 m_was m_readRule m_dist m_delays m_fractions m_head m_hour m_number)) res) 0 0 (va_A (w_Mo E m0 m1 m2 m3 m4 m5 m6 m7 m8 m9 m10 m11 m_length m_places m_most m_tenths m_changes m_readPlaces m_value m_ends m_clusters m_text m_now m_read m_was m_readRule m_dist m_delays m_fractions m_head m_hour m_number) sz) := by
  refine mk_Mz (cc := cX8_readsLink) (maxL := 5) (by decide) rfl (Nat.le_of_ble_eq_true rfl) ?_
  intro p e s m args below meth c Q A S hKN hA hret H locs ls hP hD hS hl
  obtain ⟨hx, hb, hml, hown, hts⟩ := S
  obtain ⟨hK, hN⟩ := hKN
  have hl : lv_has ls 5 [(0, .ref m0), (1, .int a1)] := hl
  have q_0 := hts (.fieldLink RX8 46 "DelayClustersModel" "readPlaces" "I") (by decide +kernel)
  have q_1 := hts (.fieldLink RX8 72 "DelayClustersModel" "value" "I") (by decide +kernel)
  have q_2 := hts (.fieldLink RX8 16 "DelayClustersModel" "read" "[I") (by decide +kernel)
  unfold Mo_readsLink at hf
  refine lv_aload_n hx hb dX8_readsLink_0 rfl (lv_at hl 0 rfl) ?_
  refine lv_iload_n hx hb dX8_readsLink_1 rfl (lv_at hl 1 rfl) ?_
  refine lv_iconst (v := 0) hx hb dX8_readsLink_2 (by decide) ?_
  refine lv_aload_n hx hb dX8_readsLink_3 rfl (lv_at hl 0 rfl) ?_
  refine va_get (D := E.1) (ci := 8) (v := .int m_readPlaces) (C := RX8) (T := TX8) (N := 20) hx hb hts in_X8_readsLink_X8 hown hK hP 0 rfl rfl 9 (by decide) q_0 (fun _ h9 => h9) rfl dX8_readsLink_4 ?_
  refine lv_iconst (v := 1) hx hb dX8_readsLink_7 (by decide) ?_
  refine lv_isub hx hb dX8_readsLink_8 ?_
  obtain ⟨⟨r_2, m_value_3, m_ends_4⟩, h_1, hf⟩ := bd_s hf
  try dsimp only at hf
  refine ca_Mi (w2 := (w_Mo E m0 m1 m2 m3 m4 m5 m6 m7 m8 m9 m10 m11 m_length m_places m_most m_tenths m_changes m_readPlaces m_value_3 m_ends_4 m_clusters m_text m_now m_read m_was m_readRule m_dist m_delays m_fractions m_head m_hour m_number)) (As := [.int a1, .int 0, .int (m_readPlaces - 1)]) (rest := []) ⟨hx, hb, hml, hown, hts⟩ ⟨hK, hN⟩ hP hD hS hA (c_Mo_number l E m0 m1 m2 m3 m4 m5 m6 m7 m8 m9 m10 m11 H.size m_length m_places m_most m_tenths m_changes m_readPlaces m_value m_ends m_clusters m_text m_now m_read m_was m_readRule m_dist m_delays m_fractions m_head m_hour m_number a1 0 (m_readPlaces - 1) (r_2, m_value_3, m_ends_4) h_1) [0, 1, 2, 3, 4, 5, 6, 7, 8, 9, 10, 11] [] [0, 1, 2, 3, 4, 5, 6, 7, 8, 9, 10, 11] rfl rfl rfl rfl (by decide) rfl rfl 8 0 rfl rfl rfl gX8_readsLink_X8_number rfl rfl rfl rfl hd_Mo_number ⟨(Nat.le_of_ble_eq_true rfl), (Nat.le_of_ble_eq_true rfl)⟩ rfl hl.1 rfl (Nat.le_of_ble_eq_true rfl) dX8_readsLink_9 ⟨(Nat.zero_le _), (Nat.zero_le _)⟩ (fun H locs hP hD hS => ?_)
  refine lv_if_ne (tgt := 17) hx hb dX8_readsLink_12 (by decide) (fun c_27 => ?_) (fun c_27 => ?_)
  · have hf := ite_f c_27 hf
    refine lv_aload_n hx hb dX8_readsLink_17 rfl (lv_at hl 0 rfl) ?_
    refine va_get (D := E.1) (ci := 8) (v := .int m_value_3) (C := RX8) (T := TX8) (N := 20) hx hb hts in_X8_readsLink_X8 hown hK hP 0 rfl rfl 11 (by decide) q_1 (fun _ h9 => h9) rfl dX8_readsLink_18 ?_
    refine lv_istore_n (lv' := [(2, .int m_value_3), (0, .ref m0), (1, .int a1)]) hx hb dX8_readsLink_21 rfl hl (by decide) rfl (fun ls hl => ?_)
    refine lv_aload_n hx hb dX8_readsLink_22 rfl (lv_at hl 1 rfl) ?_
    refine lv_iconst (v := 0) hx hb dX8_readsLink_23 (by decide) ?_
    refine lv_aload_n hx hb dX8_readsLink_24 rfl (lv_at hl 1 rfl) ?_
    refine va_get (D := E.1) (ci := 8) (v := .int m_readPlaces) (C := RX8) (T := TX8) (N := 20) hx hb hts in_X8_readsLink_X8 hown hK hP 0 rfl rfl 9 (by decide) q_0 (fun _ h9 => h9) rfl dX8_readsLink_25 ?_
    refine lv_iconst (v := 1) hx hb dX8_readsLink_28 (by decide) ?_
    refine lv_isub hx hb dX8_readsLink_29 ?_
    obtain ⟨⟨r_6, m_value_7, m_ends_8⟩, h_5, hf⟩ := bd_s hf
    try dsimp only at hf
    refine ca_Mi (w2 := (w_Mo E m0 m1 m2 m3 m4 m5 m6 m7 m8 m9 m10 m11 m_length m_places m_most m_tenths m_changes m_readPlaces m_value_7 m_ends_8 m_clusters m_text m_now m_read m_was m_readRule m_dist m_delays m_fractions m_head m_hour m_number)) (As := [.int 0, .int (m_readPlaces - 1)]) (rest := []) ⟨hx, hb, hml, hown, hts⟩ ⟨hK, hN⟩ hP hD hS hA (c_Mo_more l E m0 m1 m2 m3 m4 m5 m6 m7 m8 m9 m10 m11 H.size m_length m_places m_most m_tenths m_changes m_readPlaces m_value_3 m_ends_4 m_clusters m_text m_now m_read m_was m_readRule m_dist m_delays m_fractions m_head m_hour m_number 0 (m_readPlaces - 1) (r_6, m_value_7, m_ends_8) h_5) [0, 1, 2, 3, 4, 5, 6, 7, 8, 9, 10, 11] [] [0, 1, 2, 3, 4, 5, 6, 7, 8, 9, 10, 11] rfl rfl rfl rfl (by decide) rfl rfl 8 0 rfl rfl rfl gX8_readsLink_X8_more rfl rfl rfl rfl hd_Mo_more ⟨(Nat.le_of_ble_eq_true rfl), (Nat.le_of_ble_eq_true rfl)⟩ rfl hl.1 rfl (Nat.le_of_ble_eq_true rfl) dX8_readsLink_30 ⟨(Nat.zero_le _), (Nat.zero_le _)⟩ (fun H locs hP hD hS => ?_)
    refine lv_if_eq (tgt := 44) hx hb dX8_readsLink_33 (by decide) (fun c_26 => ?_) (fun c_26 => ?_)
    · have hf := ite_t c_26 hf
      refine lv_iconst (v := 0) hx hb dX8_readsLink_44 (by decide) ?_
      exact hret H locs ls 45 0 (m_value_7, m_ends_8, m_read) dX8_readsLink_45 (by decide) (Option.some.inj hf) hP hD hS
    · have hf := ite_f c_26 hf
      refine lv_aload_n hx hb dX8_readsLink_36 rfl (lv_at hl 1 rfl) ?_
      refine va_get (D := E.1) (ci := 8) (v := .int m_value_7) (C := RX8) (T := TX8) (N := 20) hx hb hts in_X8_readsLink_X8 hown hK hP 0 rfl rfl 11 (by decide) q_1 (fun _ h9 => h9) rfl dX8_readsLink_37 ?_
      refine lv_iload_n hx hb dX8_readsLink_40 rfl (lv_at hl 0 rfl) ?_
      refine lv_icmp_ne (tgt := 46) hx hb dX8_readsLink_41 (by decide) (fun c_25 => ?_) (fun c_25 => ?_)
      · have hf := ite_f c_25 hf
        refine lv_aload_n hx hb dX8_readsLink_46 rfl (lv_at hl 1 rfl) ?_
        refine va_get (D := E.1) (ci := 8) (v := .int m_value_7) (C := RX8) (T := TX8) (N := 20) hx hb hts in_X8_readsLink_X8 hown hK hP 0 rfl rfl 11 (by decide) q_1 (fun _ h9 => h9) rfl dX8_readsLink_47 ?_
        refine lv_istore_n (lv' := [(3, .int m_value_7), (2, .int m_value_3), (0, .ref m0), (1, .int a1)]) hx hb dX8_readsLink_50 rfl hl (by decide) rfl (fun ls hl => ?_)
        refine lv_aload_n hx hb dX8_readsLink_51 rfl (lv_at hl 2 rfl) ?_
        refine lv_iconst (v := 1) hx hb dX8_readsLink_52 (by decide) ?_
        refine lv_bipush (v := 9) hx hb dX8_readsLink_53 (by decide) ?_
        obtain ⟨⟨r_10, m_value_11, m_ends_12⟩, h_9, hf⟩ := bd_s hf
        try dsimp only at hf
        refine ca_Mi (w2 := (w_Mo E m0 m1 m2 m3 m4 m5 m6 m7 m8 m9 m10 m11 m_length m_places m_most m_tenths m_changes m_readPlaces m_value_11 m_ends_12 m_clusters m_text m_now m_read m_was m_readRule m_dist m_delays m_fractions m_head m_hour m_number)) (As := [.int 1, .int 9]) (rest := []) ⟨hx, hb, hml, hown, hts⟩ ⟨hK, hN⟩ hP hD hS hA (c_Mo_more l E m0 m1 m2 m3 m4 m5 m6 m7 m8 m9 m10 m11 H.size m_length m_places m_most m_tenths m_changes m_readPlaces m_value_7 m_ends_8 m_clusters m_text m_now m_read m_was m_readRule m_dist m_delays m_fractions m_head m_hour m_number 1 9 (r_10, m_value_11, m_ends_12) h_9) [0, 1, 2, 3, 4, 5, 6, 7, 8, 9, 10, 11] [] [0, 1, 2, 3, 4, 5, 6, 7, 8, 9, 10, 11] rfl rfl rfl rfl (by decide) rfl rfl 8 0 rfl rfl rfl gX8_readsLink_X8_more rfl rfl rfl rfl hd_Mo_more ⟨(Nat.le_of_ble_eq_true rfl), (Nat.le_of_ble_eq_true rfl)⟩ rfl hl.1 rfl (Nat.le_of_ble_eq_true rfl) dX8_readsLink_55 ⟨(Nat.zero_le _), (Nat.zero_le _)⟩ (fun H locs hP hD hS => ?_)
        obtain ⟨j_58, b_58, hf⟩ := bd_s hf
        have KJ_58 : ∀ (t_19 : Int32), t_19 = j_58 → ∀ (H : Heap) (locs : List Loc) (ls : Array Slot), va_P E.1 vwCl (w_Mo E m0 m1 m2 m3 m4 m5 m6 m7 m8 m9 m10 m11 m_length m_places m_most m_tenths m_changes m_readPlaces m_value_11 m_ends_12 m_clusters m_text m_now m_read m_was m_readRule m_dist m_delays m_fractions m_head m_hour m_number) H → va_D A (w_Mo E m0 m1 m2 m3 m4 m5 m6 m7 m8 m9 m10 m11 m_length m_places m_most m_tenths m_changes m_readPlaces m_value_11 m_ends_12 m_clusters m_text m_now m_read m_was m_readRule m_dist m_delays m_fractions m_head m_hour m_number) → va_S A s.heap H locs → lv_has ls 5 [(0, .ref m0), (2, .int m_value_3), (3, .int m_value_7)] → W p l e rm_Mo_readsLink s m args below meth c H locs 0 0 Q (F0 m 92 ls [.int t_19]) := by
          intro t_19 e_
          subst e_
          try dsimp only at hf
          intro H locs ls hP hD hS hl
          refine lv_istore (lv' := [(4, .int t_19), (0, .ref m0), (2, .int m_value_3), (3, .int m_value_7)]) hx hb dX8_readsLink_92 hl (by decide) rfl (fun ls hl => ?_)
          refine lv_iload hx hb dX8_readsLink_94 (lv_at hl 0 rfl) ?_
          refine lv_if_eq (tgt := 109) hx hb dX8_readsLink_96 (by decide) (fun c_24 => ?_) (fun c_24 => ?_)
          · have hf := ite_t c_24 hf
            refine lv_iload hx hb dX8_readsLink_109 (lv_at hl 0 rfl) ?_
            obtain ⟨g_20, hf⟩ := gb_s hf
            exact hret H locs ls 111 t_19 (m_value_11, m_ends_12, m_read) dX8_readsLink_111 g_20 (Option.some.inj hf) hP hD hS
          · have hf := ite_f c_24 hf
            refine lv_aload_n hx hb dX8_readsLink_99 rfl (lv_at hl 1 rfl) ?_
            refine lv_iload_n hx hb dX8_readsLink_100 rfl (lv_at hl 2 rfl) ?_
            refine lv_iload_n hx hb dX8_readsLink_101 rfl (lv_at hl 3 rfl) ?_
            refine lv_aload_n hx hb dX8_readsLink_102 rfl (lv_at hl 1 rfl) ?_
            refine va_get (D := E.1) (ci := 8) (v := .int m_value_11) (C := RX8) (T := TX8) (N := 20) hx hb hts in_X8_readsLink_X8 hown hK hP 0 rfl rfl 11 (by decide) q_1 (fun _ h9 => h9) rfl dX8_readsLink_103 ?_
            obtain ⟨m_read_22, h_21, hf⟩ := bd_s hf
            try dsimp only at hf
            refine ca_Mv (w2 := (w_Mo E m0 m1 m2 m3 m4 m5 m6 m7 m8 m9 m10 m11 m_length m_places m_most m_tenths m_changes m_readPlaces m_value_11 m_ends_12 m_clusters m_text m_now m_read_22 m_was m_readRule m_dist m_delays m_fractions m_head m_hour m_number)) (As := [.int m_value_3, .int m_value_7, .int m_value_11]) (rest := []) ⟨hx, hb, hml, hown, hts⟩ ⟨hK, hN⟩ hP hD hS hA (c_Mo_joins l E m0 m1 m2 m3 m4 m5 m6 m7 m8 m9 m10 m11 H.size m_length m_places m_most m_tenths m_changes m_readPlaces m_value_11 m_ends_12 m_clusters m_text m_now m_read m_was m_readRule m_dist m_delays m_fractions m_head m_hour m_number m_value_3 m_value_7 m_value_11 m_read_22 h_21) [0, 1, 2, 3, 4, 5, 6, 7, 8, 9, 10, 11] [] [0, 1, 2, 3, 4, 5, 6, 7, 8, 9, 10, 11] rfl rfl rfl rfl (by decide) rfl rfl 8 0 rfl rfl rfl gX8_readsLink_X8_joins rfl rfl rfl rfl hd_Mo_joins ⟨(Nat.le_of_ble_eq_true rfl), (Nat.le_of_ble_eq_true rfl)⟩ rfl hl.1 rfl (Nat.le_of_ble_eq_true rfl) dX8_readsLink_106 ⟨(Nat.zero_le _), (Nat.zero_le _)⟩ (fun H locs hP hD hS => ?_)
            refine lv_iload hx hb dX8_readsLink_109 (lv_at hl 0 rfl) ?_
            obtain ⟨g_23, hf⟩ := gb_s hf
            exact hret H locs ls 111 t_19 (m_value_11, m_ends_12, m_read_22) dX8_readsLink_111 g_23 (Option.some.inj hf) hP hD hS
        have hf := b_58
        refine lv_if_eq (tgt := 91) hx hb dX8_readsLink_58 (by decide) (fun c_18 => ?_) (fun c_18 => ?_)
        · have hf := ite_t c_18 hf
          refine lv_iconst (v := 0) hx hb dX8_readsLink_91 (by decide) ?_
          exact KJ_58 0 (Option.some.inj hf) H locs _ hP hD hS (lv_sub hl [2, 1, 0] rfl)
        · have hf := ite_f c_18 hf
          refine lv_aload_n hx hb dX8_readsLink_61 rfl (lv_at hl 2 rfl) ?_
          refine va_get (D := E.1) (ci := 8) (v := .ref m3) (C := RX8) (T := TX8) (N := 20) hx hb hts in_X8_readsLink_X8 hown hK hP 0 rfl rfl 6 (by decide) q_2 (fun _ h9 => h9) rfl dX8_readsLink_62 ?_
          refine lv_bipush (v := 16) hx hb dX8_readsLink_65 (by decide) ?_
          refine lv_iload_n hx hb dX8_readsLink_67 rfl (lv_at hl 1 rfl) ?_
          refine lv_imul hx hb dX8_readsLink_68 ?_
          refine lv_iload_n hx hb dX8_readsLink_69 rfl (lv_at hl 0 rfl) ?_
          refine lv_iadd hx hb dX8_readsLink_70 ?_
          obtain ⟨g_13, hf⟩ := gk_s hf
          refine va_iald hx hb hK hP 3 0 rfl rfl g_13 dX8_readsLink_71 ?_
          refine lv_if_gt (tgt := 87) hx hb dX8_readsLink_72 (by decide) (fun c_17 => ?_) (fun c_17 => ?_)
          · have hf := ite_t c_17 hf
            refine lv_iconst (v := 1) hx hb dX8_readsLink_87 (by decide) ?_
            refine lv_goto (tgt := 92) hx hb dX8_readsLink_88 (by decide) ?_
            exact KJ_58 1 (Option.some.inj hf) H locs _ hP hD hS (lv_sub hl [2, 1, 0] rfl)
          · have hf := ite_f c_17 hf
            refine lv_aload_n hx hb dX8_readsLink_75 rfl (lv_at hl 2 rfl) ?_
            refine va_get (D := E.1) (ci := 8) (v := .ref m3) (C := RX8) (T := TX8) (N := 20) hx hb hts in_X8_readsLink_X8 hown hK hP 0 rfl rfl 6 (by decide) q_2 (fun _ h9 => h9) rfl dX8_readsLink_76 ?_
            obtain ⟨r_15, h_14, hf⟩ := bd_s hf
            refine ca_S (As := [.ref m3]) (rest := []) ⟨hx, hb, hml, hown, hts⟩ ⟨hK, hN⟩ hP (c_Mo_linksOf l E m3 m_read r_15 h_14) [3] rfl gX8_readsLink_X8_linksOf rfl rfl rfl hd_Mo_linksOf ⟨(Nat.le_of_ble_eq_true rfl), (Nat.le_of_ble_eq_true rfl)⟩ rfl hl.1 rfl (Nat.le_of_ble_eq_true rfl) dX8_readsLink_79 ⟨(Nat.zero_le _), (Nat.zero_le _)⟩ ?_
            refine lv_bipush (v := 40) hx hb dX8_readsLink_82 (by decide) ?_
            refine lv_icmp_ge (tgt := 91) hx hb dX8_readsLink_84 (by decide) (fun c_16 => ?_) (fun c_16 => ?_)
            · have hf := ite_t c_16 hf
              refine lv_iconst (v := 0) hx hb dX8_readsLink_91 (by decide) ?_
              exact KJ_58 0 (Option.some.inj hf) H locs _ hP hD hS (lv_sub hl [2, 1, 0] rfl)
            · have hf := ite_f c_16 hf
              refine lv_iconst (v := 1) hx hb dX8_readsLink_87 (by decide) ?_
              refine lv_goto (tgt := 92) hx hb dX8_readsLink_88 (by decide) ?_
              exact KJ_58 1 (Option.some.inj hf) H locs _ hP hD hS (lv_sub hl [2, 1, 0] rfl)
      · have hf := ite_t c_25 hf
        refine lv_iconst (v := 0) hx hb dX8_readsLink_44 (by decide) ?_
        exact hret H locs ls 45 0 (m_value_7, m_ends_8, m_read) dX8_readsLink_45 (by decide) (Option.some.inj hf) hP hD hS
  · have hf := ite_t c_27 hf
    refine lv_iconst (v := 0) hx hb dX8_readsLink_15 (by decide) ?_
    exact hret H locs ls 16 0 (m_value_3, m_ends_4, m_read) dX8_readsLink_16 (by decide) (Option.some.inj hf) hP hD hS
abbrev rm_Mo_readsDelay : Room := { frames := 3, cells := 0, slots := 0, locals := 67 }
theorem hd_Mo_readsDelay : hdOK yX8_readsDelay 1 := by decide +kernel
theorem in_X8_readsDelay_X8 : ∀ w ∈ wsX80, w ∈ wsX8_readsDelay := by decide +kernel
set_option maxRecDepth 100000 in
set_option maxHeartbeats 4000000 in
theorem c_Mo_readsDelay (l : Launch) (E : En4) (m0 m1 m2 m3 m4 m5 m6 m7 m8 m9 m10 m11 : Nat) (sz : Nat) (m_length : Int32) (m_places : Int32) (m_most : Int32) (m_tenths : Int32) (m_changes : Int32) (m_readPlaces : Int32) (m_value : Int32) (m_ends : Int32) (m_clusters : Int32) (m_text : Nat → Int32) (m_now : Nat → Int32) (m_read : Nat → Int32) (m_was : Nat → Int32) (m_readRule : Nat → Int32) (m_dist : Nat → Int32) (m_delays : Nat → Int32) (m_fractions : Nat → Int32) (m_head : Nat → Int32) (m_hour : Nat → Int32) (m_number : Nat → Int32) (a1 : Int32)  (res : Int32 × Int32 × Int32 × (Nat → Int32)) (hf : Mo_readsDelay m_length m_readPlaces m_value m_ends m_text m_read a1 = some res) : Met l yX8_readsDelay wsX8_readsDelay rm_Mo_readsDelay (pcM [.ref m0, .int a1] E sz (w_Mo E m0 m1 m2 m3 m4 m5 m6 m7 m8 m9 m10 m11 m_length m_places m_most m_tenths m_changes m_readPlaces m_value m_ends m_clusters m_text m_now m_read m_was m_readRule m_dist m_delays m_fractions m_head m_hour m_number)) (QMi E sz (w_Mo E m0 m1 m2 m3 m4 m5 m6 m7 m8 m9 m10 m11 m_length m_places m_most m_tenths m_changes m_readPlaces m_value m_ends m_clusters m_text m_now m_read m_was m_readRule m_dist m_delays m_fractions m_head m_hour m_number) (fun (u : Int32 × Int32 × (Nat → Int32)) => (w_Mo E m0 m1 m2 m3 m4 m5 m6 m7 m8 m9 m10 m11 m_length m_places m_most m_tenths m_changes m_readPlaces u.1 u.2.1 m_clusters m_text m_now u.2.2 m_was m_readRule m_dist m_delays m_fractions m_head m_hour m_number)) res) 0 0 (va_A (w_Mo E m0 m1 m2 m3 m4 m5 m6 m7 m8 m9 m10 m11 m_length m_places m_most m_tenths m_changes m_readPlaces m_value m_ends m_clusters m_text m_now m_read m_was m_readRule m_dist m_delays m_fractions m_head m_hour m_number) sz) := by
  refine mk_Mz (cc := cX8_readsDelay) (maxL := 5) (by decide) rfl (Nat.le_of_ble_eq_true rfl) ?_
  intro p e s m args below meth c Q A S hKN hA hret H locs ls hP hD hS hl
  obtain ⟨hx, hb, hml, hown, hts⟩ := S
  obtain ⟨hK, hN⟩ := hKN
  have hl : lv_has ls 5 [(0, .ref m0), (1, .int a1)] := hl
  have q_0 := hts (.fieldLink RX8 46 "DelayClustersModel" "readPlaces" "I") (by decide +kernel)
  have q_1 := hts (.fieldLink RX8 72 "DelayClustersModel" "value" "I") (by decide +kernel)
  have q_2 := hts (.fieldLink RX8 16 "DelayClustersModel" "read" "[I") (by decide +kernel)
  unfold Mo_readsDelay at hf
  refine lv_aload_n hx hb dX8_readsDelay_0 rfl (lv_at hl 0 rfl) ?_
  refine lv_iload_n hx hb dX8_readsDelay_1 rfl (lv_at hl 1 rfl) ?_
  refine lv_iconst (v := 0) hx hb dX8_readsDelay_2 (by decide) ?_
  refine lv_aload_n hx hb dX8_readsDelay_3 rfl (lv_at hl 0 rfl) ?_
  refine va_get (D := E.1) (ci := 8) (v := .int m_readPlaces) (C := RX8) (T := TX8) (N := 20) hx hb hts in_X8_readsDelay_X8 hown hK hP 0 rfl rfl 9 (by decide) q_0 (fun _ h9 => h9) rfl dX8_readsDelay_4 ?_
  refine lv_iconst (v := 1) hx hb dX8_readsDelay_7 (by decide) ?_
  refine lv_isub hx hb dX8_readsDelay_8 ?_
  obtain ⟨⟨r_2, m_value_3, m_ends_4⟩, h_1, hf⟩ := bd_s hf
  try dsimp only at hf
  refine ca_Mi (w2 := (w_Mo E m0 m1 m2 m3 m4 m5 m6 m7 m8 m9 m10 m11 m_length m_places m_most m_tenths m_changes m_readPlaces m_value_3 m_ends_4 m_clusters m_text m_now m_read m_was m_readRule m_dist m_delays m_fractions m_head m_hour m_number)) (As := [.int a1, .int 0, .int (m_readPlaces - 1)]) (rest := []) ⟨hx, hb, hml, hown, hts⟩ ⟨hK, hN⟩ hP hD hS hA (c_Mo_number l E m0 m1 m2 m3 m4 m5 m6 m7 m8 m9 m10 m11 H.size m_length m_places m_most m_tenths m_changes m_readPlaces m_value m_ends m_clusters m_text m_now m_read m_was m_readRule m_dist m_delays m_fractions m_head m_hour m_number a1 0 (m_readPlaces - 1) (r_2, m_value_3, m_ends_4) h_1) [0, 1, 2, 3, 4, 5, 6, 7, 8, 9, 10, 11] [] [0, 1, 2, 3, 4, 5, 6, 7, 8, 9, 10, 11] rfl rfl rfl rfl (by decide) rfl rfl 8 0 rfl rfl rfl gX8_readsDelay_X8_number rfl rfl rfl rfl hd_Mo_number ⟨(Nat.le_of_ble_eq_true rfl), (Nat.le_of_ble_eq_true rfl)⟩ rfl hl.1 rfl (Nat.le_of_ble_eq_true rfl) dX8_readsDelay_9 ⟨(Nat.zero_le _), (Nat.zero_le _)⟩ (fun H locs hP hD hS => ?_)
  refine lv_if_ne (tgt := 17) hx hb dX8_readsDelay_12 (by decide) (fun c_24 => ?_) (fun c_24 => ?_)
  · have hf := ite_f c_24 hf
    refine lv_aload_n hx hb dX8_readsDelay_17 rfl (lv_at hl 0 rfl) ?_
    refine va_get (D := E.1) (ci := 8) (v := .int m_value_3) (C := RX8) (T := TX8) (N := 20) hx hb hts in_X8_readsDelay_X8 hown hK hP 0 rfl rfl 11 (by decide) q_1 (fun _ h9 => h9) rfl dX8_readsDelay_18 ?_
    refine lv_istore_n (lv' := [(2, .int m_value_3), (0, .ref m0), (1, .int a1)]) hx hb dX8_readsDelay_21 rfl hl (by decide) rfl (fun ls hl => ?_)
    refine lv_aload_n hx hb dX8_readsDelay_22 rfl (lv_at hl 1 rfl) ?_
    refine lv_iconst (v := 0) hx hb dX8_readsDelay_23 (by decide) ?_
    refine lv_bipush (v := 30) hx hb dX8_readsDelay_24 (by decide) ?_
    obtain ⟨⟨r_6, m_value_7, m_ends_8⟩, h_5, hf⟩ := bd_s hf
    try dsimp only at hf
    refine ca_Mi (w2 := (w_Mo E m0 m1 m2 m3 m4 m5 m6 m7 m8 m9 m10 m11 m_length m_places m_most m_tenths m_changes m_readPlaces m_value_7 m_ends_8 m_clusters m_text m_now m_read m_was m_readRule m_dist m_delays m_fractions m_head m_hour m_number)) (As := [.int 0, .int 30]) (rest := []) ⟨hx, hb, hml, hown, hts⟩ ⟨hK, hN⟩ hP hD hS hA (c_Mo_more l E m0 m1 m2 m3 m4 m5 m6 m7 m8 m9 m10 m11 H.size m_length m_places m_most m_tenths m_changes m_readPlaces m_value_3 m_ends_4 m_clusters m_text m_now m_read m_was m_readRule m_dist m_delays m_fractions m_head m_hour m_number 0 30 (r_6, m_value_7, m_ends_8) h_5) [0, 1, 2, 3, 4, 5, 6, 7, 8, 9, 10, 11] [] [0, 1, 2, 3, 4, 5, 6, 7, 8, 9, 10, 11] rfl rfl rfl rfl (by decide) rfl rfl 8 0 rfl rfl rfl gX8_readsDelay_X8_more rfl rfl rfl rfl hd_Mo_more ⟨(Nat.le_of_ble_eq_true rfl), (Nat.le_of_ble_eq_true rfl)⟩ rfl hl.1 rfl (Nat.le_of_ble_eq_true rfl) dX8_readsDelay_26 ⟨(Nat.zero_le _), (Nat.zero_le _)⟩ (fun H locs hP hD hS => ?_)
    refine lv_if_ne (tgt := 34) hx hb dX8_readsDelay_29 (by decide) (fun c_23 => ?_) (fun c_23 => ?_)
    · have hf := ite_f c_23 hf
      refine lv_aload_n hx hb dX8_readsDelay_34 rfl (lv_at hl 1 rfl) ?_
      refine va_get (D := E.1) (ci := 8) (v := .int m_value_7) (C := RX8) (T := TX8) (N := 20) hx hb hts in_X8_readsDelay_X8 hown hK hP 0 rfl rfl 11 (by decide) q_1 (fun _ h9 => h9) rfl dX8_readsDelay_35 ?_
      refine lv_istore_n (lv' := [(3, .int m_value_7), (2, .int m_value_3), (0, .ref m0), (1, .int a1)]) hx hb dX8_readsDelay_38 rfl hl (by decide) rfl (fun ls hl => ?_)
      refine lv_aload_n hx hb dX8_readsDelay_39 rfl (lv_at hl 2 rfl) ?_
      refine lv_iconst (v := 0) hx hb dX8_readsDelay_40 (by decide) ?_
      refine lv_sipush (v := 999) hx hb dX8_readsDelay_41 (by decide) ?_
      obtain ⟨⟨r_10, m_value_11, m_ends_12⟩, h_9, hf⟩ := bd_s hf
      try dsimp only at hf
      refine ca_Mi (w2 := (w_Mo E m0 m1 m2 m3 m4 m5 m6 m7 m8 m9 m10 m11 m_length m_places m_most m_tenths m_changes m_readPlaces m_value_11 m_ends_12 m_clusters m_text m_now m_read m_was m_readRule m_dist m_delays m_fractions m_head m_hour m_number)) (As := [.int 0, .int 999]) (rest := []) ⟨hx, hb, hml, hown, hts⟩ ⟨hK, hN⟩ hP hD hS hA (c_Mo_more l E m0 m1 m2 m3 m4 m5 m6 m7 m8 m9 m10 m11 H.size m_length m_places m_most m_tenths m_changes m_readPlaces m_value_7 m_ends_8 m_clusters m_text m_now m_read m_was m_readRule m_dist m_delays m_fractions m_head m_hour m_number 0 999 (r_10, m_value_11, m_ends_12) h_9) [0, 1, 2, 3, 4, 5, 6, 7, 8, 9, 10, 11] [] [0, 1, 2, 3, 4, 5, 6, 7, 8, 9, 10, 11] rfl rfl rfl rfl (by decide) rfl rfl 8 0 rfl rfl rfl gX8_readsDelay_X8_more rfl rfl rfl rfl hd_Mo_more ⟨(Nat.le_of_ble_eq_true rfl), (Nat.le_of_ble_eq_true rfl)⟩ rfl hl.1 rfl (Nat.le_of_ble_eq_true rfl) dX8_readsDelay_44 ⟨(Nat.zero_le _), (Nat.zero_le _)⟩ (fun H locs hP hD hS => ?_)
      refine lv_istore (lv' := [(4, .int r_10), (3, .int m_value_7), (2, .int m_value_3), (0, .ref m0), (1, .int a1)]) hx hb dX8_readsDelay_47 hl (by decide) rfl (fun ls hl => ?_)
      refine lv_aload_n hx hb dX8_readsDelay_49 rfl (lv_at hl 3 rfl) ?_
      refine va_get (D := E.1) (ci := 8) (v := .ref m3) (C := RX8) (T := TX8) (N := 20) hx hb hts in_X8_readsDelay_X8 hown hK hP 0 rfl rfl 6 (by decide) q_2 (fun _ h9 => h9) rfl dX8_readsDelay_50 ?_
      refine lv_sipush (v := 256) hx hb dX8_readsDelay_53 (by decide) ?_
      refine lv_iload_n hx hb dX8_readsDelay_56 rfl (lv_at hl 2 rfl) ?_
      refine lv_iadd hx hb dX8_readsDelay_57 ?_
      refine lv_iload hx hb dX8_readsDelay_58 (lv_at hl 0 rfl) ?_
      obtain ⟨j_60, b_60, hf⟩ := bd_s hf
      have KJ_60 : ∀ (t_15 : Int32), t_15 = j_60 → ∀ (H : Heap) (locs : List Loc) (ls : Array Slot), va_P E.1 vwCl (w_Mo E m0 m1 m2 m3 m4 m5 m6 m7 m8 m9 m10 m11 m_length m_places m_most m_tenths m_changes m_readPlaces m_value_11 m_ends_12 m_clusters m_text m_now m_read m_was m_readRule m_dist m_delays m_fractions m_head m_hour m_number) H → va_D A (w_Mo E m0 m1 m2 m3 m4 m5 m6 m7 m8 m9 m10 m11 m_length m_places m_most m_tenths m_changes m_readPlaces m_value_11 m_ends_12 m_clusters m_text m_now m_read m_was m_readRule m_dist m_delays m_fractions m_head m_hour m_number) → va_S A s.heap H locs → lv_has ls 5 [(0, .ref m0), (2, .int m_value_3), (4, .int r_10)] → W p l e rm_Mo_readsDelay s m args below meth c H locs 0 0 Q (F0 m 79 ls [.int t_15, .int (256 + m_value_3), .ref m3]) := by
        intro t_15 e_
        subst e_
        try dsimp only at hf
        intro H locs ls hP hD hS hl
        obtain ⟨g_16, hf⟩ := gk_s hf
        refine va_iast hx hb hK hP hD hS 3 0 rfl rfl g_16 dX8_readsDelay_79 (fun H locs hP hD hS => ?_)
        have hP : va_P E.1 vwCl (w_Mo E m0 m1 m2 m3 m4 m5 m6 m7 m8 m9 m10 m11 m_length m_places m_most m_tenths m_changes m_readPlaces m_value_11 m_ends_12 m_clusters m_text m_now (upd m_read (256 + m_value_3).toNatClampNeg t_15) m_was m_readRule m_dist m_delays m_fractions m_head m_hour m_number) H := hP
        have hD : va_D A (w_Mo E m0 m1 m2 m3 m4 m5 m6 m7 m8 m9 m10 m11 m_length m_places m_most m_tenths m_changes m_readPlaces m_value_11 m_ends_12 m_clusters m_text m_now (upd m_read (256 + m_value_3).toNatClampNeg t_15) m_was m_readRule m_dist m_delays m_fractions m_head m_hour m_number) := hD
        refine lv_aload_n hx hb dX8_readsDelay_80 rfl (lv_at hl 0 rfl) ?_
        refine va_get (D := E.1) (ci := 8) (v := .ref m3) (C := RX8) (T := TX8) (N := 20) hx hb hts in_X8_readsDelay_X8 hown hK hP 0 rfl rfl 6 (by decide) q_2 (fun _ h9 => h9) rfl dX8_readsDelay_81 ?_
        refine lv_sipush (v := 272) hx hb dX8_readsDelay_84 (by decide) ?_
        refine lv_iload_n hx hb dX8_readsDelay_87 rfl (lv_at hl 1 rfl) ?_
        refine lv_iadd hx hb dX8_readsDelay_88 ?_
        refine lv_iload hx hb dX8_readsDelay_89 (lv_at hl 2 rfl) ?_
        refine lv_if_eq (tgt := 101) hx hb dX8_readsDelay_91 (by decide) (fun c_22 => ?_) (fun c_22 => ?_)
        · have hf := ite_t c_22 hf
          refine lv_aload_n hx hb dX8_readsDelay_101 rfl (lv_at hl 0 rfl) ?_
          refine va_get (D := E.1) (ci := 8) (v := .ref m3) (C := RX8) (T := TX8) (N := 20) hx hb hts in_X8_readsDelay_X8 hown hK hP 0 rfl rfl 6 (by decide) q_2 (fun _ h9 => h9) rfl dX8_readsDelay_102 ?_
          refine lv_sipush (v := 272) hx hb dX8_readsDelay_105 (by decide) ?_
          refine lv_iload_n hx hb dX8_readsDelay_108 rfl (lv_at hl 1 rfl) ?_
          refine lv_iadd hx hb dX8_readsDelay_109 ?_
          obtain ⟨g_17, hf⟩ := gk_s hf
          refine va_iald hx hb hK hP 3 0 rfl rfl g_17 dX8_readsDelay_110 ?_
          obtain ⟨g_18, hf⟩ := gk_s hf
          refine va_iast hx hb hK hP hD hS 3 0 rfl rfl g_18 dX8_readsDelay_111 (fun H locs hP hD hS => ?_)
          have hP : va_P E.1 vwCl (w_Mo E m0 m1 m2 m3 m4 m5 m6 m7 m8 m9 m10 m11 m_length m_places m_most m_tenths m_changes m_readPlaces m_value_11 m_ends_12 m_clusters m_text m_now (upd (upd m_read (256 + m_value_3).toNatClampNeg t_15) (272 + m_value_3).toNatClampNeg ((upd m_read (256 + m_value_3).toNatClampNeg t_15) (272 + m_value_3).toNatClampNeg)) m_was m_readRule m_dist m_delays m_fractions m_head m_hour m_number) H := hP
          have hD : va_D A (w_Mo E m0 m1 m2 m3 m4 m5 m6 m7 m8 m9 m10 m11 m_length m_places m_most m_tenths m_changes m_readPlaces m_value_11 m_ends_12 m_clusters m_text m_now (upd (upd m_read (256 + m_value_3).toNatClampNeg t_15) (272 + m_value_3).toNatClampNeg ((upd m_read (256 + m_value_3).toNatClampNeg t_15) (272 + m_value_3).toNatClampNeg)) m_was m_readRule m_dist m_delays m_fractions m_head m_hour m_number) := hD
          refine lv_iload hx hb dX8_readsDelay_112 (lv_at hl 2 rfl) ?_
          obtain ⟨g_19, hf⟩ := gb_s hf
          exact hret H locs ls 114 r_10 (m_value_11, m_ends_12, (upd (upd m_read (256 + m_value_3).toNatClampNeg t_15) (272 + m_value_3).toNatClampNeg ((upd m_read (256 + m_value_3).toNatClampNeg t_15) (272 + m_value_3).toNatClampNeg))) dX8_readsDelay_114 g_19 (Option.some.inj hf) hP hD hS
        · have hf := ite_f c_22 hf
          refine lv_aload_n hx hb dX8_readsDelay_94 rfl (lv_at hl 0 rfl) ?_
          refine va_get (D := E.1) (ci := 8) (v := .int m_value_11) (C := RX8) (T := TX8) (N := 20) hx hb hts in_X8_readsDelay_X8 hown hK hP 0 rfl rfl 11 (by decide) q_1 (fun _ h9 => h9) rfl dX8_readsDelay_95 ?_
          refine lv_goto (tgt := 111) hx hb dX8_readsDelay_98 (by decide) ?_
          obtain ⟨g_20, hf⟩ := gk_s hf
          refine va_iast hx hb hK hP hD hS 3 0 rfl rfl g_20 dX8_readsDelay_111 (fun H locs hP hD hS => ?_)
          have hP : va_P E.1 vwCl (w_Mo E m0 m1 m2 m3 m4 m5 m6 m7 m8 m9 m10 m11 m_length m_places m_most m_tenths m_changes m_readPlaces m_value_11 m_ends_12 m_clusters m_text m_now (upd (upd m_read (256 + m_value_3).toNatClampNeg t_15) (272 + m_value_3).toNatClampNeg m_value_11) m_was m_readRule m_dist m_delays m_fractions m_head m_hour m_number) H := hP
          have hD : va_D A (w_Mo E m0 m1 m2 m3 m4 m5 m6 m7 m8 m9 m10 m11 m_length m_places m_most m_tenths m_changes m_readPlaces m_value_11 m_ends_12 m_clusters m_text m_now (upd (upd m_read (256 + m_value_3).toNatClampNeg t_15) (272 + m_value_3).toNatClampNeg m_value_11) m_was m_readRule m_dist m_delays m_fractions m_head m_hour m_number) := hD
          refine lv_iload hx hb dX8_readsDelay_112 (lv_at hl 2 rfl) ?_
          obtain ⟨g_21, hf⟩ := gb_s hf
          exact hret H locs ls 114 r_10 (m_value_11, m_ends_12, (upd (upd m_read (256 + m_value_3).toNatClampNeg t_15) (272 + m_value_3).toNatClampNeg m_value_11)) dX8_readsDelay_114 g_21 (Option.some.inj hf) hP hD hS
      have hf := b_60
      refine lv_if_eq (tgt := 69) hx hb dX8_readsDelay_60 (by decide) (fun c_14 => ?_) (fun c_14 => ?_)
      · have hf := ite_t c_14 hf
        refine lv_aload_n hx hb dX8_readsDelay_69 rfl (lv_at hl 3 rfl) ?_
        refine va_get (D := E.1) (ci := 8) (v := .ref m3) (C := RX8) (T := TX8) (N := 20) hx hb hts in_X8_readsDelay_X8 hown hK hP 0 rfl rfl 6 (by decide) q_2 (fun _ h9 => h9) rfl dX8_readsDelay_70 ?_
        refine lv_sipush (v := 256) hx hb dX8_readsDelay_73 (by decide) ?_
        refine lv_iload_n hx hb dX8_readsDelay_76 rfl (lv_at hl 2 rfl) ?_
        refine lv_iadd hx hb dX8_readsDelay_77 ?_
        obtain ⟨g_13, hf⟩ := gk_s hf
        refine va_iald hx hb hK hP 3 0 rfl rfl g_13 dX8_readsDelay_78 ?_
        exact KJ_60 (m_read (256 + m_value_3).toNatClampNeg) (Option.some.inj hf) H locs _ hP hD hS (lv_sub hl [3, 2, 0] rfl)
      · have hf := ite_f c_14 hf
        refine lv_iload_n hx hb dX8_readsDelay_63 rfl (lv_at hl 1 rfl) ?_
        refine lv_iconst (v := 1) hx hb dX8_readsDelay_64 (by decide) ?_
        refine lv_iadd hx hb dX8_readsDelay_65 ?_
        refine lv_goto (tgt := 79) hx hb dX8_readsDelay_66 (by decide) ?_
        exact KJ_60 (m_value_7 + 1) (Option.some.inj hf) H locs _ hP hD hS (lv_sub hl [3, 2, 0] rfl)
    · have hf := ite_t c_23 hf
      refine lv_iconst (v := 0) hx hb dX8_readsDelay_32 (by decide) ?_
      exact hret H locs ls 33 0 (m_value_7, m_ends_8, m_read) dX8_readsDelay_33 (by decide) (Option.some.inj hf) hP hD hS
  · have hf := ite_t c_24 hf
    refine lv_iconst (v := 0) hx hb dX8_readsDelay_15 (by decide) ?_
    exact hret H locs ls 16 0 (m_value_3, m_ends_4, m_read) dX8_readsDelay_16 (by decide) (Option.some.inj hf) hP hD hS
abbrev rm_Mo_readsRule : Room := { frames := 3, cells := 0, slots := 0, locals := 67 }
theorem hd_Mo_readsRule : hdOK yX8_readsRule 1 := by decide +kernel
theorem in_X8_readsRule_X8 : ∀ w ∈ wsX80, w ∈ wsX8_readsRule := by decide +kernel
set_option maxRecDepth 100000 in
set_option maxHeartbeats 4000000 in
theorem c_Mo_readsRule (l : Launch) (E : En4) (m0 m1 m2 m3 m4 m5 m6 m7 m8 m9 m10 m11 : Nat) (sz : Nat) (m_length : Int32) (m_places : Int32) (m_most : Int32) (m_tenths : Int32) (m_changes : Int32) (m_readPlaces : Int32) (m_value : Int32) (m_ends : Int32) (m_clusters : Int32) (m_text : Nat → Int32) (m_now : Nat → Int32) (m_read : Nat → Int32) (m_was : Nat → Int32) (m_readRule : Nat → Int32) (m_dist : Nat → Int32) (m_delays : Nat → Int32) (m_fractions : Nat → Int32) (m_head : Nat → Int32) (m_hour : Nat → Int32) (m_number : Nat → Int32) (a1 : Int32)  (res : Int32 × Int32 × Int32 × (Nat → Int32)) (hf : Mo_readsRule m_length m_value m_ends m_text m_readRule a1 = some res) : Met l yX8_readsRule wsX8_readsRule rm_Mo_readsRule (pcM [.ref m0, .int a1] E sz (w_Mo E m0 m1 m2 m3 m4 m5 m6 m7 m8 m9 m10 m11 m_length m_places m_most m_tenths m_changes m_readPlaces m_value m_ends m_clusters m_text m_now m_read m_was m_readRule m_dist m_delays m_fractions m_head m_hour m_number)) (QMi E sz (w_Mo E m0 m1 m2 m3 m4 m5 m6 m7 m8 m9 m10 m11 m_length m_places m_most m_tenths m_changes m_readPlaces m_value m_ends m_clusters m_text m_now m_read m_was m_readRule m_dist m_delays m_fractions m_head m_hour m_number) (fun (u : Int32 × Int32 × (Nat → Int32)) => (w_Mo E m0 m1 m2 m3 m4 m5 m6 m7 m8 m9 m10 m11 m_length m_places m_most m_tenths m_changes m_readPlaces u.1 u.2.1 m_clusters m_text m_now m_read m_was u.2.2 m_dist m_delays m_fractions m_head m_hour m_number)) res) 0 0 (va_A (w_Mo E m0 m1 m2 m3 m4 m5 m6 m7 m8 m9 m10 m11 m_length m_places m_most m_tenths m_changes m_readPlaces m_value m_ends m_clusters m_text m_now m_read m_was m_readRule m_dist m_delays m_fractions m_head m_hour m_number) sz) := by
  refine mk_Mz (cc := cX8_readsRule) (maxL := 3) (by decide) rfl (Nat.le_of_ble_eq_true rfl) ?_
  intro p e s m args below meth c Q A S hKN hA hret H locs ls hP hD hS hl
  obtain ⟨hx, hb, hml, hown, hts⟩ := S
  obtain ⟨hK, hN⟩ := hKN
  have hl : lv_has ls 3 [(0, .ref m0), (1, .int a1)] := hl
  have q_0 := hts (.fieldLink RX8 22 "DelayClustersModel" "readRule" "[I") (by decide +kernel)
  have q_1 := hts (.fieldLink RX8 72 "DelayClustersModel" "value" "I") (by decide +kernel)
  unfold Mo_readsRule at hf
  refine lv_aload_n hx hb dX8_readsRule_0 rfl (lv_at hl 0 rfl) ?_
  refine lv_iload_n hx hb dX8_readsRule_1 rfl (lv_at hl 1 rfl) ?_
  refine lv_iconst (v := 1) hx hb dX8_readsRule_2 (by decide) ?_
  refine lv_bipush (v := 30) hx hb dX8_readsRule_3 (by decide) ?_
  obtain ⟨⟨r_2, m_value_3, m_ends_4⟩, h_1, hf⟩ := bd_s hf
  try dsimp only at hf
  refine ca_Mi (w2 := (w_Mo E m0 m1 m2 m3 m4 m5 m6 m7 m8 m9 m10 m11 m_length m_places m_most m_tenths m_changes m_readPlaces m_value_3 m_ends_4 m_clusters m_text m_now m_read m_was m_readRule m_dist m_delays m_fractions m_head m_hour m_number)) (As := [.int a1, .int 1, .int 30]) (rest := []) ⟨hx, hb, hml, hown, hts⟩ ⟨hK, hN⟩ hP hD hS hA (c_Mo_number l E m0 m1 m2 m3 m4 m5 m6 m7 m8 m9 m10 m11 H.size m_length m_places m_most m_tenths m_changes m_readPlaces m_value m_ends m_clusters m_text m_now m_read m_was m_readRule m_dist m_delays m_fractions m_head m_hour m_number a1 1 30 (r_2, m_value_3, m_ends_4) h_1) [0, 1, 2, 3, 4, 5, 6, 7, 8, 9, 10, 11] [] [0, 1, 2, 3, 4, 5, 6, 7, 8, 9, 10, 11] rfl rfl rfl rfl (by decide) rfl rfl 8 0 rfl rfl rfl gX8_readsRule_X8_number rfl rfl rfl rfl hd_Mo_number ⟨(Nat.le_of_ble_eq_true rfl), (Nat.le_of_ble_eq_true rfl)⟩ rfl hl.1 rfl (Nat.le_of_ble_eq_true rfl) dX8_readsRule_5 ⟨(Nat.zero_le _), (Nat.zero_le _)⟩ (fun H locs hP hD hS => ?_)
  refine lv_if_ne (tgt := 13) hx hb dX8_readsRule_8 (by decide) (fun c_10 => ?_) (fun c_10 => ?_)
  · have hf := ite_f c_10 hf
    refine lv_aload_n hx hb dX8_readsRule_13 rfl (lv_at hl 0 rfl) ?_
    refine va_get (D := E.1) (ci := 8) (v := .ref m5) (C := RX8) (T := TX8) (N := 20) hx hb hts in_X8_readsRule_X8 hown hK hP 0 rfl rfl 10 (by decide) q_0 (fun _ h9 => h9) rfl dX8_readsRule_14 ?_
    refine lv_iconst (v := 0) hx hb dX8_readsRule_17 (by decide) ?_
    refine lv_aload_n hx hb dX8_readsRule_18 rfl (lv_at hl 0 rfl) ?_
    refine va_get (D := E.1) (ci := 8) (v := .int m_value_3) (C := RX8) (T := TX8) (N := 20) hx hb hts in_X8_readsRule_X8 hown hK hP 0 rfl rfl 11 (by decide) q_1 (fun _ h9 => h9) rfl dX8_readsRule_19 ?_
    refine va_iast hx hb hK hP hD hS 5 0 rfl rfl (ck_in (by decide)) dX8_readsRule_22 (fun H locs hP hD hS => ?_)
    have hP : va_P E.1 vwCl (w_Mo E m0 m1 m2 m3 m4 m5 m6 m7 m8 m9 m10 m11 m_length m_places m_most m_tenths m_changes m_readPlaces m_value_3 m_ends_4 m_clusters m_text m_now m_read m_was (upd m_readRule (0 : Int32).toNatClampNeg m_value_3) m_dist m_delays m_fractions m_head m_hour m_number) H := hP
    have hD : va_D A (w_Mo E m0 m1 m2 m3 m4 m5 m6 m7 m8 m9 m10 m11 m_length m_places m_most m_tenths m_changes m_readPlaces m_value_3 m_ends_4 m_clusters m_text m_now m_read m_was (upd m_readRule (0 : Int32).toNatClampNeg m_value_3) m_dist m_delays m_fractions m_head m_hour m_number) := hD
    refine lv_aload_n hx hb dX8_readsRule_23 rfl (lv_at hl 0 rfl) ?_
    refine lv_iconst (v := 0) hx hb dX8_readsRule_24 (by decide) ?_
    refine lv_bipush (v := 10) hx hb dX8_readsRule_25 (by decide) ?_
    obtain ⟨⟨r_6, m_value_7, m_ends_8⟩, h_5, hf⟩ := bd_s hf
    try dsimp only at hf
    refine ca_Mi (w2 := (w_Mo E m0 m1 m2 m3 m4 m5 m6 m7 m8 m9 m10 m11 m_length m_places m_most m_tenths m_changes m_readPlaces m_value_7 m_ends_8 m_clusters m_text m_now m_read m_was (upd m_readRule (0 : Int32).toNatClampNeg m_value_3) m_dist m_delays m_fractions m_head m_hour m_number)) (As := [.int 0, .int 10]) (rest := []) ⟨hx, hb, hml, hown, hts⟩ ⟨hK, hN⟩ hP hD hS hA (c_Mo_more l E m0 m1 m2 m3 m4 m5 m6 m7 m8 m9 m10 m11 H.size m_length m_places m_most m_tenths m_changes m_readPlaces m_value_3 m_ends_4 m_clusters m_text m_now m_read m_was (upd m_readRule (0 : Int32).toNatClampNeg m_value_3) m_dist m_delays m_fractions m_head m_hour m_number 0 10 (r_6, m_value_7, m_ends_8) h_5) [0, 1, 2, 3, 4, 5, 6, 7, 8, 9, 10, 11] [] [0, 1, 2, 3, 4, 5, 6, 7, 8, 9, 10, 11] rfl rfl rfl rfl (by decide) rfl rfl 8 0 rfl rfl rfl gX8_readsRule_X8_more rfl rfl rfl rfl hd_Mo_more ⟨(Nat.le_of_ble_eq_true rfl), (Nat.le_of_ble_eq_true rfl)⟩ rfl hl.1 rfl (Nat.le_of_ble_eq_true rfl) dX8_readsRule_27 ⟨(Nat.zero_le _), (Nat.zero_le _)⟩ (fun H locs hP hD hS => ?_)
    refine lv_istore_n (lv' := [(2, .int r_6), (0, .ref m0), (1, .int a1)]) hx hb dX8_readsRule_30 rfl hl (by decide) rfl (fun ls hl => ?_)
    refine lv_aload_n hx hb dX8_readsRule_31 rfl (lv_at hl 1 rfl) ?_
    refine va_get (D := E.1) (ci := 8) (v := .ref m5) (C := RX8) (T := TX8) (N := 20) hx hb hts in_X8_readsRule_X8 hown hK hP 0 rfl rfl 10 (by decide) q_0 (fun _ h9 => h9) rfl dX8_readsRule_32 ?_
    refine lv_iconst (v := 1) hx hb dX8_readsRule_35 (by decide) ?_
    refine lv_aload_n hx hb dX8_readsRule_36 rfl (lv_at hl 1 rfl) ?_
    refine va_get (D := E.1) (ci := 8) (v := .int m_value_7) (C := RX8) (T := TX8) (N := 20) hx hb hts in_X8_readsRule_X8 hown hK hP 0 rfl rfl 11 (by decide) q_1 (fun _ h9 => h9) rfl dX8_readsRule_37 ?_
    refine va_iast hx hb hK hP hD hS 5 0 rfl rfl (ck_in (by decide)) dX8_readsRule_40 (fun H locs hP hD hS => ?_)
    have hP : va_P E.1 vwCl (w_Mo E m0 m1 m2 m3 m4 m5 m6 m7 m8 m9 m10 m11 m_length m_places m_most m_tenths m_changes m_readPlaces m_value_7 m_ends_8 m_clusters m_text m_now m_read m_was (upd (upd m_readRule (0 : Int32).toNatClampNeg m_value_3) (1 : Int32).toNatClampNeg m_value_7) m_dist m_delays m_fractions m_head m_hour m_number) H := hP
    have hD : va_D A (w_Mo E m0 m1 m2 m3 m4 m5 m6 m7 m8 m9 m10 m11 m_length m_places m_most m_tenths m_changes m_readPlaces m_value_7 m_ends_8 m_clusters m_text m_now m_read m_was (upd (upd m_readRule (0 : Int32).toNatClampNeg m_value_3) (1 : Int32).toNatClampNeg m_value_7) m_dist m_delays m_fractions m_head m_hour m_number) := hD
    refine lv_iload_n hx hb dX8_readsRule_41 rfl (lv_at hl 0 rfl) ?_
    obtain ⟨g_9, hf⟩ := gb_s hf
    exact hret H locs ls 42 r_6 (m_value_7, m_ends_8, (upd (upd m_readRule (0 : Int32).toNatClampNeg m_value_3) (1 : Int32).toNatClampNeg m_value_7)) dX8_readsRule_42 g_9 (Option.some.inj hf) hP hD hS
  · have hf := ite_t c_10 hf
    refine lv_iconst (v := 0) hx hb dX8_readsRule_11 (by decide) ?_
    exact hret H locs ls 12 0 (m_value_3, m_ends_4, m_readRule) dX8_readsRule_12 (by decide) (Option.some.inj hf) hP hD hS
abbrev rm_Mo_readsItem : Room := { frames := 4, cells := 0, slots := 0, locals := 91 }
theorem hd_Mo_readsItem : hdOK yX8_readsItem 3 := by decide +kernel
theorem in_X8_readsItem_X8 : ∀ w ∈ wsX80, w ∈ wsX8_readsItem := by decide +kernel
set_option maxRecDepth 100000 in
set_option maxHeartbeats 4000000 in
theorem c_Mo_readsItem (l : Launch) (E : En4) (m0 m1 m2 m3 m4 m5 m6 m7 m8 m9 m10 m11 : Nat) (sz : Nat) (m_length : Int32) (m_places : Int32) (m_most : Int32) (m_tenths : Int32) (m_changes : Int32) (m_readPlaces : Int32) (m_value : Int32) (m_ends : Int32) (m_clusters : Int32) (m_text : Nat → Int32) (m_now : Nat → Int32) (m_read : Nat → Int32) (m_was : Nat → Int32) (m_readRule : Nat → Int32) (m_dist : Nat → Int32) (m_delays : Nat → Int32) (m_fractions : Nat → Int32) (m_head : Nat → Int32) (m_hour : Nat → Int32) (m_number : Nat → Int32) (a1 : Int32) (a2 : Int32) (a3 : Int32)  (res : Int32 × Int32 × Int32 × Int32 × (Nat → Int32) × (Nat → Int32)) (hf : Mo_readsItem m_length m_readPlaces m_value m_ends m_text m_read m_readRule a1 a2 a3 = some res) : Met l yX8_readsItem wsX8_readsItem rm_Mo_readsItem (pcM [.ref m0, .int a1, .int a2, .int a3] E sz (w_Mo E m0 m1 m2 m3 m4 m5 m6 m7 m8 m9 m10 m11 m_length m_places m_most m_tenths m_changes m_readPlaces m_value m_ends m_clusters m_text m_now m_read m_was m_readRule m_dist m_delays m_fractions m_head m_hour m_number)) (QMi E sz (w_Mo E m0 m1 m2 m3 m4 m5 m6 m7 m8 m9 m10 m11 m_length m_places m_most m_tenths m_changes m_readPlaces m_value m_ends m_clusters m_text m_now m_read m_was m_readRule m_dist m_delays m_fractions m_head m_hour m_number) (fun (u : Int32 × Int32 × Int32 × (Nat → Int32) × (Nat → Int32)) => (w_Mo E m0 m1 m2 m3 m4 m5 m6 m7 m8 m9 m10 m11 m_length m_places m_most m_tenths m_changes u.1 u.2.1 u.2.2.1 m_clusters m_text m_now u.2.2.2.1 m_was u.2.2.2.2 m_dist m_delays m_fractions m_head m_hour m_number)) res) 0 0 (va_A (w_Mo E m0 m1 m2 m3 m4 m5 m6 m7 m8 m9 m10 m11 m_length m_places m_most m_tenths m_changes m_readPlaces m_value m_ends m_clusters m_text m_now m_read m_was m_readRule m_dist m_delays m_fractions m_head m_hour m_number) sz) := by
  refine mk_Mz (cc := cX8_readsItem) (maxL := 6) (by decide) rfl (Nat.le_of_ble_eq_true rfl) ?_
  intro p e s m args below meth c Q A S hKN hA hret H locs ls hP hD hS hl
  obtain ⟨hx, hb, hml, hown, hts⟩ := S
  obtain ⟨hK, hN⟩ := hKN
  have hl : lv_has ls 6 [(0, .ref m0), (1, .int a1), (2, .int a2), (3, .int a3)] := hl
  have q_0 := hts (.fieldLink RX8 46 "DelayClustersModel" "readPlaces" "I") (by decide +kernel)
  have q_1 := hts (.fieldLink RX8 72 "DelayClustersModel" "value" "I") (by decide +kernel)
  have q_2 := hts (.fieldLink RX8 16 "DelayClustersModel" "read" "[I") (by decide +kernel)
  unfold Mo_readsItem at hf
  refine lv_iload_n hx hb dX8_readsItem_0 rfl (lv_at hl 3 rfl) ?_
  refine lv_iload_n hx hb dX8_readsItem_1 rfl (lv_at hl 1 rfl) ?_
  refine lv_bipush (v := 110) hx hb dX8_readsItem_2 (by decide) ?_
  obtain ⟨j_4, b_4, hf⟩ := bd_s hf
  have KJ_4 : ∀ (t_2 : Int32), t_2 = j_4 → ∀ (H : Heap) (locs : List Loc) (ls : Array Slot), va_P E.1 vwCl (w_Mo E m0 m1 m2 m3 m4 m5 m6 m7 m8 m9 m10 m11 m_length m_places m_most m_tenths m_changes m_readPlaces m_value m_ends m_clusters m_text m_now m_read m_was m_readRule m_dist m_delays m_fractions m_head m_hour m_number) H → va_D A (w_Mo E m0 m1 m2 m3 m4 m5 m6 m7 m8 m9 m10 m11 m_length m_places m_most m_tenths m_changes m_readPlaces m_value m_ends m_clusters m_text m_now m_read m_was m_readRule m_dist m_delays m_fractions m_head m_hour m_number) → va_S A s.heap H locs → lv_has ls 6 [(0, .ref m0), (1, .int a1), (2, .int a2)] → W p l e rm_Mo_readsItem s m args below meth c H locs 0 0 Q (F0 m 12 ls [.int t_2, .int a3]) := by
    intro t_2 e_
    subst e_
    try dsimp only at hf
    intro H locs ls hP hD hS hl
    refine lv_icmp_eq (tgt := 17) hx hb dX8_readsItem_12 (by decide) (fun c_38 => ?_) (fun c_38 => ?_)
    · have hf := ite_t c_38 hf
      refine lv_iload_n hx hb dX8_readsItem_17 rfl (lv_at hl 1 rfl) ?_
      by_cases c_9 : a1 = 100
      · have hf := ite_t c_9 hf
        refine lv_lookup (off := 86) (tgt := 104) hx hb dX8_readsItem_18 (by decide) (by rw [c_9]; rfl) (by decide) ?_
        refine lv_aload_n hx hb dX8_readsItem_104 rfl (lv_at hl 0 rfl) ?_
        refine lv_iload_n hx hb dX8_readsItem_105 rfl (lv_at hl 2 rfl) ?_
        obtain ⟨⟨r_4, m_value_5, m_ends_6, m_read_7⟩, h_3, hf⟩ := bd_s hf
        try dsimp only at hf
        refine ca_Mi (w2 := (w_Mo E m0 m1 m2 m3 m4 m5 m6 m7 m8 m9 m10 m11 m_length m_places m_most m_tenths m_changes m_readPlaces m_value_5 m_ends_6 m_clusters m_text m_now m_read_7 m_was m_readRule m_dist m_delays m_fractions m_head m_hour m_number)) (As := [.int a2]) (rest := []) ⟨hx, hb, hml, hown, hts⟩ ⟨hK, hN⟩ hP hD hS hA (c_Mo_readsDelay l E m0 m1 m2 m3 m4 m5 m6 m7 m8 m9 m10 m11 H.size m_length m_places m_most m_tenths m_changes m_readPlaces m_value m_ends m_clusters m_text m_now m_read m_was m_readRule m_dist m_delays m_fractions m_head m_hour m_number a2 (r_4, m_value_5, m_ends_6, m_read_7) h_3) [0, 1, 2, 3, 4, 5, 6, 7, 8, 9, 10, 11] [] [0, 1, 2, 3, 4, 5, 6, 7, 8, 9, 10, 11] rfl rfl rfl rfl (by decide) rfl rfl 8 0 rfl rfl rfl gX8_readsItem_X8_readsDelay rfl rfl rfl rfl hd_Mo_readsDelay ⟨(Nat.le_of_ble_eq_true rfl), (Nat.le_of_ble_eq_true rfl)⟩ rfl hl.1 rfl (Nat.le_of_ble_eq_true rfl) dX8_readsItem_106 ⟨(Nat.zero_le _), (Nat.zero_le _)⟩ (fun H locs hP hD hS => ?_)
        obtain ⟨g_8, hf⟩ := gb_s hf
        exact hret H locs ls 109 r_4 (m_readPlaces, m_value_5, m_ends_6, m_read_7, m_readRule) dX8_readsItem_109 g_8 (Option.some.inj hf) hP hD hS
      · have hf := ite_f c_9 hf
        by_cases c_16 : a1 = 108
        · have hf := ite_t c_16 hf
          refine lv_lookup (off := 80) (tgt := 98) hx hb dX8_readsItem_18 (by decide) (by rw [c_16]; rfl) (by decide) ?_
          refine lv_aload_n hx hb dX8_readsItem_98 rfl (lv_at hl 0 rfl) ?_
          refine lv_iload_n hx hb dX8_readsItem_99 rfl (lv_at hl 2 rfl) ?_
          obtain ⟨⟨r_11, m_value_12, m_ends_13, m_read_14⟩, h_10, hf⟩ := bd_s hf
          try dsimp only at hf
          refine ca_Mi (w2 := (w_Mo E m0 m1 m2 m3 m4 m5 m6 m7 m8 m9 m10 m11 m_length m_places m_most m_tenths m_changes m_readPlaces m_value_12 m_ends_13 m_clusters m_text m_now m_read_14 m_was m_readRule m_dist m_delays m_fractions m_head m_hour m_number)) (As := [.int a2]) (rest := []) ⟨hx, hb, hml, hown, hts⟩ ⟨hK, hN⟩ hP hD hS hA (c_Mo_readsLink l E m0 m1 m2 m3 m4 m5 m6 m7 m8 m9 m10 m11 H.size m_length m_places m_most m_tenths m_changes m_readPlaces m_value m_ends m_clusters m_text m_now m_read m_was m_readRule m_dist m_delays m_fractions m_head m_hour m_number a2 (r_11, m_value_12, m_ends_13, m_read_14) h_10) [0, 1, 2, 3, 4, 5, 6, 7, 8, 9, 10, 11] [] [0, 1, 2, 3, 4, 5, 6, 7, 8, 9, 10, 11] rfl rfl rfl rfl (by decide) rfl rfl 8 0 rfl rfl rfl gX8_readsItem_X8_readsLink rfl rfl rfl rfl hd_Mo_readsLink ⟨(Nat.le_of_ble_eq_true rfl), (Nat.le_of_ble_eq_true rfl)⟩ rfl hl.1 rfl (Nat.le_of_ble_eq_true rfl) dX8_readsItem_100 ⟨(Nat.zero_le _), (Nat.zero_le _)⟩ (fun H locs hP hD hS => ?_)
          obtain ⟨g_15, hf⟩ := gb_s hf
          exact hret H locs ls 103 r_11 (m_readPlaces, m_value_12, m_ends_13, m_read_14, m_readRule) dX8_readsItem_103 g_15 (Option.some.inj hf) hP hD hS
        · have hf := ite_f c_16 hf
          by_cases c_23 : a1 = 109
          · have hf := ite_t c_23 hf
            refine lv_lookup (off := 92) (tgt := 110) hx hb dX8_readsItem_18 (by decide) (by rw [c_23]; rfl) (by decide) ?_
            refine lv_aload_n hx hb dX8_readsItem_110 rfl (lv_at hl 0 rfl) ?_
            refine lv_iload_n hx hb dX8_readsItem_111 rfl (lv_at hl 2 rfl) ?_
            obtain ⟨⟨r_18, m_value_19, m_ends_20, m_readRule_21⟩, h_17, hf⟩ := bd_s hf
            try dsimp only at hf
            refine ca_Mi (w2 := (w_Mo E m0 m1 m2 m3 m4 m5 m6 m7 m8 m9 m10 m11 m_length m_places m_most m_tenths m_changes m_readPlaces m_value_19 m_ends_20 m_clusters m_text m_now m_read m_was m_readRule_21 m_dist m_delays m_fractions m_head m_hour m_number)) (As := [.int a2]) (rest := []) ⟨hx, hb, hml, hown, hts⟩ ⟨hK, hN⟩ hP hD hS hA (c_Mo_readsRule l E m0 m1 m2 m3 m4 m5 m6 m7 m8 m9 m10 m11 H.size m_length m_places m_most m_tenths m_changes m_readPlaces m_value m_ends m_clusters m_text m_now m_read m_was m_readRule m_dist m_delays m_fractions m_head m_hour m_number a2 (r_18, m_value_19, m_ends_20, m_readRule_21) h_17) [0, 1, 2, 3, 4, 5, 6, 7, 8, 9, 10, 11] [] [0, 1, 2, 3, 4, 5, 6, 7, 8, 9, 10, 11] rfl rfl rfl rfl (by decide) rfl rfl 8 0 rfl rfl rfl gX8_readsItem_X8_readsRule rfl rfl rfl rfl hd_Mo_readsRule ⟨(Nat.le_of_ble_eq_true rfl), (Nat.le_of_ble_eq_true rfl)⟩ rfl hl.1 rfl (Nat.le_of_ble_eq_true rfl) dX8_readsItem_112 ⟨(Nat.zero_le _), (Nat.zero_le _)⟩ (fun H locs hP hD hS => ?_)
            obtain ⟨g_22, hf⟩ := gb_s hf
            exact hret H locs ls 115 r_18 (m_readPlaces, m_value_19, m_ends_20, m_read, m_readRule_21) dX8_readsItem_115 g_22 (Option.some.inj hf) hP hD hS
          · have hf := ite_f c_23 hf
            by_cases c_31 : a1 = 110
            · have hf := ite_t c_31 hf
              refine lv_lookup (off := 50) (tgt := 68) hx hb dX8_readsItem_18 (by decide) (by rw [c_31]; rfl) (by decide) ?_
              refine lv_aload_n hx hb dX8_readsItem_68 rfl (lv_at hl 0 rfl) ?_
              refine lv_iload_n hx hb dX8_readsItem_69 rfl (lv_at hl 2 rfl) ?_
              refine lv_iconst (v := 1) hx hb dX8_readsItem_70 (by decide) ?_
              refine lv_bipush (v := 16) hx hb dX8_readsItem_71 (by decide) ?_
              obtain ⟨⟨r_25, m_value_26, m_ends_27⟩, h_24, hf⟩ := bd_s hf
              try dsimp only at hf
              refine ca_Mi (w2 := (w_Mo E m0 m1 m2 m3 m4 m5 m6 m7 m8 m9 m10 m11 m_length m_places m_most m_tenths m_changes m_readPlaces m_value_26 m_ends_27 m_clusters m_text m_now m_read m_was m_readRule m_dist m_delays m_fractions m_head m_hour m_number)) (As := [.int a2, .int 1, .int 16]) (rest := []) ⟨hx, hb, hml, hown, hts⟩ ⟨hK, hN⟩ hP hD hS hA (c_Mo_number l E m0 m1 m2 m3 m4 m5 m6 m7 m8 m9 m10 m11 H.size m_length m_places m_most m_tenths m_changes m_readPlaces m_value m_ends m_clusters m_text m_now m_read m_was m_readRule m_dist m_delays m_fractions m_head m_hour m_number a2 1 16 (r_25, m_value_26, m_ends_27) h_24) [0, 1, 2, 3, 4, 5, 6, 7, 8, 9, 10, 11] [] [0, 1, 2, 3, 4, 5, 6, 7, 8, 9, 10, 11] rfl rfl rfl rfl (by decide) rfl rfl 8 0 rfl rfl rfl gX8_readsItem_X8_number rfl rfl rfl rfl hd_Mo_number ⟨(Nat.le_of_ble_eq_true rfl), (Nat.le_of_ble_eq_true rfl)⟩ rfl hl.1 rfl (Nat.le_of_ble_eq_true rfl) dX8_readsItem_73 ⟨(Nat.zero_le _), (Nat.zero_le _)⟩ (fun H locs hP hD hS => ?_)
              refine lv_istore (lv' := [(4, .int r_25), (0, .ref m0), (1, .int a1), (2, .int a2)]) hx hb dX8_readsItem_76 hl (by decide) rfl (fun ls hl => ?_)
              refine lv_aload_n hx hb dX8_readsItem_78 rfl (lv_at hl 1 rfl) ?_
              refine lv_iload hx hb dX8_readsItem_79 (lv_at hl 0 rfl) ?_
              refine lv_if_eq (tgt := 91) hx hb dX8_readsItem_81 (by decide) (fun c_30 => ?_) (fun c_30 => ?_)
              · have hf := ite_t c_30 hf
                refine lv_iconst (v := 0) hx hb dX8_readsItem_91 (by decide) ?_
                refine va_put (D := E.1) (ci := 8) (v := .int 0) (ty := .int) (C := RX8) (T := TX8) (N := 20) hx hb hts in_X8_readsItem_X8 tyX8 tyX8_ok nmX8 hown hK hP hD hS 0 rfl rfl 9 (by decide) q_0 (fun _ h9 => h9) rfl (by decide +kernel) rfl rfl (Nat.le_of_ble_eq_true rfl) dX8_readsItem_92 (fun H locs hP hD hS => ?_)
                have hP : va_P E.1 vwCl (w_Mo E m0 m1 m2 m3 m4 m5 m6 m7 m8 m9 m10 m11 m_length m_places m_most m_tenths m_changes 0 m_value_26 m_ends_27 m_clusters m_text m_now m_read m_was m_readRule m_dist m_delays m_fractions m_head m_hour m_number) H := hP
                have hD : va_D A (w_Mo E m0 m1 m2 m3 m4 m5 m6 m7 m8 m9 m10 m11 m_length m_places m_most m_tenths m_changes 0 m_value_26 m_ends_27 m_clusters m_text m_now m_read m_was m_readRule m_dist m_delays m_fractions m_head m_hour m_number) := hD
                refine lv_iload hx hb dX8_readsItem_95 (lv_at hl 0 rfl) ?_
                obtain ⟨g_28, hf⟩ := gb_s hf
                exact hret H locs ls 97 r_25 (0, m_value_26, m_ends_27, m_read, m_readRule) dX8_readsItem_97 g_28 (Option.some.inj hf) hP hD hS
              · have hf := ite_f c_30 hf
                refine lv_aload_n hx hb dX8_readsItem_84 rfl (lv_at hl 1 rfl) ?_
                refine va_get (D := E.1) (ci := 8) (v := .int m_value_26) (C := RX8) (T := TX8) (N := 20) hx hb hts in_X8_readsItem_X8 hown hK hP 0 rfl rfl 11 (by decide) q_1 (fun _ h9 => h9) rfl dX8_readsItem_85 ?_
                refine lv_goto (tgt := 92) hx hb dX8_readsItem_88 (by decide) ?_
                refine va_put (D := E.1) (ci := 8) (v := .int m_value_26) (ty := .int) (C := RX8) (T := TX8) (N := 20) hx hb hts in_X8_readsItem_X8 tyX8 tyX8_ok nmX8 hown hK hP hD hS 0 rfl rfl 9 (by decide) q_0 (fun _ h9 => h9) rfl (by decide +kernel) rfl rfl (Nat.le_of_ble_eq_true rfl) dX8_readsItem_92 (fun H locs hP hD hS => ?_)
                have hP : va_P E.1 vwCl (w_Mo E m0 m1 m2 m3 m4 m5 m6 m7 m8 m9 m10 m11 m_length m_places m_most m_tenths m_changes m_value_26 m_value_26 m_ends_27 m_clusters m_text m_now m_read m_was m_readRule m_dist m_delays m_fractions m_head m_hour m_number) H := hP
                have hD : va_D A (w_Mo E m0 m1 m2 m3 m4 m5 m6 m7 m8 m9 m10 m11 m_length m_places m_most m_tenths m_changes m_value_26 m_value_26 m_ends_27 m_clusters m_text m_now m_read m_was m_readRule m_dist m_delays m_fractions m_head m_hour m_number) := hD
                refine lv_iload hx hb dX8_readsItem_95 (lv_at hl 0 rfl) ?_
                obtain ⟨g_29, hf⟩ := gb_s hf
                exact hret H locs ls 97 r_25 (m_value_26, m_value_26, m_ends_27, m_read, m_readRule) dX8_readsItem_97 g_29 (Option.some.inj hf) hP hD hS
            · have hf := ite_f c_31 hf
              by_cases c_37 : a1 = 122
              · have hf := ite_t c_37 hf
                refine lv_lookup (off := 98) (tgt := 116) hx hb dX8_readsItem_18 (by decide) (by rw [c_37]; rfl) (by decide) ?_
                refine lv_aload_n hx hb dX8_readsItem_116 rfl (lv_at hl 0 rfl) ?_
                refine lv_iload_n hx hb dX8_readsItem_117 rfl (lv_at hl 2 rfl) ?_
                refine lv_iconst (v := 0) hx hb dX8_readsItem_118 (by decide) ?_
                refine lv_sipush (v := 9999) hx hb dX8_readsItem_119 (by decide) ?_
                obtain ⟨⟨r_33, m_value_34, m_ends_35⟩, h_32, hf⟩ := bd_s hf
                try dsimp only at hf
                refine ca_Mi (w2 := (w_Mo E m0 m1 m2 m3 m4 m5 m6 m7 m8 m9 m10 m11 m_length m_places m_most m_tenths m_changes m_readPlaces m_value_34 m_ends_35 m_clusters m_text m_now m_read m_was m_readRule m_dist m_delays m_fractions m_head m_hour m_number)) (As := [.int a2, .int 0, .int 9999]) (rest := []) ⟨hx, hb, hml, hown, hts⟩ ⟨hK, hN⟩ hP hD hS hA (c_Mo_number l E m0 m1 m2 m3 m4 m5 m6 m7 m8 m9 m10 m11 H.size m_length m_places m_most m_tenths m_changes m_readPlaces m_value m_ends m_clusters m_text m_now m_read m_was m_readRule m_dist m_delays m_fractions m_head m_hour m_number a2 0 9999 (r_33, m_value_34, m_ends_35) h_32) [0, 1, 2, 3, 4, 5, 6, 7, 8, 9, 10, 11] [] [0, 1, 2, 3, 4, 5, 6, 7, 8, 9, 10, 11] rfl rfl rfl rfl (by decide) rfl rfl 8 0 rfl rfl rfl gX8_readsItem_X8_number rfl rfl rfl rfl hd_Mo_number ⟨(Nat.le_of_ble_eq_true rfl), (Nat.le_of_ble_eq_true rfl)⟩ rfl hl.1 rfl (Nat.le_of_ble_eq_true rfl) dX8_readsItem_122 ⟨(Nat.zero_le _), (Nat.zero_le _)⟩ (fun H locs hP hD hS => ?_)
                refine lv_istore (lv' := [(5, .int r_33), (0, .ref m0), (1, .int a1), (2, .int a2)]) hx hb dX8_readsItem_125 hl (by decide) rfl (fun ls hl => ?_)
                refine lv_aload_n hx hb dX8_readsItem_127 rfl (lv_at hl 1 rfl) ?_
                refine va_get (D := E.1) (ci := 8) (v := .ref m3) (C := RX8) (T := TX8) (N := 20) hx hb hts in_X8_readsItem_X8 hown hK hP 0 rfl rfl 6 (by decide) q_2 (fun _ h9 => h9) rfl dX8_readsItem_128 ?_
                refine lv_sipush (v := 288) hx hb dX8_readsItem_131 (by decide) ?_
                refine lv_aload_n hx hb dX8_readsItem_134 rfl (lv_at hl 1 rfl) ?_
                refine va_get (D := E.1) (ci := 8) (v := .int m_value_34) (C := RX8) (T := TX8) (N := 20) hx hb hts in_X8_readsItem_X8 hown hK hP 0 rfl rfl 11 (by decide) q_1 (fun _ h9 => h9) rfl dX8_readsItem_135 ?_
                refine va_iast hx hb hK hP hD hS 3 0 rfl rfl (ck_in (by decide)) dX8_readsItem_138 (fun H locs hP hD hS => ?_)
                have hP : va_P E.1 vwCl (w_Mo E m0 m1 m2 m3 m4 m5 m6 m7 m8 m9 m10 m11 m_length m_places m_most m_tenths m_changes m_readPlaces m_value_34 m_ends_35 m_clusters m_text m_now (upd m_read (288 : Int32).toNatClampNeg m_value_34) m_was m_readRule m_dist m_delays m_fractions m_head m_hour m_number) H := hP
                have hD : va_D A (w_Mo E m0 m1 m2 m3 m4 m5 m6 m7 m8 m9 m10 m11 m_length m_places m_most m_tenths m_changes m_readPlaces m_value_34 m_ends_35 m_clusters m_text m_now (upd m_read (288 : Int32).toNatClampNeg m_value_34) m_was m_readRule m_dist m_delays m_fractions m_head m_hour m_number) := hD
                refine lv_iload hx hb dX8_readsItem_139 (lv_at hl 0 rfl) ?_
                obtain ⟨g_36, hf⟩ := gb_s hf
                exact hret H locs ls 141 r_33 (m_readPlaces, m_value_34, m_ends_35, (upd m_read (288 : Int32).toNatClampNeg m_value_34), m_readRule) dX8_readsItem_141 g_36 (Option.some.inj hf) hP hD hS
              · have hf := ite_f c_37 hf
                refine lv_lookup (off := 124) (tgt := 142) hx hb dX8_readsItem_18 (by decide) (by show Op.lookupswitch.offset [(100, 86), (108, 80), (109, 92), (110, 50), (122, 98)] _ _ = _; rw [lv_osw c_9 (by decide), lv_osw c_16 (by decide), lv_osw c_23 (by decide), lv_osw c_31 (by decide), lv_osw c_37 (by decide)]; rfl) (by decide) ?_
                refine lv_iconst (v := 0) hx hb dX8_readsItem_142 (by decide) ?_
                exact hret H locs ls 143 0 (m_readPlaces, m_value, m_ends, m_read, m_readRule) dX8_readsItem_143 (by decide) (Option.some.inj hf) hP hD hS
    · have hf := ite_f c_38 hf
      refine lv_iconst (v := 0) hx hb dX8_readsItem_15 (by decide) ?_
      exact hret H locs ls 16 0 (m_readPlaces, m_value, m_ends, m_read, m_readRule) dX8_readsItem_16 (by decide) (Option.some.inj hf) hP hD hS
  have hf := b_4
  refine lv_icmp_ne (tgt := 11) hx hb dX8_readsItem_4 (by decide) (fun c_1 => ?_) (fun c_1 => ?_)
  · have hf := ite_f c_1 hf
    refine lv_iconst (v := 0) hx hb dX8_readsItem_11 (by decide) ?_
    exact KJ_4 0 (Option.some.inj hf) H locs _ hP hD hS (lv_sub hl [0, 1, 2] rfl)
  · have hf := ite_t c_1 hf
    refine lv_iconst (v := 1) hx hb dX8_readsItem_7 (by decide) ?_
    refine lv_goto (tgt := 12) hx hb dX8_readsItem_8 (by decide) ?_
    exact KJ_4 1 (Option.some.inj hf) H locs _ hP hD hS (lv_sub hl [0, 1, 2] rfl)
abbrev rm_Mo_reads : Room := { frames := 5, cells := 0, slots := 0, locals := 116 }
theorem hd_Mo_reads : hdOK yX8_reads 0 := by decide +kernel
theorem in_X8_reads_X8 : ∀ w ∈ wsX80, w ∈ wsX8_reads := by decide +kernel
set_option maxRecDepth 100000 in
set_option maxHeartbeats 4000000 in
theorem c_Mo_reads (l : Launch) (E : En4) (m0 m1 m2 m3 m4 m5 m6 m7 m8 m9 m10 m11 : Nat) (sz : Nat) (m_length : Int32) (m_places : Int32) (m_most : Int32) (m_tenths : Int32) (m_changes : Int32) (m_readPlaces : Int32) (m_value : Int32) (m_ends : Int32) (m_clusters : Int32) (m_text : Nat → Int32) (m_now : Nat → Int32) (m_read : Nat → Int32) (m_was : Nat → Int32) (m_readRule : Nat → Int32) (m_dist : Nat → Int32) (m_delays : Nat → Int32) (m_fractions : Nat → Int32) (m_head : Nat → Int32) (m_hour : Nat → Int32) (m_number : Nat → Int32)  (res : Int32 × Int32 × Int32 × Int32 × (Nat → Int32) × (Nat → Int32)) (hf : Mo_reads m_length m_readPlaces m_value m_ends m_text m_read m_readRule = some res) : Met l yX8_reads wsX8_reads rm_Mo_reads (pcM [.ref m0] E sz (w_Mo E m0 m1 m2 m3 m4 m5 m6 m7 m8 m9 m10 m11 m_length m_places m_most m_tenths m_changes m_readPlaces m_value m_ends m_clusters m_text m_now m_read m_was m_readRule m_dist m_delays m_fractions m_head m_hour m_number)) (QMi E sz (w_Mo E m0 m1 m2 m3 m4 m5 m6 m7 m8 m9 m10 m11 m_length m_places m_most m_tenths m_changes m_readPlaces m_value m_ends m_clusters m_text m_now m_read m_was m_readRule m_dist m_delays m_fractions m_head m_hour m_number) (fun (u : Int32 × Int32 × Int32 × (Nat → Int32) × (Nat → Int32)) => (w_Mo E m0 m1 m2 m3 m4 m5 m6 m7 m8 m9 m10 m11 m_length m_places m_most m_tenths m_changes u.1 u.2.1 u.2.2.1 m_clusters m_text m_now u.2.2.2.1 m_was u.2.2.2.2 m_dist m_delays m_fractions m_head m_hour m_number)) res) 0 0 (va_A (w_Mo E m0 m1 m2 m3 m4 m5 m6 m7 m8 m9 m10 m11 m_length m_places m_most m_tenths m_changes m_readPlaces m_value m_ends m_clusters m_text m_now m_read m_was m_readRule m_dist m_delays m_fractions m_head m_hour m_number) sz) := by
  refine mk_Mi (cc := cX8_reads) (maxL := 2) (by decide) rfl (Nat.le_of_ble_eq_true rfl) ?_
  intro p e s m args below meth c Q A S hKN hA hret H locs ls hP hD hS hl
  obtain ⟨hx, hb, hml, hown, hts⟩ := S
  obtain ⟨hK, hN⟩ := hKN
  have hl : lv_has ls 2 [(0, .ref m0)] := hl
  have q_0 := hts (.fieldLink RX8 69 "DelayClustersModel" "length" "I") (by decide +kernel)
  have q_1 := hts (.fieldLink RX8 7 "DelayClustersModel" "text" "[I") (by decide +kernel)
  have q_2 := hts (.fieldLink RX8 75 "DelayClustersModel" "ends" "I") (by decide +kernel)
  unfold Mo_reads at hf
  refine lv_aload_n hx hb dX8_reads_0 rfl (lv_at hl 0 rfl) ?_
  obtain ⟨⟨m_readPlaces_2, m_read_3, m_readRule_4⟩, h_1, hf⟩ := bd_s hf
  try dsimp only at hf
  refine ca_Mv (w2 := (w_Mo E m0 m1 m2 m3 m4 m5 m6 m7 m8 m9 m10 m11 m_length m_places m_most m_tenths m_changes m_readPlaces_2 m_value m_ends m_clusters m_text m_now m_read_3 m_was m_readRule_4 m_dist m_delays m_fractions m_head m_hour m_number)) (As := []) (rest := []) ⟨hx, hb, hml, hown, hts⟩ ⟨hK, hN⟩ hP hD hS hA (c_Mo_clears l E m0 m1 m2 m3 m4 m5 m6 m7 m8 m9 m10 m11 H.size m_length m_places m_most m_tenths m_changes m_readPlaces m_value m_ends m_clusters m_text m_now m_read m_was m_readRule m_dist m_delays m_fractions m_head m_hour m_number (m_readPlaces_2, m_read_3, m_readRule_4) h_1) [0, 1, 2, 3, 4, 5, 6, 7, 8, 9, 10, 11] [] [0, 1, 2, 3, 4, 5, 6, 7, 8, 9, 10, 11] rfl rfl rfl rfl (by decide) rfl rfl 8 0 rfl rfl rfl gX8_reads_X8_clears rfl rfl rfl rfl hd_Mo_clears ⟨(Nat.le_of_ble_eq_true rfl), (Nat.le_of_ble_eq_true rfl)⟩ rfl hl.1 rfl (Nat.le_of_ble_eq_true rfl) dX8_reads_1 ⟨(Nat.zero_le _), (Nat.zero_le _)⟩ (fun H locs hP hD hS => ?_)
  refine lv_iconst (v := 0) hx hb dX8_reads_4 (by decide) ?_
  refine lv_istore_n (lv' := [(1, .int 0), (0, .ref m0)]) hx hb dX8_reads_5 rfl hl (by decide) rfl (fun ls hl => ?_)
  obtain ⟨w_6, i_6, hf⟩ := bd_s hf
  have KE_6 : ∀ y_, Sum.inr y_ = w_6 → some y_ = some res := by intro y_ e_; subst e_; exact hf
  have KX_6 : ∀ (m_readPlaces_26 : Int32) (m_value_27 : Int32) (m_ends_28 : Int32) (m_read_29 : Nat → Int32) (m_readRule_30 : Nat → Int32), Sum.inl (m_readPlaces_26, m_value_27, m_ends_28, m_read_29, m_readRule_30) = w_6 → ∀ (H : Heap) (locs : List Loc) (ls : Array Slot), va_P E.1 vwCl (w_Mo E m0 m1 m2 m3 m4 m5 m6 m7 m8 m9 m10 m11 m_length m_places m_most m_tenths m_changes m_readPlaces_26 m_value_27 m_ends_28 m_clusters m_text m_now m_read_29 m_was m_readRule_30 m_dist m_delays m_fractions m_head m_hour m_number) H → va_D A (w_Mo E m0 m1 m2 m3 m4 m5 m6 m7 m8 m9 m10 m11 m_length m_places m_most m_tenths m_changes m_readPlaces_26 m_value_27 m_ends_28 m_clusters m_text m_now m_read_29 m_was m_readRule_30 m_dist m_delays m_fractions m_head m_hour m_number) → va_S A s.heap H locs → lv_has ls 2 [] → W p l e rm_Mo_reads s m args below meth c H locs 0 0 Q (F0 m 64 ls []) := by
    intro m_readPlaces_26 m_value_27 m_ends_28 m_read_29 m_readRule_30 e_
    subst e_
    try dsimp only at hf
    intro H locs ls hP hD hS hl
    refine lv_bipush (v := (-4)) hx hb dX8_reads_64 (by decide) ?_
    exact hret H locs ls 66 (-4) (m_readPlaces_26, m_value_27, m_ends_28, m_read_29, m_readRule_30) dX8_reads_66 (Option.some.inj hf) hP hD hS
  have KL_6 : ∀ (n_ : Nat) (v1_5 : Int32) (m_readPlaces_6 : Int32) (m_value_7 : Int32) (m_ends_8 : Int32) (m_read_9 : Nat → Int32) (m_readRule_10 : Nat → Int32), it (Mo_reads_L6 m_length m_text) n_ (v1_5, m_readPlaces_6, m_value_7, m_ends_8, m_read_9, m_readRule_10) = some w_6 → ∀ (H : Heap) (locs : List Loc) (ls : Array Slot), va_P E.1 vwCl (w_Mo E m0 m1 m2 m3 m4 m5 m6 m7 m8 m9 m10 m11 m_length m_places m_most m_tenths m_changes m_readPlaces_6 m_value_7 m_ends_8 m_clusters m_text m_now m_read_9 m_was m_readRule_10 m_dist m_delays m_fractions m_head m_hour m_number) H → va_D A (w_Mo E m0 m1 m2 m3 m4 m5 m6 m7 m8 m9 m10 m11 m_length m_places m_most m_tenths m_changes m_readPlaces_6 m_value_7 m_ends_8 m_clusters m_text m_now m_read_9 m_was m_readRule_10 m_dist m_delays m_fractions m_head m_hour m_number) → va_S A s.heap H locs → lv_has ls 2 [(0, .ref m0), (1, .int v1_5)] → W p l e rm_Mo_reads s m args below meth c H locs 0 0 Q (F0 m 6 ls []) := by
    intro n_
    induction n_ with
    | zero => intro v1_5 m_readPlaces_6 m_value_7 m_ends_8 m_read_9 m_readRule_10 hit; exact (it_z hit).elim
    | succ n_6 ih_6 =>
      intro v1_5 m_readPlaces_6 m_value_7 m_ends_8 m_read_9 m_readRule_10 hit
      intro H locs ls hP hD hS hl
      obtain ⟨x_6, hf, hc_6, hq_6⟩ := it_s hit
      dsimp only [Mo_reads_L6] at hf
      refine lv_iload_n hx hb dX8_reads_6 rfl (lv_at hl 1 rfl) ?_
      refine lv_aload_n hx hb dX8_reads_7 rfl (lv_at hl 0 rfl) ?_
      refine va_get (D := E.1) (ci := 8) (v := .int m_length) (C := RX8) (T := TX8) (N := 20) hx hb hts in_X8_reads_X8 hown hK hP 0 rfl rfl 0 (by decide) q_0 (fun _ h9 => h9) rfl dX8_reads_8 ?_
      refine lv_icmp_ge (tgt := 64) hx hb dX8_reads_11 (by decide) (fun c_25 => ?_) (fun c_25 => ?_)
      · have hf := ite_t c_25 hf
        exact KX_6 m_readPlaces_6 m_value_7 m_ends_8 m_read_9 m_readRule_10 (hq_6 _ (Option.some.inj hf).symm) H locs _ hP hD hS (lv_sub hl [] rfl)
      · have hf := ite_f c_25 hf
        refine lv_aload_n hx hb dX8_reads_14 rfl (lv_at hl 0 rfl) ?_
        refine lv_aload_n hx hb dX8_reads_15 rfl (lv_at hl 0 rfl) ?_
        refine va_get (D := E.1) (ci := 8) (v := .ref m1) (C := RX8) (T := TX8) (N := 20) hx hb hts in_X8_reads_X8 hown hK hP 0 rfl rfl 1 (by decide) q_1 (fun _ h9 => h9) rfl dX8_reads_16 ?_
        refine lv_iload_n hx hb dX8_reads_19 rfl (lv_at hl 1 rfl) ?_
        obtain ⟨g_11, hf⟩ := gk_s hf
        refine va_iald hx hb hK hP 1 0 rfl rfl g_11 dX8_reads_20 ?_
        refine lv_iload_n hx hb dX8_reads_21 rfl (lv_at hl 1 rfl) ?_
        refine lv_iconst (v := 1) hx hb dX8_reads_22 (by decide) ?_
        refine lv_iadd hx hb dX8_reads_23 ?_
        refine lv_iload_n hx hb dX8_reads_24 rfl (lv_at hl 1 rfl) ?_
        obtain ⟨j_25, b_25, hf⟩ := bd_s hf
        have KJ_25 : ∀ (t_13 : Int32), t_13 = j_25 → ∀ (H : Heap) (locs : List Loc) (ls : Array Slot), va_P E.1 vwCl (w_Mo E m0 m1 m2 m3 m4 m5 m6 m7 m8 m9 m10 m11 m_length m_places m_most m_tenths m_changes m_readPlaces_6 m_value_7 m_ends_8 m_clusters m_text m_now m_read_9 m_was m_readRule_10 m_dist m_delays m_fractions m_head m_hour m_number) H → va_D A (w_Mo E m0 m1 m2 m3 m4 m5 m6 m7 m8 m9 m10 m11 m_length m_places m_most m_tenths m_changes m_readPlaces_6 m_value_7 m_ends_8 m_clusters m_text m_now m_read_9 m_was m_readRule_10 m_dist m_delays m_fractions m_head m_hour m_number) → va_S A s.heap H locs → lv_has ls 2 [(0, .ref m0), (1, .int v1_5)] → W p l e rm_Mo_reads s m args below meth c H locs 0 0 Q (F0 m 33 ls [.int t_13, .int (v1_5 + 1), .int (m_text v1_5.toNatClampNeg), .ref m0]) := by
          intro t_13 e_
          subst e_
          try dsimp only at hf
          intro H locs ls hP hD hS hl
          obtain ⟨⟨r_15, m_readPlaces_16, m_value_17, m_ends_18, m_read_19, m_readRule_20⟩, h_14, hf⟩ := bd_s hf
          try dsimp only at hf
          refine ca_Mi (w2 := (w_Mo E m0 m1 m2 m3 m4 m5 m6 m7 m8 m9 m10 m11 m_length m_places m_most m_tenths m_changes m_readPlaces_16 m_value_17 m_ends_18 m_clusters m_text m_now m_read_19 m_was m_readRule_20 m_dist m_delays m_fractions m_head m_hour m_number)) (As := [.int (m_text v1_5.toNatClampNeg), .int (v1_5 + 1), .int t_13]) (rest := []) ⟨hx, hb, hml, hown, hts⟩ ⟨hK, hN⟩ hP hD hS hA (c_Mo_readsItem l E m0 m1 m2 m3 m4 m5 m6 m7 m8 m9 m10 m11 H.size m_length m_places m_most m_tenths m_changes m_readPlaces_6 m_value_7 m_ends_8 m_clusters m_text m_now m_read_9 m_was m_readRule_10 m_dist m_delays m_fractions m_head m_hour m_number (m_text v1_5.toNatClampNeg) (v1_5 + 1) t_13 (r_15, m_readPlaces_16, m_value_17, m_ends_18, m_read_19, m_readRule_20) h_14) [0, 1, 2, 3, 4, 5, 6, 7, 8, 9, 10, 11] [] [0, 1, 2, 3, 4, 5, 6, 7, 8, 9, 10, 11] rfl rfl rfl rfl (by decide) rfl rfl 8 0 rfl rfl rfl gX8_reads_X8_readsItem rfl rfl rfl rfl hd_Mo_readsItem ⟨(Nat.le_of_ble_eq_true rfl), (Nat.le_of_ble_eq_true rfl)⟩ rfl hl.1 rfl (Nat.le_of_ble_eq_true rfl) dX8_reads_33 ⟨(Nat.zero_le _), (Nat.zero_le _)⟩ (fun H locs hP hD hS => ?_)
          refine lv_if_eq (tgt := 52) hx hb dX8_reads_36 (by decide) (fun c_24 => ?_) (fun c_24 => ?_)
          · have hf := ite_t c_24 hf
            refine lv_iload_n hx hb dX8_reads_52 rfl (lv_at hl 1 rfl) ?_
            have hf := KE_6 _ (hq_6 _ (Option.some.inj hf).symm)
            exact hret H locs ls 53 v1_5 (m_readPlaces_16, m_value_17, m_ends_18, m_read_19, m_readRule_20) dX8_reads_53 (Option.some.inj hf) hP hD hS
          · have hf := ite_f c_24 hf
            refine lv_aload_n hx hb dX8_reads_39 rfl (lv_at hl 0 rfl) ?_
            refine lv_aload_n hx hb dX8_reads_40 rfl (lv_at hl 0 rfl) ?_
            refine va_get (D := E.1) (ci := 8) (v := .int m_ends_18) (C := RX8) (T := TX8) (N := 20) hx hb hts in_X8_reads_X8 hown hK hP 0 rfl rfl 12 (by decide) q_2 (fun _ h9 => h9) rfl dX8_reads_41 ?_
            obtain ⟨r_22, h_21, hf⟩ := bd_s hf
            refine ca_V (As := [.int m_ends_18]) (rest := []) ⟨hx, hb, hml, hown, hts⟩ ⟨hK, hN⟩ hP (c_Mo_letterAt l E m0 m1 m2 m3 m4 m5 m6 m7 m8 m9 m10 m11 m_length m_places m_most m_tenths m_changes m_readPlaces_16 m_value_17 m_ends_18 m_clusters m_text m_now m_read_19 m_was m_readRule_20 m_dist m_delays m_fractions m_head m_hour m_number m_ends_18 r_22 h_21) [0, 1, 2, 3, 4, 5, 6, 7, 8, 9, 10, 11] rfl 8 0 rfl rfl rfl gX8_reads_X8_letterAt rfl rfl rfl rfl hd_Mo_letterAt ⟨(Nat.le_of_ble_eq_true rfl), (Nat.le_of_ble_eq_true rfl)⟩ rfl hl.1 rfl (Nat.le_of_ble_eq_true rfl) dX8_reads_44 ⟨(Nat.zero_le _), (Nat.zero_le _)⟩ ?_
            refine lv_bipush (v := 59) hx hb dX8_reads_47 (by decide) ?_
            refine lv_icmp_eq (tgt := 54) hx hb dX8_reads_49 (by decide) (fun c_23 => ?_) (fun c_23 => ?_)
            · have hf := ite_t c_23 hf
              refine lv_aload_n hx hb dX8_reads_54 rfl (lv_at hl 0 rfl) ?_
              refine va_get (D := E.1) (ci := 8) (v := .int m_ends_18) (C := RX8) (T := TX8) (N := 20) hx hb hts in_X8_reads_X8 hown hK hP 0 rfl rfl 12 (by decide) q_2 (fun _ h9 => h9) rfl dX8_reads_55 ?_
              refine lv_iconst (v := 1) hx hb dX8_reads_58 (by decide) ?_
              refine lv_iadd hx hb dX8_reads_59 ?_
              refine lv_istore_n (lv' := [(1, .int (m_ends_18 + 1)), (0, .ref m0)]) hx hb dX8_reads_60 rfl hl (by decide) rfl (fun ls hl => ?_)
              refine lv_goto (tgt := 6) hx hb dX8_reads_61 (by decide) ?_
              exact ih_6 (m_ends_18 + 1) m_readPlaces_16 m_value_17 m_ends_18 m_read_19 m_readRule_20 (hc_6 _ (Option.some.inj hf).symm) H locs _ hP hD hS (lv_sub hl [1, 0] rfl)
            · have hf := ite_f c_23 hf
              refine lv_iload_n hx hb dX8_reads_52 rfl (lv_at hl 1 rfl) ?_
              have hf := KE_6 _ (hq_6 _ (Option.some.inj hf).symm)
              exact hret H locs ls 53 v1_5 (m_readPlaces_16, m_value_17, m_ends_18, m_read_19, m_readRule_20) dX8_reads_53 (Option.some.inj hf) hP hD hS
        have hf := b_25
        refine lv_if_ne (tgt := 32) hx hb dX8_reads_25 (by decide) (fun c_12 => ?_) (fun c_12 => ?_)
        · have hf := ite_f c_12 hf
          refine lv_iconst (v := 0) hx hb dX8_reads_32 (by decide) ?_
          exact KJ_25 0 (Option.some.inj hf) H locs _ hP hD hS (lv_sub hl [0, 1] rfl)
        · have hf := ite_t c_12 hf
          refine lv_iconst (v := 1) hx hb dX8_reads_28 (by decide) ?_
          refine lv_goto (tgt := 33) hx hb dX8_reads_29 (by decide) ?_
          exact KJ_25 1 (Option.some.inj hf) H locs _ hP hD hS (lv_sub hl [0, 1] rfl)
  exact KL_6 _ 0 m_readPlaces_2 m_value m_ends m_read_3 m_readRule_4 i_6 H locs _ hP hD hS (lv_sub hl [1, 0] rfl)
abbrev rm_Mo_write : Room := { frames := 0, cells := 0, slots := 0, locals := 0 }
theorem hd_Mo_write : hdOK yX8_write 1 := by decide +kernel
theorem in_X8_write_X8 : ∀ w ∈ wsX80, w ∈ wsX8_write := by decide +kernel
set_option maxRecDepth 100000 in
set_option maxHeartbeats 4000000 in
theorem c_Mo_write (l : Launch) (E : En4) (m0 m1 m2 m3 m4 m5 m6 m7 m8 m9 m10 m11 : Nat) (sz : Nat) (m_length : Int32) (m_places : Int32) (m_most : Int32) (m_tenths : Int32) (m_changes : Int32) (m_readPlaces : Int32) (m_value : Int32) (m_ends : Int32) (m_clusters : Int32) (m_text : Nat → Int32) (m_now : Nat → Int32) (m_read : Nat → Int32) (m_was : Nat → Int32) (m_readRule : Nat → Int32) (m_dist : Nat → Int32) (m_delays : Nat → Int32) (m_fractions : Nat → Int32) (m_head : Nat → Int32) (m_hour : Nat → Int32) (m_number : Nat → Int32) (a1 : Int32)  (res : Int32 × Int32 × (Nat → Int32)) (hf : Mo_write m_length m_text a1 = some res) : Met l yX8_write wsX8_write rm_Mo_write (pcM [.ref m0, .int a1] E sz (w_Mo E m0 m1 m2 m3 m4 m5 m6 m7 m8 m9 m10 m11 m_length m_places m_most m_tenths m_changes m_readPlaces m_value m_ends m_clusters m_text m_now m_read m_was m_readRule m_dist m_delays m_fractions m_head m_hour m_number)) (QMi E sz (w_Mo E m0 m1 m2 m3 m4 m5 m6 m7 m8 m9 m10 m11 m_length m_places m_most m_tenths m_changes m_readPlaces m_value m_ends m_clusters m_text m_now m_read m_was m_readRule m_dist m_delays m_fractions m_head m_hour m_number) (fun (u : Int32 × (Nat → Int32)) => (w_Mo E m0 m1 m2 m3 m4 m5 m6 m7 m8 m9 m10 m11 u.1 m_places m_most m_tenths m_changes m_readPlaces m_value m_ends m_clusters u.2 m_now m_read m_was m_readRule m_dist m_delays m_fractions m_head m_hour m_number)) res) 0 0 (va_A (w_Mo E m0 m1 m2 m3 m4 m5 m6 m7 m8 m9 m10 m11 m_length m_places m_most m_tenths m_changes m_readPlaces m_value m_ends m_clusters m_text m_now m_read m_was m_readRule m_dist m_delays m_fractions m_head m_hour m_number) sz) := by
  refine mk_Mi (cc := cX8_write) (maxL := 2) (by decide) rfl (Nat.le_of_ble_eq_true rfl) ?_
  intro p e s m args below meth c Q A S hKN hA hret H locs ls hP hD hS hl
  obtain ⟨hx, hb, hml, hown, hts⟩ := S
  obtain ⟨hK, hN⟩ := hKN
  have hl : lv_has ls 2 [(0, .ref m0), (1, .int a1)] := hl
  have q_0 := hts (.fieldLink RX8 69 "DelayClustersModel" "length" "I") (by decide +kernel)
  have q_1 := hts (.fieldLink RX8 7 "DelayClustersModel" "text" "[I") (by decide +kernel)
  unfold Mo_write at hf
  refine lv_iload_n hx hb dX8_write_0 rfl (lv_at hl 1 rfl) ?_
  refine lv_bipush (v := 32) hx hb dX8_write_1 (by decide) ?_
  refine lv_icmp_lt (tgt := 12) hx hb dX8_write_3 (by decide) (fun c_4 => ?_) (fun c_4 => ?_)
  · have hf := ite_t c_4 hf
    refine lv_iconst (v := (-1)) hx hb dX8_write_12 (by decide) ?_
    exact hret H locs ls 13 (-1) (m_length, m_text) dX8_write_13 (Option.some.inj hf) hP hD hS
  · have hf := ite_f c_4 hf
    refine lv_iload_n hx hb dX8_write_6 rfl (lv_at hl 1 rfl) ?_
    refine lv_bipush (v := 126) hx hb dX8_write_7 (by decide) ?_
    refine lv_icmp_le (tgt := 14) hx hb dX8_write_9 (by decide) (fun c_3 => ?_) (fun c_3 => ?_)
    · have hf := ite_t c_3 hf
      refine lv_aload_n hx hb dX8_write_14 rfl (lv_at hl 0 rfl) ?_
      refine va_get (D := E.1) (ci := 8) (v := .int m_length) (C := RX8) (T := TX8) (N := 20) hx hb hts in_X8_write_X8 hown hK hP 0 rfl rfl 0 (by decide) q_0 (fun _ h9 => h9) rfl dX8_write_15 ?_
      refine lv_sipush (v := 200) hx hb dX8_write_18 (by decide) ?_
      refine lv_icmp_ne (tgt := 27) hx hb dX8_write_21 (by decide) (fun c_2 => ?_) (fun c_2 => ?_)
      · have hf := ite_f c_2 hf
        refine lv_aload_n hx hb dX8_write_27 rfl (lv_at hl 0 rfl) ?_
        refine va_get (D := E.1) (ci := 8) (v := .ref m1) (C := RX8) (T := TX8) (N := 20) hx hb hts in_X8_write_X8 hown hK hP 0 rfl rfl 1 (by decide) q_1 (fun _ h9 => h9) rfl dX8_write_28 ?_
        refine lv_aload_n hx hb dX8_write_31 rfl (lv_at hl 0 rfl) ?_
        refine va_get (D := E.1) (ci := 8) (v := .int m_length) (C := RX8) (T := TX8) (N := 20) hx hb hts in_X8_write_X8 hown hK hP 0 rfl rfl 0 (by decide) q_0 (fun _ h9 => h9) rfl dX8_write_32 ?_
        refine lv_iload_n hx hb dX8_write_35 rfl (lv_at hl 1 rfl) ?_
        obtain ⟨g_1, hf⟩ := gk_s hf
        refine va_iast hx hb hK hP hD hS 1 0 rfl rfl g_1 dX8_write_36 (fun H locs hP hD hS => ?_)
        have hP : va_P E.1 vwCl (w_Mo E m0 m1 m2 m3 m4 m5 m6 m7 m8 m9 m10 m11 m_length m_places m_most m_tenths m_changes m_readPlaces m_value m_ends m_clusters (upd m_text m_length.toNatClampNeg a1) m_now m_read m_was m_readRule m_dist m_delays m_fractions m_head m_hour m_number) H := hP
        have hD : va_D A (w_Mo E m0 m1 m2 m3 m4 m5 m6 m7 m8 m9 m10 m11 m_length m_places m_most m_tenths m_changes m_readPlaces m_value m_ends m_clusters (upd m_text m_length.toNatClampNeg a1) m_now m_read m_was m_readRule m_dist m_delays m_fractions m_head m_hour m_number) := hD
        refine lv_aload_n hx hb dX8_write_37 rfl (lv_at hl 0 rfl) ?_
        refine lv_dup hx hb dX8_write_38 rfl ?_
        refine va_get (D := E.1) (ci := 8) (v := .int m_length) (C := RX8) (T := TX8) (N := 20) hx hb hts in_X8_write_X8 hown hK hP 0 rfl rfl 0 (by decide) q_0 (fun _ h9 => h9) rfl dX8_write_39 ?_
        refine lv_iconst (v := 1) hx hb dX8_write_42 (by decide) ?_
        refine lv_iadd hx hb dX8_write_43 ?_
        refine va_put (D := E.1) (ci := 8) (v := .int (m_length + 1)) (ty := .int) (C := RX8) (T := TX8) (N := 20) hx hb hts in_X8_write_X8 tyX8 tyX8_ok nmX8 hown hK hP hD hS 0 rfl rfl 0 (by decide) q_0 (fun _ h9 => h9) rfl (by decide +kernel) rfl rfl (Nat.le_of_ble_eq_true rfl) dX8_write_44 (fun H locs hP hD hS => ?_)
        have hP : va_P E.1 vwCl (w_Mo E m0 m1 m2 m3 m4 m5 m6 m7 m8 m9 m10 m11 (m_length + 1) m_places m_most m_tenths m_changes m_readPlaces m_value m_ends m_clusters (upd m_text m_length.toNatClampNeg a1) m_now m_read m_was m_readRule m_dist m_delays m_fractions m_head m_hour m_number) H := hP
        have hD : va_D A (w_Mo E m0 m1 m2 m3 m4 m5 m6 m7 m8 m9 m10 m11 (m_length + 1) m_places m_most m_tenths m_changes m_readPlaces m_value m_ends m_clusters (upd m_text m_length.toNatClampNeg a1) m_now m_read m_was m_readRule m_dist m_delays m_fractions m_head m_hour m_number) := hD
        refine lv_aload_n hx hb dX8_write_47 rfl (lv_at hl 0 rfl) ?_
        refine va_get (D := E.1) (ci := 8) (v := .int (m_length + 1)) (C := RX8) (T := TX8) (N := 20) hx hb hts in_X8_write_X8 hown hK hP 0 rfl rfl 0 (by decide) q_0 (fun _ h9 => h9) rfl dX8_write_48 ?_
        exact hret H locs ls 51 (m_length + 1) ((m_length + 1), (upd m_text m_length.toNatClampNeg a1)) dX8_write_51 (Option.some.inj hf) hP hD hS
      · have hf := ite_t c_2 hf
        refine lv_bipush (v := (-3)) hx hb dX8_write_24 (by decide) ?_
        exact hret H locs ls 26 (-3) (m_length, m_text) dX8_write_26 (Option.some.inj hf) hP hD hS
    · have hf := ite_f c_3 hf
      refine lv_iconst (v := (-1)) hx hb dX8_write_12 (by decide) ?_
      exact hret H locs ls 13 (-1) (m_length, m_text) dX8_write_13 (Option.some.inj hf) hP hD hS
abbrev rm_Mo_wipe : Room := { frames := 0, cells := 0, slots := 0, locals := 0 }
theorem hd_Mo_wipe : hdOK yX8_wipe 0 := by decide +kernel
theorem in_X8_wipe_X8 : ∀ w ∈ wsX80, w ∈ wsX8_wipe := by decide +kernel
set_option maxRecDepth 100000 in
set_option maxHeartbeats 4000000 in
theorem c_Mo_wipe (l : Launch) (E : En4) (m0 m1 m2 m3 m4 m5 m6 m7 m8 m9 m10 m11 : Nat) (sz : Nat) (m_length : Int32) (m_places : Int32) (m_most : Int32) (m_tenths : Int32) (m_changes : Int32) (m_readPlaces : Int32) (m_value : Int32) (m_ends : Int32) (m_clusters : Int32) (m_text : Nat → Int32) (m_now : Nat → Int32) (m_read : Nat → Int32) (m_was : Nat → Int32) (m_readRule : Nat → Int32) (m_dist : Nat → Int32) (m_delays : Nat → Int32) (m_fractions : Nat → Int32) (m_head : Nat → Int32) (m_hour : Nat → Int32) (m_number : Nat → Int32)  (res : Int32 × Int32) (hf : Mo_wipe m_length = some res) : Met l yX8_wipe wsX8_wipe rm_Mo_wipe (pcM [.ref m0] E sz (w_Mo E m0 m1 m2 m3 m4 m5 m6 m7 m8 m9 m10 m11 m_length m_places m_most m_tenths m_changes m_readPlaces m_value m_ends m_clusters m_text m_now m_read m_was m_readRule m_dist m_delays m_fractions m_head m_hour m_number)) (QMi E sz (w_Mo E m0 m1 m2 m3 m4 m5 m6 m7 m8 m9 m10 m11 m_length m_places m_most m_tenths m_changes m_readPlaces m_value m_ends m_clusters m_text m_now m_read m_was m_readRule m_dist m_delays m_fractions m_head m_hour m_number) (fun (u : Int32) => (w_Mo E m0 m1 m2 m3 m4 m5 m6 m7 m8 m9 m10 m11 u m_places m_most m_tenths m_changes m_readPlaces m_value m_ends m_clusters m_text m_now m_read m_was m_readRule m_dist m_delays m_fractions m_head m_hour m_number)) res) 0 0 (va_A (w_Mo E m0 m1 m2 m3 m4 m5 m6 m7 m8 m9 m10 m11 m_length m_places m_most m_tenths m_changes m_readPlaces m_value m_ends m_clusters m_text m_now m_read m_was m_readRule m_dist m_delays m_fractions m_head m_hour m_number) sz) := by
  refine mk_Mi (cc := cX8_wipe) (maxL := 2) (by decide) rfl (Nat.le_of_ble_eq_true rfl) ?_
  intro p e s m args below meth c Q A S hKN hA hret H locs ls hP hD hS hl
  obtain ⟨hx, hb, hml, hown, hts⟩ := S
  obtain ⟨hK, hN⟩ := hKN
  have hl : lv_has ls 2 [(0, .ref m0)] := hl
  have q_0 := hts (.fieldLink RX8 69 "DelayClustersModel" "length" "I") (by decide +kernel)
  unfold Mo_wipe at hf
  refine lv_aload_n hx hb dX8_wipe_0 rfl (lv_at hl 0 rfl) ?_
  refine va_get (D := E.1) (ci := 8) (v := .int m_length) (C := RX8) (T := TX8) (N := 20) hx hb hts in_X8_wipe_X8 hown hK hP 0 rfl rfl 0 (by decide) q_0 (fun _ h9 => h9) rfl dX8_wipe_1 ?_
  refine lv_istore_n (lv' := [(1, .int m_length), (0, .ref m0)]) hx hb dX8_wipe_4 rfl hl (by decide) rfl (fun ls hl => ?_)
  refine lv_aload_n hx hb dX8_wipe_5 rfl (lv_at hl 1 rfl) ?_
  refine lv_iconst (v := 0) hx hb dX8_wipe_6 (by decide) ?_
  refine va_put (D := E.1) (ci := 8) (v := .int 0) (ty := .int) (C := RX8) (T := TX8) (N := 20) hx hb hts in_X8_wipe_X8 tyX8 tyX8_ok nmX8 hown hK hP hD hS 0 rfl rfl 0 (by decide) q_0 (fun _ h9 => h9) rfl (by decide +kernel) rfl rfl (Nat.le_of_ble_eq_true rfl) dX8_wipe_7 (fun H locs hP hD hS => ?_)
  have hP : va_P E.1 vwCl (w_Mo E m0 m1 m2 m3 m4 m5 m6 m7 m8 m9 m10 m11 0 m_places m_most m_tenths m_changes m_readPlaces m_value m_ends m_clusters m_text m_now m_read m_was m_readRule m_dist m_delays m_fractions m_head m_hour m_number) H := hP
  have hD : va_D A (w_Mo E m0 m1 m2 m3 m4 m5 m6 m7 m8 m9 m10 m11 0 m_places m_most m_tenths m_changes m_readPlaces m_value m_ends m_clusters m_text m_now m_read m_was m_readRule m_dist m_delays m_fractions m_head m_hour m_number) := hD
  refine lv_iload_n hx hb dX8_wipe_10 rfl (lv_at hl 0 rfl) ?_
  exact hret H locs ls 11 m_length 0 dX8_wipe_11 (Option.some.inj hf) hP hD hS
abbrev rm_Mo_fault : Room := { frames := 6, cells := 0, slots := 0, locals := 137 }
theorem hd_Mo_fault : hdOK yX8_fault 0 := by decide +kernel
set_option maxRecDepth 100000 in
set_option maxHeartbeats 4000000 in
theorem c_Mo_fault (l : Launch) (E : En4) (m0 m1 m2 m3 m4 m5 m6 m7 m8 m9 m10 m11 : Nat) (sz : Nat) (m_length : Int32) (m_places : Int32) (m_most : Int32) (m_tenths : Int32) (m_changes : Int32) (m_readPlaces : Int32) (m_value : Int32) (m_ends : Int32) (m_clusters : Int32) (m_text : Nat → Int32) (m_now : Nat → Int32) (m_read : Nat → Int32) (m_was : Nat → Int32) (m_readRule : Nat → Int32) (m_dist : Nat → Int32) (m_delays : Nat → Int32) (m_fractions : Nat → Int32) (m_head : Nat → Int32) (m_hour : Nat → Int32) (m_number : Nat → Int32)  (res : Int32 × Int32 × Int32 × Int32 × (Nat → Int32) × (Nat → Int32)) (hf : Mo_fault m_length m_readPlaces m_value m_ends m_text m_read m_readRule = some res) : Met l yX8_fault wsX8_fault rm_Mo_fault (pcM [.ref m0] E sz (w_Mo E m0 m1 m2 m3 m4 m5 m6 m7 m8 m9 m10 m11 m_length m_places m_most m_tenths m_changes m_readPlaces m_value m_ends m_clusters m_text m_now m_read m_was m_readRule m_dist m_delays m_fractions m_head m_hour m_number)) (QMi E sz (w_Mo E m0 m1 m2 m3 m4 m5 m6 m7 m8 m9 m10 m11 m_length m_places m_most m_tenths m_changes m_readPlaces m_value m_ends m_clusters m_text m_now m_read m_was m_readRule m_dist m_delays m_fractions m_head m_hour m_number) (fun (u : Int32 × Int32 × Int32 × (Nat → Int32) × (Nat → Int32)) => (w_Mo E m0 m1 m2 m3 m4 m5 m6 m7 m8 m9 m10 m11 m_length m_places m_most m_tenths m_changes u.1 u.2.1 u.2.2.1 m_clusters m_text m_now u.2.2.2.1 m_was u.2.2.2.2 m_dist m_delays m_fractions m_head m_hour m_number)) res) 0 0 (va_A (w_Mo E m0 m1 m2 m3 m4 m5 m6 m7 m8 m9 m10 m11 m_length m_places m_most m_tenths m_changes m_readPlaces m_value m_ends m_clusters m_text m_now m_read m_was m_readRule m_dist m_delays m_fractions m_head m_hour m_number) sz) := by
  refine mk_Mi (cc := cX8_fault) (maxL := 1) (by decide) rfl (Nat.le_of_ble_eq_true rfl) ?_
  intro p e s m args below meth c Q A S hKN hA hret H locs ls hP hD hS hl
  obtain ⟨hx, hb, hml, hown, hts⟩ := S
  obtain ⟨hK, hN⟩ := hKN
  have hl : lv_has ls 1 [(0, .ref m0)] := hl
  unfold Mo_fault at hf
  refine lv_aload_n hx hb dX8_fault_0 rfl (lv_at hl 0 rfl) ?_
  obtain ⟨⟨r_2, m_readPlaces_3, m_value_4, m_ends_5, m_read_6, m_readRule_7⟩, h_1, hf⟩ := bd_s hf
  try dsimp only at hf
  refine ca_Mi (w2 := (w_Mo E m0 m1 m2 m3 m4 m5 m6 m7 m8 m9 m10 m11 m_length m_places m_most m_tenths m_changes m_readPlaces_3 m_value_4 m_ends_5 m_clusters m_text m_now m_read_6 m_was m_readRule_7 m_dist m_delays m_fractions m_head m_hour m_number)) (As := []) (rest := []) ⟨hx, hb, hml, hown, hts⟩ ⟨hK, hN⟩ hP hD hS hA (c_Mo_reads l E m0 m1 m2 m3 m4 m5 m6 m7 m8 m9 m10 m11 H.size m_length m_places m_most m_tenths m_changes m_readPlaces m_value m_ends m_clusters m_text m_now m_read m_was m_readRule m_dist m_delays m_fractions m_head m_hour m_number (r_2, m_readPlaces_3, m_value_4, m_ends_5, m_read_6, m_readRule_7) h_1) [0, 1, 2, 3, 4, 5, 6, 7, 8, 9, 10, 11] [] [0, 1, 2, 3, 4, 5, 6, 7, 8, 9, 10, 11] rfl rfl rfl rfl (by decide) rfl rfl 8 0 rfl rfl rfl gX8_fault_X8_reads rfl rfl rfl rfl hd_Mo_reads ⟨(Nat.le_of_ble_eq_true rfl), (Nat.le_of_ble_eq_true rfl)⟩ rfl hl.1 rfl (Nat.le_of_ble_eq_true rfl) dX8_fault_1 ⟨(Nat.zero_le _), (Nat.zero_le _)⟩ (fun H locs hP hD hS => ?_)
  exact hret H locs ls 4 r_2 (m_readPlaces_3, m_value_4, m_ends_5, m_read_6, m_readRule_7) dX8_fault_4 (Option.some.inj hf) hP hD hS
abbrev rm_Mo_lay : Room := { frames := 6, cells := 0, slots := 0, locals := 137 }
theorem hd_Mo_lay : hdOK yX8_lay 0 := by decide +kernel
theorem in_X8_lay_X8 : ∀ w ∈ wsX80, w ∈ wsX8_lay := by decide +kernel
set_option maxRecDepth 100000 in
set_option maxHeartbeats 4000000 in
theorem c_Mo_lay (l : Launch) (E : En4) (m0 m1 m2 m3 m4 m5 m6 m7 m8 m9 m10 m11 : Nat) (sz : Nat) (m_length : Int32) (m_places : Int32) (m_most : Int32) (m_tenths : Int32) (m_changes : Int32) (m_readPlaces : Int32) (m_value : Int32) (m_ends : Int32) (m_clusters : Int32) (m_text : Nat → Int32) (m_now : Nat → Int32) (m_read : Nat → Int32) (m_was : Nat → Int32) (m_readRule : Nat → Int32) (m_dist : Nat → Int32) (m_delays : Nat → Int32) (m_fractions : Nat → Int32) (m_head : Nat → Int32) (m_hour : Nat → Int32) (m_number : Nat → Int32)  (res : Int32 × Int32 × Int32 × Int32 × Int32 × Int32 × Int32 × Int32 × (Nat → Int32) × (Nat → Int32) × (Nat → Int32)) (hf : Mo_lay m_length m_places m_most m_tenths m_changes m_readPlaces m_value m_ends m_text m_now m_read m_readRule = some res) : Met l yX8_lay wsX8_lay rm_Mo_lay (pcM [.ref m0] E sz (w_Mo E m0 m1 m2 m3 m4 m5 m6 m7 m8 m9 m10 m11 m_length m_places m_most m_tenths m_changes m_readPlaces m_value m_ends m_clusters m_text m_now m_read m_was m_readRule m_dist m_delays m_fractions m_head m_hour m_number)) (QMi E sz (w_Mo E m0 m1 m2 m3 m4 m5 m6 m7 m8 m9 m10 m11 m_length m_places m_most m_tenths m_changes m_readPlaces m_value m_ends m_clusters m_text m_now m_read m_was m_readRule m_dist m_delays m_fractions m_head m_hour m_number) (fun (u : Int32 × Int32 × Int32 × Int32 × Int32 × Int32 × Int32 × (Nat → Int32) × (Nat → Int32) × (Nat → Int32)) => (w_Mo E m0 m1 m2 m3 m4 m5 m6 m7 m8 m9 m10 m11 m_length u.1 u.2.1 u.2.2.1 u.2.2.2.1 u.2.2.2.2.1 u.2.2.2.2.2.1 u.2.2.2.2.2.2.1 m_clusters m_text u.2.2.2.2.2.2.2.1 u.2.2.2.2.2.2.2.2.1 m_was u.2.2.2.2.2.2.2.2.2 m_dist m_delays m_fractions m_head m_hour m_number)) res) 0 0 (va_A (w_Mo E m0 m1 m2 m3 m4 m5 m6 m7 m8 m9 m10 m11 m_length m_places m_most m_tenths m_changes m_readPlaces m_value m_ends m_clusters m_text m_now m_read m_was m_readRule m_dist m_delays m_fractions m_head m_hour m_number) sz) := by
  refine mk_Mi (cc := cX8_lay) (maxL := 1) (by decide) rfl (Nat.le_of_ble_eq_true rfl) ?_
  intro p e s m args below meth c Q A S hKN hA hret H locs ls hP hD hS hl
  obtain ⟨hx, hb, hml, hown, hts⟩ := S
  obtain ⟨hK, hN⟩ := hKN
  have hl : lv_has ls 1 [(0, .ref m0)] := hl
  have q_0 := hts (.fieldLink RX8 46 "DelayClustersModel" "readPlaces" "I") (by decide +kernel)
  have q_1 := hts (.fieldLink RX8 57 "DelayClustersModel" "places" "I") (by decide +kernel)
  unfold Mo_lay at hf
  refine lv_aload_n hx hb dX8_lay_0 rfl (lv_at hl 0 rfl) ?_
  obtain ⟨⟨r_2, m_readPlaces_3, m_value_4, m_ends_5, m_read_6, m_readRule_7⟩, h_1, hf⟩ := bd_s hf
  try dsimp only at hf
  refine ca_Mi (w2 := (w_Mo E m0 m1 m2 m3 m4 m5 m6 m7 m8 m9 m10 m11 m_length m_places m_most m_tenths m_changes m_readPlaces_3 m_value_4 m_ends_5 m_clusters m_text m_now m_read_6 m_was m_readRule_7 m_dist m_delays m_fractions m_head m_hour m_number)) (As := []) (rest := []) ⟨hx, hb, hml, hown, hts⟩ ⟨hK, hN⟩ hP hD hS hA (c_Mo_reads l E m0 m1 m2 m3 m4 m5 m6 m7 m8 m9 m10 m11 H.size m_length m_places m_most m_tenths m_changes m_readPlaces m_value m_ends m_clusters m_text m_now m_read m_was m_readRule m_dist m_delays m_fractions m_head m_hour m_number (r_2, m_readPlaces_3, m_value_4, m_ends_5, m_read_6, m_readRule_7) h_1) [0, 1, 2, 3, 4, 5, 6, 7, 8, 9, 10, 11] [] [0, 1, 2, 3, 4, 5, 6, 7, 8, 9, 10, 11] rfl rfl rfl rfl (by decide) rfl rfl 8 0 rfl rfl rfl gX8_lay_X8_reads rfl rfl rfl rfl hd_Mo_reads ⟨(Nat.le_of_ble_eq_true rfl), (Nat.le_of_ble_eq_true rfl)⟩ rfl hl.1 rfl (Nat.le_of_ble_eq_true rfl) dX8_lay_1 ⟨(Nat.zero_le _), (Nat.zero_le _)⟩ (fun H locs hP hD hS => ?_)
  refine lv_bipush (v := (-4)) hx hb dX8_lay_4 (by decide) ?_
  refine lv_icmp_ne (tgt := 16) hx hb dX8_lay_6 (by decide) (fun c_15 => ?_) (fun c_15 => ?_)
  · have hf := ite_f c_15 hf
    refine lv_bipush (v := (-2)) hx hb dX8_lay_16 (by decide) ?_
    exact hret H locs ls 18 (-2) (m_places, m_most, m_tenths, m_changes, m_readPlaces_3, m_value_4, m_ends_5, m_now, m_read_6, m_readRule_7) dX8_lay_18 (Option.some.inj hf) hP hD hS
  · have hf := ite_t c_15 hf
    refine lv_aload_n hx hb dX8_lay_9 rfl (lv_at hl 0 rfl) ?_
    refine va_get (D := E.1) (ci := 8) (v := .int m_readPlaces_3) (C := RX8) (T := TX8) (N := 20) hx hb hts in_X8_lay_X8 hown hK hP 0 rfl rfl 9 (by decide) q_0 (fun _ h9 => h9) rfl dX8_lay_10 ?_
    refine lv_if_ne (tgt := 19) hx hb dX8_lay_13 (by decide) (fun c_14 => ?_) (fun c_14 => ?_)
    · have hf := ite_f c_14 hf
      refine lv_aload_n hx hb dX8_lay_19 rfl (lv_at hl 0 rfl) ?_
      obtain ⟨⟨m_places_9, m_most_10, m_tenths_11, m_changes_12, m_now_13⟩, h_8, hf⟩ := bd_s hf
      try dsimp only at hf
      refine ca_Mv (w2 := (w_Mo E m0 m1 m2 m3 m4 m5 m6 m7 m8 m9 m10 m11 m_length m_places_9 m_most_10 m_tenths_11 m_changes_12 m_readPlaces_3 m_value_4 m_ends_5 m_clusters m_text m_now_13 m_read_6 m_was m_readRule_7 m_dist m_delays m_fractions m_head m_hour m_number)) (As := []) (rest := []) ⟨hx, hb, hml, hown, hts⟩ ⟨hK, hN⟩ hP hD hS hA (c_Mo_takes l E m0 m1 m2 m3 m4 m5 m6 m7 m8 m9 m10 m11 H.size m_length m_places m_most m_tenths m_changes m_readPlaces_3 m_value_4 m_ends_5 m_clusters m_text m_now m_read_6 m_was m_readRule_7 m_dist m_delays m_fractions m_head m_hour m_number (m_places_9, m_most_10, m_tenths_11, m_changes_12, m_now_13) h_8) [0, 1, 2, 3, 4, 5, 6, 7, 8, 9, 10, 11] [] [0, 1, 2, 3, 4, 5, 6, 7, 8, 9, 10, 11] rfl rfl rfl rfl (by decide) rfl rfl 8 0 rfl rfl rfl gX8_lay_X8_takes rfl rfl rfl rfl hd_Mo_takes ⟨(Nat.le_of_ble_eq_true rfl), (Nat.le_of_ble_eq_true rfl)⟩ rfl hl.1 rfl (Nat.le_of_ble_eq_true rfl) dX8_lay_20 ⟨(Nat.zero_le _), (Nat.zero_le _)⟩ (fun H locs hP hD hS => ?_)
      refine lv_aload_n hx hb dX8_lay_23 rfl (lv_at hl 0 rfl) ?_
      refine va_get (D := E.1) (ci := 8) (v := .int m_places_9) (C := RX8) (T := TX8) (N := 20) hx hb hts in_X8_lay_X8 hown hK hP 0 rfl rfl 2 (by decide) q_1 (fun _ h9 => h9) rfl dX8_lay_24 ?_
      exact hret H locs ls 27 m_places_9 (m_places_9, m_most_10, m_tenths_11, m_changes_12, m_readPlaces_3, m_value_4, m_ends_5, m_now_13, m_read_6, m_readRule_7) dX8_lay_27 (Option.some.inj hf) hP hD hS
    · have hf := ite_t c_14 hf
      refine lv_bipush (v := (-2)) hx hb dX8_lay_16 (by decide) ?_
      exact hret H locs ls 18 (-2) (m_places, m_most, m_tenths, m_changes, m_readPlaces_3, m_value_4, m_ends_5, m_now, m_read_6, m_readRule_7) dX8_lay_18 (Option.some.inj hf) hP hD hS
abbrev rm_Mo_drawOf : Room := { frames := 0, cells := 0, slots := 0, locals := 0 }
theorem hd_Mo_drawOf : hdOK yX8_drawOf 3 := by decide +kernel
set_option maxRecDepth 100000 in
set_option maxHeartbeats 4000000 in
theorem c_Mo_drawOf (l : Launch) (E : En4) (a0 : Int32) (a1 : Int32) (a2 : Int32)  (res : Int32) (hf : Mo_drawOf a0 a1 a2 = some res) : Met l yX8_drawOf wsX8_drawOf rm_Mo_drawOf (pcR [.int a0, .int a1, .int a2] E (w_No E)) (vp_Si (fun r => r = res)) 0 0 (fun _ => False) := by
  refine mk_Ri (cc := cX8_drawOf) (maxL := 5) (by decide) rfl (Nat.le_of_ble_eq_true rfl) ?_
  intro p e s m args below meth c Q S hKN hP hret ls hl
  obtain ⟨hx, hb, hml, hown, hts⟩ := S
  obtain ⟨hK, hN⟩ := hKN
  have hl : lv_has ls 5 [(0, .int a0), (1, .int a1), (2, .int a2)] := hl
  have q_0 := hts (.constantLong RX8 114 (7919)) (by decide +kernel)
  have q_1 := hts (.constantLong RX8 116 (6151)) (by decide +kernel)
  have q_2 := hts (.constantLong RX8 118 (3571)) (by decide +kernel)
  have q_3 := hts (.constantLong RX8 120 (65521)) (by decide +kernel)
  unfold Mo_drawOf at hf
  refine lv_ldc2 (v := 7919) hx hb hown q_0 dX8_drawOf_0 ?_
  refine lv_iload_n hx hb dX8_drawOf_3 rfl (lv_at hl 0 rfl) ?_
  refine lv_i2l (v := (a0 : Int32).toInt64) hx hb dX8_drawOf_4 rfl ?_
  refine lv_lmul hx hb dX8_drawOf_5 ?_
  refine lv_ldc2 (v := 6151) hx hb hown q_1 dX8_drawOf_6 ?_
  refine lv_iload_n hx hb dX8_drawOf_9 rfl (lv_at hl 1 rfl) ?_
  refine lv_i2l (v := (a1 : Int32).toInt64) hx hb dX8_drawOf_10 rfl ?_
  refine lv_lmul hx hb dX8_drawOf_11 ?_
  refine lv_ladd hx hb dX8_drawOf_12 ?_
  refine lv_ldc2 (v := 3571) hx hb hown q_2 dX8_drawOf_13 ?_
  refine lv_iload_n hx hb dX8_drawOf_16 rfl (lv_at hl 2 rfl) ?_
  refine lv_i2l (v := (a2 : Int32).toInt64) hx hb dX8_drawOf_17 rfl ?_
  refine lv_lmul hx hb dX8_drawOf_18 ?_
  refine lv_ladd hx hb dX8_drawOf_19 ?_
  refine lv_lconst (v := 1) hx hb dX8_drawOf_20 (by decide) ?_
  refine lv_ladd hx hb dX8_drawOf_21 ?_
  refine lv_lstore_n (lv' := [(3, .long ((((7919 * ((a0 : Int32).toInt64)) + (6151 * ((a1 : Int32).toInt64))) + (3571 * ((a2 : Int32).toInt64))) + 1)), (0, .int a0), (1, .int a1), (2, .int a2)]) hx hb dX8_drawOf_22 rfl hl (by decide) rfl (fun ls hl => ?_)
  refine lv_lload_n hx hb dX8_drawOf_23 rfl (lv_at hl 0 rfl) ?_
  refine lv_lload_n hx hb dX8_drawOf_24 rfl (lv_at hl 0 rfl) ?_
  refine lv_lmul hx hb dX8_drawOf_25 ?_
  refine lv_ldc2 (v := 65521) hx hb hown q_3 dX8_drawOf_26 ?_
  refine lv_lrem hx hb dX8_drawOf_29 (by decide) ?_
  refine lv_l2i (v := (((((((7919 * ((a0 : Int32).toInt64)) + (6151 * ((a1 : Int32).toInt64))) + (3571 * ((a2 : Int32).toInt64))) + 1) * ((((7919 * ((a0 : Int32).toInt64)) + (6151 * ((a1 : Int32).toInt64))) + (3571 * ((a2 : Int32).toInt64))) + 1)) - (((((7919 * ((a0 : Int32).toInt64)) + (6151 * ((a1 : Int32).toInt64))) + (3571 * ((a2 : Int32).toInt64))) + 1) * ((((7919 * ((a0 : Int32).toInt64)) + (6151 * ((a1 : Int32).toInt64))) + (3571 * ((a2 : Int32).toInt64))) + 1)) / 65521 * 65521) : Int64).toInt32) hx hb dX8_drawOf_30 rfl ?_
  exact hret ls 31 ((((((((7919 * ((a0 : Int32).toInt64)) + (6151 * ((a1 : Int32).toInt64))) + (3571 * ((a2 : Int32).toInt64))) + 1) * ((((7919 * ((a0 : Int32).toInt64)) + (6151 * ((a1 : Int32).toInt64))) + (3571 * ((a2 : Int32).toInt64))) + 1)) - (((((7919 * ((a0 : Int32).toInt64)) + (6151 * ((a1 : Int32).toInt64))) + (3571 * ((a2 : Int32).toInt64))) + 1) * ((((7919 * ((a0 : Int32).toInt64)) + (6151 * ((a1 : Int32).toInt64))) + (3571 * ((a2 : Int32).toInt64))) + 1)) / 65521 * 65521) : Int64).toInt32) dX8_drawOf_31 (Option.some.inj hf)
abbrev rm_Mo_drawnDelay : Room := { frames := 1, cells := 0, slots := 0, locals := 24 }
theorem hd_Mo_drawnDelay : hdOK yX8_drawnDelay 2 := by decide +kernel
theorem in_X8_drawnDelay_X8 : ∀ w ∈ wsX80, w ∈ wsX8_drawnDelay := by decide +kernel
set_option maxRecDepth 100000 in
set_option maxHeartbeats 4000000 in
theorem c_Mo_drawnDelay (l : Launch) (E : En4) (m0 m1 m2 m3 m4 m5 m6 m7 m8 m9 m10 m11 : Nat) (m_length : Int32) (m_places : Int32) (m_most : Int32) (m_tenths : Int32) (m_changes : Int32) (m_readPlaces : Int32) (m_value : Int32) (m_ends : Int32) (m_clusters : Int32) (m_text : Nat → Int32) (m_now : Nat → Int32) (m_read : Nat → Int32) (m_was : Nat → Int32) (m_readRule : Nat → Int32) (m_dist : Nat → Int32) (m_delays : Nat → Int32) (m_fractions : Nat → Int32) (m_head : Nat → Int32) (m_hour : Nat → Int32) (m_number : Nat → Int32) (a1 : Int32) (a2 : Int32)  (res : Int32) (hf : Mo_drawnDelay m_most m_tenths a1 a2 = some res) : Met l yX8_drawnDelay wsX8_drawnDelay rm_Mo_drawnDelay (pcR [.ref m0, .int a1, .int a2] E (w_Mo E m0 m1 m2 m3 m4 m5 m6 m7 m8 m9 m10 m11 m_length m_places m_most m_tenths m_changes m_readPlaces m_value m_ends m_clusters m_text m_now m_read m_was m_readRule m_dist m_delays m_fractions m_head m_hour m_number)) (vp_Si (fun r => r = res)) 0 0 (fun _ => False) := by
  refine mk_Ri (cc := cX8_drawnDelay) (maxL := 4) (by decide) rfl (Nat.le_of_ble_eq_true rfl) ?_
  intro p e s m args below meth c Q S hKN hP hret ls hl
  obtain ⟨hx, hb, hml, hown, hts⟩ := S
  obtain ⟨hK, hN⟩ := hKN
  have hl : lv_has ls 4 [(0, .ref m0), (1, .int a1), (2, .int a2)] := hl
  have q_0 := hts (.fieldLink RX8 60 "DelayClustersModel" "most" "I") (by decide +kernel)
  have q_1 := hts (.fieldLink RX8 63 "DelayClustersModel" "tenths" "I") (by decide +kernel)
  unfold Mo_drawnDelay at hf
  refine lv_iconst (v := 0) hx hb dX8_drawnDelay_0 (by decide) ?_
  refine lv_istore_n (lv' := [(3, .int 0), (0, .ref m0), (1, .int a1), (2, .int a2)]) hx hb dX8_drawnDelay_1 rfl hl (by decide) rfl (fun ls hl => ?_)
  obtain ⟨w_2, i_2, hf⟩ := bd_s hf
  have KX_2 : ∀ (v3_6 : Int32), v3_6 = w_2 → ∀ (ls : Array Slot), lv_has ls 4 [(3, .int v3_6)] → W p l e rm_Mo_drawnDelay s m args below meth c s.heap [] 0 0 Q (F0 m 32 ls []) := by
    intro v3_6 e_
    subst e_
    try dsimp only at hf
    intro ls hl
    refine lv_iload_n hx hb dX8_drawnDelay_32 rfl (lv_at hl 0 rfl) ?_
    exact hret ls 33 v3_6 dX8_drawnDelay_33 (Option.some.inj hf)
  have KL_2 : ∀ (n_ : Nat) (v3_1 : Int32), it (Mo_drawnDelay_L2 m_most m_tenths a1 a2) n_ v3_1 = some w_2 → ∀ (ls : Array Slot), lv_has ls 4 [(0, .ref m0), (1, .int a1), (2, .int a2), (3, .int v3_1)] → W p l e rm_Mo_drawnDelay s m args below meth c s.heap [] 0 0 Q (F0 m 2 ls []) := by
    intro n_
    induction n_ with
    | zero => intro v3_1 hit; exact (it_z hit).elim
    | succ n_2 ih_2 =>
      intro v3_1 hit
      intro ls hl
      obtain ⟨x_2, hf, hc_2, hq_2⟩ := it_s hit
      dsimp only [Mo_drawnDelay_L2] at hf
      refine lv_iload_n hx hb dX8_drawnDelay_2 rfl (lv_at hl 3 rfl) ?_
      refine lv_aload_n hx hb dX8_drawnDelay_3 rfl (lv_at hl 0 rfl) ?_
      refine va_get (D := E.1) (ci := 8) (v := .int m_most) (C := RX8) (T := TX8) (N := 20) hx hb hts in_X8_drawnDelay_X8 hown hK hP 0 rfl rfl 3 (by decide) q_0 (fun _ h9 => h9) rfl dX8_drawnDelay_4 ?_
      refine lv_icmp_ge (tgt := 32) hx hb dX8_drawnDelay_7 (by decide) (fun c_5 => ?_) (fun c_5 => ?_)
      · have hf := ite_t c_5 hf
        exact KX_2 v3_1 (hq_2 _ (Option.some.inj hf).symm) _ (lv_sub hl [3] rfl)
      · have hf := ite_f c_5 hf
        refine lv_iload_n hx hb dX8_drawnDelay_10 rfl (lv_at hl 1 rfl) ?_
        refine lv_iload_n hx hb dX8_drawnDelay_11 rfl (lv_at hl 2 rfl) ?_
        refine lv_iload_n hx hb dX8_drawnDelay_12 rfl (lv_at hl 3 rfl) ?_
        obtain ⟨r_3, h_2, hf⟩ := bd_s hf
        refine ca_S (As := [.int a1, .int a2, .int v3_1]) (rest := []) ⟨hx, hb, hml, hown, hts⟩ ⟨hK, hN⟩ hP (c_Mo_drawOf l E   a1 a2 v3_1 r_3 h_2) [] rfl gX8_drawnDelay_X8_drawOf rfl rfl rfl hd_Mo_drawOf ⟨(Nat.le_of_ble_eq_true rfl), (Nat.le_of_ble_eq_true rfl)⟩ rfl hl.1 rfl (Nat.le_of_ble_eq_true rfl) dX8_drawnDelay_13 ⟨(Nat.zero_le _), (Nat.zero_le _)⟩ ?_
        refine lv_bipush (v := 10) hx hb dX8_drawnDelay_16 (by decide) ?_
        refine lv_irem hx hb dX8_drawnDelay_18 (by decide) ?_
        refine lv_aload_n hx hb dX8_drawnDelay_19 rfl (lv_at hl 0 rfl) ?_
        refine va_get (D := E.1) (ci := 8) (v := .int m_tenths) (C := RX8) (T := TX8) (N := 20) hx hb hts in_X8_drawnDelay_X8 hown hK hP 0 rfl rfl 4 (by decide) q_1 (fun _ h9 => h9) rfl dX8_drawnDelay_20 ?_
        refine lv_icmp_ge (tgt := 32) hx hb dX8_drawnDelay_23 (by decide) (fun c_4 => ?_) (fun c_4 => ?_)
        · have hf := ite_t c_4 hf
          exact KX_2 v3_1 (hq_2 _ (Option.some.inj hf).symm) _ (lv_sub hl [3] rfl)
        · have hf := ite_f c_4 hf
          refine lv_iinc (v := (v3_1 + 1)) (lv' := [(3, .int (v3_1 + 1)), (0, .ref m0), (1, .int a1), (2, .int a2)]) hx hb dX8_drawnDelay_26 hl (k := 3) rfl rfl (by decide) rfl (fun ls hl => ?_)
          refine lv_goto (tgt := 2) hx hb dX8_drawnDelay_29 (by decide) ?_
          exact ih_2 (v3_1 + 1) (hc_2 _ (Option.some.inj hf).symm) _ (lv_sub hl [1, 2, 3, 0] rfl)
  exact KL_2 _ 0 i_2 _ (lv_sub hl [1, 2, 3, 0] rfl)
abbrev rm_Mo_ways : Room := { frames := 0, cells := 0, slots := 0, locals := 0 }
theorem hd_Mo_ways : hdOK yX8_ways 0 := by decide +kernel
theorem in_X8_ways_X8 : ∀ w ∈ wsX80, w ∈ wsX8_ways := by decide +kernel
set_option maxRecDepth 100000 in
set_option maxHeartbeats 4000000 in
theorem c_Mo_ways (l : Launch) (E : En4) (m0 m1 m2 m3 m4 m5 m6 m7 m8 m9 m10 m11 : Nat) (sz : Nat) (m_length : Int32) (m_places : Int32) (m_most : Int32) (m_tenths : Int32) (m_changes : Int32) (m_readPlaces : Int32) (m_value : Int32) (m_ends : Int32) (m_clusters : Int32) (m_text : Nat → Int32) (m_now : Nat → Int32) (m_read : Nat → Int32) (m_was : Nat → Int32) (m_readRule : Nat → Int32) (m_dist : Nat → Int32) (m_delays : Nat → Int32) (m_fractions : Nat → Int32) (m_head : Nat → Int32) (m_hour : Nat → Int32) (m_number : Nat → Int32)  (res : (Nat → Int32)) (hf : Mo_ways m_places m_now m_dist = some res) : Met l yX8_ways wsX8_ways rm_Mo_ways (pcM [.ref m0] E sz (w_Mo E m0 m1 m2 m3 m4 m5 m6 m7 m8 m9 m10 m11 m_length m_places m_most m_tenths m_changes m_readPlaces m_value m_ends m_clusters m_text m_now m_read m_was m_readRule m_dist m_delays m_fractions m_head m_hour m_number)) (QMv E sz (w_Mo E m0 m1 m2 m3 m4 m5 m6 m7 m8 m9 m10 m11 m_length m_places m_most m_tenths m_changes m_readPlaces m_value m_ends m_clusters m_text m_now m_read m_was m_readRule m_dist m_delays m_fractions m_head m_hour m_number) (fun (u : (Nat → Int32)) => (w_Mo E m0 m1 m2 m3 m4 m5 m6 m7 m8 m9 m10 m11 m_length m_places m_most m_tenths m_changes m_readPlaces m_value m_ends m_clusters m_text m_now m_read m_was m_readRule u m_delays m_fractions m_head m_hour m_number)) res) 0 0 (va_A (w_Mo E m0 m1 m2 m3 m4 m5 m6 m7 m8 m9 m10 m11 m_length m_places m_most m_tenths m_changes m_readPlaces m_value m_ends m_clusters m_text m_now m_read m_was m_readRule m_dist m_delays m_fractions m_head m_hour m_number) sz) := by
  refine mk_Mv (cc := cX8_ways) (maxL := 5) (by decide) rfl (Nat.le_of_ble_eq_true rfl) ?_
  intro p e s m args below meth c Q A S hKN hA hret H locs ls hP hD hS hl
  obtain ⟨hx, hb, hml, hown, hts⟩ := S
  obtain ⟨hK, hN⟩ := hKN
  have hl : lv_has ls 5 [(0, .ref m0)] := hl
  have q_0 := hts (.fieldLink RX8 57 "DelayClustersModel" "places" "I") (by decide +kernel)
  have q_1 := hts (.fieldLink RX8 13 "DelayClustersModel" "now" "[I") (by decide +kernel)
  have q_2 := hts (.fieldLink RX8 25 "DelayClustersModel" "dist" "[I") (by decide +kernel)
  have q_3 := hts (.constant RX8 126 (1000000)) (by decide +kernel)
  unfold Mo_ways at hf
  refine lv_iconst (v := 0) hx hb dX8_ways_0 (by decide) ?_
  refine lv_istore_n (lv' := [(1, .int 0), (0, .ref m0)]) hx hb dX8_ways_1 rfl hl (by decide) rfl (fun ls hl => ?_)
  obtain ⟨w_2, i_2, hf⟩ := bd_s hf
  have KX_2 : ∀ (m_dist_14 : Nat → Int32), m_dist_14 = w_2 → ∀ (H : Heap) (locs : List Loc) (ls : Array Slot), va_P E.1 vwCl (w_Mo E m0 m1 m2 m3 m4 m5 m6 m7 m8 m9 m10 m11 m_length m_places m_most m_tenths m_changes m_readPlaces m_value m_ends m_clusters m_text m_now m_read m_was m_readRule m_dist_14 m_delays m_fractions m_head m_hour m_number) H → va_D A (w_Mo E m0 m1 m2 m3 m4 m5 m6 m7 m8 m9 m10 m11 m_length m_places m_most m_tenths m_changes m_readPlaces m_value m_ends m_clusters m_text m_now m_read m_was m_readRule m_dist_14 m_delays m_fractions m_head m_hour m_number) → va_S A s.heap H locs → lv_has ls 5 [(0, .ref m0)] → W p l e rm_Mo_ways s m args below meth c H locs 0 0 Q (F0 m 74 ls []) := by
    intro m_dist_14 e_
    subst e_
    try dsimp only at hf
    intro H locs ls hP hD hS hl
    refine lv_iconst (v := 0) hx hb dX8_ways_74 (by decide) ?_
    refine lv_istore_n (lv' := [(1, .int 0), (0, .ref m0)]) hx hb dX8_ways_75 rfl hl (by decide) rfl (fun ls hl => ?_)
    obtain ⟨w_76, i_76, hf⟩ := bd_s hf
    have KX_76 : ∀ (m_dist_33 : Nat → Int32), m_dist_33 = w_76 → ∀ (H : Heap) (locs : List Loc) (ls : Array Slot), va_P E.1 vwCl (w_Mo E m0 m1 m2 m3 m4 m5 m6 m7 m8 m9 m10 m11 m_length m_places m_most m_tenths m_changes m_readPlaces m_value m_ends m_clusters m_text m_now m_read m_was m_readRule m_dist_33 m_delays m_fractions m_head m_hour m_number) H → va_D A (w_Mo E m0 m1 m2 m3 m4 m5 m6 m7 m8 m9 m10 m11 m_length m_places m_most m_tenths m_changes m_readPlaces m_value m_ends m_clusters m_text m_now m_read m_was m_readRule m_dist_33 m_delays m_fractions m_head m_hour m_number) → va_S A s.heap H locs → lv_has ls 5 [] → W p l e rm_Mo_ways s m args below meth c H locs 0 0 Q (F0 m 190 ls []) := by
      intro m_dist_33 e_
      subst e_
      try dsimp only at hf
      intro H locs ls hP hD hS hl
      exact hret H locs ls 190 m_dist_33 dX8_ways_190 (Option.some.inj hf) hP hD hS
    have KL_76 : ∀ (n_ : Nat) (v1_15 : Int32) (m_dist_16 : Nat → Int32), it (Mo_ways_L76 m_places) n_ (v1_15, m_dist_16) = some w_76 → ∀ (H : Heap) (locs : List Loc) (ls : Array Slot), va_P E.1 vwCl (w_Mo E m0 m1 m2 m3 m4 m5 m6 m7 m8 m9 m10 m11 m_length m_places m_most m_tenths m_changes m_readPlaces m_value m_ends m_clusters m_text m_now m_read m_was m_readRule m_dist_16 m_delays m_fractions m_head m_hour m_number) H → va_D A (w_Mo E m0 m1 m2 m3 m4 m5 m6 m7 m8 m9 m10 m11 m_length m_places m_most m_tenths m_changes m_readPlaces m_value m_ends m_clusters m_text m_now m_read m_was m_readRule m_dist_16 m_delays m_fractions m_head m_hour m_number) → va_S A s.heap H locs → lv_has ls 5 [(0, .ref m0), (1, .int v1_15)] → W p l e rm_Mo_ways s m args below meth c H locs 0 0 Q (F0 m 76 ls []) := by
      intro n_
      induction n_ with
      | zero => intro v1_15 m_dist_16 hit; exact (it_z hit).elim
      | succ n_76 ih_76 =>
        intro v1_15 m_dist_16 hit
        intro H locs ls hP hD hS hl
        obtain ⟨x_76, hf, hc_76, hq_76⟩ := it_s hit
        dsimp only [Mo_ways_L76] at hf
        refine lv_iload_n hx hb dX8_ways_76 rfl (lv_at hl 1 rfl) ?_
        refine lv_aload_n hx hb dX8_ways_77 rfl (lv_at hl 0 rfl) ?_
        refine va_get (D := E.1) (ci := 8) (v := .int m_places) (C := RX8) (T := TX8) (N := 20) hx hb hts in_X8_ways_X8 hown hK hP 0 rfl rfl 2 (by decide) q_0 (fun _ h9 => h9) rfl dX8_ways_78 ?_
        refine lv_icmp_ge (tgt := 190) hx hb dX8_ways_81 (by decide) (fun c_32 => ?_) (fun c_32 => ?_)
        · have hf := ite_t c_32 hf
          exact KX_76 m_dist_16 (hq_76 _ (Option.some.inj hf).symm) H locs _ hP hD hS (lv_sub hl [] rfl)
        · have hf := ite_f c_32 hf
          refine lv_iconst (v := 0) hx hb dX8_ways_84 (by decide) ?_
          refine lv_istore_n (lv' := [(2, .int 0), (0, .ref m0), (1, .int v1_15)]) hx hb dX8_ways_85 rfl hl (by decide) rfl (fun ls hl => ?_)
          obtain ⟨w_86, i_86, hf⟩ := bd_s hf
          have KX_86 : ∀ (m_dist_31 : Nat → Int32), m_dist_31 = w_86 → ∀ (H : Heap) (locs : List Loc) (ls : Array Slot), va_P E.1 vwCl (w_Mo E m0 m1 m2 m3 m4 m5 m6 m7 m8 m9 m10 m11 m_length m_places m_most m_tenths m_changes m_readPlaces m_value m_ends m_clusters m_text m_now m_read m_was m_readRule m_dist_31 m_delays m_fractions m_head m_hour m_number) H → va_D A (w_Mo E m0 m1 m2 m3 m4 m5 m6 m7 m8 m9 m10 m11 m_length m_places m_most m_tenths m_changes m_readPlaces m_value m_ends m_clusters m_text m_now m_read m_was m_readRule m_dist_31 m_delays m_fractions m_head m_hour m_number) → va_S A s.heap H locs → lv_has ls 5 [(0, .ref m0), (1, .int v1_15)] → W p l e rm_Mo_ways s m args below meth c H locs 0 0 Q (F0 m 184 ls []) := by
            intro m_dist_31 e_
            subst e_
            try dsimp only at hf
            intro H locs ls hP hD hS hl
            refine lv_iinc (v := (v1_15 + 1)) (lv' := [(1, .int (v1_15 + 1)), (0, .ref m0)]) hx hb dX8_ways_184 hl (k := 1) rfl rfl (by decide) rfl (fun ls hl => ?_)
            refine lv_goto (tgt := 76) hx hb dX8_ways_187 (by decide) ?_
            exact ih_76 (v1_15 + 1) m_dist_31 (hc_76 _ (Option.some.inj hf).symm) H locs _ hP hD hS (lv_sub hl [1, 0] rfl)
          have KL_86 : ∀ (n_ : Nat) (v2_17 : Int32) (m_dist_18 : Nat → Int32), it (Mo_ways_L86 m_places v1_15) n_ (v2_17, m_dist_18) = some w_86 → ∀ (H : Heap) (locs : List Loc) (ls : Array Slot), va_P E.1 vwCl (w_Mo E m0 m1 m2 m3 m4 m5 m6 m7 m8 m9 m10 m11 m_length m_places m_most m_tenths m_changes m_readPlaces m_value m_ends m_clusters m_text m_now m_read m_was m_readRule m_dist_18 m_delays m_fractions m_head m_hour m_number) H → va_D A (w_Mo E m0 m1 m2 m3 m4 m5 m6 m7 m8 m9 m10 m11 m_length m_places m_most m_tenths m_changes m_readPlaces m_value m_ends m_clusters m_text m_now m_read m_was m_readRule m_dist_18 m_delays m_fractions m_head m_hour m_number) → va_S A s.heap H locs → lv_has ls 5 [(0, .ref m0), (1, .int v1_15), (2, .int v2_17)] → W p l e rm_Mo_ways s m args below meth c H locs 0 0 Q (F0 m 86 ls []) := by
            intro n_
            induction n_ with
            | zero => intro v2_17 m_dist_18 hit; exact (it_z hit).elim
            | succ n_86 ih_86 =>
              intro v2_17 m_dist_18 hit
              intro H locs ls hP hD hS hl
              obtain ⟨x_86, hf, hc_86, hq_86⟩ := it_s hit
              dsimp only [Mo_ways_L86] at hf
              refine lv_iload_n hx hb dX8_ways_86 rfl (lv_at hl 2 rfl) ?_
              refine lv_aload_n hx hb dX8_ways_87 rfl (lv_at hl 0 rfl) ?_
              refine va_get (D := E.1) (ci := 8) (v := .int m_places) (C := RX8) (T := TX8) (N := 20) hx hb hts in_X8_ways_X8 hown hK hP 0 rfl rfl 2 (by decide) q_0 (fun _ h9 => h9) rfl dX8_ways_88 ?_
              refine lv_icmp_ge (tgt := 184) hx hb dX8_ways_91 (by decide) (fun c_30 => ?_) (fun c_30 => ?_)
              · have hf := ite_t c_30 hf
                exact KX_86 m_dist_18 (hq_86 _ (Option.some.inj hf).symm) H locs _ hP hD hS (lv_sub hl [0, 1] rfl)
              · have hf := ite_f c_30 hf
                refine lv_iconst (v := 0) hx hb dX8_ways_94 (by decide) ?_
                refine lv_istore_n (lv' := [(3, .int 0), (0, .ref m0), (1, .int v1_15), (2, .int v2_17)]) hx hb dX8_ways_95 rfl hl (by decide) rfl (fun ls hl => ?_)
                obtain ⟨w_96, i_96, hf⟩ := bd_s hf
                have KX_96 : ∀ (m_dist_29 : Nat → Int32), m_dist_29 = w_96 → ∀ (H : Heap) (locs : List Loc) (ls : Array Slot), va_P E.1 vwCl (w_Mo E m0 m1 m2 m3 m4 m5 m6 m7 m8 m9 m10 m11 m_length m_places m_most m_tenths m_changes m_readPlaces m_value m_ends m_clusters m_text m_now m_read m_was m_readRule m_dist_29 m_delays m_fractions m_head m_hour m_number) H → va_D A (w_Mo E m0 m1 m2 m3 m4 m5 m6 m7 m8 m9 m10 m11 m_length m_places m_most m_tenths m_changes m_readPlaces m_value m_ends m_clusters m_text m_now m_read m_was m_readRule m_dist_29 m_delays m_fractions m_head m_hour m_number) → va_S A s.heap H locs → lv_has ls 5 [(0, .ref m0), (1, .int v1_15), (2, .int v2_17)] → W p l e rm_Mo_ways s m args below meth c H locs 0 0 Q (F0 m 178 ls []) := by
                  intro m_dist_29 e_
                  subst e_
                  try dsimp only at hf
                  intro H locs ls hP hD hS hl
                  refine lv_iinc (v := (v2_17 + 1)) (lv' := [(2, .int (v2_17 + 1)), (0, .ref m0), (1, .int v1_15)]) hx hb dX8_ways_178 hl (k := 2) rfl rfl (by decide) rfl (fun ls hl => ?_)
                  refine lv_goto (tgt := 86) hx hb dX8_ways_181 (by decide) ?_
                  exact ih_86 (v2_17 + 1) m_dist_29 (hc_86 _ (Option.some.inj hf).symm) H locs _ hP hD hS (lv_sub hl [1, 2, 0] rfl)
                have KL_96 : ∀ (n_ : Nat) (v3_19 : Int32) (m_dist_20 : Nat → Int32), it (Mo_ways_L96 m_places v1_15 v2_17) n_ (v3_19, m_dist_20) = some w_96 → ∀ (H : Heap) (locs : List Loc) (ls : Array Slot), va_P E.1 vwCl (w_Mo E m0 m1 m2 m3 m4 m5 m6 m7 m8 m9 m10 m11 m_length m_places m_most m_tenths m_changes m_readPlaces m_value m_ends m_clusters m_text m_now m_read m_was m_readRule m_dist_20 m_delays m_fractions m_head m_hour m_number) H → va_D A (w_Mo E m0 m1 m2 m3 m4 m5 m6 m7 m8 m9 m10 m11 m_length m_places m_most m_tenths m_changes m_readPlaces m_value m_ends m_clusters m_text m_now m_read m_was m_readRule m_dist_20 m_delays m_fractions m_head m_hour m_number) → va_S A s.heap H locs → lv_has ls 5 [(0, .ref m0), (1, .int v1_15), (2, .int v2_17), (3, .int v3_19)] → W p l e rm_Mo_ways s m args below meth c H locs 0 0 Q (F0 m 96 ls []) := by
                  intro n_
                  induction n_ with
                  | zero => intro v3_19 m_dist_20 hit; exact (it_z hit).elim
                  | succ n_96 ih_96 =>
                    intro v3_19 m_dist_20 hit
                    intro H locs ls hP hD hS hl
                    obtain ⟨x_96, hf, hc_96, hq_96⟩ := it_s hit
                    dsimp only [Mo_ways_L96] at hf
                    refine lv_iload_n hx hb dX8_ways_96 rfl (lv_at hl 3 rfl) ?_
                    refine lv_aload_n hx hb dX8_ways_97 rfl (lv_at hl 0 rfl) ?_
                    refine va_get (D := E.1) (ci := 8) (v := .int m_places) (C := RX8) (T := TX8) (N := 20) hx hb hts in_X8_ways_X8 hown hK hP 0 rfl rfl 2 (by decide) q_0 (fun _ h9 => h9) rfl dX8_ways_98 ?_
                    refine lv_icmp_ge (tgt := 178) hx hb dX8_ways_101 (by decide) (fun c_28 => ?_) (fun c_28 => ?_)
                    · have hf := ite_t c_28 hf
                      exact KX_96 m_dist_20 (hq_96 _ (Option.some.inj hf).symm) H locs _ hP hD hS (lv_sub hl [0, 1, 2] rfl)
                    · have hf := ite_f c_28 hf
                      refine lv_aload_n hx hb dX8_ways_104 rfl (lv_at hl 0 rfl) ?_
                      refine va_get (D := E.1) (ci := 8) (v := .ref m6) (C := RX8) (T := TX8) (N := 20) hx hb hts in_X8_ways_X8 hown hK hP 0 rfl rfl 13 (by decide) q_2 (fun _ h9 => h9) rfl dX8_ways_105 ?_
                      refine lv_bipush (v := 16) hx hb dX8_ways_108 (by decide) ?_
                      refine lv_iload_n hx hb dX8_ways_110 rfl (lv_at hl 2 rfl) ?_
                      refine lv_imul hx hb dX8_ways_111 ?_
                      refine lv_iload_n hx hb dX8_ways_112 rfl (lv_at hl 1 rfl) ?_
                      refine lv_iadd hx hb dX8_ways_113 ?_
                      obtain ⟨g_21, hf⟩ := gk_s hf
                      refine va_iald hx hb hK hP 6 0 rfl rfl g_21 dX8_ways_114 ?_
                      refine lv_aload_n hx hb dX8_ways_115 rfl (lv_at hl 0 rfl) ?_
                      refine va_get (D := E.1) (ci := 8) (v := .ref m6) (C := RX8) (T := TX8) (N := 20) hx hb hts in_X8_ways_X8 hown hK hP 0 rfl rfl 13 (by decide) q_2 (fun _ h9 => h9) rfl dX8_ways_116 ?_
                      refine lv_bipush (v := 16) hx hb dX8_ways_119 (by decide) ?_
                      refine lv_iload_n hx hb dX8_ways_121 rfl (lv_at hl 1 rfl) ?_
                      refine lv_imul hx hb dX8_ways_122 ?_
                      refine lv_iload_n hx hb dX8_ways_123 rfl (lv_at hl 3 rfl) ?_
                      refine lv_iadd hx hb dX8_ways_124 ?_
                      obtain ⟨g_22, hf⟩ := gk_s hf
                      refine va_iald hx hb hK hP 6 0 rfl rfl g_22 dX8_ways_125 ?_
                      refine lv_iadd hx hb dX8_ways_126 ?_
                      refine lv_istore (lv' := [(4, .int ((m_dist_20 ((16 * v2_17) + v1_15).toNatClampNeg) + (m_dist_20 ((16 * v1_15) + v3_19).toNatClampNeg))), (0, .ref m0), (1, .int v1_15), (2, .int v2_17), (3, .int v3_19)]) hx hb dX8_ways_127 hl (by decide) rfl (fun ls hl => ?_)
                      refine lv_aload_n hx hb dX8_ways_129 rfl (lv_at hl 1 rfl) ?_
                      refine va_get (D := E.1) (ci := 8) (v := .ref m6) (C := RX8) (T := TX8) (N := 20) hx hb hts in_X8_ways_X8 hown hK hP 0 rfl rfl 13 (by decide) q_2 (fun _ h9 => h9) rfl dX8_ways_130 ?_
                      refine lv_bipush (v := 16) hx hb dX8_ways_133 (by decide) ?_
                      refine lv_iload_n hx hb dX8_ways_135 rfl (lv_at hl 3 rfl) ?_
                      refine lv_imul hx hb dX8_ways_136 ?_
                      refine lv_iload_n hx hb dX8_ways_137 rfl (lv_at hl 4 rfl) ?_
                      refine lv_iadd hx hb dX8_ways_138 ?_
                      refine lv_iload hx hb dX8_ways_139 (lv_at hl 0 rfl) ?_
                      refine lv_aload_n hx hb dX8_ways_141 rfl (lv_at hl 1 rfl) ?_
                      refine va_get (D := E.1) (ci := 8) (v := .ref m6) (C := RX8) (T := TX8) (N := 20) hx hb hts in_X8_ways_X8 hown hK hP 0 rfl rfl 13 (by decide) q_2 (fun _ h9 => h9) rfl dX8_ways_142 ?_
                      refine lv_bipush (v := 16) hx hb dX8_ways_145 (by decide) ?_
                      refine lv_iload_n hx hb dX8_ways_147 rfl (lv_at hl 3 rfl) ?_
                      refine lv_imul hx hb dX8_ways_148 ?_
                      refine lv_iload_n hx hb dX8_ways_149 rfl (lv_at hl 4 rfl) ?_
                      refine lv_iadd hx hb dX8_ways_150 ?_
                      obtain ⟨g_23, hf⟩ := gk_s hf
                      refine va_iald hx hb hK hP 6 0 rfl rfl g_23 dX8_ways_151 ?_
                      refine lv_icmp_ge (tgt := 160) hx hb dX8_ways_152 (by decide) (fun c_27 => ?_) (fun c_27 => ?_)
                      · have hf := ite_t c_27 hf
                        refine lv_aload_n hx hb dX8_ways_160 rfl (lv_at hl 1 rfl) ?_
                        refine va_get (D := E.1) (ci := 8) (v := .ref m6) (C := RX8) (T := TX8) (N := 20) hx hb hts in_X8_ways_X8 hown hK hP 0 rfl rfl 13 (by decide) q_2 (fun _ h9 => h9) rfl dX8_ways_161 ?_
                        refine lv_bipush (v := 16) hx hb dX8_ways_164 (by decide) ?_
                        refine lv_iload_n hx hb dX8_ways_166 rfl (lv_at hl 3 rfl) ?_
                        refine lv_imul hx hb dX8_ways_167 ?_
                        refine lv_iload_n hx hb dX8_ways_168 rfl (lv_at hl 4 rfl) ?_
                        refine lv_iadd hx hb dX8_ways_169 ?_
                        obtain ⟨g_24, hf⟩ := gk_s hf
                        refine va_iald hx hb hK hP 6 0 rfl rfl g_24 dX8_ways_170 ?_
                        obtain ⟨g_25, hf⟩ := gk_s hf
                        refine va_iast hx hb hK hP hD hS 6 0 rfl rfl g_25 dX8_ways_171 (fun H locs hP hD hS => ?_)
                        have hP : va_P E.1 vwCl (w_Mo E m0 m1 m2 m3 m4 m5 m6 m7 m8 m9 m10 m11 m_length m_places m_most m_tenths m_changes m_readPlaces m_value m_ends m_clusters m_text m_now m_read m_was m_readRule (upd m_dist_20 ((16 * v2_17) + v3_19).toNatClampNeg (m_dist_20 ((16 * v2_17) + v3_19).toNatClampNeg)) m_delays m_fractions m_head m_hour m_number) H := hP
                        have hD : va_D A (w_Mo E m0 m1 m2 m3 m4 m5 m6 m7 m8 m9 m10 m11 m_length m_places m_most m_tenths m_changes m_readPlaces m_value m_ends m_clusters m_text m_now m_read m_was m_readRule (upd m_dist_20 ((16 * v2_17) + v3_19).toNatClampNeg (m_dist_20 ((16 * v2_17) + v3_19).toNatClampNeg)) m_delays m_fractions m_head m_hour m_number) := hD
                        refine lv_iinc (v := (v3_19 + 1)) (lv' := [(3, .int (v3_19 + 1)), (4, .int ((m_dist_20 ((16 * v2_17) + v1_15).toNatClampNeg) + (m_dist_20 ((16 * v1_15) + v3_19).toNatClampNeg))), (0, .ref m0), (1, .int v1_15), (2, .int v2_17)]) hx hb dX8_ways_172 hl (k := 4) rfl rfl (by decide) rfl (fun ls hl => ?_)
                        refine lv_goto (tgt := 96) hx hb dX8_ways_175 (by decide) ?_
                        exact ih_96 (v3_19 + 1) (upd m_dist_20 ((16 * v2_17) + v3_19).toNatClampNeg (m_dist_20 ((16 * v2_17) + v3_19).toNatClampNeg)) (hc_96 _ (Option.some.inj hf).symm) H locs _ hP hD hS (lv_sub hl [2, 3, 4, 0] rfl)
                      · have hf := ite_f c_27 hf
                        refine lv_iload hx hb dX8_ways_155 (lv_at hl 0 rfl) ?_
                        refine lv_goto (tgt := 171) hx hb dX8_ways_157 (by decide) ?_
                        obtain ⟨g_26, hf⟩ := gk_s hf
                        refine va_iast hx hb hK hP hD hS 6 0 rfl rfl g_26 dX8_ways_171 (fun H locs hP hD hS => ?_)
                        have hP : va_P E.1 vwCl (w_Mo E m0 m1 m2 m3 m4 m5 m6 m7 m8 m9 m10 m11 m_length m_places m_most m_tenths m_changes m_readPlaces m_value m_ends m_clusters m_text m_now m_read m_was m_readRule (upd m_dist_20 ((16 * v2_17) + v3_19).toNatClampNeg ((m_dist_20 ((16 * v2_17) + v1_15).toNatClampNeg) + (m_dist_20 ((16 * v1_15) + v3_19).toNatClampNeg))) m_delays m_fractions m_head m_hour m_number) H := hP
                        have hD : va_D A (w_Mo E m0 m1 m2 m3 m4 m5 m6 m7 m8 m9 m10 m11 m_length m_places m_most m_tenths m_changes m_readPlaces m_value m_ends m_clusters m_text m_now m_read m_was m_readRule (upd m_dist_20 ((16 * v2_17) + v3_19).toNatClampNeg ((m_dist_20 ((16 * v2_17) + v1_15).toNatClampNeg) + (m_dist_20 ((16 * v1_15) + v3_19).toNatClampNeg))) m_delays m_fractions m_head m_hour m_number) := hD
                        refine lv_iinc (v := (v3_19 + 1)) (lv' := [(3, .int (v3_19 + 1)), (4, .int ((m_dist_20 ((16 * v2_17) + v1_15).toNatClampNeg) + (m_dist_20 ((16 * v1_15) + v3_19).toNatClampNeg))), (0, .ref m0), (1, .int v1_15), (2, .int v2_17)]) hx hb dX8_ways_172 hl (k := 4) rfl rfl (by decide) rfl (fun ls hl => ?_)
                        refine lv_goto (tgt := 96) hx hb dX8_ways_175 (by decide) ?_
                        exact ih_96 (v3_19 + 1) (upd m_dist_20 ((16 * v2_17) + v3_19).toNatClampNeg ((m_dist_20 ((16 * v2_17) + v1_15).toNatClampNeg) + (m_dist_20 ((16 * v1_15) + v3_19).toNatClampNeg))) (hc_96 _ (Option.some.inj hf).symm) H locs _ hP hD hS (lv_sub hl [2, 3, 4, 0] rfl)
                exact KL_96 _ 0 m_dist_18 i_96 H locs _ hP hD hS (lv_sub hl [1, 2, 3, 0] rfl)
          exact KL_86 _ 0 m_dist_16 i_86 H locs _ hP hD hS (lv_sub hl [1, 2, 0] rfl)
    exact KL_76 _ 0 m_dist_14 i_76 H locs _ hP hD hS (lv_sub hl [1, 0] rfl)
  have KL_2 : ∀ (n_ : Nat) (v1_1 : Int32) (m_dist_2 : Nat → Int32), it (Mo_ways_L2 m_places m_now) n_ (v1_1, m_dist_2) = some w_2 → ∀ (H : Heap) (locs : List Loc) (ls : Array Slot), va_P E.1 vwCl (w_Mo E m0 m1 m2 m3 m4 m5 m6 m7 m8 m9 m10 m11 m_length m_places m_most m_tenths m_changes m_readPlaces m_value m_ends m_clusters m_text m_now m_read m_was m_readRule m_dist_2 m_delays m_fractions m_head m_hour m_number) H → va_D A (w_Mo E m0 m1 m2 m3 m4 m5 m6 m7 m8 m9 m10 m11 m_length m_places m_most m_tenths m_changes m_readPlaces m_value m_ends m_clusters m_text m_now m_read m_was m_readRule m_dist_2 m_delays m_fractions m_head m_hour m_number) → va_S A s.heap H locs → lv_has ls 5 [(0, .ref m0), (1, .int v1_1)] → W p l e rm_Mo_ways s m args below meth c H locs 0 0 Q (F0 m 2 ls []) := by
    intro n_
    induction n_ with
    | zero => intro v1_1 m_dist_2 hit; exact (it_z hit).elim
    | succ n_2 ih_2 =>
      intro v1_1 m_dist_2 hit
      intro H locs ls hP hD hS hl
      obtain ⟨x_2, hf, hc_2, hq_2⟩ := it_s hit
      dsimp only [Mo_ways_L2] at hf
      refine lv_iload_n hx hb dX8_ways_2 rfl (lv_at hl 1 rfl) ?_
      refine lv_aload_n hx hb dX8_ways_3 rfl (lv_at hl 0 rfl) ?_
      refine va_get (D := E.1) (ci := 8) (v := .int m_places) (C := RX8) (T := TX8) (N := 20) hx hb hts in_X8_ways_X8 hown hK hP 0 rfl rfl 2 (by decide) q_0 (fun _ h9 => h9) rfl dX8_ways_4 ?_
      refine lv_icmp_ge (tgt := 74) hx hb dX8_ways_7 (by decide) (fun c_13 => ?_) (fun c_13 => ?_)
      · have hf := ite_t c_13 hf
        exact KX_2 m_dist_2 (hq_2 _ (Option.some.inj hf).symm) H locs _ hP hD hS (lv_sub hl [0] rfl)
      · have hf := ite_f c_13 hf
        refine lv_iconst (v := 0) hx hb dX8_ways_10 (by decide) ?_
        refine lv_istore_n (lv' := [(2, .int 0), (0, .ref m0), (1, .int v1_1)]) hx hb dX8_ways_11 rfl hl (by decide) rfl (fun ls hl => ?_)
        obtain ⟨w_12, i_12, hf⟩ := bd_s hf
        have KX_12 : ∀ (m_dist_12 : Nat → Int32), m_dist_12 = w_12 → ∀ (H : Heap) (locs : List Loc) (ls : Array Slot), va_P E.1 vwCl (w_Mo E m0 m1 m2 m3 m4 m5 m6 m7 m8 m9 m10 m11 m_length m_places m_most m_tenths m_changes m_readPlaces m_value m_ends m_clusters m_text m_now m_read m_was m_readRule m_dist_12 m_delays m_fractions m_head m_hour m_number) H → va_D A (w_Mo E m0 m1 m2 m3 m4 m5 m6 m7 m8 m9 m10 m11 m_length m_places m_most m_tenths m_changes m_readPlaces m_value m_ends m_clusters m_text m_now m_read m_was m_readRule m_dist_12 m_delays m_fractions m_head m_hour m_number) → va_S A s.heap H locs → lv_has ls 5 [(0, .ref m0), (1, .int v1_1)] → W p l e rm_Mo_ways s m args below meth c H locs 0 0 Q (F0 m 68 ls []) := by
          intro m_dist_12 e_
          subst e_
          try dsimp only at hf
          intro H locs ls hP hD hS hl
          refine lv_iinc (v := (v1_1 + 1)) (lv' := [(1, .int (v1_1 + 1)), (0, .ref m0)]) hx hb dX8_ways_68 hl (k := 1) rfl rfl (by decide) rfl (fun ls hl => ?_)
          refine lv_goto (tgt := 2) hx hb dX8_ways_71 (by decide) ?_
          exact ih_2 (v1_1 + 1) m_dist_12 (hc_2 _ (Option.some.inj hf).symm) H locs _ hP hD hS (lv_sub hl [1, 0] rfl)
        have KL_12 : ∀ (n_ : Nat) (v2_3 : Int32) (m_dist_4 : Nat → Int32), it (Mo_ways_L12 m_places m_now v1_1) n_ (v2_3, m_dist_4) = some w_12 → ∀ (H : Heap) (locs : List Loc) (ls : Array Slot), va_P E.1 vwCl (w_Mo E m0 m1 m2 m3 m4 m5 m6 m7 m8 m9 m10 m11 m_length m_places m_most m_tenths m_changes m_readPlaces m_value m_ends m_clusters m_text m_now m_read m_was m_readRule m_dist_4 m_delays m_fractions m_head m_hour m_number) H → va_D A (w_Mo E m0 m1 m2 m3 m4 m5 m6 m7 m8 m9 m10 m11 m_length m_places m_most m_tenths m_changes m_readPlaces m_value m_ends m_clusters m_text m_now m_read m_was m_readRule m_dist_4 m_delays m_fractions m_head m_hour m_number) → va_S A s.heap H locs → lv_has ls 5 [(0, .ref m0), (1, .int v1_1), (2, .int v2_3)] → W p l e rm_Mo_ways s m args below meth c H locs 0 0 Q (F0 m 12 ls []) := by
          intro n_
          induction n_ with
          | zero => intro v2_3 m_dist_4 hit; exact (it_z hit).elim
          | succ n_12 ih_12 =>
            intro v2_3 m_dist_4 hit
            intro H locs ls hP hD hS hl
            obtain ⟨x_12, hf, hc_12, hq_12⟩ := it_s hit
            dsimp only [Mo_ways_L12] at hf
            refine lv_iload_n hx hb dX8_ways_12 rfl (lv_at hl 2 rfl) ?_
            refine lv_aload_n hx hb dX8_ways_13 rfl (lv_at hl 0 rfl) ?_
            refine va_get (D := E.1) (ci := 8) (v := .int m_places) (C := RX8) (T := TX8) (N := 20) hx hb hts in_X8_ways_X8 hown hK hP 0 rfl rfl 2 (by decide) q_0 (fun _ h9 => h9) rfl dX8_ways_14 ?_
            refine lv_icmp_ge (tgt := 68) hx hb dX8_ways_17 (by decide) (fun c_11 => ?_) (fun c_11 => ?_)
            · have hf := ite_t c_11 hf
              exact KX_12 m_dist_4 (hq_12 _ (Option.some.inj hf).symm) H locs _ hP hD hS (lv_sub hl [0, 1] rfl)
            · have hf := ite_f c_11 hf
              refine lv_aload_n hx hb dX8_ways_20 rfl (lv_at hl 0 rfl) ?_
              refine va_get (D := E.1) (ci := 8) (v := .ref m2) (C := RX8) (T := TX8) (N := 20) hx hb hts in_X8_ways_X8 hown hK hP 0 rfl rfl 5 (by decide) q_1 (fun _ h9 => h9) rfl dX8_ways_21 ?_
              refine lv_bipush (v := 16) hx hb dX8_ways_24 (by decide) ?_
              refine lv_iload_n hx hb dX8_ways_26 rfl (lv_at hl 1 rfl) ?_
              refine lv_imul hx hb dX8_ways_27 ?_
              refine lv_iload_n hx hb dX8_ways_28 rfl (lv_at hl 2 rfl) ?_
              refine lv_iadd hx hb dX8_ways_29 ?_
              obtain ⟨g_5, hf⟩ := gk_s hf
              refine va_iald hx hb hK hP 2 0 rfl rfl g_5 dX8_ways_30 ?_
              refine lv_istore_n (lv' := [(3, .int (m_now ((16 * v1_1) + v2_3).toNatClampNeg)), (0, .ref m0), (1, .int v1_1), (2, .int v2_3)]) hx hb dX8_ways_31 rfl hl (by decide) rfl (fun ls hl => ?_)
              refine lv_aload_n hx hb dX8_ways_32 rfl (lv_at hl 1 rfl) ?_
              refine va_get (D := E.1) (ci := 8) (v := .ref m6) (C := RX8) (T := TX8) (N := 20) hx hb hts in_X8_ways_X8 hown hK hP 0 rfl rfl 13 (by decide) q_2 (fun _ h9 => h9) rfl dX8_ways_33 ?_
              refine lv_bipush (v := 16) hx hb dX8_ways_36 (by decide) ?_
              refine lv_iload_n hx hb dX8_ways_38 rfl (lv_at hl 2 rfl) ?_
              refine lv_imul hx hb dX8_ways_39 ?_
              refine lv_iload_n hx hb dX8_ways_40 rfl (lv_at hl 3 rfl) ?_
              refine lv_iadd hx hb dX8_ways_41 ?_
              refine lv_iload_n hx hb dX8_ways_42 rfl (lv_at hl 2 rfl) ?_
              refine lv_iload_n hx hb dX8_ways_43 rfl (lv_at hl 3 rfl) ?_
              refine lv_icmp_ne (tgt := 51) hx hb dX8_ways_44 (by decide) (fun c_10 => ?_) (fun c_10 => ?_)
              · have hf := ite_f c_10 hf
                refine lv_iload_n hx hb dX8_ways_51 rfl (lv_at hl 0 rfl) ?_
                refine lv_if_le (tgt := 59) hx hb dX8_ways_52 (by decide) (fun c_8 => ?_) (fun c_8 => ?_)
                · have hf := ite_t c_8 hf
                  refine lv_ldc (v := 1000000) hx hb hown q_3 dX8_ways_59 ?_
                  obtain ⟨g_6, hf⟩ := gk_s hf
                  refine va_iast hx hb hK hP hD hS 6 0 rfl rfl g_6 dX8_ways_61 (fun H locs hP hD hS => ?_)
                  have hP : va_P E.1 vwCl (w_Mo E m0 m1 m2 m3 m4 m5 m6 m7 m8 m9 m10 m11 m_length m_places m_most m_tenths m_changes m_readPlaces m_value m_ends m_clusters m_text m_now m_read m_was m_readRule (upd m_dist_4 ((16 * v1_1) + v2_3).toNatClampNeg 1000000) m_delays m_fractions m_head m_hour m_number) H := hP
                  have hD : va_D A (w_Mo E m0 m1 m2 m3 m4 m5 m6 m7 m8 m9 m10 m11 m_length m_places m_most m_tenths m_changes m_readPlaces m_value m_ends m_clusters m_text m_now m_read m_was m_readRule (upd m_dist_4 ((16 * v1_1) + v2_3).toNatClampNeg 1000000) m_delays m_fractions m_head m_hour m_number) := hD
                  refine lv_iinc (v := (v2_3 + 1)) (lv' := [(2, .int (v2_3 + 1)), (3, .int (m_now ((16 * v1_1) + v2_3).toNatClampNeg)), (0, .ref m0), (1, .int v1_1)]) hx hb dX8_ways_62 hl (k := 3) rfl rfl (by decide) rfl (fun ls hl => ?_)
                  refine lv_goto (tgt := 12) hx hb dX8_ways_65 (by decide) ?_
                  exact ih_12 (v2_3 + 1) (upd m_dist_4 ((16 * v1_1) + v2_3).toNatClampNeg 1000000) (hc_12 _ (Option.some.inj hf).symm) H locs _ hP hD hS (lv_sub hl [2, 3, 0] rfl)
                · have hf := ite_f c_8 hf
                  refine lv_iload_n hx hb dX8_ways_55 rfl (lv_at hl 0 rfl) ?_
                  refine lv_goto (tgt := 61) hx hb dX8_ways_56 (by decide) ?_
                  obtain ⟨g_7, hf⟩ := gk_s hf
                  refine va_iast hx hb hK hP hD hS 6 0 rfl rfl g_7 dX8_ways_61 (fun H locs hP hD hS => ?_)
                  have hP : va_P E.1 vwCl (w_Mo E m0 m1 m2 m3 m4 m5 m6 m7 m8 m9 m10 m11 m_length m_places m_most m_tenths m_changes m_readPlaces m_value m_ends m_clusters m_text m_now m_read m_was m_readRule (upd m_dist_4 ((16 * v1_1) + v2_3).toNatClampNeg (m_now ((16 * v1_1) + v2_3).toNatClampNeg)) m_delays m_fractions m_head m_hour m_number) H := hP
                  have hD : va_D A (w_Mo E m0 m1 m2 m3 m4 m5 m6 m7 m8 m9 m10 m11 m_length m_places m_most m_tenths m_changes m_readPlaces m_value m_ends m_clusters m_text m_now m_read m_was m_readRule (upd m_dist_4 ((16 * v1_1) + v2_3).toNatClampNeg (m_now ((16 * v1_1) + v2_3).toNatClampNeg)) m_delays m_fractions m_head m_hour m_number) := hD
                  refine lv_iinc (v := (v2_3 + 1)) (lv' := [(2, .int (v2_3 + 1)), (3, .int (m_now ((16 * v1_1) + v2_3).toNatClampNeg)), (0, .ref m0), (1, .int v1_1)]) hx hb dX8_ways_62 hl (k := 3) rfl rfl (by decide) rfl (fun ls hl => ?_)
                  refine lv_goto (tgt := 12) hx hb dX8_ways_65 (by decide) ?_
                  exact ih_12 (v2_3 + 1) (upd m_dist_4 ((16 * v1_1) + v2_3).toNatClampNeg (m_now ((16 * v1_1) + v2_3).toNatClampNeg)) (hc_12 _ (Option.some.inj hf).symm) H locs _ hP hD hS (lv_sub hl [2, 3, 0] rfl)
              · have hf := ite_t c_10 hf
                refine lv_iconst (v := 0) hx hb dX8_ways_47 (by decide) ?_
                refine lv_goto (tgt := 61) hx hb dX8_ways_48 (by decide) ?_
                obtain ⟨g_9, hf⟩ := gk_s hf
                refine va_iast hx hb hK hP hD hS 6 0 rfl rfl g_9 dX8_ways_61 (fun H locs hP hD hS => ?_)
                have hP : va_P E.1 vwCl (w_Mo E m0 m1 m2 m3 m4 m5 m6 m7 m8 m9 m10 m11 m_length m_places m_most m_tenths m_changes m_readPlaces m_value m_ends m_clusters m_text m_now m_read m_was m_readRule (upd m_dist_4 ((16 * v1_1) + v2_3).toNatClampNeg 0) m_delays m_fractions m_head m_hour m_number) H := hP
                have hD : va_D A (w_Mo E m0 m1 m2 m3 m4 m5 m6 m7 m8 m9 m10 m11 m_length m_places m_most m_tenths m_changes m_readPlaces m_value m_ends m_clusters m_text m_now m_read m_was m_readRule (upd m_dist_4 ((16 * v1_1) + v2_3).toNatClampNeg 0) m_delays m_fractions m_head m_hour m_number) := hD
                refine lv_iinc (v := (v2_3 + 1)) (lv' := [(2, .int (v2_3 + 1)), (3, .int (m_now ((16 * v1_1) + v2_3).toNatClampNeg)), (0, .ref m0), (1, .int v1_1)]) hx hb dX8_ways_62 hl (k := 3) rfl rfl (by decide) rfl (fun ls hl => ?_)
                refine lv_goto (tgt := 12) hx hb dX8_ways_65 (by decide) ?_
                exact ih_12 (v2_3 + 1) (upd m_dist_4 ((16 * v1_1) + v2_3).toNatClampNeg 0) (hc_12 _ (Option.some.inj hf).symm) H locs _ hP hD hS (lv_sub hl [2, 3, 0] rfl)
        exact KL_12 _ 0 m_dist_2 i_12 H locs _ hP hD hS (lv_sub hl [1, 2, 0] rfl)
  exact KL_2 _ 0 m_dist i_2 H locs _ hP hD hS (lv_sub hl [1, 0] rfl)
abbrev rm_Mo_greatest : Room := { frames := 0, cells := 0, slots := 0, locals := 0 }
theorem hd_Mo_greatest : hdOK yX8_greatest 0 := by decide +kernel
theorem in_X8_greatest_X8 : ∀ w ∈ wsX80, w ∈ wsX8_greatest := by decide +kernel
set_option maxRecDepth 100000 in
set_option maxHeartbeats 4000000 in
theorem c_Mo_greatest (l : Launch) (E : En4) (m0 m1 m2 m3 m4 m5 m6 m7 m8 m9 m10 m11 : Nat) (m_length : Int32) (m_places : Int32) (m_most : Int32) (m_tenths : Int32) (m_changes : Int32) (m_readPlaces : Int32) (m_value : Int32) (m_ends : Int32) (m_clusters : Int32) (m_text : Nat → Int32) (m_now : Nat → Int32) (m_read : Nat → Int32) (m_was : Nat → Int32) (m_readRule : Nat → Int32) (m_dist : Nat → Int32) (m_delays : Nat → Int32) (m_fractions : Nat → Int32) (m_head : Nat → Int32) (m_hour : Nat → Int32) (m_number : Nat → Int32)  (res : Int32) (hf : Mo_greatest m_places m_delays = some res) : Met l yX8_greatest wsX8_greatest rm_Mo_greatest (pcR [.ref m0] E (w_Mo E m0 m1 m2 m3 m4 m5 m6 m7 m8 m9 m10 m11 m_length m_places m_most m_tenths m_changes m_readPlaces m_value m_ends m_clusters m_text m_now m_read m_was m_readRule m_dist m_delays m_fractions m_head m_hour m_number)) (vp_Si (fun r => r = res)) 0 0 (fun _ => False) := by
  refine mk_Ri (cc := cX8_greatest) (maxL := 3) (by decide) rfl (Nat.le_of_ble_eq_true rfl) ?_
  intro p e s m args below meth c Q S hKN hP hret ls hl
  obtain ⟨hx, hb, hml, hown, hts⟩ := S
  obtain ⟨hK, hN⟩ := hKN
  have hl : lv_has ls 3 [(0, .ref m0)] := hl
  have q_0 := hts (.fieldLink RX8 57 "DelayClustersModel" "places" "I") (by decide +kernel)
  have q_1 := hts (.fieldLink RX8 28 "DelayClustersModel" "delays" "[I") (by decide +kernel)
  unfold Mo_greatest at hf
  refine lv_iconst (v := 0) hx hb dX8_greatest_0 (by decide) ?_
  refine lv_istore_n (lv' := [(1, .int 0), (0, .ref m0)]) hx hb dX8_greatest_1 rfl hl (by decide) rfl (fun ls hl => ?_)
  refine lv_iconst (v := 0) hx hb dX8_greatest_2 (by decide) ?_
  refine lv_istore_n (lv' := [(2, .int 0), (1, .int 0), (0, .ref m0)]) hx hb dX8_greatest_3 rfl hl (by decide) rfl (fun ls hl => ?_)
  obtain ⟨w_4, i_4, hf⟩ := bd_s hf
  have KX_4 : ∀ (v1_7 : Int32), v1_7 = w_4 → ∀ (ls : Array Slot), lv_has ls 3 [(1, .int v1_7)] → W p l e rm_Mo_greatest s m args below meth c s.heap [] 0 0 Q (F0 m 39 ls []) := by
    intro v1_7 e_
    subst e_
    try dsimp only at hf
    intro ls hl
    refine lv_iload_n hx hb dX8_greatest_39 rfl (lv_at hl 0 rfl) ?_
    exact hret ls 40 v1_7 dX8_greatest_40 (Option.some.inj hf)
  have KL_4 : ∀ (n_ : Nat) (v1_1 : Int32) (v2_2 : Int32), it (Mo_greatest_L4 m_places m_delays) n_ (v1_1, v2_2) = some w_4 → ∀ (ls : Array Slot), lv_has ls 3 [(0, .ref m0), (1, .int v1_1), (2, .int v2_2)] → W p l e rm_Mo_greatest s m args below meth c s.heap [] 0 0 Q (F0 m 4 ls []) := by
    intro n_
    induction n_ with
    | zero => intro v1_1 v2_2 hit; exact (it_z hit).elim
    | succ n_4 ih_4 =>
      intro v1_1 v2_2 hit
      intro ls hl
      obtain ⟨x_4, hf, hc_4, hq_4⟩ := it_s hit
      dsimp only [Mo_greatest_L4] at hf
      refine lv_iload_n hx hb dX8_greatest_4 rfl (lv_at hl 2 rfl) ?_
      refine lv_aload_n hx hb dX8_greatest_5 rfl (lv_at hl 0 rfl) ?_
      refine va_get (D := E.1) (ci := 8) (v := .int m_places) (C := RX8) (T := TX8) (N := 20) hx hb hts in_X8_greatest_X8 hown hK hP 0 rfl rfl 2 (by decide) q_0 (fun _ h9 => h9) rfl dX8_greatest_6 ?_
      refine lv_icmp_ge (tgt := 39) hx hb dX8_greatest_9 (by decide) (fun c_6 => ?_) (fun c_6 => ?_)
      · have hf := ite_t c_6 hf
        exact KX_4 v1_1 (hq_4 _ (Option.some.inj hf).symm) _ (lv_sub hl [1] rfl)
      · have hf := ite_f c_6 hf
        refine lv_aload_n hx hb dX8_greatest_12 rfl (lv_at hl 0 rfl) ?_
        refine va_get (D := E.1) (ci := 8) (v := .ref m7) (C := RX8) (T := TX8) (N := 20) hx hb hts in_X8_greatest_X8 hown hK hP 0 rfl rfl 14 (by decide) q_1 (fun _ h9 => h9) rfl dX8_greatest_13 ?_
        refine lv_iload_n hx hb dX8_greatest_16 rfl (lv_at hl 2 rfl) ?_
        obtain ⟨g_3, hf⟩ := gk_s hf
        refine va_iald hx hb hK hP 7 0 rfl rfl g_3 dX8_greatest_17 ?_
        refine lv_iload_n hx hb dX8_greatest_18 rfl (lv_at hl 1 rfl) ?_
        refine lv_icmp_le (tgt := 31) hx hb dX8_greatest_19 (by decide) (fun c_5 => ?_) (fun c_5 => ?_)
        · have hf := ite_t c_5 hf
          refine lv_iload_n hx hb dX8_greatest_31 rfl (lv_at hl 1 rfl) ?_
          refine lv_istore_n (lv' := [(1, .int v1_1), (0, .ref m0), (2, .int v2_2)]) hx hb dX8_greatest_32 rfl hl (by decide) rfl (fun ls hl => ?_)
          refine lv_iinc (v := (v2_2 + 1)) (lv' := [(2, .int (v2_2 + 1)), (1, .int v1_1), (0, .ref m0)]) hx hb dX8_greatest_33 hl (k := 2) rfl rfl (by decide) rfl (fun ls hl => ?_)
          refine lv_goto (tgt := 4) hx hb dX8_greatest_36 (by decide) ?_
          exact ih_4 v1_1 (v2_2 + 1) (hc_4 _ (Option.some.inj hf).symm) _ (lv_sub hl [2, 1, 0] rfl)
        · have hf := ite_f c_5 hf
          refine lv_aload_n hx hb dX8_greatest_22 rfl (lv_at hl 0 rfl) ?_
          refine va_get (D := E.1) (ci := 8) (v := .ref m7) (C := RX8) (T := TX8) (N := 20) hx hb hts in_X8_greatest_X8 hown hK hP 0 rfl rfl 14 (by decide) q_1 (fun _ h9 => h9) rfl dX8_greatest_23 ?_
          refine lv_iload_n hx hb dX8_greatest_26 rfl (lv_at hl 2 rfl) ?_
          obtain ⟨g_4, hf⟩ := gk_s hf
          refine va_iald hx hb hK hP 7 0 rfl rfl g_4 dX8_greatest_27 ?_
          refine lv_goto (tgt := 32) hx hb dX8_greatest_28 (by decide) ?_
          refine lv_istore_n (lv' := [(1, .int (m_delays v2_2.toNatClampNeg)), (0, .ref m0), (2, .int v2_2)]) hx hb dX8_greatest_32 rfl hl (by decide) rfl (fun ls hl => ?_)
          refine lv_iinc (v := (v2_2 + 1)) (lv' := [(2, .int (v2_2 + 1)), (1, .int (m_delays v2_2.toNatClampNeg)), (0, .ref m0)]) hx hb dX8_greatest_33 hl (k := 2) rfl rfl (by decide) rfl (fun ls hl => ?_)
          refine lv_goto (tgt := 4) hx hb dX8_greatest_36 (by decide) ?_
          exact ih_4 (m_delays v2_2.toNatClampNeg) (v2_2 + 1) (hc_4 _ (Option.some.inj hf).symm) _ (lv_sub hl [2, 1, 0] rfl)
  exact KL_4 _ 0 0 i_4 _ (lv_sub hl [2, 1, 0] rfl)
abbrev rm_Mo_isEarlier : Room := { frames := 0, cells := 0, slots := 0, locals := 0 }
theorem hd_Mo_isEarlier : hdOK yX8_isEarlier 4 := by decide +kernel
theorem in_X8_isEarlier_X8 : ∀ w ∈ wsX80, w ∈ wsX8_isEarlier := by decide +kernel
set_option maxRecDepth 100000 in
set_option maxHeartbeats 4000000 in
theorem c_Mo_isEarlier (l : Launch) (E : En4) (m0 m1 m2 m3 m4 m5 m6 m7 m8 m9 m10 m11 : Nat) (m_length : Int32) (m_places : Int32) (m_most : Int32) (m_tenths : Int32) (m_changes : Int32) (m_readPlaces : Int32) (m_value : Int32) (m_ends : Int32) (m_clusters : Int32) (m_text : Nat → Int32) (m_now : Nat → Int32) (m_read : Nat → Int32) (m_was : Nat → Int32) (m_readRule : Nat → Int32) (m_dist : Nat → Int32) (m_delays : Nat → Int32) (m_fractions : Nat → Int32) (m_head : Nat → Int32) (m_hour : Nat → Int32) (m_number : Nat → Int32) (a1 : Int32) (a2 : Int32) (a3 : Int32) (a4 : Int32)  (res : Int32) (hf : Mo_isEarlier m_dist m_delays m_fractions a1 a2 a3 a4 = some res) : Met l yX8_isEarlier wsX8_isEarlier rm_Mo_isEarlier (pcR [.ref m0, .int a1, .int a2, .int a3, .int a4] E (w_Mo E m0 m1 m2 m3 m4 m5 m6 m7 m8 m9 m10 m11 m_length m_places m_most m_tenths m_changes m_readPlaces m_value m_ends m_clusters m_text m_now m_read m_was m_readRule m_dist m_delays m_fractions m_head m_hour m_number)) (vp_Si (fun r => r = res)) 0 0 (fun _ => False) := by
  refine mk_Rz (cc := cX8_isEarlier) (maxL := 7) (by decide) rfl (Nat.le_of_ble_eq_true rfl) ?_
  intro p e s m args below meth c Q S hKN hP hret ls hl
  obtain ⟨hx, hb, hml, hown, hts⟩ := S
  obtain ⟨hK, hN⟩ := hKN
  have hl : lv_has ls 7 [(0, .ref m0), (1, .int a1), (2, .int a2), (3, .int a3), (4, .int a4)] := hl
  have q_0 := hts (.fieldLink RX8 28 "DelayClustersModel" "delays" "[I") (by decide +kernel)
  have q_1 := hts (.fieldLink RX8 25 "DelayClustersModel" "dist" "[I") (by decide +kernel)
  have q_2 := hts (.fieldLink RX8 31 "DelayClustersModel" "fractions" "[I") (by decide +kernel)
  unfold Mo_isEarlier at hf
  refine lv_iload hx hb dX8_isEarlier_0 (lv_at hl 4 rfl) ?_
  refine lv_aload_n hx hb dX8_isEarlier_2 rfl (lv_at hl 0 rfl) ?_
  refine va_get (D := E.1) (ci := 8) (v := .ref m7) (C := RX8) (T := TX8) (N := 20) hx hb hts in_X8_isEarlier_X8 hown hK hP 0 rfl rfl 14 (by decide) q_0 (fun _ h9 => h9) rfl dX8_isEarlier_3 ?_
  refine lv_iload_n hx hb dX8_isEarlier_6 rfl (lv_at hl 1 rfl) ?_
  obtain ⟨g_1, hf⟩ := gk_s hf
  refine va_iald hx hb hK hP 7 0 rfl rfl g_1 dX8_isEarlier_7 ?_
  refine lv_isub hx hb dX8_isEarlier_8 ?_
  refine lv_aload_n hx hb dX8_isEarlier_9 rfl (lv_at hl 0 rfl) ?_
  refine va_get (D := E.1) (ci := 8) (v := .ref m6) (C := RX8) (T := TX8) (N := 20) hx hb hts in_X8_isEarlier_X8 hown hK hP 0 rfl rfl 13 (by decide) q_1 (fun _ h9 => h9) rfl dX8_isEarlier_10 ?_
  refine lv_bipush (v := 16) hx hb dX8_isEarlier_13 (by decide) ?_
  refine lv_iload_n hx hb dX8_isEarlier_15 rfl (lv_at hl 1 rfl) ?_
  refine lv_imul hx hb dX8_isEarlier_16 ?_
  refine lv_iload_n hx hb dX8_isEarlier_17 rfl (lv_at hl 3 rfl) ?_
  refine lv_iadd hx hb dX8_isEarlier_18 ?_
  obtain ⟨g_2, hf⟩ := gk_s hf
  refine va_iald hx hb hK hP 6 0 rfl rfl g_2 dX8_isEarlier_19 ?_
  refine lv_iadd hx hb dX8_isEarlier_20 ?_
  refine lv_istore (lv' := [(5, .int ((a4 - (m_delays a1.toNatClampNeg)) + (m_dist ((16 * a1) + a3).toNatClampNeg))), (0, .ref m0), (1, .int a1), (2, .int a2), (3, .int a3), (4, .int a4)]) hx hb dX8_isEarlier_21 hl (by decide) rfl (fun ls hl => ?_)
  refine lv_iload hx hb dX8_isEarlier_23 (lv_at hl 5 rfl) ?_
  refine lv_aload_n hx hb dX8_isEarlier_25 rfl (lv_at hl 1 rfl) ?_
  refine va_get (D := E.1) (ci := 8) (v := .ref m7) (C := RX8) (T := TX8) (N := 20) hx hb hts in_X8_isEarlier_X8 hown hK hP 0 rfl rfl 14 (by decide) q_0 (fun _ h9 => h9) rfl dX8_isEarlier_26 ?_
  refine lv_iload_n hx hb dX8_isEarlier_29 rfl (lv_at hl 3 rfl) ?_
  obtain ⟨g_3, hf⟩ := gk_s hf
  refine va_iald hx hb hK hP 7 0 rfl rfl g_3 dX8_isEarlier_30 ?_
  refine lv_isub hx hb dX8_isEarlier_31 ?_
  refine lv_aload_n hx hb dX8_isEarlier_32 rfl (lv_at hl 1 rfl) ?_
  refine va_get (D := E.1) (ci := 8) (v := .ref m6) (C := RX8) (T := TX8) (N := 20) hx hb hts in_X8_isEarlier_X8 hown hK hP 0 rfl rfl 13 (by decide) q_1 (fun _ h9 => h9) rfl dX8_isEarlier_33 ?_
  refine lv_bipush (v := 16) hx hb dX8_isEarlier_36 (by decide) ?_
  refine lv_iload_n hx hb dX8_isEarlier_38 rfl (lv_at hl 3 rfl) ?_
  refine lv_imul hx hb dX8_isEarlier_39 ?_
  refine lv_iload_n hx hb dX8_isEarlier_40 rfl (lv_at hl 4 rfl) ?_
  refine lv_iadd hx hb dX8_isEarlier_41 ?_
  obtain ⟨g_4, hf⟩ := gk_s hf
  refine va_iald hx hb hK hP 6 0 rfl rfl g_4 dX8_isEarlier_42 ?_
  refine lv_iadd hx hb dX8_isEarlier_43 ?_
  refine lv_istore (lv' := [(6, .int ((a4 - (m_delays a2.toNatClampNeg)) + (m_dist ((16 * a2) + a3).toNatClampNeg))), (5, .int ((a4 - (m_delays a1.toNatClampNeg)) + (m_dist ((16 * a1) + a3).toNatClampNeg))), (0, .ref m0), (1, .int a1), (2, .int a2), (3, .int a3), (4, .int a4)]) hx hb dX8_isEarlier_44 hl (by decide) rfl (fun ls hl => ?_)
  refine lv_iload hx hb dX8_isEarlier_46 (lv_at hl 1 rfl) ?_
  refine lv_iload hx hb dX8_isEarlier_48 (lv_at hl 0 rfl) ?_
  refine lv_icmp_eq (tgt := 68) hx hb dX8_isEarlier_50 (by decide) (fun c_9 => ?_) (fun c_9 => ?_)
  · have hf := ite_t c_9 hf
    refine lv_aload_n hx hb dX8_isEarlier_68 rfl (lv_at hl 2 rfl) ?_
    refine va_get (D := E.1) (ci := 8) (v := .ref m8) (C := RX8) (T := TX8) (N := 20) hx hb hts in_X8_isEarlier_X8 hown hK hP 0 rfl rfl 15 (by decide) q_2 (fun _ h9 => h9) rfl dX8_isEarlier_69 ?_
    refine lv_iload_n hx hb dX8_isEarlier_72 rfl (lv_at hl 3 rfl) ?_
    obtain ⟨g_5, hf⟩ := gk_s hf
    refine va_iald hx hb hK hP 8 0 rfl rfl g_5 dX8_isEarlier_73 ?_
    refine lv_aload_n hx hb dX8_isEarlier_74 rfl (lv_at hl 2 rfl) ?_
    refine va_get (D := E.1) (ci := 8) (v := .ref m8) (C := RX8) (T := TX8) (N := 20) hx hb hts in_X8_isEarlier_X8 hown hK hP 0 rfl rfl 15 (by decide) q_2 (fun _ h9 => h9) rfl dX8_isEarlier_75 ?_
    refine lv_iload_n hx hb dX8_isEarlier_78 rfl (lv_at hl 4 rfl) ?_
    obtain ⟨g_6, hf⟩ := gk_s hf
    refine va_iald hx hb hK hP 8 0 rfl rfl g_6 dX8_isEarlier_79 ?_
    refine lv_icmp_ge (tgt := 87) hx hb dX8_isEarlier_80 (by decide) (fun c_7 => ?_) (fun c_7 => ?_)
    · have hf := ite_t c_7 hf
      refine lv_iconst (v := 0) hx hb dX8_isEarlier_87 (by decide) ?_
      exact hret ls 88 0 dX8_isEarlier_88 (by decide) (Option.some.inj hf)
    · have hf := ite_f c_7 hf
      refine lv_iconst (v := 1) hx hb dX8_isEarlier_83 (by decide) ?_
      refine lv_goto (tgt := 88) hx hb dX8_isEarlier_84 (by decide) ?_
      exact hret ls 88 1 dX8_isEarlier_88 (by decide) (Option.some.inj hf)
  · have hf := ite_f c_9 hf
    refine lv_iload hx hb dX8_isEarlier_53 (lv_at hl 1 rfl) ?_
    refine lv_iload hx hb dX8_isEarlier_55 (lv_at hl 0 rfl) ?_
    refine lv_icmp_ge (tgt := 64) hx hb dX8_isEarlier_57 (by decide) (fun c_8 => ?_) (fun c_8 => ?_)
    · have hf := ite_t c_8 hf
      refine lv_iconst (v := 0) hx hb dX8_isEarlier_64 (by decide) ?_
      refine lv_goto (tgt := 88) hx hb dX8_isEarlier_65 (by decide) ?_
      exact hret ls 88 0 dX8_isEarlier_88 (by decide) (Option.some.inj hf)
    · have hf := ite_f c_8 hf
      refine lv_iconst (v := 1) hx hb dX8_isEarlier_60 (by decide) ?_
      refine lv_goto (tgt := 88) hx hb dX8_isEarlier_61 (by decide) ?_
      exact hret ls 88 1 dX8_isEarlier_88 (by decide) (Option.some.inj hf)
abbrev rm_Mo_join : Room := { frames := 1, cells := 0, slots := 0, locals := 26 }
theorem hd_Mo_join : hdOK yX8_join 0 := by decide +kernel
theorem in_X8_join_X8 : ∀ w ∈ wsX80, w ∈ wsX8_join := by decide +kernel
set_option maxRecDepth 100000 in
set_option maxHeartbeats 4000000 in
theorem c_Mo_join (l : Launch) (E : En4) (m0 m1 m2 m3 m4 m5 m6 m7 m8 m9 m10 m11 : Nat) (sz : Nat) (m_length : Int32) (m_places : Int32) (m_most : Int32) (m_tenths : Int32) (m_changes : Int32) (m_readPlaces : Int32) (m_value : Int32) (m_ends : Int32) (m_clusters : Int32) (m_text : Nat → Int32) (m_now : Nat → Int32) (m_read : Nat → Int32) (m_was : Nat → Int32) (m_readRule : Nat → Int32) (m_dist : Nat → Int32) (m_delays : Nat → Int32) (m_fractions : Nat → Int32) (m_head : Nat → Int32) (m_hour : Nat → Int32) (m_number : Nat → Int32)  (res : Int32 × (Nat → Int32) × (Nat → Int32) × (Nat → Int32)) (hf : Mo_join m_places m_clusters m_dist m_delays m_fractions m_head m_hour m_number = some res) : Met l yX8_join wsX8_join rm_Mo_join (pcM [.ref m0] E sz (w_Mo E m0 m1 m2 m3 m4 m5 m6 m7 m8 m9 m10 m11 m_length m_places m_most m_tenths m_changes m_readPlaces m_value m_ends m_clusters m_text m_now m_read m_was m_readRule m_dist m_delays m_fractions m_head m_hour m_number)) (QMv E sz (w_Mo E m0 m1 m2 m3 m4 m5 m6 m7 m8 m9 m10 m11 m_length m_places m_most m_tenths m_changes m_readPlaces m_value m_ends m_clusters m_text m_now m_read m_was m_readRule m_dist m_delays m_fractions m_head m_hour m_number) (fun (u : Int32 × (Nat → Int32) × (Nat → Int32) × (Nat → Int32)) => (w_Mo E m0 m1 m2 m3 m4 m5 m6 m7 m8 m9 m10 m11 m_length m_places m_most m_tenths m_changes m_readPlaces m_value m_ends u.1 m_text m_now m_read m_was m_readRule m_dist m_delays m_fractions u.2.1 u.2.2.1 u.2.2.2)) res) 0 0 (va_A (w_Mo E m0 m1 m2 m3 m4 m5 m6 m7 m8 m9 m10 m11 m_length m_places m_most m_tenths m_changes m_readPlaces m_value m_ends m_clusters m_text m_now m_read m_was m_readRule m_dist m_delays m_fractions m_head m_hour m_number) sz) := by
  refine mk_Mv (cc := cX8_join) (maxL := 7) (by decide) rfl (Nat.le_of_ble_eq_true rfl) ?_
  intro p e s m args below meth c Q A S hKN hA hret H locs ls hP hD hS hl
  obtain ⟨hx, hb, hml, hown, hts⟩ := S
  obtain ⟨hK, hN⟩ := hKN
  have hl : lv_has ls 7 [(0, .ref m0)] := hl
  have q_0 := hts (.fieldLink RX8 130 "DelayClustersModel" "clusters" "I") (by decide +kernel)
  have q_1 := hts (.fieldLink RX8 57 "DelayClustersModel" "places" "I") (by decide +kernel)
  have q_2 := hts (.fieldLink RX8 25 "DelayClustersModel" "dist" "[I") (by decide +kernel)
  have q_3 := hts (.constant RX8 126 (1000000)) (by decide +kernel)
  have q_4 := hts (.fieldLink RX8 34 "DelayClustersModel" "head" "[I") (by decide +kernel)
  have q_5 := hts (.fieldLink RX8 37 "DelayClustersModel" "hour" "[I") (by decide +kernel)
  have q_6 := hts (.fieldLink RX8 28 "DelayClustersModel" "delays" "[I") (by decide +kernel)
  have q_7 := hts (.fieldLink RX8 40 "DelayClustersModel" "number" "[I") (by decide +kernel)
  unfold Mo_join at hf
  refine lv_aload_n hx hb dX8_join_0 rfl (lv_at hl 0 rfl) ?_
  obtain ⟨r_2, h_1, hf⟩ := bd_s hf
  refine ca_V (As := []) (rest := []) ⟨hx, hb, hml, hown, hts⟩ ⟨hK, hN⟩ hP (c_Mo_greatest l E m0 m1 m2 m3 m4 m5 m6 m7 m8 m9 m10 m11 m_length m_places m_most m_tenths m_changes m_readPlaces m_value m_ends m_clusters m_text m_now m_read m_was m_readRule m_dist m_delays m_fractions m_head m_hour m_number r_2 h_1) [0, 1, 2, 3, 4, 5, 6, 7, 8, 9, 10, 11] rfl 8 0 rfl rfl rfl gX8_join_X8_greatest rfl rfl rfl rfl hd_Mo_greatest ⟨(Nat.le_of_ble_eq_true rfl), (Nat.le_of_ble_eq_true rfl)⟩ rfl hl.1 rfl (Nat.le_of_ble_eq_true rfl) dX8_join_1 ⟨(Nat.zero_le _), (Nat.zero_le _)⟩ ?_
  refine lv_istore_n (lv' := [(1, .int r_2), (0, .ref m0)]) hx hb dX8_join_4 rfl hl (by decide) rfl (fun ls hl => ?_)
  refine lv_aload_n hx hb dX8_join_5 rfl (lv_at hl 1 rfl) ?_
  refine lv_iconst (v := 0) hx hb dX8_join_6 (by decide) ?_
  refine va_put (D := E.1) (ci := 8) (v := .int 0) (ty := .int) (C := RX8) (T := TX8) (N := 20) hx hb hts in_X8_join_X8 tyX8 tyX8_ok nmX8 hown hK hP hD hS 0 rfl rfl 19 (by decide) q_0 (fun _ h9 => h9) rfl (by decide +kernel) rfl rfl (Nat.le_of_ble_eq_true rfl) dX8_join_7 (fun H locs hP hD hS => ?_)
  have hP : va_P E.1 vwCl (w_Mo E m0 m1 m2 m3 m4 m5 m6 m7 m8 m9 m10 m11 m_length m_places m_most m_tenths m_changes m_readPlaces m_value m_ends 0 m_text m_now m_read m_was m_readRule m_dist m_delays m_fractions m_head m_hour m_number) H := hP
  have hD : va_D A (w_Mo E m0 m1 m2 m3 m4 m5 m6 m7 m8 m9 m10 m11 m_length m_places m_most m_tenths m_changes m_readPlaces m_value m_ends 0 m_text m_now m_read m_was m_readRule m_dist m_delays m_fractions m_head m_hour m_number) := hD
  refine lv_iconst (v := 0) hx hb dX8_join_10 (by decide) ?_
  refine lv_istore_n (lv' := [(2, .int 0), (1, .int r_2), (0, .ref m0)]) hx hb dX8_join_11 rfl hl (by decide) rfl (fun ls hl => ?_)
  obtain ⟨w_12, i_12, hf⟩ := bd_s hf
  have KX_12 : ∀ (m_head_29 : Nat → Int32) (m_hour_30 : Nat → Int32), (m_head_29, m_hour_30) = w_12 → ∀ (H : Heap) (locs : List Loc) (ls : Array Slot), va_P E.1 vwCl (w_Mo E m0 m1 m2 m3 m4 m5 m6 m7 m8 m9 m10 m11 m_length m_places m_most m_tenths m_changes m_readPlaces m_value m_ends 0 m_text m_now m_read m_was m_readRule m_dist m_delays m_fractions m_head_29 m_hour_30 m_number) H → va_D A (w_Mo E m0 m1 m2 m3 m4 m5 m6 m7 m8 m9 m10 m11 m_length m_places m_most m_tenths m_changes m_readPlaces m_value m_ends 0 m_text m_now m_read m_was m_readRule m_dist m_delays m_fractions m_head_29 m_hour_30 m_number) → va_S A s.heap H locs → lv_has ls 7 [(0, .ref m0)] → W p l e rm_Mo_join s m args below meth c H locs 0 0 Q (F0 m 163 ls []) := by
    intro m_head_29 m_hour_30 e_
    subst e_
    try dsimp only at hf
    intro H locs ls hP hD hS hl
    refine lv_iconst (v := 0) hx hb dX8_join_163 (by decide) ?_
    refine lv_istore_n (lv' := [(2, .int 0), (0, .ref m0)]) hx hb dX8_join_164 rfl hl (by decide) rfl (fun ls hl => ?_)
    obtain ⟨w_165, i_165, hf⟩ := bd_s hf
    have KX_165 : ∀ (m_clusters_46 : Int32) (m_number_47 : Nat → Int32), (m_clusters_46, m_number_47) = w_165 → ∀ (H : Heap) (locs : List Loc) (ls : Array Slot), va_P E.1 vwCl (w_Mo E m0 m1 m2 m3 m4 m5 m6 m7 m8 m9 m10 m11 m_length m_places m_most m_tenths m_changes m_readPlaces m_value m_ends m_clusters_46 m_text m_now m_read m_was m_readRule m_dist m_delays m_fractions m_head_29 m_hour_30 m_number_47) H → va_D A (w_Mo E m0 m1 m2 m3 m4 m5 m6 m7 m8 m9 m10 m11 m_length m_places m_most m_tenths m_changes m_readPlaces m_value m_ends m_clusters_46 m_text m_now m_read m_was m_readRule m_dist m_delays m_fractions m_head_29 m_hour_30 m_number_47) → va_S A s.heap H locs → lv_has ls 7 [] → W p l e rm_Mo_join s m args below meth c H locs 0 0 Q (F0 m 257 ls []) := by
      intro m_clusters_46 m_number_47 e_
      subst e_
      try dsimp only at hf
      intro H locs ls hP hD hS hl
      exact hret H locs ls 257 (m_clusters_46, m_head_29, m_hour_30, m_number_47) dX8_join_257 (Option.some.inj hf) hP hD hS
    have KL_165 : ∀ (n_ : Nat) (v2_31 : Int32) (m_clusters_32 : Int32) (m_number_33 : Nat → Int32), it (Mo_join_L165 m_places m_head_29) n_ (v2_31, m_clusters_32, m_number_33) = some w_165 → ∀ (H : Heap) (locs : List Loc) (ls : Array Slot), va_P E.1 vwCl (w_Mo E m0 m1 m2 m3 m4 m5 m6 m7 m8 m9 m10 m11 m_length m_places m_most m_tenths m_changes m_readPlaces m_value m_ends m_clusters_32 m_text m_now m_read m_was m_readRule m_dist m_delays m_fractions m_head_29 m_hour_30 m_number_33) H → va_D A (w_Mo E m0 m1 m2 m3 m4 m5 m6 m7 m8 m9 m10 m11 m_length m_places m_most m_tenths m_changes m_readPlaces m_value m_ends m_clusters_32 m_text m_now m_read m_was m_readRule m_dist m_delays m_fractions m_head_29 m_hour_30 m_number_33) → va_S A s.heap H locs → lv_has ls 7 [(0, .ref m0), (2, .int v2_31)] → W p l e rm_Mo_join s m args below meth c H locs 0 0 Q (F0 m 165 ls []) := by
      intro n_
      induction n_ with
      | zero => intro v2_31 m_clusters_32 m_number_33 hit; exact (it_z hit).elim
      | succ n_165 ih_165 =>
        intro v2_31 m_clusters_32 m_number_33 hit
        intro H locs ls hP hD hS hl
        obtain ⟨x_165, hf, hc_165, hq_165⟩ := it_s hit
        dsimp only [Mo_join_L165] at hf
        refine lv_iload_n hx hb dX8_join_165 rfl (lv_at hl 1 rfl) ?_
        refine lv_aload_n hx hb dX8_join_166 rfl (lv_at hl 0 rfl) ?_
        refine va_get (D := E.1) (ci := 8) (v := .int m_places) (C := RX8) (T := TX8) (N := 20) hx hb hts in_X8_join_X8 hown hK hP 0 rfl rfl 2 (by decide) q_1 (fun _ h9 => h9) rfl dX8_join_167 ?_
        refine lv_icmp_ge (tgt := 257) hx hb dX8_join_170 (by decide) (fun c_45 => ?_) (fun c_45 => ?_)
        · have hf := ite_t c_45 hf
          exact KX_165 m_clusters_32 m_number_33 (hq_165 _ (Option.some.inj hf).symm) H locs _ hP hD hS (lv_sub hl [] rfl)
        · have hf := ite_f c_45 hf
          refine lv_iconst (v := 0) hx hb dX8_join_173 (by decide) ?_
          refine lv_istore_n (lv' := [(3, .int 0), (0, .ref m0), (2, .int v2_31)]) hx hb dX8_join_174 rfl hl (by decide) rfl (fun ls hl => ?_)
          refine lv_iconst (v := 0) hx hb dX8_join_175 (by decide) ?_
          refine lv_istore (lv' := [(4, .int 0), (3, .int 0), (0, .ref m0), (2, .int v2_31)]) hx hb dX8_join_176 hl (by decide) rfl (fun ls hl => ?_)
          obtain ⟨w_178, i_178, hf⟩ := bd_s hf
          have KX_178 : ∀ (v3_40 : Int32), v3_40 = w_178 → ∀ (H : Heap) (locs : List Loc) (ls : Array Slot), va_P E.1 vwCl (w_Mo E m0 m1 m2 m3 m4 m5 m6 m7 m8 m9 m10 m11 m_length m_places m_most m_tenths m_changes m_readPlaces m_value m_ends m_clusters_32 m_text m_now m_read m_was m_readRule m_dist m_delays m_fractions m_head_29 m_hour_30 m_number_33) H → va_D A (w_Mo E m0 m1 m2 m3 m4 m5 m6 m7 m8 m9 m10 m11 m_length m_places m_most m_tenths m_changes m_readPlaces m_value m_ends m_clusters_32 m_text m_now m_read m_was m_readRule m_dist m_delays m_fractions m_head_29 m_hour_30 m_number_33) → va_S A s.heap H locs → lv_has ls 7 [(0, .ref m0), (2, .int v2_31), (3, .int v3_40)] → W p l e rm_Mo_join s m args below meth c H locs 0 0 Q (F0 m 214 ls []) := by
            intro v3_40 e_
            subst e_
            try dsimp only at hf
            intro H locs ls hP hD hS hl
            refine lv_aload_n hx hb dX8_join_214 rfl (lv_at hl 0 rfl) ?_
            refine va_get (D := E.1) (ci := 8) (v := .ref m11) (C := RX8) (T := TX8) (N := 20) hx hb hts in_X8_join_X8 hown hK hP 0 rfl rfl 18 (by decide) q_7 (fun _ h9 => h9) rfl dX8_join_215 ?_
            refine lv_iload_n hx hb dX8_join_218 rfl (lv_at hl 1 rfl) ?_
            refine lv_iload_n hx hb dX8_join_219 rfl (lv_at hl 2 rfl) ?_
            obtain ⟨j_220, b_220, hf⟩ := bd_s hf
            have KJ_220 : ∀ (t_42 : Int32), t_42 = j_220 → ∀ (H : Heap) (locs : List Loc) (ls : Array Slot), va_P E.1 vwCl (w_Mo E m0 m1 m2 m3 m4 m5 m6 m7 m8 m9 m10 m11 m_length m_places m_most m_tenths m_changes m_readPlaces m_value m_ends m_clusters_32 m_text m_now m_read m_was m_readRule m_dist m_delays m_fractions m_head_29 m_hour_30 m_number_33) H → va_D A (w_Mo E m0 m1 m2 m3 m4 m5 m6 m7 m8 m9 m10 m11 m_length m_places m_most m_tenths m_changes m_readPlaces m_value m_ends m_clusters_32 m_text m_now m_read m_was m_readRule m_dist m_delays m_fractions m_head_29 m_hour_30 m_number_33) → va_S A s.heap H locs → lv_has ls 7 [(0, .ref m0), (2, .int v2_31), (3, .int v3_40)] → W p l e rm_Mo_join s m args below meth c H locs 0 0 Q (F0 m 232 ls [.int t_42, .int v2_31, .ref m11]) := by
              intro t_42 e_
              subst e_
              try dsimp only at hf
              intro H locs ls hP hD hS hl
              obtain ⟨g_43, hf⟩ := gk_s hf
              refine va_iast hx hb hK hP hD hS 11 0 rfl rfl g_43 dX8_join_232 (fun H locs hP hD hS => ?_)
              have hP : va_P E.1 vwCl (w_Mo E m0 m1 m2 m3 m4 m5 m6 m7 m8 m9 m10 m11 m_length m_places m_most m_tenths m_changes m_readPlaces m_value m_ends m_clusters_32 m_text m_now m_read m_was m_readRule m_dist m_delays m_fractions m_head_29 m_hour_30 (upd m_number_33 v2_31.toNatClampNeg t_42)) H := hP
              have hD : va_D A (w_Mo E m0 m1 m2 m3 m4 m5 m6 m7 m8 m9 m10 m11 m_length m_places m_most m_tenths m_changes m_readPlaces m_value m_ends m_clusters_32 m_text m_now m_read m_was m_readRule m_dist m_delays m_fractions m_head_29 m_hour_30 (upd m_number_33 v2_31.toNatClampNeg t_42)) := hD
              refine lv_aload_n hx hb dX8_join_233 rfl (lv_at hl 0 rfl) ?_
              refine lv_dup hx hb dX8_join_234 rfl ?_
              refine va_get (D := E.1) (ci := 8) (v := .int m_clusters_32) (C := RX8) (T := TX8) (N := 20) hx hb hts in_X8_join_X8 hown hK hP 0 rfl rfl 19 (by decide) q_0 (fun _ h9 => h9) rfl dX8_join_235 ?_
              refine lv_iload_n hx hb dX8_join_238 rfl (lv_at hl 2 rfl) ?_
              refine lv_if_eq (tgt := 246) hx hb dX8_join_239 (by decide) (fun c_44 => ?_) (fun c_44 => ?_)
              · have hf := ite_t c_44 hf
                refine lv_iconst (v := 0) hx hb dX8_join_246 (by decide) ?_
                refine lv_iadd hx hb dX8_join_247 ?_
                refine va_put (D := E.1) (ci := 8) (v := .int (m_clusters_32 + 0)) (ty := .int) (C := RX8) (T := TX8) (N := 20) hx hb hts in_X8_join_X8 tyX8 tyX8_ok nmX8 hown hK hP hD hS 0 rfl rfl 19 (by decide) q_0 (fun _ h9 => h9) rfl (by decide +kernel) rfl rfl (Nat.le_of_ble_eq_true rfl) dX8_join_248 (fun H locs hP hD hS => ?_)
                have hP : va_P E.1 vwCl (w_Mo E m0 m1 m2 m3 m4 m5 m6 m7 m8 m9 m10 m11 m_length m_places m_most m_tenths m_changes m_readPlaces m_value m_ends (m_clusters_32 + 0) m_text m_now m_read m_was m_readRule m_dist m_delays m_fractions m_head_29 m_hour_30 (upd m_number_33 v2_31.toNatClampNeg t_42)) H := hP
                have hD : va_D A (w_Mo E m0 m1 m2 m3 m4 m5 m6 m7 m8 m9 m10 m11 m_length m_places m_most m_tenths m_changes m_readPlaces m_value m_ends (m_clusters_32 + 0) m_text m_now m_read m_was m_readRule m_dist m_delays m_fractions m_head_29 m_hour_30 (upd m_number_33 v2_31.toNatClampNeg t_42)) := hD
                refine lv_iinc (v := (v2_31 + 1)) (lv' := [(2, .int (v2_31 + 1)), (0, .ref m0), (3, .int v3_40)]) hx hb dX8_join_251 hl (k := 1) rfl rfl (by decide) rfl (fun ls hl => ?_)
                refine lv_goto (tgt := 165) hx hb dX8_join_254 (by decide) ?_
                exact ih_165 (v2_31 + 1) (m_clusters_32 + 0) (upd m_number_33 v2_31.toNatClampNeg t_42) (hc_165 _ (Option.some.inj hf).symm) H locs _ hP hD hS (lv_sub hl [1, 0] rfl)
              · have hf := ite_f c_44 hf
                refine lv_iconst (v := 1) hx hb dX8_join_242 (by decide) ?_
                refine lv_goto (tgt := 247) hx hb dX8_join_243 (by decide) ?_
                refine lv_iadd hx hb dX8_join_247 ?_
                refine va_put (D := E.1) (ci := 8) (v := .int (m_clusters_32 + 1)) (ty := .int) (C := RX8) (T := TX8) (N := 20) hx hb hts in_X8_join_X8 tyX8 tyX8_ok nmX8 hown hK hP hD hS 0 rfl rfl 19 (by decide) q_0 (fun _ h9 => h9) rfl (by decide +kernel) rfl rfl (Nat.le_of_ble_eq_true rfl) dX8_join_248 (fun H locs hP hD hS => ?_)
                have hP : va_P E.1 vwCl (w_Mo E m0 m1 m2 m3 m4 m5 m6 m7 m8 m9 m10 m11 m_length m_places m_most m_tenths m_changes m_readPlaces m_value m_ends (m_clusters_32 + 1) m_text m_now m_read m_was m_readRule m_dist m_delays m_fractions m_head_29 m_hour_30 (upd m_number_33 v2_31.toNatClampNeg t_42)) H := hP
                have hD : va_D A (w_Mo E m0 m1 m2 m3 m4 m5 m6 m7 m8 m9 m10 m11 m_length m_places m_most m_tenths m_changes m_readPlaces m_value m_ends (m_clusters_32 + 1) m_text m_now m_read m_was m_readRule m_dist m_delays m_fractions m_head_29 m_hour_30 (upd m_number_33 v2_31.toNatClampNeg t_42)) := hD
                refine lv_iinc (v := (v2_31 + 1)) (lv' := [(2, .int (v2_31 + 1)), (0, .ref m0), (3, .int v3_40)]) hx hb dX8_join_251 hl (k := 1) rfl rfl (by decide) rfl (fun ls hl => ?_)
                refine lv_goto (tgt := 165) hx hb dX8_join_254 (by decide) ?_
                exact ih_165 (v2_31 + 1) (m_clusters_32 + 1) (upd m_number_33 v2_31.toNatClampNeg t_42) (hc_165 _ (Option.some.inj hf).symm) H locs _ hP hD hS (lv_sub hl [1, 0] rfl)
            have hf := b_220
            refine lv_if_eq (tgt := 230) hx hb dX8_join_220 (by decide) (fun c_41 => ?_) (fun c_41 => ?_)
            · have hf := ite_t c_41 hf
              refine lv_bipush (v := (-4)) hx hb dX8_join_230 (by decide) ?_
              exact KJ_220 (-4) (Option.some.inj hf) H locs _ hP hD hS (lv_sub hl [0, 1, 2] rfl)
            · have hf := ite_f c_41 hf
              refine lv_aload_n hx hb dX8_join_223 rfl (lv_at hl 0 rfl) ?_
              refine va_get (D := E.1) (ci := 8) (v := .int m_clusters_32) (C := RX8) (T := TX8) (N := 20) hx hb hts in_X8_join_X8 hown hK hP 0 rfl rfl 19 (by decide) q_0 (fun _ h9 => h9) rfl dX8_join_224 ?_
              refine lv_goto (tgt := 232) hx hb dX8_join_227 (by decide) ?_
              exact KJ_220 m_clusters_32 (Option.some.inj hf) H locs _ hP hD hS (lv_sub hl [0, 1, 2] rfl)
          have KL_178 : ∀ (n_ : Nat) (v3_34 : Int32) (v4_35 : Int32), it (Mo_join_L178 m_places m_head_29 v2_31) n_ (v3_34, v4_35) = some w_178 → ∀ (H : Heap) (locs : List Loc) (ls : Array Slot), va_P E.1 vwCl (w_Mo E m0 m1 m2 m3 m4 m5 m6 m7 m8 m9 m10 m11 m_length m_places m_most m_tenths m_changes m_readPlaces m_value m_ends m_clusters_32 m_text m_now m_read m_was m_readRule m_dist m_delays m_fractions m_head_29 m_hour_30 m_number_33) H → va_D A (w_Mo E m0 m1 m2 m3 m4 m5 m6 m7 m8 m9 m10 m11 m_length m_places m_most m_tenths m_changes m_readPlaces m_value m_ends m_clusters_32 m_text m_now m_read m_was m_readRule m_dist m_delays m_fractions m_head_29 m_hour_30 m_number_33) → va_S A s.heap H locs → lv_has ls 7 [(0, .ref m0), (2, .int v2_31), (3, .int v3_34), (4, .int v4_35)] → W p l e rm_Mo_join s m args below meth c H locs 0 0 Q (F0 m 178 ls []) := by
            intro n_
            induction n_ with
            | zero => intro v3_34 v4_35 hit; exact (it_z hit).elim
            | succ n_178 ih_178 =>
              intro v3_34 v4_35 hit
              intro H locs ls hP hD hS hl
              obtain ⟨x_178, hf, hc_178, hq_178⟩ := it_s hit
              dsimp only [Mo_join_L178] at hf
              refine lv_iload hx hb dX8_join_178 (lv_at hl 3 rfl) ?_
              refine lv_aload_n hx hb dX8_join_180 rfl (lv_at hl 0 rfl) ?_
              refine va_get (D := E.1) (ci := 8) (v := .int m_places) (C := RX8) (T := TX8) (N := 20) hx hb hts in_X8_join_X8 hown hK hP 0 rfl rfl 2 (by decide) q_1 (fun _ h9 => h9) rfl dX8_join_181 ?_
              refine lv_icmp_ge (tgt := 214) hx hb dX8_join_184 (by decide) (fun c_39 => ?_) (fun c_39 => ?_)
              · have hf := ite_t c_39 hf
                exact KX_178 v3_34 (hq_178 _ (Option.some.inj hf).symm) H locs _ hP hD hS (lv_sub hl [0, 1, 2] rfl)
              · have hf := ite_f c_39 hf
                refine lv_iload_n hx hb dX8_join_187 rfl (lv_at hl 2 rfl) ?_
                refine lv_if_ne (tgt := 202) hx hb dX8_join_188 (by decide) (fun c_38 => ?_) (fun c_38 => ?_)
                · have hf := ite_f c_38 hf
                  refine lv_iconst (v := 1) hx hb dX8_join_202 (by decide) ?_
                  refine lv_goto (tgt := 207) hx hb dX8_join_203 (by decide) ?_
                  refine lv_istore_n (lv' := [(3, .int 1), (0, .ref m0), (2, .int v2_31), (4, .int v4_35)]) hx hb dX8_join_207 rfl hl (by decide) rfl (fun ls hl => ?_)
                  refine lv_iinc (v := (v4_35 + 1)) (lv' := [(4, .int (v4_35 + 1)), (3, .int 1), (0, .ref m0), (2, .int v2_31)]) hx hb dX8_join_208 hl (k := 3) rfl rfl (by decide) rfl (fun ls hl => ?_)
                  refine lv_goto (tgt := 178) hx hb dX8_join_211 (by decide) ?_
                  exact ih_178 1 (v4_35 + 1) (hc_178 _ (Option.some.inj hf).symm) H locs _ hP hD hS (lv_sub hl [2, 3, 1, 0] rfl)
                · have hf := ite_t c_38 hf
                  refine lv_aload_n hx hb dX8_join_191 rfl (lv_at hl 0 rfl) ?_
                  refine va_get (D := E.1) (ci := 8) (v := .ref m9) (C := RX8) (T := TX8) (N := 20) hx hb hts in_X8_join_X8 hown hK hP 0 rfl rfl 16 (by decide) q_4 (fun _ h9 => h9) rfl dX8_join_192 ?_
                  refine lv_iload hx hb dX8_join_195 (lv_at hl 3 rfl) ?_
                  obtain ⟨g_36, hf⟩ := gk_s hf
                  refine va_iald hx hb hK hP 9 0 rfl rfl g_36 dX8_join_197 ?_
                  refine lv_iload_n hx hb dX8_join_198 rfl (lv_at hl 1 rfl) ?_
                  refine lv_icmp_ne (tgt := 206) hx hb dX8_join_199 (by decide) (fun c_37 => ?_) (fun c_37 => ?_)
                  · have hf := ite_f c_37 hf
                    refine lv_iconst (v := 0) hx hb dX8_join_206 (by decide) ?_
                    refine lv_istore_n (lv' := [(3, .int 0), (0, .ref m0), (2, .int v2_31), (4, .int v4_35)]) hx hb dX8_join_207 rfl hl (by decide) rfl (fun ls hl => ?_)
                    refine lv_iinc (v := (v4_35 + 1)) (lv' := [(4, .int (v4_35 + 1)), (3, .int 0), (0, .ref m0), (2, .int v2_31)]) hx hb dX8_join_208 hl (k := 3) rfl rfl (by decide) rfl (fun ls hl => ?_)
                    refine lv_goto (tgt := 178) hx hb dX8_join_211 (by decide) ?_
                    exact ih_178 0 (v4_35 + 1) (hc_178 _ (Option.some.inj hf).symm) H locs _ hP hD hS (lv_sub hl [2, 3, 1, 0] rfl)
                  · have hf := ite_t c_37 hf
                    refine lv_iconst (v := 1) hx hb dX8_join_202 (by decide) ?_
                    refine lv_goto (tgt := 207) hx hb dX8_join_203 (by decide) ?_
                    refine lv_istore_n (lv' := [(3, .int 1), (0, .ref m0), (2, .int v2_31), (4, .int v4_35)]) hx hb dX8_join_207 rfl hl (by decide) rfl (fun ls hl => ?_)
                    refine lv_iinc (v := (v4_35 + 1)) (lv' := [(4, .int (v4_35 + 1)), (3, .int 1), (0, .ref m0), (2, .int v2_31)]) hx hb dX8_join_208 hl (k := 3) rfl rfl (by decide) rfl (fun ls hl => ?_)
                    refine lv_goto (tgt := 178) hx hb dX8_join_211 (by decide) ?_
                    exact ih_178 1 (v4_35 + 1) (hc_178 _ (Option.some.inj hf).symm) H locs _ hP hD hS (lv_sub hl [2, 3, 1, 0] rfl)
          exact KL_178 _ 0 0 i_178 H locs _ hP hD hS (lv_sub hl [2, 3, 1, 0] rfl)
    exact KL_165 _ 0 0 m_number i_165 H locs _ hP hD hS (lv_sub hl [1, 0] rfl)
  have KL_12 : ∀ (n_ : Nat) (v2_3 : Int32) (m_head_4 : Nat → Int32) (m_hour_5 : Nat → Int32), it (Mo_join_L12 m_places m_dist m_delays m_fractions r_2) n_ (v2_3, m_head_4, m_hour_5) = some w_12 → ∀ (H : Heap) (locs : List Loc) (ls : Array Slot), va_P E.1 vwCl (w_Mo E m0 m1 m2 m3 m4 m5 m6 m7 m8 m9 m10 m11 m_length m_places m_most m_tenths m_changes m_readPlaces m_value m_ends 0 m_text m_now m_read m_was m_readRule m_dist m_delays m_fractions m_head_4 m_hour_5 m_number) H → va_D A (w_Mo E m0 m1 m2 m3 m4 m5 m6 m7 m8 m9 m10 m11 m_length m_places m_most m_tenths m_changes m_readPlaces m_value m_ends 0 m_text m_now m_read m_was m_readRule m_dist m_delays m_fractions m_head_4 m_hour_5 m_number) → va_S A s.heap H locs → lv_has ls 7 [(0, .ref m0), (1, .int r_2), (2, .int v2_3)] → W p l e rm_Mo_join s m args below meth c H locs 0 0 Q (F0 m 12 ls []) := by
    intro n_
    induction n_ with
    | zero => intro v2_3 m_head_4 m_hour_5 hit; exact (it_z hit).elim
    | succ n_12 ih_12 =>
      intro v2_3 m_head_4 m_hour_5 hit
      intro H locs ls hP hD hS hl
      obtain ⟨x_12, hf, hc_12, hq_12⟩ := it_s hit
      dsimp only [Mo_join_L12] at hf
      refine lv_iload_n hx hb dX8_join_12 rfl (lv_at hl 2 rfl) ?_
      refine lv_aload_n hx hb dX8_join_13 rfl (lv_at hl 0 rfl) ?_
      refine va_get (D := E.1) (ci := 8) (v := .int m_places) (C := RX8) (T := TX8) (N := 20) hx hb hts in_X8_join_X8 hown hK hP 0 rfl rfl 2 (by decide) q_1 (fun _ h9 => h9) rfl dX8_join_14 ?_
      refine lv_icmp_ge (tgt := 163) hx hb dX8_join_17 (by decide) (fun c_28 => ?_) (fun c_28 => ?_)
      · have hf := ite_t c_28 hf
        exact KX_12 m_head_4 m_hour_5 (hq_12 _ (Option.some.inj hf).symm) H locs _ hP hD hS (lv_sub hl [0] rfl)
      · have hf := ite_f c_28 hf
        refine lv_iload_n hx hb dX8_join_20 rfl (lv_at hl 2 rfl) ?_
        refine lv_istore_n (lv' := [(3, .int v2_3), (0, .ref m0), (1, .int r_2), (2, .int v2_3)]) hx hb dX8_join_21 rfl hl (by decide) rfl (fun ls hl => ?_)
        refine lv_iconst (v := 0) hx hb dX8_join_22 (by decide) ?_
        refine lv_istore (lv' := [(4, .int 0), (3, .int v2_3), (0, .ref m0), (1, .int r_2), (2, .int v2_3)]) hx hb dX8_join_23 hl (by decide) rfl (fun ls hl => ?_)
        obtain ⟨w_25, i_25, hf⟩ := bd_s hf
        have KX_25 : ∀ (v3_23 : Int32), v3_23 = w_25 → ∀ (H : Heap) (locs : List Loc) (ls : Array Slot), va_P E.1 vwCl (w_Mo E m0 m1 m2 m3 m4 m5 m6 m7 m8 m9 m10 m11 m_length m_places m_most m_tenths m_changes m_readPlaces m_value m_ends 0 m_text m_now m_read m_was m_readRule m_dist m_delays m_fractions m_head_4 m_hour_5 m_number) H → va_D A (w_Mo E m0 m1 m2 m3 m4 m5 m6 m7 m8 m9 m10 m11 m_length m_places m_most m_tenths m_changes m_readPlaces m_value m_ends 0 m_text m_now m_read m_was m_readRule m_dist m_delays m_fractions m_head_4 m_hour_5 m_number) → va_S A s.heap H locs → lv_has ls 7 [(0, .ref m0), (1, .int r_2), (2, .int v2_3), (3, .int v3_23)] → W p l e rm_Mo_join s m args below meth c H locs 0 0 Q (F0 m 124 ls []) := by
          intro v3_23 e_
          subst e_
          try dsimp only at hf
          intro H locs ls hP hD hS hl
          refine lv_aload_n hx hb dX8_join_124 rfl (lv_at hl 0 rfl) ?_
          refine va_get (D := E.1) (ci := 8) (v := .ref m9) (C := RX8) (T := TX8) (N := 20) hx hb hts in_X8_join_X8 hown hK hP 0 rfl rfl 16 (by decide) q_4 (fun _ h9 => h9) rfl dX8_join_125 ?_
          refine lv_iload_n hx hb dX8_join_128 rfl (lv_at hl 2 rfl) ?_
          refine lv_iload_n hx hb dX8_join_129 rfl (lv_at hl 3 rfl) ?_
          obtain ⟨g_24, hf⟩ := gk_s hf
          refine va_iast hx hb hK hP hD hS 9 0 rfl rfl g_24 dX8_join_130 (fun H locs hP hD hS => ?_)
          have hP : va_P E.1 vwCl (w_Mo E m0 m1 m2 m3 m4 m5 m6 m7 m8 m9 m10 m11 m_length m_places m_most m_tenths m_changes m_readPlaces m_value m_ends 0 m_text m_now m_read m_was m_readRule m_dist m_delays m_fractions (upd m_head_4 v2_3.toNatClampNeg v3_23) m_hour_5 m_number) H := hP
          have hD : va_D A (w_Mo E m0 m1 m2 m3 m4 m5 m6 m7 m8 m9 m10 m11 m_length m_places m_most m_tenths m_changes m_readPlaces m_value m_ends 0 m_text m_now m_read m_was m_readRule m_dist m_delays m_fractions (upd m_head_4 v2_3.toNatClampNeg v3_23) m_hour_5 m_number) := hD
          refine lv_aload_n hx hb dX8_join_131 rfl (lv_at hl 0 rfl) ?_
          refine va_get (D := E.1) (ci := 8) (v := .ref m10) (C := RX8) (T := TX8) (N := 20) hx hb hts in_X8_join_X8 hown hK hP 0 rfl rfl 17 (by decide) q_5 (fun _ h9 => h9) rfl dX8_join_132 ?_
          refine lv_iload_n hx hb dX8_join_135 rfl (lv_at hl 2 rfl) ?_
          refine lv_iload_n hx hb dX8_join_136 rfl (lv_at hl 1 rfl) ?_
          refine lv_aload_n hx hb dX8_join_137 rfl (lv_at hl 0 rfl) ?_
          refine va_get (D := E.1) (ci := 8) (v := .ref m7) (C := RX8) (T := TX8) (N := 20) hx hb hts in_X8_join_X8 hown hK hP 0 rfl rfl 14 (by decide) q_6 (fun _ h9 => h9) rfl dX8_join_138 ?_
          refine lv_iload_n hx hb dX8_join_141 rfl (lv_at hl 3 rfl) ?_
          obtain ⟨g_25, hf⟩ := gk_s hf
          refine va_iald hx hb hK hP 7 0 rfl rfl g_25 dX8_join_142 ?_
          refine lv_isub hx hb dX8_join_143 ?_
          refine lv_aload_n hx hb dX8_join_144 rfl (lv_at hl 0 rfl) ?_
          refine va_get (D := E.1) (ci := 8) (v := .ref m6) (C := RX8) (T := TX8) (N := 20) hx hb hts in_X8_join_X8 hown hK hP 0 rfl rfl 13 (by decide) q_2 (fun _ h9 => h9) rfl dX8_join_145 ?_
          refine lv_bipush (v := 16) hx hb dX8_join_148 (by decide) ?_
          refine lv_iload_n hx hb dX8_join_150 rfl (lv_at hl 3 rfl) ?_
          refine lv_imul hx hb dX8_join_151 ?_
          refine lv_iload_n hx hb dX8_join_152 rfl (lv_at hl 2 rfl) ?_
          refine lv_iadd hx hb dX8_join_153 ?_
          obtain ⟨g_26, hf⟩ := gk_s hf
          refine va_iald hx hb hK hP 6 0 rfl rfl g_26 dX8_join_154 ?_
          refine lv_iadd hx hb dX8_join_155 ?_
          obtain ⟨g_27, hf⟩ := gk_s hf
          refine va_iast hx hb hK hP hD hS 10 0 rfl rfl g_27 dX8_join_156 (fun H locs hP hD hS => ?_)
          have hP : va_P E.1 vwCl (w_Mo E m0 m1 m2 m3 m4 m5 m6 m7 m8 m9 m10 m11 m_length m_places m_most m_tenths m_changes m_readPlaces m_value m_ends 0 m_text m_now m_read m_was m_readRule m_dist m_delays m_fractions (upd m_head_4 v2_3.toNatClampNeg v3_23) (upd m_hour_5 v2_3.toNatClampNeg ((r_2 - (m_delays v3_23.toNatClampNeg)) + (m_dist ((16 * v3_23) + v2_3).toNatClampNeg))) m_number) H := hP
          have hD : va_D A (w_Mo E m0 m1 m2 m3 m4 m5 m6 m7 m8 m9 m10 m11 m_length m_places m_most m_tenths m_changes m_readPlaces m_value m_ends 0 m_text m_now m_read m_was m_readRule m_dist m_delays m_fractions (upd m_head_4 v2_3.toNatClampNeg v3_23) (upd m_hour_5 v2_3.toNatClampNeg ((r_2 - (m_delays v3_23.toNatClampNeg)) + (m_dist ((16 * v3_23) + v2_3).toNatClampNeg))) m_number) := hD
          refine lv_iinc (v := (v2_3 + 1)) (lv' := [(2, .int (v2_3 + 1)), (0, .ref m0), (1, .int r_2), (3, .int v3_23)]) hx hb dX8_join_157 hl (k := 2) rfl rfl (by decide) rfl (fun ls hl => ?_)
          refine lv_goto (tgt := 12) hx hb dX8_join_160 (by decide) ?_
          exact ih_12 (v2_3 + 1) (upd m_head_4 v2_3.toNatClampNeg v3_23) (upd m_hour_5 v2_3.toNatClampNeg ((r_2 - (m_delays v3_23.toNatClampNeg)) + (m_dist ((16 * v3_23) + v2_3).toNatClampNeg))) (hc_12 _ (Option.some.inj hf).symm) H locs _ hP hD hS (lv_sub hl [1, 2, 0] rfl)
        have KL_25 : ∀ (n_ : Nat) (v3_6 : Int32) (v4_7 : Int32), it (Mo_join_L25 m_places m_dist m_delays m_fractions r_2 v2_3) n_ (v3_6, v4_7) = some w_25 → ∀ (H : Heap) (locs : List Loc) (ls : Array Slot), va_P E.1 vwCl (w_Mo E m0 m1 m2 m3 m4 m5 m6 m7 m8 m9 m10 m11 m_length m_places m_most m_tenths m_changes m_readPlaces m_value m_ends 0 m_text m_now m_read m_was m_readRule m_dist m_delays m_fractions m_head_4 m_hour_5 m_number) H → va_D A (w_Mo E m0 m1 m2 m3 m4 m5 m6 m7 m8 m9 m10 m11 m_length m_places m_most m_tenths m_changes m_readPlaces m_value m_ends 0 m_text m_now m_read m_was m_readRule m_dist m_delays m_fractions m_head_4 m_hour_5 m_number) → va_S A s.heap H locs → lv_has ls 7 [(0, .ref m0), (1, .int r_2), (2, .int v2_3), (3, .int v3_6), (4, .int v4_7)] → W p l e rm_Mo_join s m args below meth c H locs 0 0 Q (F0 m 25 ls []) := by
          intro n_
          induction n_ with
          | zero => intro v3_6 v4_7 hit; exact (it_z hit).elim
          | succ n_25 ih_25 =>
            intro v3_6 v4_7 hit
            intro H locs ls hP hD hS hl
            obtain ⟨x_25, hf, hc_25, hq_25⟩ := it_s hit
            dsimp only [Mo_join_L25] at hf
            refine lv_iload hx hb dX8_join_25 (lv_at hl 4 rfl) ?_
            refine lv_aload_n hx hb dX8_join_27 rfl (lv_at hl 0 rfl) ?_
            refine va_get (D := E.1) (ci := 8) (v := .int m_places) (C := RX8) (T := TX8) (N := 20) hx hb hts in_X8_join_X8 hown hK hP 0 rfl rfl 2 (by decide) q_1 (fun _ h9 => h9) rfl dX8_join_28 ?_
            refine lv_icmp_ge (tgt := 124) hx hb dX8_join_31 (by decide) (fun c_22 => ?_) (fun c_22 => ?_)
            · have hf := ite_t c_22 hf
              exact KX_25 v3_6 (hq_25 _ (Option.some.inj hf).symm) H locs _ hP hD hS (lv_sub hl [0, 1, 2, 3] rfl)
            · have hf := ite_f c_22 hf
              refine lv_aload_n hx hb dX8_join_34 rfl (lv_at hl 0 rfl) ?_
              refine va_get (D := E.1) (ci := 8) (v := .ref m6) (C := RX8) (T := TX8) (N := 20) hx hb hts in_X8_join_X8 hown hK hP 0 rfl rfl 13 (by decide) q_2 (fun _ h9 => h9) rfl dX8_join_35 ?_
              refine lv_bipush (v := 16) hx hb dX8_join_38 (by decide) ?_
              refine lv_iload hx hb dX8_join_40 (lv_at hl 4 rfl) ?_
              refine lv_imul hx hb dX8_join_42 ?_
              refine lv_iload_n hx hb dX8_join_43 rfl (lv_at hl 2 rfl) ?_
              refine lv_iadd hx hb dX8_join_44 ?_
              obtain ⟨g_8, hf⟩ := gk_s hf
              refine va_iald hx hb hK hP 6 0 rfl rfl g_8 dX8_join_45 ?_
              refine lv_ldc (v := 1000000) hx hb hown q_3 dX8_join_46 ?_
              obtain ⟨j_48, b_48, hf⟩ := bd_s hf
              have KJ_48 : ∀ (t_11 : Int32), t_11 = j_48 → ∀ (H : Heap) (locs : List Loc) (ls : Array Slot), va_P E.1 vwCl (w_Mo E m0 m1 m2 m3 m4 m5 m6 m7 m8 m9 m10 m11 m_length m_places m_most m_tenths m_changes m_readPlaces m_value m_ends 0 m_text m_now m_read m_was m_readRule m_dist m_delays m_fractions m_head_4 m_hour_5 m_number) H → va_D A (w_Mo E m0 m1 m2 m3 m4 m5 m6 m7 m8 m9 m10 m11 m_length m_places m_most m_tenths m_changes m_readPlaces m_value m_ends 0 m_text m_now m_read m_was m_readRule m_dist m_delays m_fractions m_head_4 m_hour_5 m_number) → va_S A s.heap H locs → lv_has ls 7 [(0, .ref m0), (1, .int r_2), (2, .int v2_3), (3, .int v3_6), (4, .int v4_7)] → W p l e rm_Mo_join s m args below meth c H locs 0 0 Q (F0 m 62 ls [.int t_11]) := by
                intro t_11 e_
                subst e_
                try dsimp only at hf
                intro H locs ls hP hD hS hl
                refine lv_istore (lv' := [(5, .int t_11), (0, .ref m0), (1, .int r_2), (2, .int v2_3), (3, .int v3_6), (4, .int v4_7)]) hx hb dX8_join_62 hl (by decide) rfl (fun ls hl => ?_)
                refine lv_iload hx hb dX8_join_64 (lv_at hl 0 rfl) ?_
                obtain ⟨j_66, b_66, hf⟩ := bd_s hf
                have KJ_66 : ∀ (t_20 : Int32), t_20 = j_66 → ∀ (H : Heap) (locs : List Loc) (ls : Array Slot), va_P E.1 vwCl (w_Mo E m0 m1 m2 m3 m4 m5 m6 m7 m8 m9 m10 m11 m_length m_places m_most m_tenths m_changes m_readPlaces m_value m_ends 0 m_text m_now m_read m_was m_readRule m_dist m_delays m_fractions m_head_4 m_hour_5 m_number) H → va_D A (w_Mo E m0 m1 m2 m3 m4 m5 m6 m7 m8 m9 m10 m11 m_length m_places m_most m_tenths m_changes m_readPlaces m_value m_ends 0 m_text m_now m_read m_was m_readRule m_dist m_delays m_fractions m_head_4 m_hour_5 m_number) → va_S A s.heap H locs → lv_has ls 7 [(0, .ref m0), (1, .int r_2), (2, .int v2_3), (3, .int v3_6), (4, .int v4_7)] → W p l e rm_Mo_join s m args below meth c H locs 0 0 Q (F0 m 104 ls [.int t_20]) := by
                  intro t_20 e_
                  subst e_
                  try dsimp only at hf
                  intro H locs ls hP hD hS hl
                  refine lv_istore (lv' := [(6, .int t_20), (0, .ref m0), (1, .int r_2), (2, .int v2_3), (3, .int v3_6), (4, .int v4_7)]) hx hb dX8_join_104 hl (by decide) rfl (fun ls hl => ?_)
                  refine lv_iload hx hb dX8_join_106 (lv_at hl 0 rfl) ?_
                  refine lv_if_eq (tgt := 116) hx hb dX8_join_108 (by decide) (fun c_21 => ?_) (fun c_21 => ?_)
                  · have hf := ite_t c_21 hf
                    refine lv_iload_n hx hb dX8_join_116 rfl (lv_at hl 4 rfl) ?_
                    refine lv_istore_n (lv' := [(3, .int v3_6), (6, .int t_20), (0, .ref m0), (1, .int r_2), (2, .int v2_3), (4, .int v4_7)]) hx hb dX8_join_117 rfl hl (by decide) rfl (fun ls hl => ?_)
                    refine lv_iinc (v := (v4_7 + 1)) (lv' := [(4, .int (v4_7 + 1)), (3, .int v3_6), (6, .int t_20), (0, .ref m0), (1, .int r_2), (2, .int v2_3)]) hx hb dX8_join_118 hl (k := 5) rfl rfl (by decide) rfl (fun ls hl => ?_)
                    refine lv_goto (tgt := 25) hx hb dX8_join_121 (by decide) ?_
                    exact ih_25 v3_6 (v4_7 + 1) (hc_25 _ (Option.some.inj hf).symm) H locs _ hP hD hS (lv_sub hl [3, 4, 5, 1, 0] rfl)
                  · have hf := ite_f c_21 hf
                    refine lv_iload hx hb dX8_join_111 (lv_at hl 5 rfl) ?_
                    refine lv_goto (tgt := 117) hx hb dX8_join_113 (by decide) ?_
                    refine lv_istore_n (lv' := [(3, .int v4_7), (6, .int t_20), (0, .ref m0), (1, .int r_2), (2, .int v2_3), (4, .int v4_7)]) hx hb dX8_join_117 rfl hl (by decide) rfl (fun ls hl => ?_)
                    refine lv_iinc (v := (v4_7 + 1)) (lv' := [(4, .int (v4_7 + 1)), (3, .int v4_7), (6, .int t_20), (0, .ref m0), (1, .int r_2), (2, .int v2_3)]) hx hb dX8_join_118 hl (k := 5) rfl rfl (by decide) rfl (fun ls hl => ?_)
                    refine lv_goto (tgt := 25) hx hb dX8_join_121 (by decide) ?_
                    exact ih_25 v4_7 (v4_7 + 1) (hc_25 _ (Option.some.inj hf).symm) H locs _ hP hD hS (lv_sub hl [3, 4, 5, 1, 0] rfl)
                have hf := b_66
                refine lv_if_eq (tgt := 103) hx hb dX8_join_66 (by decide) (fun c_19 => ?_) (fun c_19 => ?_)
                · have hf := ite_t c_19 hf
                  refine lv_iconst (v := 0) hx hb dX8_join_103 (by decide) ?_
                  exact KJ_66 0 (Option.some.inj hf) H locs _ hP hD hS (lv_sub hl [1, 2, 3, 4, 5] rfl)
                · have hf := ite_f c_19 hf
                  refine lv_aload_n hx hb dX8_join_69 rfl (lv_at hl 1 rfl) ?_
                  refine lv_iload hx hb dX8_join_70 (lv_at hl 5 rfl) ?_
                  refine lv_iload_n hx hb dX8_join_72 rfl (lv_at hl 4 rfl) ?_
                  refine lv_iload_n hx hb dX8_join_73 rfl (lv_at hl 3 rfl) ?_
                  refine lv_iload_n hx hb dX8_join_74 rfl (lv_at hl 2 rfl) ?_
                  obtain ⟨r_13, h_12, hf⟩ := bd_s hf
                  refine ca_V (As := [.int v4_7, .int v3_6, .int v2_3, .int r_2]) (rest := []) ⟨hx, hb, hml, hown, hts⟩ ⟨hK, hN⟩ hP (c_Mo_isEarlier l E m0 m1 m2 m3 m4 m5 m6 m7 m8 m9 m10 m11 m_length m_places m_most m_tenths m_changes m_readPlaces m_value m_ends 0 m_text m_now m_read m_was m_readRule m_dist m_delays m_fractions m_head_4 m_hour_5 m_number v4_7 v3_6 v2_3 r_2 r_13 h_12) [0, 1, 2, 3, 4, 5, 6, 7, 8, 9, 10, 11] rfl 8 0 rfl rfl rfl gX8_join_X8_isEarlier rfl rfl rfl rfl hd_Mo_isEarlier ⟨(Nat.le_of_ble_eq_true rfl), (Nat.le_of_ble_eq_true rfl)⟩ rfl hl.1 rfl (Nat.le_of_ble_eq_true rfl) dX8_join_75 ⟨(Nat.zero_le _), (Nat.zero_le _)⟩ ?_
                  refine lv_if_ne (tgt := 99) hx hb dX8_join_78 (by decide) (fun c_18 => ?_) (fun c_18 => ?_)
                  · have hf := ite_f c_18 hf
                    refine lv_iconst (v := 1) hx hb dX8_join_99 (by decide) ?_
                    refine lv_goto (tgt := 104) hx hb dX8_join_100 (by decide) ?_
                    exact KJ_66 1 (Option.some.inj hf) H locs _ hP hD hS (lv_sub hl [1, 2, 3, 4, 5] rfl)
                  · have hf := ite_t c_18 hf
                    refine lv_iload hx hb dX8_join_81 (lv_at hl 5 rfl) ?_
                    refine lv_iload_n hx hb dX8_join_83 rfl (lv_at hl 4 rfl) ?_
                    refine lv_icmp_ge (tgt := 103) hx hb dX8_join_84 (by decide) (fun c_17 => ?_) (fun c_17 => ?_)
                    · have hf := ite_t c_17 hf
                      refine lv_iconst (v := 0) hx hb dX8_join_103 (by decide) ?_
                      exact KJ_66 0 (Option.some.inj hf) H locs _ hP hD hS (lv_sub hl [1, 2, 3, 4, 5] rfl)
                    · have hf := ite_f c_17 hf
                      refine lv_aload_n hx hb dX8_join_87 rfl (lv_at hl 1 rfl) ?_
                      refine lv_iload_n hx hb dX8_join_88 rfl (lv_at hl 4 rfl) ?_
                      refine lv_iload hx hb dX8_join_89 (lv_at hl 5 rfl) ?_
                      refine lv_iload_n hx hb dX8_join_91 rfl (lv_at hl 3 rfl) ?_
                      refine lv_iload_n hx hb dX8_join_92 rfl (lv_at hl 2 rfl) ?_
                      obtain ⟨r_15, h_14, hf⟩ := bd_s hf
                      refine ca_V (As := [.int v3_6, .int v4_7, .int v2_3, .int r_2]) (rest := []) ⟨hx, hb, hml, hown, hts⟩ ⟨hK, hN⟩ hP (c_Mo_isEarlier l E m0 m1 m2 m3 m4 m5 m6 m7 m8 m9 m10 m11 m_length m_places m_most m_tenths m_changes m_readPlaces m_value m_ends 0 m_text m_now m_read m_was m_readRule m_dist m_delays m_fractions m_head_4 m_hour_5 m_number v3_6 v4_7 v2_3 r_2 r_15 h_14) [0, 1, 2, 3, 4, 5, 6, 7, 8, 9, 10, 11] rfl 8 0 rfl rfl rfl gX8_join_X8_isEarlier rfl rfl rfl rfl hd_Mo_isEarlier ⟨(Nat.le_of_ble_eq_true rfl), (Nat.le_of_ble_eq_true rfl)⟩ rfl hl.1 rfl (Nat.le_of_ble_eq_true rfl) dX8_join_93 ⟨(Nat.zero_le _), (Nat.zero_le _)⟩ ?_
                      refine lv_if_ne (tgt := 103) hx hb dX8_join_96 (by decide) (fun c_16 => ?_) (fun c_16 => ?_)
                      · have hf := ite_f c_16 hf
                        refine lv_iconst (v := 0) hx hb dX8_join_103 (by decide) ?_
                        exact KJ_66 0 (Option.some.inj hf) H locs _ hP hD hS (lv_sub hl [1, 2, 3, 4, 5] rfl)
                      · have hf := ite_t c_16 hf
                        refine lv_iconst (v := 1) hx hb dX8_join_99 (by decide) ?_
                        refine lv_goto (tgt := 104) hx hb dX8_join_100 (by decide) ?_
                        exact KJ_66 1 (Option.some.inj hf) H locs _ hP hD hS (lv_sub hl [1, 2, 3, 4, 5] rfl)
              have hf := b_48
              refine lv_icmp_ge (tgt := 61) hx hb dX8_join_48 (by decide) (fun c_10 => ?_) (fun c_10 => ?_)
              · have hf := ite_t c_10 hf
                refine lv_iconst (v := 0) hx hb dX8_join_61 (by decide) ?_
                exact KJ_48 0 (Option.some.inj hf) H locs _ hP hD hS (lv_sub hl [0, 1, 2, 3, 4] rfl)
              · have hf := ite_f c_10 hf
                refine lv_iload hx hb dX8_join_51 (lv_at hl 4 rfl) ?_
                refine lv_iload_n hx hb dX8_join_53 rfl (lv_at hl 3 rfl) ?_
                refine lv_icmp_eq (tgt := 61) hx hb dX8_join_54 (by decide) (fun c_9 => ?_) (fun c_9 => ?_)
                · have hf := ite_t c_9 hf
                  refine lv_iconst (v := 0) hx hb dX8_join_61 (by decide) ?_
                  exact KJ_48 0 (Option.some.inj hf) H locs _ hP hD hS (lv_sub hl [0, 1, 2, 3, 4] rfl)
                · have hf := ite_f c_9 hf
                  refine lv_iconst (v := 1) hx hb dX8_join_57 (by decide) ?_
                  refine lv_goto (tgt := 62) hx hb dX8_join_58 (by decide) ?_
                  exact KJ_48 1 (Option.some.inj hf) H locs _ hP hD hS (lv_sub hl [0, 1, 2, 3, 4] rfl)
        exact KL_25 _ v2_3 0 i_25 H locs _ hP hD hS (lv_sub hl [2, 3, 4, 1, 0] rfl)
  exact KL_12 _ 0 m_head m_hour i_12 H locs _ hP hD hS (lv_sub hl [2, 1, 0] rfl)
abbrev rm_Mo_settles : Room := { frames := 2, cells := 0, slots := 0, locals := 52 }
theorem hd_Mo_settles : hdOK yX8_settles 1 := by decide +kernel
theorem in_X8_settles_X8 : ∀ w ∈ wsX80, w ∈ wsX8_settles := by decide +kernel
set_option maxRecDepth 100000 in
set_option maxHeartbeats 4000000 in
theorem c_Mo_settles (l : Launch) (E : En4) (m0 m1 m2 m3 m4 m5 m6 m7 m8 m9 m10 m11 : Nat) (sz : Nat) (m_length : Int32) (m_places : Int32) (m_most : Int32) (m_tenths : Int32) (m_changes : Int32) (m_readPlaces : Int32) (m_value : Int32) (m_ends : Int32) (m_clusters : Int32) (m_text : Nat → Int32) (m_now : Nat → Int32) (m_read : Nat → Int32) (m_was : Nat → Int32) (m_readRule : Nat → Int32) (m_dist : Nat → Int32) (m_delays : Nat → Int32) (m_fractions : Nat → Int32) (m_head : Nat → Int32) (m_hour : Nat → Int32) (m_number : Nat → Int32) (a1 : Int32)  (res : Int32 × (Nat → Int32) × (Nat → Int32) × (Nat → Int32) × (Nat → Int32) × (Nat → Int32) × (Nat → Int32)) (hf : Mo_settles m_places m_most m_tenths m_clusters m_now m_dist m_delays m_fractions m_head m_hour m_number a1 = some res) : Met l yX8_settles wsX8_settles rm_Mo_settles (pcM [.ref m0, .int a1] E sz (w_Mo E m0 m1 m2 m3 m4 m5 m6 m7 m8 m9 m10 m11 m_length m_places m_most m_tenths m_changes m_readPlaces m_value m_ends m_clusters m_text m_now m_read m_was m_readRule m_dist m_delays m_fractions m_head m_hour m_number)) (QMv E sz (w_Mo E m0 m1 m2 m3 m4 m5 m6 m7 m8 m9 m10 m11 m_length m_places m_most m_tenths m_changes m_readPlaces m_value m_ends m_clusters m_text m_now m_read m_was m_readRule m_dist m_delays m_fractions m_head m_hour m_number) (fun (u : Int32 × (Nat → Int32) × (Nat → Int32) × (Nat → Int32) × (Nat → Int32) × (Nat → Int32) × (Nat → Int32)) => (w_Mo E m0 m1 m2 m3 m4 m5 m6 m7 m8 m9 m10 m11 m_length m_places m_most m_tenths m_changes m_readPlaces m_value m_ends u.1 m_text m_now m_read m_was m_readRule u.2.1 u.2.2.1 u.2.2.2.1 u.2.2.2.2.1 u.2.2.2.2.2.1 u.2.2.2.2.2.2)) res) 0 0 (va_A (w_Mo E m0 m1 m2 m3 m4 m5 m6 m7 m8 m9 m10 m11 m_length m_places m_most m_tenths m_changes m_readPlaces m_value m_ends m_clusters m_text m_now m_read m_was m_readRule m_dist m_delays m_fractions m_head m_hour m_number) sz) := by
  refine mk_Mv (cc := cX8_settles) (maxL := 4) (by decide) rfl (Nat.le_of_ble_eq_true rfl) ?_
  intro p e s m args below meth c Q A S hKN hA hret H locs ls hP hD hS hl
  obtain ⟨hx, hb, hml, hown, hts⟩ := S
  obtain ⟨hK, hN⟩ := hKN
  have hl : lv_has ls 4 [(0, .ref m0), (1, .int a1)] := hl
  have q_0 := hts (.fieldLink RX8 57 "DelayClustersModel" "places" "I") (by decide +kernel)
  have q_1 := hts (.fieldLink RX8 13 "DelayClustersModel" "now" "[I") (by decide +kernel)
  have q_2 := hts (.fieldLink RX8 28 "DelayClustersModel" "delays" "[I") (by decide +kernel)
  have q_3 := hts (.fieldLink RX8 31 "DelayClustersModel" "fractions" "[I") (by decide +kernel)
  unfold Mo_settles at hf
  refine lv_aload_n hx hb dX8_settles_0 rfl (lv_at hl 0 rfl) ?_
  obtain ⟨m_dist_2, h_1, hf⟩ := bd_s hf
  try dsimp only at hf
  refine ca_Mv (w2 := (w_Mo E m0 m1 m2 m3 m4 m5 m6 m7 m8 m9 m10 m11 m_length m_places m_most m_tenths m_changes m_readPlaces m_value m_ends m_clusters m_text m_now m_read m_was m_readRule m_dist_2 m_delays m_fractions m_head m_hour m_number)) (As := []) (rest := []) ⟨hx, hb, hml, hown, hts⟩ ⟨hK, hN⟩ hP hD hS hA (c_Mo_ways l E m0 m1 m2 m3 m4 m5 m6 m7 m8 m9 m10 m11 H.size m_length m_places m_most m_tenths m_changes m_readPlaces m_value m_ends m_clusters m_text m_now m_read m_was m_readRule m_dist m_delays m_fractions m_head m_hour m_number m_dist_2 h_1) [0, 1, 2, 3, 4, 5, 6, 7, 8, 9, 10, 11] [] [0, 1, 2, 3, 4, 5, 6, 7, 8, 9, 10, 11] rfl rfl rfl rfl (by decide) rfl rfl 8 0 rfl rfl rfl gX8_settles_X8_ways rfl rfl rfl rfl hd_Mo_ways ⟨(Nat.le_of_ble_eq_true rfl), (Nat.le_of_ble_eq_true rfl)⟩ rfl hl.1 rfl (Nat.le_of_ble_eq_true rfl) dX8_settles_1 ⟨(Nat.zero_le _), (Nat.zero_le _)⟩ (fun H locs hP hD hS => ?_)
  refine lv_iconst (v := 0) hx hb dX8_settles_4 (by decide) ?_
  refine lv_istore_n (lv' := [(2, .int 0), (0, .ref m0), (1, .int a1)]) hx hb dX8_settles_5 rfl hl (by decide) rfl (fun ls hl => ?_)
  obtain ⟨w_6, i_6, hf⟩ := bd_s hf
  have KX_6 : ∀ (m_delays_22 : Nat → Int32) (m_fractions_23 : Nat → Int32), (m_delays_22, m_fractions_23) = w_6 → ∀ (H : Heap) (locs : List Loc) (ls : Array Slot), va_P E.1 vwCl (w_Mo E m0 m1 m2 m3 m4 m5 m6 m7 m8 m9 m10 m11 m_length m_places m_most m_tenths m_changes m_readPlaces m_value m_ends m_clusters m_text m_now m_read m_was m_readRule m_dist_2 m_delays_22 m_fractions_23 m_head m_hour m_number) H → va_D A (w_Mo E m0 m1 m2 m3 m4 m5 m6 m7 m8 m9 m10 m11 m_length m_places m_most m_tenths m_changes m_readPlaces m_value m_ends m_clusters m_text m_now m_read m_was m_readRule m_dist_2 m_delays_22 m_fractions_23 m_head m_hour m_number) → va_S A s.heap H locs → lv_has ls 4 [(0, .ref m0)] → W p l e rm_Mo_settles s m args below meth c H locs 0 0 Q (F0 m 104 ls []) := by
    intro m_delays_22 m_fractions_23 e_
    subst e_
    try dsimp only at hf
    intro H locs ls hP hD hS hl
    refine lv_aload_n hx hb dX8_settles_104 rfl (lv_at hl 0 rfl) ?_
    obtain ⟨⟨m_clusters_25, m_head_26, m_hour_27, m_number_28⟩, h_24, hf⟩ := bd_s hf
    try dsimp only at hf
    refine ca_Mv (w2 := (w_Mo E m0 m1 m2 m3 m4 m5 m6 m7 m8 m9 m10 m11 m_length m_places m_most m_tenths m_changes m_readPlaces m_value m_ends m_clusters_25 m_text m_now m_read m_was m_readRule m_dist_2 m_delays_22 m_fractions_23 m_head_26 m_hour_27 m_number_28)) (As := []) (rest := []) ⟨hx, hb, hml, hown, hts⟩ ⟨hK, hN⟩ hP hD hS hA (c_Mo_join l E m0 m1 m2 m3 m4 m5 m6 m7 m8 m9 m10 m11 H.size m_length m_places m_most m_tenths m_changes m_readPlaces m_value m_ends m_clusters m_text m_now m_read m_was m_readRule m_dist_2 m_delays_22 m_fractions_23 m_head m_hour m_number (m_clusters_25, m_head_26, m_hour_27, m_number_28) h_24) [0, 1, 2, 3, 4, 5, 6, 7, 8, 9, 10, 11] [] [0, 1, 2, 3, 4, 5, 6, 7, 8, 9, 10, 11] rfl rfl rfl rfl (by decide) rfl rfl 8 0 rfl rfl rfl gX8_settles_X8_join rfl rfl rfl rfl hd_Mo_join ⟨(Nat.le_of_ble_eq_true rfl), (Nat.le_of_ble_eq_true rfl)⟩ rfl hl.1 rfl (Nat.le_of_ble_eq_true rfl) dX8_settles_105 ⟨(Nat.zero_le _), (Nat.zero_le _)⟩ (fun H locs hP hD hS => ?_)
    exact hret H locs ls 108 (m_clusters_25, m_dist_2, m_delays_22, m_fractions_23, m_head_26, m_hour_27, m_number_28) dX8_settles_108 (Option.some.inj hf) hP hD hS
  have KL_6 : ∀ (n_ : Nat) (v2_3 : Int32) (m_delays_4 : Nat → Int32) (m_fractions_5 : Nat → Int32), it (Mo_settles_L6 m_places m_most m_tenths m_now a1) n_ (v2_3, m_delays_4, m_fractions_5) = some w_6 → ∀ (H : Heap) (locs : List Loc) (ls : Array Slot), va_P E.1 vwCl (w_Mo E m0 m1 m2 m3 m4 m5 m6 m7 m8 m9 m10 m11 m_length m_places m_most m_tenths m_changes m_readPlaces m_value m_ends m_clusters m_text m_now m_read m_was m_readRule m_dist_2 m_delays_4 m_fractions_5 m_head m_hour m_number) H → va_D A (w_Mo E m0 m1 m2 m3 m4 m5 m6 m7 m8 m9 m10 m11 m_length m_places m_most m_tenths m_changes m_readPlaces m_value m_ends m_clusters m_text m_now m_read m_was m_readRule m_dist_2 m_delays_4 m_fractions_5 m_head m_hour m_number) → va_S A s.heap H locs → lv_has ls 4 [(0, .ref m0), (1, .int a1), (2, .int v2_3)] → W p l e rm_Mo_settles s m args below meth c H locs 0 0 Q (F0 m 6 ls []) := by
    intro n_
    induction n_ with
    | zero => intro v2_3 m_delays_4 m_fractions_5 hit; exact (it_z hit).elim
    | succ n_6 ih_6 =>
      intro v2_3 m_delays_4 m_fractions_5 hit
      intro H locs ls hP hD hS hl
      obtain ⟨x_6, hf, hc_6, hq_6⟩ := it_s hit
      dsimp only [Mo_settles_L6] at hf
      refine lv_iload_n hx hb dX8_settles_6 rfl (lv_at hl 2 rfl) ?_
      refine lv_aload_n hx hb dX8_settles_7 rfl (lv_at hl 0 rfl) ?_
      refine va_get (D := E.1) (ci := 8) (v := .int m_places) (C := RX8) (T := TX8) (N := 20) hx hb hts in_X8_settles_X8 hown hK hP 0 rfl rfl 2 (by decide) q_0 (fun _ h9 => h9) rfl dX8_settles_8 ?_
      refine lv_icmp_ge (tgt := 104) hx hb dX8_settles_11 (by decide) (fun c_21 => ?_) (fun c_21 => ?_)
      · have hf := ite_t c_21 hf
        exact KX_6 m_delays_4 m_fractions_5 (hq_6 _ (Option.some.inj hf).symm) H locs _ hP hD hS (lv_sub hl [0] rfl)
      · have hf := ite_f c_21 hf
        refine lv_aload_n hx hb dX8_settles_14 rfl (lv_at hl 0 rfl) ?_
        refine va_get (D := E.1) (ci := 8) (v := .ref m2) (C := RX8) (T := TX8) (N := 20) hx hb hts in_X8_settles_X8 hown hK hP 0 rfl rfl 5 (by decide) q_1 (fun _ h9 => h9) rfl dX8_settles_15 ?_
        refine lv_sipush (v := 256) hx hb dX8_settles_18 (by decide) ?_
        refine lv_iload_n hx hb dX8_settles_21 rfl (lv_at hl 2 rfl) ?_
        refine lv_iadd hx hb dX8_settles_22 ?_
        obtain ⟨g_6, hf⟩ := gk_s hf
        refine va_iald hx hb hK hP 2 0 rfl rfl g_6 dX8_settles_23 ?_
        obtain ⟨j_24, b_24, hf⟩ := bd_s hf
        have KJ_24 : ∀ (t_8 : Int32), t_8 = j_24 → ∀ (H : Heap) (locs : List Loc) (ls : Array Slot), va_P E.1 vwCl (w_Mo E m0 m1 m2 m3 m4 m5 m6 m7 m8 m9 m10 m11 m_length m_places m_most m_tenths m_changes m_readPlaces m_value m_ends m_clusters m_text m_now m_read m_was m_readRule m_dist_2 m_delays_4 m_fractions_5 m_head m_hour m_number) H → va_D A (w_Mo E m0 m1 m2 m3 m4 m5 m6 m7 m8 m9 m10 m11 m_length m_places m_most m_tenths m_changes m_readPlaces m_value m_ends m_clusters m_text m_now m_read m_was m_readRule m_dist_2 m_delays_4 m_fractions_5 m_head m_hour m_number) → va_S A s.heap H locs → lv_has ls 4 [(0, .ref m0), (1, .int a1), (2, .int v2_3)] → W p l e rm_Mo_settles s m args below meth c H locs 0 0 Q (F0 m 32 ls [.int t_8]) := by
          intro t_8 e_
          subst e_
          try dsimp only at hf
          intro H locs ls hP hD hS hl
          refine lv_istore_n (lv' := [(3, .int t_8), (0, .ref m0), (1, .int a1), (2, .int v2_3)]) hx hb dX8_settles_32 rfl hl (by decide) rfl (fun ls hl => ?_)
          refine lv_aload_n hx hb dX8_settles_33 rfl (lv_at hl 1 rfl) ?_
          refine va_get (D := E.1) (ci := 8) (v := .ref m7) (C := RX8) (T := TX8) (N := 20) hx hb hts in_X8_settles_X8 hown hK hP 0 rfl rfl 14 (by decide) q_2 (fun _ h9 => h9) rfl dX8_settles_34 ?_
          refine lv_iload_n hx hb dX8_settles_37 rfl (lv_at hl 3 rfl) ?_
          refine lv_iload_n hx hb dX8_settles_38 rfl (lv_at hl 0 rfl) ?_
          obtain ⟨j_39, b_39, hf⟩ := bd_s hf
          have KJ_39 : ∀ (t_13 : Int32), t_13 = j_39 → ∀ (H : Heap) (locs : List Loc) (ls : Array Slot), va_P E.1 vwCl (w_Mo E m0 m1 m2 m3 m4 m5 m6 m7 m8 m9 m10 m11 m_length m_places m_most m_tenths m_changes m_readPlaces m_value m_ends m_clusters m_text m_now m_read m_was m_readRule m_dist_2 m_delays_4 m_fractions_5 m_head m_hour m_number) H → va_D A (w_Mo E m0 m1 m2 m3 m4 m5 m6 m7 m8 m9 m10 m11 m_length m_places m_most m_tenths m_changes m_readPlaces m_value m_ends m_clusters m_text m_now m_read m_was m_readRule m_dist_2 m_delays_4 m_fractions_5 m_head m_hour m_number) → va_S A s.heap H locs → lv_has ls 4 [(0, .ref m0), (1, .int a1), (2, .int v2_3), (3, .int t_8)] → W p l e rm_Mo_settles s m args below meth c H locs 0 0 Q (F0 m 63 ls [.int t_13, .int v2_3, .ref m7]) := by
            intro t_13 e_
            subst e_
            try dsimp only at hf
            intro H locs ls hP hD hS hl
            obtain ⟨g_14, hf⟩ := gk_s hf
            refine va_iast hx hb hK hP hD hS 7 0 rfl rfl g_14 dX8_settles_63 (fun H locs hP hD hS => ?_)
            have hP : va_P E.1 vwCl (w_Mo E m0 m1 m2 m3 m4 m5 m6 m7 m8 m9 m10 m11 m_length m_places m_most m_tenths m_changes m_readPlaces m_value m_ends m_clusters m_text m_now m_read m_was m_readRule m_dist_2 (upd m_delays_4 v2_3.toNatClampNeg t_13) m_fractions_5 m_head m_hour m_number) H := hP
            have hD : va_D A (w_Mo E m0 m1 m2 m3 m4 m5 m6 m7 m8 m9 m10 m11 m_length m_places m_most m_tenths m_changes m_readPlaces m_value m_ends m_clusters m_text m_now m_read m_was m_readRule m_dist_2 (upd m_delays_4 v2_3.toNatClampNeg t_13) m_fractions_5 m_head m_hour m_number) := hD
            refine lv_aload_n hx hb dX8_settles_64 rfl (lv_at hl 0 rfl) ?_
            refine va_get (D := E.1) (ci := 8) (v := .ref m8) (C := RX8) (T := TX8) (N := 20) hx hb hts in_X8_settles_X8 hown hK hP 0 rfl rfl 15 (by decide) q_3 (fun _ h9 => h9) rfl dX8_settles_65 ?_
            refine lv_iload_n hx hb dX8_settles_68 rfl (lv_at hl 2 rfl) ?_
            refine lv_iload_n hx hb dX8_settles_69 rfl (lv_at hl 3 rfl) ?_
            refine lv_if_eq (tgt := 86) hx hb dX8_settles_70 (by decide) (fun c_20 => ?_) (fun c_20 => ?_)
            · have hf := ite_t c_20 hf
              refine lv_iload_n hx hb dX8_settles_86 rfl (lv_at hl 1 rfl) ?_
              refine lv_iload_n hx hb dX8_settles_87 rfl (lv_at hl 2 rfl) ?_
              refine lv_bipush (v := 99) hx hb dX8_settles_88 (by decide) ?_
              obtain ⟨r_16, h_15, hf⟩ := bd_s hf
              refine ca_S (As := [.int a1, .int v2_3, .int 99]) (rest := [.int v2_3, .ref m8]) ⟨hx, hb, hml, hown, hts⟩ ⟨hK, hN⟩ hP (c_Mo_drawOf l E   a1 v2_3 99 r_16 h_15) [] rfl gX8_settles_X8_drawOf rfl rfl rfl hd_Mo_drawOf ⟨(Nat.le_of_ble_eq_true rfl), (Nat.le_of_ble_eq_true rfl)⟩ rfl hl.1 rfl (Nat.le_of_ble_eq_true rfl) dX8_settles_90 ⟨(Nat.zero_le _), (Nat.zero_le _)⟩ ?_
              refine lv_sipush (v := 1000) hx hb dX8_settles_93 (by decide) ?_
              refine lv_irem hx hb dX8_settles_96 (by decide) ?_
              obtain ⟨g_17, hf⟩ := gk_s hf
              refine va_iast hx hb hK hP hD hS 8 0 rfl rfl g_17 dX8_settles_97 (fun H locs hP hD hS => ?_)
              have hP : va_P E.1 vwCl (w_Mo E m0 m1 m2 m3 m4 m5 m6 m7 m8 m9 m10 m11 m_length m_places m_most m_tenths m_changes m_readPlaces m_value m_ends m_clusters m_text m_now m_read m_was m_readRule m_dist_2 (upd m_delays_4 v2_3.toNatClampNeg t_13) (upd m_fractions_5 v2_3.toNatClampNeg (r_16 - r_16 / 1000 * 1000)) m_head m_hour m_number) H := hP
              have hD : va_D A (w_Mo E m0 m1 m2 m3 m4 m5 m6 m7 m8 m9 m10 m11 m_length m_places m_most m_tenths m_changes m_readPlaces m_value m_ends m_clusters m_text m_now m_read m_was m_readRule m_dist_2 (upd m_delays_4 v2_3.toNatClampNeg t_13) (upd m_fractions_5 v2_3.toNatClampNeg (r_16 - r_16 / 1000 * 1000)) m_head m_hour m_number) := hD
              refine lv_iinc (v := (v2_3 + 1)) (lv' := [(2, .int (v2_3 + 1)), (0, .ref m0), (1, .int a1), (3, .int t_8)]) hx hb dX8_settles_98 hl (k := 2) rfl rfl (by decide) rfl (fun ls hl => ?_)
              refine lv_goto (tgt := 6) hx hb dX8_settles_101 (by decide) ?_
              exact ih_6 (v2_3 + 1) (upd m_delays_4 v2_3.toNatClampNeg t_13) (upd m_fractions_5 v2_3.toNatClampNeg (r_16 - r_16 / 1000 * 1000)) (hc_6 _ (Option.some.inj hf).symm) H locs _ hP hD hS (lv_sub hl [1, 2, 0] rfl)
            · have hf := ite_f c_20 hf
              refine lv_aload_n hx hb dX8_settles_73 rfl (lv_at hl 0 rfl) ?_
              refine va_get (D := E.1) (ci := 8) (v := .ref m2) (C := RX8) (T := TX8) (N := 20) hx hb hts in_X8_settles_X8 hown hK hP 0 rfl rfl 5 (by decide) q_1 (fun _ h9 => h9) rfl dX8_settles_74 ?_
              refine lv_sipush (v := 272) hx hb dX8_settles_77 (by decide) ?_
              refine lv_iload_n hx hb dX8_settles_80 rfl (lv_at hl 2 rfl) ?_
              refine lv_iadd hx hb dX8_settles_81 ?_
              obtain ⟨g_18, hf⟩ := gk_s hf
              refine va_iald hx hb hK hP 2 0 rfl rfl g_18 dX8_settles_82 ?_
              refine lv_goto (tgt := 97) hx hb dX8_settles_83 (by decide) ?_
              obtain ⟨g_19, hf⟩ := gk_s hf
              refine va_iast hx hb hK hP hD hS 8 0 rfl rfl g_19 dX8_settles_97 (fun H locs hP hD hS => ?_)
              have hP : va_P E.1 vwCl (w_Mo E m0 m1 m2 m3 m4 m5 m6 m7 m8 m9 m10 m11 m_length m_places m_most m_tenths m_changes m_readPlaces m_value m_ends m_clusters m_text m_now m_read m_was m_readRule m_dist_2 (upd m_delays_4 v2_3.toNatClampNeg t_13) (upd m_fractions_5 v2_3.toNatClampNeg (m_now (272 + v2_3).toNatClampNeg)) m_head m_hour m_number) H := hP
              have hD : va_D A (w_Mo E m0 m1 m2 m3 m4 m5 m6 m7 m8 m9 m10 m11 m_length m_places m_most m_tenths m_changes m_readPlaces m_value m_ends m_clusters m_text m_now m_read m_was m_readRule m_dist_2 (upd m_delays_4 v2_3.toNatClampNeg t_13) (upd m_fractions_5 v2_3.toNatClampNeg (m_now (272 + v2_3).toNatClampNeg)) m_head m_hour m_number) := hD
              refine lv_iinc (v := (v2_3 + 1)) (lv' := [(2, .int (v2_3 + 1)), (0, .ref m0), (1, .int a1), (3, .int t_8)]) hx hb dX8_settles_98 hl (k := 2) rfl rfl (by decide) rfl (fun ls hl => ?_)
              refine lv_goto (tgt := 6) hx hb dX8_settles_101 (by decide) ?_
              exact ih_6 (v2_3 + 1) (upd m_delays_4 v2_3.toNatClampNeg t_13) (upd m_fractions_5 v2_3.toNatClampNeg (m_now (272 + v2_3).toNatClampNeg)) (hc_6 _ (Option.some.inj hf).symm) H locs _ hP hD hS (lv_sub hl [1, 2, 0] rfl)
          have hf := b_39
          refine lv_if_eq (tgt := 57) hx hb dX8_settles_39 (by decide) (fun c_12 => ?_) (fun c_12 => ?_)
          · have hf := ite_t c_12 hf
            refine lv_aload_n hx hb dX8_settles_57 rfl (lv_at hl 1 rfl) ?_
            refine lv_iload_n hx hb dX8_settles_58 rfl (lv_at hl 2 rfl) ?_
            refine lv_iload_n hx hb dX8_settles_59 rfl (lv_at hl 3 rfl) ?_
            obtain ⟨r_10, h_9, hf⟩ := bd_s hf
            refine ca_V (As := [.int a1, .int v2_3]) (rest := [.int v2_3, .ref m7]) ⟨hx, hb, hml, hown, hts⟩ ⟨hK, hN⟩ hP (c_Mo_drawnDelay l E m0 m1 m2 m3 m4 m5 m6 m7 m8 m9 m10 m11 m_length m_places m_most m_tenths m_changes m_readPlaces m_value m_ends m_clusters m_text m_now m_read m_was m_readRule m_dist_2 m_delays_4 m_fractions_5 m_head m_hour m_number a1 v2_3 r_10 h_9) [0, 1, 2, 3, 4, 5, 6, 7, 8, 9, 10, 11] rfl 8 0 rfl rfl rfl gX8_settles_X8_drawnDelay rfl rfl rfl rfl hd_Mo_drawnDelay ⟨(Nat.le_of_ble_eq_true rfl), (Nat.le_of_ble_eq_true rfl)⟩ rfl hl.1 rfl (Nat.le_of_ble_eq_true rfl) dX8_settles_60 ⟨(Nat.zero_le _), (Nat.zero_le _)⟩ ?_
            exact KJ_39 r_10 (Option.some.inj hf) H locs _ hP hD hS (lv_sub hl [1, 2, 3, 0] rfl)
          · have hf := ite_f c_12 hf
            refine lv_aload_n hx hb dX8_settles_42 rfl (lv_at hl 1 rfl) ?_
            refine va_get (D := E.1) (ci := 8) (v := .ref m2) (C := RX8) (T := TX8) (N := 20) hx hb hts in_X8_settles_X8 hown hK hP 0 rfl rfl 5 (by decide) q_1 (fun _ h9 => h9) rfl dX8_settles_43 ?_
            refine lv_sipush (v := 256) hx hb dX8_settles_46 (by decide) ?_
            refine lv_iload_n hx hb dX8_settles_49 rfl (lv_at hl 3 rfl) ?_
            refine lv_iadd hx hb dX8_settles_50 ?_
            obtain ⟨g_11, hf⟩ := gk_s hf
            refine va_iald hx hb hK hP 2 0 rfl rfl g_11 dX8_settles_51 ?_
            refine lv_iconst (v := 1) hx hb dX8_settles_52 (by decide) ?_
            refine lv_isub hx hb dX8_settles_53 ?_
            refine lv_goto (tgt := 63) hx hb dX8_settles_54 (by decide) ?_
            exact KJ_39 ((m_now (256 + v2_3).toNatClampNeg) - 1) (Option.some.inj hf) H locs _ hP hD hS (lv_sub hl [1, 2, 3, 0] rfl)
        have hf := b_24
        refine lv_if_le (tgt := 31) hx hb dX8_settles_24 (by decide) (fun c_7 => ?_) (fun c_7 => ?_)
        · have hf := ite_t c_7 hf
          refine lv_iconst (v := 0) hx hb dX8_settles_31 (by decide) ?_
          exact KJ_24 0 (Option.some.inj hf) H locs _ hP hD hS (lv_sub hl [0, 1, 2] rfl)
        · have hf := ite_f c_7 hf
          refine lv_iconst (v := 1) hx hb dX8_settles_27 (by decide) ?_
          refine lv_goto (tgt := 32) hx hb dX8_settles_28 (by decide) ?_
          exact KJ_24 1 (Option.some.inj hf) H locs _ hP hD hS (lv_sub hl [0, 1, 2] rfl)
  exact KL_6 _ 0 m_delays m_fractions i_6 H locs _ hP hD hS (lv_sub hl [1, 2, 0] rfl)
abbrev rm_Mo_settle : Room := { frames := 3, cells := 0, slots := 0, locals := 75 }
theorem hd_Mo_settle : hdOK yX8_settle 0 := by decide +kernel
theorem in_X8_settle_X8 : ∀ w ∈ wsX80, w ∈ wsX8_settle := by decide +kernel
set_option maxRecDepth 100000 in
set_option maxHeartbeats 4000000 in
theorem c_Mo_settle (l : Launch) (E : En4) (m0 m1 m2 m3 m4 m5 m6 m7 m8 m9 m10 m11 : Nat) (sz : Nat) (m_length : Int32) (m_places : Int32) (m_most : Int32) (m_tenths : Int32) (m_changes : Int32) (m_readPlaces : Int32) (m_value : Int32) (m_ends : Int32) (m_clusters : Int32) (m_text : Nat → Int32) (m_now : Nat → Int32) (m_read : Nat → Int32) (m_was : Nat → Int32) (m_readRule : Nat → Int32) (m_dist : Nat → Int32) (m_delays : Nat → Int32) (m_fractions : Nat → Int32) (m_head : Nat → Int32) (m_hour : Nat → Int32) (m_number : Nat → Int32)  (res : Int32 × (Nat → Int32) × (Nat → Int32) × (Nat → Int32) × (Nat → Int32) × (Nat → Int32) × (Nat → Int32)) (hf : Mo_settle m_places m_most m_tenths m_clusters m_now m_dist m_delays m_fractions m_head m_hour m_number = some res) : Met l yX8_settle wsX8_settle rm_Mo_settle (pcM [.ref m0] E sz (w_Mo E m0 m1 m2 m3 m4 m5 m6 m7 m8 m9 m10 m11 m_length m_places m_most m_tenths m_changes m_readPlaces m_value m_ends m_clusters m_text m_now m_read m_was m_readRule m_dist m_delays m_fractions m_head m_hour m_number)) (QMv E sz (w_Mo E m0 m1 m2 m3 m4 m5 m6 m7 m8 m9 m10 m11 m_length m_places m_most m_tenths m_changes m_readPlaces m_value m_ends m_clusters m_text m_now m_read m_was m_readRule m_dist m_delays m_fractions m_head m_hour m_number) (fun (u : Int32 × (Nat → Int32) × (Nat → Int32) × (Nat → Int32) × (Nat → Int32) × (Nat → Int32) × (Nat → Int32)) => (w_Mo E m0 m1 m2 m3 m4 m5 m6 m7 m8 m9 m10 m11 m_length m_places m_most m_tenths m_changes m_readPlaces m_value m_ends u.1 m_text m_now m_read m_was m_readRule u.2.1 u.2.2.1 u.2.2.2.1 u.2.2.2.2.1 u.2.2.2.2.2.1 u.2.2.2.2.2.2)) res) 0 0 (va_A (w_Mo E m0 m1 m2 m3 m4 m5 m6 m7 m8 m9 m10 m11 m_length m_places m_most m_tenths m_changes m_readPlaces m_value m_ends m_clusters m_text m_now m_read m_was m_readRule m_dist m_delays m_fractions m_head m_hour m_number) sz) := by
  refine mk_Mv (cc := cX8_settle) (maxL := 1) (by decide) rfl (Nat.le_of_ble_eq_true rfl) ?_
  intro p e s m args below meth c Q A S hKN hA hret H locs ls hP hD hS hl
  obtain ⟨hx, hb, hml, hown, hts⟩ := S
  obtain ⟨hK, hN⟩ := hKN
  have hl : lv_has ls 1 [(0, .ref m0)] := hl
  have q_0 := hts (.fieldLink RX8 13 "DelayClustersModel" "now" "[I") (by decide +kernel)
  unfold Mo_settle at hf
  refine lv_aload_n hx hb dX8_settle_0 rfl (lv_at hl 0 rfl) ?_
  refine lv_aload_n hx hb dX8_settle_1 rfl (lv_at hl 0 rfl) ?_
  refine va_get (D := E.1) (ci := 8) (v := .ref m2) (C := RX8) (T := TX8) (N := 20) hx hb hts in_X8_settle_X8 hown hK hP 0 rfl rfl 5 (by decide) q_0 (fun _ h9 => h9) rfl dX8_settle_2 ?_
  refine lv_sipush (v := 288) hx hb dX8_settle_5 (by decide) ?_
  refine va_iald hx hb hK hP 2 0 rfl rfl (ck_in (by decide)) dX8_settle_8 ?_
  obtain ⟨⟨m_clusters_2, m_dist_3, m_delays_4, m_fractions_5, m_head_6, m_hour_7, m_number_8⟩, h_1, hf⟩ := bd_s hf
  try dsimp only at hf
  refine ca_Mv (w2 := (w_Mo E m0 m1 m2 m3 m4 m5 m6 m7 m8 m9 m10 m11 m_length m_places m_most m_tenths m_changes m_readPlaces m_value m_ends m_clusters_2 m_text m_now m_read m_was m_readRule m_dist_3 m_delays_4 m_fractions_5 m_head_6 m_hour_7 m_number_8)) (As := [.int (m_now (288 : Int32).toNatClampNeg)]) (rest := []) ⟨hx, hb, hml, hown, hts⟩ ⟨hK, hN⟩ hP hD hS hA (c_Mo_settles l E m0 m1 m2 m3 m4 m5 m6 m7 m8 m9 m10 m11 H.size m_length m_places m_most m_tenths m_changes m_readPlaces m_value m_ends m_clusters m_text m_now m_read m_was m_readRule m_dist m_delays m_fractions m_head m_hour m_number (m_now (288 : Int32).toNatClampNeg) (m_clusters_2, m_dist_3, m_delays_4, m_fractions_5, m_head_6, m_hour_7, m_number_8) h_1) [0, 1, 2, 3, 4, 5, 6, 7, 8, 9, 10, 11] [] [0, 1, 2, 3, 4, 5, 6, 7, 8, 9, 10, 11] rfl rfl rfl rfl (by decide) rfl rfl 8 0 rfl rfl rfl gX8_settle_X8_settles rfl rfl rfl rfl hd_Mo_settles ⟨(Nat.le_of_ble_eq_true rfl), (Nat.le_of_ble_eq_true rfl)⟩ rfl hl.1 rfl (Nat.le_of_ble_eq_true rfl) dX8_settle_9 ⟨(Nat.zero_le _), (Nat.zero_le _)⟩ (fun H locs hP hD hS => ?_)
  exact hret H locs ls 12 (m_clusters_2, m_dist_3, m_delays_4, m_fractions_5, m_head_6, m_hour_7, m_number_8) dX8_settle_12 (Option.some.inj hf) hP hD hS
abbrev rm_Mo_depth : Room := { frames := 0, cells := 0, slots := 0, locals := 0 }
theorem hd_Mo_depth : hdOK yX8_depth 1 := by decide +kernel
theorem in_X8_depth_X8 : ∀ w ∈ wsX80, w ∈ wsX8_depth := by decide +kernel
set_option maxRecDepth 100000 in
set_option maxHeartbeats 4000000 in
theorem c_Mo_depth (l : Launch) (E : En4) (m0 m1 m2 m3 m4 m5 m6 m7 m8 m9 m10 m11 : Nat) (m_length : Int32) (m_places : Int32) (m_most : Int32) (m_tenths : Int32) (m_changes : Int32) (m_readPlaces : Int32) (m_value : Int32) (m_ends : Int32) (m_clusters : Int32) (m_text : Nat → Int32) (m_now : Nat → Int32) (m_read : Nat → Int32) (m_was : Nat → Int32) (m_readRule : Nat → Int32) (m_dist : Nat → Int32) (m_delays : Nat → Int32) (m_fractions : Nat → Int32) (m_head : Nat → Int32) (m_hour : Nat → Int32) (m_number : Nat → Int32) (a1 : Int32)  (res : Int32) (hf : Mo_depth m_dist m_head a1 = some res) : Met l yX8_depth wsX8_depth rm_Mo_depth (pcR [.ref m0, .int a1] E (w_Mo E m0 m1 m2 m3 m4 m5 m6 m7 m8 m9 m10 m11 m_length m_places m_most m_tenths m_changes m_readPlaces m_value m_ends m_clusters m_text m_now m_read m_was m_readRule m_dist m_delays m_fractions m_head m_hour m_number)) (vp_Si (fun r => r = res)) 0 0 (fun _ => False) := by
  refine mk_Ri (cc := cX8_depth) (maxL := 2) (by decide) rfl (Nat.le_of_ble_eq_true rfl) ?_
  intro p e s m args below meth c Q S hKN hP hret ls hl
  obtain ⟨hx, hb, hml, hown, hts⟩ := S
  obtain ⟨hK, hN⟩ := hKN
  have hl : lv_has ls 2 [(0, .ref m0), (1, .int a1)] := hl
  have q_0 := hts (.fieldLink RX8 25 "DelayClustersModel" "dist" "[I") (by decide +kernel)
  have q_1 := hts (.fieldLink RX8 34 "DelayClustersModel" "head" "[I") (by decide +kernel)
  unfold Mo_depth at hf
  refine lv_aload_n hx hb dX8_depth_0 rfl (lv_at hl 0 rfl) ?_
  refine va_get (D := E.1) (ci := 8) (v := .ref m6) (C := RX8) (T := TX8) (N := 20) hx hb hts in_X8_depth_X8 hown hK hP 0 rfl rfl 13 (by decide) q_0 (fun _ h9 => h9) rfl dX8_depth_1 ?_
  refine lv_bipush (v := 16) hx hb dX8_depth_4 (by decide) ?_
  refine lv_aload_n hx hb dX8_depth_6 rfl (lv_at hl 0 rfl) ?_
  refine va_get (D := E.1) (ci := 8) (v := .ref m9) (C := RX8) (T := TX8) (N := 20) hx hb hts in_X8_depth_X8 hown hK hP 0 rfl rfl 16 (by decide) q_1 (fun _ h9 => h9) rfl dX8_depth_7 ?_
  refine lv_iload_n hx hb dX8_depth_10 rfl (lv_at hl 1 rfl) ?_
  obtain ⟨g_1, hf⟩ := gk_s hf
  refine va_iald hx hb hK hP 9 0 rfl rfl g_1 dX8_depth_11 ?_
  refine lv_imul hx hb dX8_depth_12 ?_
  refine lv_iload_n hx hb dX8_depth_13 rfl (lv_at hl 1 rfl) ?_
  refine lv_iadd hx hb dX8_depth_14 ?_
  obtain ⟨g_2, hf⟩ := gk_s hf
  refine va_iald hx hb hK hP 6 0 rfl rfl g_2 dX8_depth_15 ?_
  exact hret ls 16 (m_dist ((16 * (m_head a1.toNatClampNeg)) + a1).toNatClampNeg) dX8_depth_16 (Option.some.inj hf)
abbrev rm_Mo_upOf : Room := { frames := 1, cells := 0, slots := 0, locals := 21 }
theorem hd_Mo_upOf : hdOK yX8_upOf 1 := by decide +kernel
theorem in_X8_upOf_X8 : ∀ w ∈ wsX80, w ∈ wsX8_upOf := by decide +kernel
set_option maxRecDepth 100000 in
set_option maxHeartbeats 4000000 in
theorem c_Mo_upOf (l : Launch) (E : En4) (m0 m1 m2 m3 m4 m5 m6 m7 m8 m9 m10 m11 : Nat) (m_length : Int32) (m_places : Int32) (m_most : Int32) (m_tenths : Int32) (m_changes : Int32) (m_readPlaces : Int32) (m_value : Int32) (m_ends : Int32) (m_clusters : Int32) (m_text : Nat → Int32) (m_now : Nat → Int32) (m_read : Nat → Int32) (m_was : Nat → Int32) (m_readRule : Nat → Int32) (m_dist : Nat → Int32) (m_delays : Nat → Int32) (m_fractions : Nat → Int32) (m_head : Nat → Int32) (m_hour : Nat → Int32) (m_number : Nat → Int32) (a1 : Int32)  (res : Int32) (hf : Mo_upOf m_places m_now m_dist m_head a1 = some res) : Met l yX8_upOf wsX8_upOf rm_Mo_upOf (pcR [.ref m0, .int a1] E (w_Mo E m0 m1 m2 m3 m4 m5 m6 m7 m8 m9 m10 m11 m_length m_places m_most m_tenths m_changes m_readPlaces m_value m_ends m_clusters m_text m_now m_read m_was m_readRule m_dist m_delays m_fractions m_head m_hour m_number)) (vp_Si (fun r => r = res)) 0 0 (fun _ => False) := by
  refine mk_Ri (cc := cX8_upOf) (maxL := 4) (by decide) rfl (Nat.le_of_ble_eq_true rfl) ?_
  intro p e s m args below meth c Q S hKN hP hret ls hl
  obtain ⟨hx, hb, hml, hown, hts⟩ := S
  obtain ⟨hK, hN⟩ := hKN
  have hl : lv_has ls 4 [(0, .ref m0), (1, .int a1)] := hl
  have q_0 := hts (.fieldLink RX8 57 "DelayClustersModel" "places" "I") (by decide +kernel)
  have q_1 := hts (.fieldLink RX8 34 "DelayClustersModel" "head" "[I") (by decide +kernel)
  have q_2 := hts (.fieldLink RX8 13 "DelayClustersModel" "now" "[I") (by decide +kernel)
  unfold Mo_upOf at hf
  refine lv_iconst (v := 0) hx hb dX8_upOf_0 (by decide) ?_
  refine lv_istore_n (lv' := [(2, .int 0), (0, .ref m0), (1, .int a1)]) hx hb dX8_upOf_1 rfl hl (by decide) rfl (fun ls hl => ?_)
  obtain ⟨w_2, i_2, hf⟩ := bd_s hf
  have KE_2 : ∀ y_, Sum.inr y_ = w_2 → some y_ = some res := by intro y_ e_; subst e_; exact hf
  have KX_2 : Sum.inl () = w_2 → ∀ (ls : Array Slot), lv_has ls 4 [] → W p l e rm_Mo_upOf s m args below meth c s.heap [] 0 0 Q (F0 m 74 ls []) := by
    intro e_
    subst e_
    try dsimp only at hf
    intro ls hl
    refine lv_bipush (v := (-4)) hx hb dX8_upOf_74 (by decide) ?_
    exact hret ls 76 (-4) dX8_upOf_76 (Option.some.inj hf)
  have KL_2 : ∀ (n_ : Nat) (v2_1 : Int32), it (Mo_upOf_L2 m_places m_now m_dist m_head a1) n_ v2_1 = some w_2 → ∀ (ls : Array Slot), lv_has ls 4 [(0, .ref m0), (1, .int a1), (2, .int v2_1)] → W p l e rm_Mo_upOf s m args below meth c s.heap [] 0 0 Q (F0 m 2 ls []) := by
    intro n_
    induction n_ with
    | zero => intro v2_1 hit; exact (it_z hit).elim
    | succ n_2 ih_2 =>
      intro v2_1 hit
      intro ls hl
      obtain ⟨x_2, hf, hc_2, hq_2⟩ := it_s hit
      dsimp only [Mo_upOf_L2] at hf
      refine lv_iload_n hx hb dX8_upOf_2 rfl (lv_at hl 2 rfl) ?_
      refine lv_aload_n hx hb dX8_upOf_3 rfl (lv_at hl 0 rfl) ?_
      refine va_get (D := E.1) (ci := 8) (v := .int m_places) (C := RX8) (T := TX8) (N := 20) hx hb hts in_X8_upOf_X8 hown hK hP 0 rfl rfl 2 (by decide) q_0 (fun _ h9 => h9) rfl dX8_upOf_4 ?_
      refine lv_icmp_ge (tgt := 74) hx hb dX8_upOf_7 (by decide) (fun c_14 => ?_) (fun c_14 => ?_)
      · have hf := ite_t c_14 hf
        exact KX_2 (hq_2 _ (Option.some.inj hf).symm) _ (lv_sub hl [] rfl)
      · have hf := ite_f c_14 hf
        refine lv_aload_n hx hb dX8_upOf_10 rfl (lv_at hl 0 rfl) ?_
        refine va_get (D := E.1) (ci := 8) (v := .ref m9) (C := RX8) (T := TX8) (N := 20) hx hb hts in_X8_upOf_X8 hown hK hP 0 rfl rfl 16 (by decide) q_1 (fun _ h9 => h9) rfl dX8_upOf_11 ?_
        refine lv_iload_n hx hb dX8_upOf_14 rfl (lv_at hl 1 rfl) ?_
        obtain ⟨g_2, hf⟩ := gk_s hf
        refine va_iald hx hb hK hP 9 0 rfl rfl g_2 dX8_upOf_15 ?_
        refine lv_iload_n hx hb dX8_upOf_16 rfl (lv_at hl 1 rfl) ?_
        refine lv_icmp_eq (tgt := 74) hx hb dX8_upOf_17 (by decide) (fun c_13 => ?_) (fun c_13 => ?_)
        · have hf := ite_t c_13 hf
          exact KX_2 (hq_2 _ (Option.some.inj hf).symm) _ (lv_sub hl [] rfl)
        · have hf := ite_f c_13 hf
          refine lv_aload_n hx hb dX8_upOf_20 rfl (lv_at hl 0 rfl) ?_
          refine va_get (D := E.1) (ci := 8) (v := .ref m2) (C := RX8) (T := TX8) (N := 20) hx hb hts in_X8_upOf_X8 hown hK hP 0 rfl rfl 5 (by decide) q_2 (fun _ h9 => h9) rfl dX8_upOf_21 ?_
          refine lv_bipush (v := 16) hx hb dX8_upOf_24 (by decide) ?_
          refine lv_iload_n hx hb dX8_upOf_26 rfl (lv_at hl 2 rfl) ?_
          refine lv_imul hx hb dX8_upOf_27 ?_
          refine lv_iload_n hx hb dX8_upOf_28 rfl (lv_at hl 1 rfl) ?_
          refine lv_iadd hx hb dX8_upOf_29 ?_
          obtain ⟨g_3, hf⟩ := gk_s hf
          refine va_iald hx hb hK hP 2 0 rfl rfl g_3 dX8_upOf_30 ?_
          refine lv_istore_n (lv' := [(3, .int (m_now ((16 * v2_1) + a1).toNatClampNeg)), (0, .ref m0), (1, .int a1), (2, .int v2_1)]) hx hb dX8_upOf_31 rfl hl (by decide) rfl (fun ls hl => ?_)
          refine lv_iload_n hx hb dX8_upOf_32 rfl (lv_at hl 0 rfl) ?_
          refine lv_if_le (tgt := 68) hx hb dX8_upOf_33 (by decide) (fun c_12 => ?_) (fun c_12 => ?_)
          · have hf := ite_t c_12 hf
            refine lv_iinc (v := (v2_1 + 1)) (lv' := [(2, .int (v2_1 + 1)), (3, .int (m_now ((16 * v2_1) + a1).toNatClampNeg)), (0, .ref m0), (1, .int a1)]) hx hb dX8_upOf_68 hl (k := 3) rfl rfl (by decide) rfl (fun ls hl => ?_)
            refine lv_goto (tgt := 2) hx hb dX8_upOf_71 (by decide) ?_
            exact ih_2 (v2_1 + 1) (hc_2 _ (Option.some.inj hf).symm) _ (lv_sub hl [2, 3, 0] rfl)
          · have hf := ite_f c_12 hf
            refine lv_aload_n hx hb dX8_upOf_36 rfl (lv_at hl 1 rfl) ?_
            refine va_get (D := E.1) (ci := 8) (v := .ref m9) (C := RX8) (T := TX8) (N := 20) hx hb hts in_X8_upOf_X8 hown hK hP 0 rfl rfl 16 (by decide) q_1 (fun _ h9 => h9) rfl dX8_upOf_37 ?_
            refine lv_iload_n hx hb dX8_upOf_40 rfl (lv_at hl 3 rfl) ?_
            obtain ⟨g_4, hf⟩ := gk_s hf
            refine va_iald hx hb hK hP 9 0 rfl rfl g_4 dX8_upOf_41 ?_
            refine lv_aload_n hx hb dX8_upOf_42 rfl (lv_at hl 1 rfl) ?_
            refine va_get (D := E.1) (ci := 8) (v := .ref m9) (C := RX8) (T := TX8) (N := 20) hx hb hts in_X8_upOf_X8 hown hK hP 0 rfl rfl 16 (by decide) q_1 (fun _ h9 => h9) rfl dX8_upOf_43 ?_
            refine lv_iload_n hx hb dX8_upOf_46 rfl (lv_at hl 2 rfl) ?_
            obtain ⟨g_5, hf⟩ := gk_s hf
            refine va_iald hx hb hK hP 9 0 rfl rfl g_5 dX8_upOf_47 ?_
            refine lv_icmp_ne (tgt := 68) hx hb dX8_upOf_48 (by decide) (fun c_11 => ?_) (fun c_11 => ?_)
            · have hf := ite_f c_11 hf
              refine lv_iinc (v := (v2_1 + 1)) (lv' := [(2, .int (v2_1 + 1)), (3, .int (m_now ((16 * v2_1) + a1).toNatClampNeg)), (0, .ref m0), (1, .int a1)]) hx hb dX8_upOf_68 hl (k := 3) rfl rfl (by decide) rfl (fun ls hl => ?_)
              refine lv_goto (tgt := 2) hx hb dX8_upOf_71 (by decide) ?_
              exact ih_2 (v2_1 + 1) (hc_2 _ (Option.some.inj hf).symm) _ (lv_sub hl [2, 3, 0] rfl)
            · have hf := ite_t c_11 hf
              refine lv_aload_n hx hb dX8_upOf_51 rfl (lv_at hl 1 rfl) ?_
              refine lv_iload_n hx hb dX8_upOf_52 rfl (lv_at hl 3 rfl) ?_
              obtain ⟨r_7, h_6, hf⟩ := bd_s hf
              refine ca_V (As := [.int v2_1]) (rest := []) ⟨hx, hb, hml, hown, hts⟩ ⟨hK, hN⟩ hP (c_Mo_depth l E m0 m1 m2 m3 m4 m5 m6 m7 m8 m9 m10 m11 m_length m_places m_most m_tenths m_changes m_readPlaces m_value m_ends m_clusters m_text m_now m_read m_was m_readRule m_dist m_delays m_fractions m_head m_hour m_number v2_1 r_7 h_6) [0, 1, 2, 3, 4, 5, 6, 7, 8, 9, 10, 11] rfl 8 0 rfl rfl rfl gX8_upOf_X8_depth rfl rfl rfl rfl hd_Mo_depth ⟨(Nat.le_of_ble_eq_true rfl), (Nat.le_of_ble_eq_true rfl)⟩ rfl hl.1 rfl (Nat.le_of_ble_eq_true rfl) dX8_upOf_53 ⟨(Nat.zero_le _), (Nat.zero_le _)⟩ ?_
              refine lv_iload_n hx hb dX8_upOf_56 rfl (lv_at hl 0 rfl) ?_
              refine lv_iadd hx hb dX8_upOf_57 ?_
              refine lv_aload_n hx hb dX8_upOf_58 rfl (lv_at hl 1 rfl) ?_
              refine lv_iload_n hx hb dX8_upOf_59 rfl (lv_at hl 2 rfl) ?_
              obtain ⟨r_9, h_8, hf⟩ := bd_s hf
              refine ca_V (As := [.int a1]) (rest := [.int (r_7 + (m_now ((16 * v2_1) + a1).toNatClampNeg))]) ⟨hx, hb, hml, hown, hts⟩ ⟨hK, hN⟩ hP (c_Mo_depth l E m0 m1 m2 m3 m4 m5 m6 m7 m8 m9 m10 m11 m_length m_places m_most m_tenths m_changes m_readPlaces m_value m_ends m_clusters m_text m_now m_read m_was m_readRule m_dist m_delays m_fractions m_head m_hour m_number a1 r_9 h_8) [0, 1, 2, 3, 4, 5, 6, 7, 8, 9, 10, 11] rfl 8 0 rfl rfl rfl gX8_upOf_X8_depth rfl rfl rfl rfl hd_Mo_depth ⟨(Nat.le_of_ble_eq_true rfl), (Nat.le_of_ble_eq_true rfl)⟩ rfl hl.1 rfl (Nat.le_of_ble_eq_true rfl) dX8_upOf_60 ⟨(Nat.zero_le _), (Nat.zero_le _)⟩ ?_
              refine lv_icmp_ne (tgt := 68) hx hb dX8_upOf_63 (by decide) (fun c_10 => ?_) (fun c_10 => ?_)
              · have hf := ite_f c_10 hf
                refine lv_iinc (v := (v2_1 + 1)) (lv' := [(2, .int (v2_1 + 1)), (3, .int (m_now ((16 * v2_1) + a1).toNatClampNeg)), (0, .ref m0), (1, .int a1)]) hx hb dX8_upOf_68 hl (k := 3) rfl rfl (by decide) rfl (fun ls hl => ?_)
                refine lv_goto (tgt := 2) hx hb dX8_upOf_71 (by decide) ?_
                exact ih_2 (v2_1 + 1) (hc_2 _ (Option.some.inj hf).symm) _ (lv_sub hl [2, 3, 0] rfl)
              · have hf := ite_t c_10 hf
                refine lv_iload_n hx hb dX8_upOf_66 rfl (lv_at hl 3 rfl) ?_
                have hf := KE_2 _ (hq_2 _ (Option.some.inj hf).symm)
                exact hret ls 67 v2_1 dX8_upOf_67 (Option.some.inj hf)
  exact KL_2 _ 0 i_2 _ (lv_sub hl [1, 2, 0] rfl)
abbrev rm_Mo_sortOf : Room := { frames := 2, cells := 0, slots := 0, locals := 44 }
theorem hd_Mo_sortOf : hdOK yX8_sortOf 2 := by decide +kernel
theorem in_X8_sortOf_X8 : ∀ w ∈ wsX80, w ∈ wsX8_sortOf := by decide +kernel
set_option maxRecDepth 100000 in
set_option maxHeartbeats 4000000 in
theorem c_Mo_sortOf (l : Launch) (E : En4) (m0 m1 m2 m3 m4 m5 m6 m7 m8 m9 m10 m11 : Nat) (m_length : Int32) (m_places : Int32) (m_most : Int32) (m_tenths : Int32) (m_changes : Int32) (m_readPlaces : Int32) (m_value : Int32) (m_ends : Int32) (m_clusters : Int32) (m_text : Nat → Int32) (m_now : Nat → Int32) (m_read : Nat → Int32) (m_was : Nat → Int32) (m_readRule : Nat → Int32) (m_dist : Nat → Int32) (m_delays : Nat → Int32) (m_fractions : Nat → Int32) (m_head : Nat → Int32) (m_hour : Nat → Int32) (m_number : Nat → Int32) (a1 : Int32) (a2 : Int32)  (res : Int32) (hf : Mo_sortOf m_places m_now m_dist m_head a1 a2 = some res) : Met l yX8_sortOf wsX8_sortOf rm_Mo_sortOf (pcR [.ref m0, .int a1, .int a2] E (w_Mo E m0 m1 m2 m3 m4 m5 m6 m7 m8 m9 m10 m11 m_length m_places m_most m_tenths m_changes m_readPlaces m_value m_ends m_clusters m_text m_now m_read m_was m_readRule m_dist m_delays m_fractions m_head m_hour m_number)) (vp_Si (fun r => r = res)) 0 0 (fun _ => False) := by
  refine mk_Ri (cc := cX8_sortOf) (maxL := 3) (by decide) rfl (Nat.le_of_ble_eq_true rfl) ?_
  intro p e s m args below meth c Q S hKN hP hret ls hl
  obtain ⟨hx, hb, hml, hown, hts⟩ := S
  obtain ⟨hK, hN⟩ := hKN
  have hl : lv_has ls 3 [(0, .ref m0), (1, .int a1), (2, .int a2)] := hl
  have q_0 := hts (.fieldLink RX8 34 "DelayClustersModel" "head" "[I") (by decide +kernel)
  unfold Mo_sortOf at hf
  refine lv_aload_n hx hb dX8_sortOf_0 rfl (lv_at hl 0 rfl) ?_
  refine va_get (D := E.1) (ci := 8) (v := .ref m9) (C := RX8) (T := TX8) (N := 20) hx hb hts in_X8_sortOf_X8 hown hK hP 0 rfl rfl 16 (by decide) q_0 (fun _ h9 => h9) rfl dX8_sortOf_1 ?_
  refine lv_iload_n hx hb dX8_sortOf_4 rfl (lv_at hl 1 rfl) ?_
  obtain ⟨g_1, hf⟩ := gk_s hf
  refine va_iald hx hb hK hP 9 0 rfl rfl g_1 dX8_sortOf_5 ?_
  refine lv_aload_n hx hb dX8_sortOf_6 rfl (lv_at hl 0 rfl) ?_
  refine va_get (D := E.1) (ci := 8) (v := .ref m9) (C := RX8) (T := TX8) (N := 20) hx hb hts in_X8_sortOf_X8 hown hK hP 0 rfl rfl 16 (by decide) q_0 (fun _ h9 => h9) rfl dX8_sortOf_7 ?_
  refine lv_iload_n hx hb dX8_sortOf_10 rfl (lv_at hl 2 rfl) ?_
  obtain ⟨g_2, hf⟩ := gk_s hf
  refine va_iald hx hb hK hP 9 0 rfl rfl g_2 dX8_sortOf_11 ?_
  refine lv_icmp_eq (tgt := 19) hx hb dX8_sortOf_12 (by decide) (fun c_9 => ?_) (fun c_9 => ?_)
  · have hf := ite_t c_9 hf
    refine lv_aload_n hx hb dX8_sortOf_19 rfl (lv_at hl 0 rfl) ?_
    refine lv_iload_n hx hb dX8_sortOf_20 rfl (lv_at hl 1 rfl) ?_
    obtain ⟨r_4, h_3, hf⟩ := bd_s hf
    refine ca_V (As := [.int a1]) (rest := []) ⟨hx, hb, hml, hown, hts⟩ ⟨hK, hN⟩ hP (c_Mo_upOf l E m0 m1 m2 m3 m4 m5 m6 m7 m8 m9 m10 m11 m_length m_places m_most m_tenths m_changes m_readPlaces m_value m_ends m_clusters m_text m_now m_read m_was m_readRule m_dist m_delays m_fractions m_head m_hour m_number a1 r_4 h_3) [0, 1, 2, 3, 4, 5, 6, 7, 8, 9, 10, 11] rfl 8 0 rfl rfl rfl gX8_sortOf_X8_upOf rfl rfl rfl rfl hd_Mo_upOf ⟨(Nat.le_of_ble_eq_true rfl), (Nat.le_of_ble_eq_true rfl)⟩ rfl hl.1 rfl (Nat.le_of_ble_eq_true rfl) dX8_sortOf_21 ⟨(Nat.zero_le _), (Nat.zero_le _)⟩ ?_
    refine lv_iload_n hx hb dX8_sortOf_24 rfl (lv_at hl 2 rfl) ?_
    refine lv_icmp_eq (tgt := 37) hx hb dX8_sortOf_25 (by decide) (fun c_8 => ?_) (fun c_8 => ?_)
    · have hf := ite_t c_8 hf
      refine lv_iconst (v := 0) hx hb dX8_sortOf_37 (by decide) ?_
      refine lv_goto (tgt := 42) hx hb dX8_sortOf_38 (by decide) ?_
      exact hret ls 42 0 dX8_sortOf_42 (Option.some.inj hf)
    · have hf := ite_f c_8 hf
      refine lv_aload_n hx hb dX8_sortOf_28 rfl (lv_at hl 0 rfl) ?_
      refine lv_iload_n hx hb dX8_sortOf_29 rfl (lv_at hl 2 rfl) ?_
      obtain ⟨r_6, h_5, hf⟩ := bd_s hf
      refine ca_V (As := [.int a2]) (rest := []) ⟨hx, hb, hml, hown, hts⟩ ⟨hK, hN⟩ hP (c_Mo_upOf l E m0 m1 m2 m3 m4 m5 m6 m7 m8 m9 m10 m11 m_length m_places m_most m_tenths m_changes m_readPlaces m_value m_ends m_clusters m_text m_now m_read m_was m_readRule m_dist m_delays m_fractions m_head m_hour m_number a2 r_6 h_5) [0, 1, 2, 3, 4, 5, 6, 7, 8, 9, 10, 11] rfl 8 0 rfl rfl rfl gX8_sortOf_X8_upOf rfl rfl rfl rfl hd_Mo_upOf ⟨(Nat.le_of_ble_eq_true rfl), (Nat.le_of_ble_eq_true rfl)⟩ rfl hl.1 rfl (Nat.le_of_ble_eq_true rfl) dX8_sortOf_30 ⟨(Nat.zero_le _), (Nat.zero_le _)⟩ ?_
      refine lv_iload_n hx hb dX8_sortOf_33 rfl (lv_at hl 1 rfl) ?_
      refine lv_icmp_ne (tgt := 41) hx hb dX8_sortOf_34 (by decide) (fun c_7 => ?_) (fun c_7 => ?_)
      · have hf := ite_f c_7 hf
        refine lv_iconst (v := 1) hx hb dX8_sortOf_41 (by decide) ?_
        exact hret ls 42 1 dX8_sortOf_42 (Option.some.inj hf)
      · have hf := ite_t c_7 hf
        refine lv_iconst (v := 0) hx hb dX8_sortOf_37 (by decide) ?_
        refine lv_goto (tgt := 42) hx hb dX8_sortOf_38 (by decide) ?_
        exact hret ls 42 0 dX8_sortOf_42 (Option.some.inj hf)
  · have hf := ite_f c_9 hf
    refine lv_iconst (v := 2) hx hb dX8_sortOf_15 (by decide) ?_
    refine lv_goto (tgt := 42) hx hb dX8_sortOf_16 (by decide) ?_
    exact hret ls 42 2 dX8_sortOf_42 (Option.some.inj hf)
abbrev rm_Mo_links : Room := { frames := 3, cells := 0, slots := 0, locals := 66 }
theorem hd_Mo_links : hdOK yX8_links 1 := by decide +kernel
theorem in_X8_links_X8 : ∀ w ∈ wsX80, w ∈ wsX8_links := by decide +kernel
set_option maxRecDepth 100000 in
set_option maxHeartbeats 4000000 in
theorem c_Mo_links (l : Launch) (E : En4) (m0 m1 m2 m3 m4 m5 m6 m7 m8 m9 m10 m11 : Nat) (m_length : Int32) (m_places : Int32) (m_most : Int32) (m_tenths : Int32) (m_changes : Int32) (m_readPlaces : Int32) (m_value : Int32) (m_ends : Int32) (m_clusters : Int32) (m_text : Nat → Int32) (m_now : Nat → Int32) (m_read : Nat → Int32) (m_was : Nat → Int32) (m_readRule : Nat → Int32) (m_dist : Nat → Int32) (m_delays : Nat → Int32) (m_fractions : Nat → Int32) (m_head : Nat → Int32) (m_hour : Nat → Int32) (m_number : Nat → Int32) (a1 : Int32)  (res : Int32) (hf : Mo_links m_places m_now m_dist m_head a1 = some res) : Met l yX8_links wsX8_links rm_Mo_links (pcR [.ref m0, .int a1] E (w_Mo E m0 m1 m2 m3 m4 m5 m6 m7 m8 m9 m10 m11 m_length m_places m_most m_tenths m_changes m_readPlaces m_value m_ends m_clusters m_text m_now m_read m_was m_readRule m_dist m_delays m_fractions m_head m_hour m_number)) (vp_Si (fun r => r = res)) 0 0 (fun _ => False) := by
  refine mk_Ri (cc := cX8_links) (maxL := 5) (by decide) rfl (Nat.le_of_ble_eq_true rfl) ?_
  intro p e s m args below meth c Q S hKN hP hret ls hl
  obtain ⟨hx, hb, hml, hown, hts⟩ := S
  obtain ⟨hK, hN⟩ := hKN
  have hl : lv_has ls 5 [(0, .ref m0), (1, .int a1)] := hl
  have q_0 := hts (.fieldLink RX8 57 "DelayClustersModel" "places" "I") (by decide +kernel)
  have q_1 := hts (.fieldLink RX8 13 "DelayClustersModel" "now" "[I") (by decide +kernel)
  unfold Mo_links at hf
  refine lv_iconst (v := 0) hx hb dX8_links_0 (by decide) ?_
  refine lv_istore_n (lv' := [(2, .int 0), (0, .ref m0), (1, .int a1)]) hx hb dX8_links_1 rfl hl (by decide) rfl (fun ls hl => ?_)
  refine lv_iconst (v := 0) hx hb dX8_links_2 (by decide) ?_
  refine lv_istore_n (lv' := [(3, .int 0), (2, .int 0), (0, .ref m0), (1, .int a1)]) hx hb dX8_links_3 rfl hl (by decide) rfl (fun ls hl => ?_)
  obtain ⟨w_4, i_4, hf⟩ := bd_s hf
  have KX_4 : ∀ (v2_13 : Int32), v2_13 = w_4 → ∀ (ls : Array Slot), lv_has ls 5 [(2, .int v2_13)] → W p l e rm_Mo_links s m args below meth c s.heap [] 0 0 Q (F0 m 67 ls []) := by
    intro v2_13 e_
    subst e_
    try dsimp only at hf
    intro ls hl
    refine lv_iload_n hx hb dX8_links_67 rfl (lv_at hl 0 rfl) ?_
    exact hret ls 68 v2_13 dX8_links_68 (Option.some.inj hf)
  have KL_4 : ∀ (n_ : Nat) (v2_1 : Int32) (v3_2 : Int32), it (Mo_links_L4 m_places m_now m_dist m_head a1) n_ (v2_1, v3_2) = some w_4 → ∀ (ls : Array Slot), lv_has ls 5 [(0, .ref m0), (1, .int a1), (2, .int v2_1), (3, .int v3_2)] → W p l e rm_Mo_links s m args below meth c s.heap [] 0 0 Q (F0 m 4 ls []) := by
    intro n_
    induction n_ with
    | zero => intro v2_1 v3_2 hit; exact (it_z hit).elim
    | succ n_4 ih_4 =>
      intro v2_1 v3_2 hit
      intro ls hl
      obtain ⟨x_4, hf, hc_4, hq_4⟩ := it_s hit
      dsimp only [Mo_links_L4] at hf
      refine lv_iload_n hx hb dX8_links_4 rfl (lv_at hl 3 rfl) ?_
      refine lv_aload_n hx hb dX8_links_5 rfl (lv_at hl 0 rfl) ?_
      refine va_get (D := E.1) (ci := 8) (v := .int m_places) (C := RX8) (T := TX8) (N := 20) hx hb hts in_X8_links_X8 hown hK hP 0 rfl rfl 2 (by decide) q_0 (fun _ h9 => h9) rfl dX8_links_6 ?_
      refine lv_icmp_ge (tgt := 67) hx hb dX8_links_9 (by decide) (fun c_12 => ?_) (fun c_12 => ?_)
      · have hf := ite_t c_12 hf
        exact KX_4 v2_1 (hq_4 _ (Option.some.inj hf).symm) _ (lv_sub hl [2] rfl)
      · have hf := ite_f c_12 hf
        refine lv_iconst (v := 0) hx hb dX8_links_12 (by decide) ?_
        refine lv_istore (lv' := [(4, .int 0), (0, .ref m0), (1, .int a1), (2, .int v2_1), (3, .int v3_2)]) hx hb dX8_links_13 hl (by decide) rfl (fun ls hl => ?_)
        obtain ⟨w_15, i_15, hf⟩ := bd_s hf
        have KX_15 : ∀ (v2_11 : Int32), v2_11 = w_15 → ∀ (ls : Array Slot), lv_has ls 5 [(0, .ref m0), (1, .int a1), (2, .int v2_11), (3, .int v3_2)] → W p l e rm_Mo_links s m args below meth c s.heap [] 0 0 Q (F0 m 61 ls []) := by
          intro v2_11 e_
          subst e_
          try dsimp only at hf
          intro ls hl
          refine lv_iinc (v := (v3_2 + 1)) (lv' := [(3, .int (v3_2 + 1)), (0, .ref m0), (1, .int a1), (2, .int v2_11)]) hx hb dX8_links_61 hl (k := 3) rfl rfl (by decide) rfl (fun ls hl => ?_)
          refine lv_goto (tgt := 4) hx hb dX8_links_64 (by decide) ?_
          exact ih_4 v2_11 (v3_2 + 1) (hc_4 _ (Option.some.inj hf).symm) _ (lv_sub hl [1, 2, 3, 0] rfl)
        have KL_15 : ∀ (n_ : Nat) (v2_3 : Int32) (v4_4 : Int32), it (Mo_links_L15 m_places m_now m_dist m_head a1 v3_2) n_ (v2_3, v4_4) = some w_15 → ∀ (ls : Array Slot), lv_has ls 5 [(0, .ref m0), (1, .int a1), (2, .int v2_3), (3, .int v3_2), (4, .int v4_4)] → W p l e rm_Mo_links s m args below meth c s.heap [] 0 0 Q (F0 m 15 ls []) := by
          intro n_
          induction n_ with
          | zero => intro v2_3 v4_4 hit; exact (it_z hit).elim
          | succ n_15 ih_15 =>
            intro v2_3 v4_4 hit
            intro ls hl
            obtain ⟨x_15, hf, hc_15, hq_15⟩ := it_s hit
            dsimp only [Mo_links_L15] at hf
            refine lv_iload hx hb dX8_links_15 (lv_at hl 4 rfl) ?_
            refine lv_iload_n hx hb dX8_links_17 rfl (lv_at hl 3 rfl) ?_
            refine lv_icmp_ge (tgt := 61) hx hb dX8_links_18 (by decide) (fun c_10 => ?_) (fun c_10 => ?_)
            · have hf := ite_t c_10 hf
              exact KX_15 v2_3 (hq_15 _ (Option.some.inj hf).symm) _ (lv_sub hl [0, 1, 2, 3] rfl)
            · have hf := ite_f c_10 hf
              refine lv_iload_n hx hb dX8_links_21 rfl (lv_at hl 2 rfl) ?_
              refine lv_aload_n hx hb dX8_links_22 rfl (lv_at hl 0 rfl) ?_
              refine va_get (D := E.1) (ci := 8) (v := .ref m2) (C := RX8) (T := TX8) (N := 20) hx hb hts in_X8_links_X8 hown hK hP 0 rfl rfl 5 (by decide) q_1 (fun _ h9 => h9) rfl dX8_links_23 ?_
              refine lv_bipush (v := 16) hx hb dX8_links_26 (by decide) ?_
              refine lv_iload_n hx hb dX8_links_28 rfl (lv_at hl 3 rfl) ?_
              refine lv_imul hx hb dX8_links_29 ?_
              refine lv_iload hx hb dX8_links_30 (lv_at hl 4 rfl) ?_
              refine lv_iadd hx hb dX8_links_32 ?_
              obtain ⟨g_5, hf⟩ := gk_s hf
              refine va_iald hx hb hK hP 2 0 rfl rfl g_5 dX8_links_33 ?_
              refine lv_if_le (tgt := 52) hx hb dX8_links_34 (by decide) (fun c_9 => ?_) (fun c_9 => ?_)
              · have hf := ite_t c_9 hf
                refine lv_iconst (v := 0) hx hb dX8_links_52 (by decide) ?_
                refine lv_iadd hx hb dX8_links_53 ?_
                refine lv_istore_n (lv' := [(2, .int (v2_3 + 0)), (0, .ref m0), (1, .int a1), (3, .int v3_2), (4, .int v4_4)]) hx hb dX8_links_54 rfl hl (by decide) rfl (fun ls hl => ?_)
                refine lv_iinc (v := (v4_4 + 1)) (lv' := [(4, .int (v4_4 + 1)), (2, .int (v2_3 + 0)), (0, .ref m0), (1, .int a1), (3, .int v3_2)]) hx hb dX8_links_55 hl (k := 4) rfl rfl (by decide) rfl (fun ls hl => ?_)
                refine lv_goto (tgt := 15) hx hb dX8_links_58 (by decide) ?_
                exact ih_15 (v2_3 + 0) (v4_4 + 1) (hc_15 _ (Option.some.inj hf).symm) _ (lv_sub hl [2, 3, 1, 4, 0] rfl)
              · have hf := ite_f c_9 hf
                refine lv_aload_n hx hb dX8_links_37 rfl (lv_at hl 0 rfl) ?_
                refine lv_iload_n hx hb dX8_links_38 rfl (lv_at hl 3 rfl) ?_
                refine lv_iload hx hb dX8_links_39 (lv_at hl 4 rfl) ?_
                obtain ⟨r_7, h_6, hf⟩ := bd_s hf
                refine ca_V (As := [.int v3_2, .int v4_4]) (rest := [.int v2_3]) ⟨hx, hb, hml, hown, hts⟩ ⟨hK, hN⟩ hP (c_Mo_sortOf l E m0 m1 m2 m3 m4 m5 m6 m7 m8 m9 m10 m11 m_length m_places m_most m_tenths m_changes m_readPlaces m_value m_ends m_clusters m_text m_now m_read m_was m_readRule m_dist m_delays m_fractions m_head m_hour m_number v3_2 v4_4 r_7 h_6) [0, 1, 2, 3, 4, 5, 6, 7, 8, 9, 10, 11] rfl 8 0 rfl rfl rfl gX8_links_X8_sortOf rfl rfl rfl rfl hd_Mo_sortOf ⟨(Nat.le_of_ble_eq_true rfl), (Nat.le_of_ble_eq_true rfl)⟩ rfl hl.1 rfl (Nat.le_of_ble_eq_true rfl) dX8_links_41 ⟨(Nat.zero_le _), (Nat.zero_le _)⟩ ?_
                refine lv_iload_n hx hb dX8_links_44 rfl (lv_at hl 1 rfl) ?_
                refine lv_icmp_ne (tgt := 52) hx hb dX8_links_45 (by decide) (fun c_8 => ?_) (fun c_8 => ?_)
                · have hf := ite_f c_8 hf
                  refine lv_iconst (v := 0) hx hb dX8_links_52 (by decide) ?_
                  refine lv_iadd hx hb dX8_links_53 ?_
                  refine lv_istore_n (lv' := [(2, .int (v2_3 + 0)), (0, .ref m0), (1, .int a1), (3, .int v3_2), (4, .int v4_4)]) hx hb dX8_links_54 rfl hl (by decide) rfl (fun ls hl => ?_)
                  refine lv_iinc (v := (v4_4 + 1)) (lv' := [(4, .int (v4_4 + 1)), (2, .int (v2_3 + 0)), (0, .ref m0), (1, .int a1), (3, .int v3_2)]) hx hb dX8_links_55 hl (k := 4) rfl rfl (by decide) rfl (fun ls hl => ?_)
                  refine lv_goto (tgt := 15) hx hb dX8_links_58 (by decide) ?_
                  exact ih_15 (v2_3 + 0) (v4_4 + 1) (hc_15 _ (Option.some.inj hf).symm) _ (lv_sub hl [2, 3, 1, 4, 0] rfl)
                · have hf := ite_t c_8 hf
                  refine lv_iconst (v := 1) hx hb dX8_links_48 (by decide) ?_
                  refine lv_goto (tgt := 53) hx hb dX8_links_49 (by decide) ?_
                  refine lv_iadd hx hb dX8_links_53 ?_
                  refine lv_istore_n (lv' := [(2, .int (v2_3 + 1)), (0, .ref m0), (1, .int a1), (3, .int v3_2), (4, .int v4_4)]) hx hb dX8_links_54 rfl hl (by decide) rfl (fun ls hl => ?_)
                  refine lv_iinc (v := (v4_4 + 1)) (lv' := [(4, .int (v4_4 + 1)), (2, .int (v2_3 + 1)), (0, .ref m0), (1, .int a1), (3, .int v3_2)]) hx hb dX8_links_55 hl (k := 4) rfl rfl (by decide) rfl (fun ls hl => ?_)
                  refine lv_goto (tgt := 15) hx hb dX8_links_58 (by decide) ?_
                  exact ih_15 (v2_3 + 1) (v4_4 + 1) (hc_15 _ (Option.some.inj hf).symm) _ (lv_sub hl [2, 3, 1, 4, 0] rfl)
        exact KL_15 _ v2_1 0 i_15 _ (lv_sub hl [1, 2, 3, 4, 0] rfl)
  exact KL_4 _ 0 0 i_4 _ (lv_sub hl [2, 3, 1, 0] rfl)
abbrev rm_Mo_wide : Room := { frames := 1, cells := 0, slots := 0, locals := 21 }
theorem hd_Mo_wide : hdOK yX8_wide 1 := by decide +kernel
theorem in_X8_wide_X8 : ∀ w ∈ wsX80, w ∈ wsX8_wide := by decide +kernel
set_option maxRecDepth 100000 in
set_option maxHeartbeats 4000000 in
theorem c_Mo_wide (l : Launch) (E : En4) (m0 m1 m2 m3 m4 m5 m6 m7 m8 m9 m10 m11 : Nat) (m_length : Int32) (m_places : Int32) (m_most : Int32) (m_tenths : Int32) (m_changes : Int32) (m_readPlaces : Int32) (m_value : Int32) (m_ends : Int32) (m_clusters : Int32) (m_text : Nat → Int32) (m_now : Nat → Int32) (m_read : Nat → Int32) (m_was : Nat → Int32) (m_readRule : Nat → Int32) (m_dist : Nat → Int32) (m_delays : Nat → Int32) (m_fractions : Nat → Int32) (m_head : Nat → Int32) (m_hour : Nat → Int32) (m_number : Nat → Int32) (a1 : Int32)  (res : Int32) (hf : Mo_wide m_places m_dist m_head a1 = some res) : Met l yX8_wide wsX8_wide rm_Mo_wide (pcR [.ref m0, .int a1] E (w_Mo E m0 m1 m2 m3 m4 m5 m6 m7 m8 m9 m10 m11 m_length m_places m_most m_tenths m_changes m_readPlaces m_value m_ends m_clusters m_text m_now m_read m_was m_readRule m_dist m_delays m_fractions m_head m_hour m_number)) (vp_Si (fun r => r = res)) 0 0 (fun _ => False) := by
  refine mk_Ri (cc := cX8_wide) (maxL := 4) (by decide) rfl (Nat.le_of_ble_eq_true rfl) ?_
  intro p e s m args below meth c Q S hKN hP hret ls hl
  obtain ⟨hx, hb, hml, hown, hts⟩ := S
  obtain ⟨hK, hN⟩ := hKN
  have hl : lv_has ls 4 [(0, .ref m0), (1, .int a1)] := hl
  have q_0 := hts (.fieldLink RX8 57 "DelayClustersModel" "places" "I") (by decide +kernel)
  have q_1 := hts (.fieldLink RX8 34 "DelayClustersModel" "head" "[I") (by decide +kernel)
  unfold Mo_wide at hf
  refine lv_iconst (v := 0) hx hb dX8_wide_0 (by decide) ?_
  refine lv_istore_n (lv' := [(2, .int 0), (0, .ref m0), (1, .int a1)]) hx hb dX8_wide_1 rfl hl (by decide) rfl (fun ls hl => ?_)
  refine lv_iconst (v := 0) hx hb dX8_wide_2 (by decide) ?_
  refine lv_istore_n (lv' := [(3, .int 0), (2, .int 0), (0, .ref m0), (1, .int a1)]) hx hb dX8_wide_3 rfl hl (by decide) rfl (fun ls hl => ?_)
  obtain ⟨w_4, i_4, hf⟩ := bd_s hf
  have KX_4 : ∀ (v2_17 : Int32), v2_17 = w_4 → ∀ (ls : Array Slot), lv_has ls 4 [(2, .int v2_17)] → W p l e rm_Mo_wide s m args below meth c s.heap [] 0 0 Q (F0 m 53 ls []) := by
    intro v2_17 e_
    subst e_
    try dsimp only at hf
    intro ls hl
    refine lv_iload_n hx hb dX8_wide_53 rfl (lv_at hl 0 rfl) ?_
    exact hret ls 54 v2_17 dX8_wide_54 (Option.some.inj hf)
  have KL_4 : ∀ (n_ : Nat) (v2_1 : Int32) (v3_2 : Int32), it (Mo_wide_L4 m_places m_dist m_head a1) n_ (v2_1, v3_2) = some w_4 → ∀ (ls : Array Slot), lv_has ls 4 [(0, .ref m0), (1, .int a1), (2, .int v2_1), (3, .int v3_2)] → W p l e rm_Mo_wide s m args below meth c s.heap [] 0 0 Q (F0 m 4 ls []) := by
    intro n_
    induction n_ with
    | zero => intro v2_1 v3_2 hit; exact (it_z hit).elim
    | succ n_4 ih_4 =>
      intro v2_1 v3_2 hit
      intro ls hl
      obtain ⟨x_4, hf, hc_4, hq_4⟩ := it_s hit
      dsimp only [Mo_wide_L4] at hf
      refine lv_iload_n hx hb dX8_wide_4 rfl (lv_at hl 3 rfl) ?_
      refine lv_aload_n hx hb dX8_wide_5 rfl (lv_at hl 0 rfl) ?_
      refine va_get (D := E.1) (ci := 8) (v := .int m_places) (C := RX8) (T := TX8) (N := 20) hx hb hts in_X8_wide_X8 hown hK hP 0 rfl rfl 2 (by decide) q_0 (fun _ h9 => h9) rfl dX8_wide_6 ?_
      refine lv_icmp_ge (tgt := 53) hx hb dX8_wide_9 (by decide) (fun c_16 => ?_) (fun c_16 => ?_)
      · have hf := ite_t c_16 hf
        exact KX_4 v2_1 (hq_4 _ (Option.some.inj hf).symm) _ (lv_sub hl [2] rfl)
      · have hf := ite_f c_16 hf
        refine lv_iload_n hx hb dX8_wide_12 rfl (lv_at hl 1 rfl) ?_
        refine lv_bipush (v := (-4)) hx hb dX8_wide_13 (by decide) ?_
        refine lv_icmp_eq (tgt := 28) hx hb dX8_wide_15 (by decide) (fun c_15 => ?_) (fun c_15 => ?_)
        · have hf := ite_t c_15 hf
          refine lv_aload_n hx hb dX8_wide_28 rfl (lv_at hl 0 rfl) ?_
          refine lv_iload_n hx hb dX8_wide_29 rfl (lv_at hl 3 rfl) ?_
          obtain ⟨r_4, h_3, hf⟩ := bd_s hf
          refine ca_V (As := [.int v3_2]) (rest := []) ⟨hx, hb, hml, hown, hts⟩ ⟨hK, hN⟩ hP (c_Mo_depth l E m0 m1 m2 m3 m4 m5 m6 m7 m8 m9 m10 m11 m_length m_places m_most m_tenths m_changes m_readPlaces m_value m_ends m_clusters m_text m_now m_read m_was m_readRule m_dist m_delays m_fractions m_head m_hour m_number v3_2 r_4 h_3) [0, 1, 2, 3, 4, 5, 6, 7, 8, 9, 10, 11] rfl 8 0 rfl rfl rfl gX8_wide_X8_depth rfl rfl rfl rfl hd_Mo_depth ⟨(Nat.le_of_ble_eq_true rfl), (Nat.le_of_ble_eq_true rfl)⟩ rfl hl.1 rfl (Nat.le_of_ble_eq_true rfl) dX8_wide_30 ⟨(Nat.zero_le _), (Nat.zero_le _)⟩ ?_
          refine lv_iload_n hx hb dX8_wide_33 rfl (lv_at hl 2 rfl) ?_
          refine lv_icmp_le (tgt := 45) hx hb dX8_wide_34 (by decide) (fun c_7 => ?_) (fun c_7 => ?_)
          · have hf := ite_t c_7 hf
            refine lv_iload_n hx hb dX8_wide_45 rfl (lv_at hl 2 rfl) ?_
            refine lv_istore_n (lv' := [(2, .int v2_1), (0, .ref m0), (1, .int a1), (3, .int v3_2)]) hx hb dX8_wide_46 rfl hl (by decide) rfl (fun ls hl => ?_)
            refine lv_iinc (v := (v3_2 + 1)) (lv' := [(3, .int (v3_2 + 1)), (2, .int v2_1), (0, .ref m0), (1, .int a1)]) hx hb dX8_wide_47 hl (k := 3) rfl rfl (by decide) rfl (fun ls hl => ?_)
            refine lv_goto (tgt := 4) hx hb dX8_wide_50 (by decide) ?_
            exact ih_4 v2_1 (v3_2 + 1) (hc_4 _ (Option.some.inj hf).symm) _ (lv_sub hl [2, 3, 1, 0] rfl)
          · have hf := ite_f c_7 hf
            refine lv_aload_n hx hb dX8_wide_37 rfl (lv_at hl 0 rfl) ?_
            refine lv_iload_n hx hb dX8_wide_38 rfl (lv_at hl 3 rfl) ?_
            obtain ⟨r_6, h_5, hf⟩ := bd_s hf
            refine ca_V (As := [.int v3_2]) (rest := []) ⟨hx, hb, hml, hown, hts⟩ ⟨hK, hN⟩ hP (c_Mo_depth l E m0 m1 m2 m3 m4 m5 m6 m7 m8 m9 m10 m11 m_length m_places m_most m_tenths m_changes m_readPlaces m_value m_ends m_clusters m_text m_now m_read m_was m_readRule m_dist m_delays m_fractions m_head m_hour m_number v3_2 r_6 h_5) [0, 1, 2, 3, 4, 5, 6, 7, 8, 9, 10, 11] rfl 8 0 rfl rfl rfl gX8_wide_X8_depth rfl rfl rfl rfl hd_Mo_depth ⟨(Nat.le_of_ble_eq_true rfl), (Nat.le_of_ble_eq_true rfl)⟩ rfl hl.1 rfl (Nat.le_of_ble_eq_true rfl) dX8_wide_39 ⟨(Nat.zero_le _), (Nat.zero_le _)⟩ ?_
            refine lv_goto (tgt := 46) hx hb dX8_wide_42 (by decide) ?_
            refine lv_istore_n (lv' := [(2, .int r_6), (0, .ref m0), (1, .int a1), (3, .int v3_2)]) hx hb dX8_wide_46 rfl hl (by decide) rfl (fun ls hl => ?_)
            refine lv_iinc (v := (v3_2 + 1)) (lv' := [(3, .int (v3_2 + 1)), (2, .int r_6), (0, .ref m0), (1, .int a1)]) hx hb dX8_wide_47 hl (k := 3) rfl rfl (by decide) rfl (fun ls hl => ?_)
            refine lv_goto (tgt := 4) hx hb dX8_wide_50 (by decide) ?_
            exact ih_4 r_6 (v3_2 + 1) (hc_4 _ (Option.some.inj hf).symm) _ (lv_sub hl [2, 3, 1, 0] rfl)
        · have hf := ite_f c_15 hf
          refine lv_aload_n hx hb dX8_wide_18 rfl (lv_at hl 0 rfl) ?_
          refine va_get (D := E.1) (ci := 8) (v := .ref m9) (C := RX8) (T := TX8) (N := 20) hx hb hts in_X8_wide_X8 hown hK hP 0 rfl rfl 16 (by decide) q_1 (fun _ h9 => h9) rfl dX8_wide_19 ?_
          refine lv_iload_n hx hb dX8_wide_22 rfl (lv_at hl 3 rfl) ?_
          obtain ⟨g_8, hf⟩ := gk_s hf
          refine va_iald hx hb hK hP 9 0 rfl rfl g_8 dX8_wide_23 ?_
          refine lv_iload_n hx hb dX8_wide_24 rfl (lv_at hl 1 rfl) ?_
          refine lv_icmp_ne (tgt := 45) hx hb dX8_wide_25 (by decide) (fun c_14 => ?_) (fun c_14 => ?_)
          · have hf := ite_f c_14 hf
            refine lv_iload_n hx hb dX8_wide_45 rfl (lv_at hl 2 rfl) ?_
            refine lv_istore_n (lv' := [(2, .int v2_1), (0, .ref m0), (1, .int a1), (3, .int v3_2)]) hx hb dX8_wide_46 rfl hl (by decide) rfl (fun ls hl => ?_)
            refine lv_iinc (v := (v3_2 + 1)) (lv' := [(3, .int (v3_2 + 1)), (2, .int v2_1), (0, .ref m0), (1, .int a1)]) hx hb dX8_wide_47 hl (k := 3) rfl rfl (by decide) rfl (fun ls hl => ?_)
            refine lv_goto (tgt := 4) hx hb dX8_wide_50 (by decide) ?_
            exact ih_4 v2_1 (v3_2 + 1) (hc_4 _ (Option.some.inj hf).symm) _ (lv_sub hl [2, 3, 1, 0] rfl)
          · have hf := ite_t c_14 hf
            refine lv_aload_n hx hb dX8_wide_28 rfl (lv_at hl 0 rfl) ?_
            refine lv_iload_n hx hb dX8_wide_29 rfl (lv_at hl 3 rfl) ?_
            obtain ⟨r_10, h_9, hf⟩ := bd_s hf
            refine ca_V (As := [.int v3_2]) (rest := []) ⟨hx, hb, hml, hown, hts⟩ ⟨hK, hN⟩ hP (c_Mo_depth l E m0 m1 m2 m3 m4 m5 m6 m7 m8 m9 m10 m11 m_length m_places m_most m_tenths m_changes m_readPlaces m_value m_ends m_clusters m_text m_now m_read m_was m_readRule m_dist m_delays m_fractions m_head m_hour m_number v3_2 r_10 h_9) [0, 1, 2, 3, 4, 5, 6, 7, 8, 9, 10, 11] rfl 8 0 rfl rfl rfl gX8_wide_X8_depth rfl rfl rfl rfl hd_Mo_depth ⟨(Nat.le_of_ble_eq_true rfl), (Nat.le_of_ble_eq_true rfl)⟩ rfl hl.1 rfl (Nat.le_of_ble_eq_true rfl) dX8_wide_30 ⟨(Nat.zero_le _), (Nat.zero_le _)⟩ ?_
            refine lv_iload_n hx hb dX8_wide_33 rfl (lv_at hl 2 rfl) ?_
            refine lv_icmp_le (tgt := 45) hx hb dX8_wide_34 (by decide) (fun c_13 => ?_) (fun c_13 => ?_)
            · have hf := ite_t c_13 hf
              refine lv_iload_n hx hb dX8_wide_45 rfl (lv_at hl 2 rfl) ?_
              refine lv_istore_n (lv' := [(2, .int v2_1), (0, .ref m0), (1, .int a1), (3, .int v3_2)]) hx hb dX8_wide_46 rfl hl (by decide) rfl (fun ls hl => ?_)
              refine lv_iinc (v := (v3_2 + 1)) (lv' := [(3, .int (v3_2 + 1)), (2, .int v2_1), (0, .ref m0), (1, .int a1)]) hx hb dX8_wide_47 hl (k := 3) rfl rfl (by decide) rfl (fun ls hl => ?_)
              refine lv_goto (tgt := 4) hx hb dX8_wide_50 (by decide) ?_
              exact ih_4 v2_1 (v3_2 + 1) (hc_4 _ (Option.some.inj hf).symm) _ (lv_sub hl [2, 3, 1, 0] rfl)
            · have hf := ite_f c_13 hf
              refine lv_aload_n hx hb dX8_wide_37 rfl (lv_at hl 0 rfl) ?_
              refine lv_iload_n hx hb dX8_wide_38 rfl (lv_at hl 3 rfl) ?_
              obtain ⟨r_12, h_11, hf⟩ := bd_s hf
              refine ca_V (As := [.int v3_2]) (rest := []) ⟨hx, hb, hml, hown, hts⟩ ⟨hK, hN⟩ hP (c_Mo_depth l E m0 m1 m2 m3 m4 m5 m6 m7 m8 m9 m10 m11 m_length m_places m_most m_tenths m_changes m_readPlaces m_value m_ends m_clusters m_text m_now m_read m_was m_readRule m_dist m_delays m_fractions m_head m_hour m_number v3_2 r_12 h_11) [0, 1, 2, 3, 4, 5, 6, 7, 8, 9, 10, 11] rfl 8 0 rfl rfl rfl gX8_wide_X8_depth rfl rfl rfl rfl hd_Mo_depth ⟨(Nat.le_of_ble_eq_true rfl), (Nat.le_of_ble_eq_true rfl)⟩ rfl hl.1 rfl (Nat.le_of_ble_eq_true rfl) dX8_wide_39 ⟨(Nat.zero_le _), (Nat.zero_le _)⟩ ?_
              refine lv_goto (tgt := 46) hx hb dX8_wide_42 (by decide) ?_
              refine lv_istore_n (lv' := [(2, .int r_12), (0, .ref m0), (1, .int a1), (3, .int v3_2)]) hx hb dX8_wide_46 rfl hl (by decide) rfl (fun ls hl => ?_)
              refine lv_iinc (v := (v3_2 + 1)) (lv' := [(3, .int (v3_2 + 1)), (2, .int r_12), (0, .ref m0), (1, .int a1)]) hx hb dX8_wide_47 hl (k := 3) rfl rfl (by decide) rfl (fun ls hl => ?_)
              refine lv_goto (tgt := 4) hx hb dX8_wide_50 (by decide) ?_
              exact ih_4 r_12 (v3_2 + 1) (hc_4 _ (Option.some.inj hf).symm) _ (lv_sub hl [2, 3, 1, 0] rfl)
  exact KL_4 _ 0 0 i_4 _ (lv_sub hl [2, 3, 1, 0] rfl)
abbrev rm_Mo_lastHour : Room := { frames := 0, cells := 0, slots := 0, locals := 0 }
theorem hd_Mo_lastHour : hdOK yX8_lastHour 0 := by decide +kernel
theorem in_X8_lastHour_X8 : ∀ w ∈ wsX80, w ∈ wsX8_lastHour := by decide +kernel
set_option maxRecDepth 100000 in
set_option maxHeartbeats 4000000 in
theorem c_Mo_lastHour (l : Launch) (E : En4) (m0 m1 m2 m3 m4 m5 m6 m7 m8 m9 m10 m11 : Nat) (m_length : Int32) (m_places : Int32) (m_most : Int32) (m_tenths : Int32) (m_changes : Int32) (m_readPlaces : Int32) (m_value : Int32) (m_ends : Int32) (m_clusters : Int32) (m_text : Nat → Int32) (m_now : Nat → Int32) (m_read : Nat → Int32) (m_was : Nat → Int32) (m_readRule : Nat → Int32) (m_dist : Nat → Int32) (m_delays : Nat → Int32) (m_fractions : Nat → Int32) (m_head : Nat → Int32) (m_hour : Nat → Int32) (m_number : Nat → Int32)  (res : Int32) (hf : Mo_lastHour m_places m_hour = some res) : Met l yX8_lastHour wsX8_lastHour rm_Mo_lastHour (pcR [.ref m0] E (w_Mo E m0 m1 m2 m3 m4 m5 m6 m7 m8 m9 m10 m11 m_length m_places m_most m_tenths m_changes m_readPlaces m_value m_ends m_clusters m_text m_now m_read m_was m_readRule m_dist m_delays m_fractions m_head m_hour m_number)) (vp_Si (fun r => r = res)) 0 0 (fun _ => False) := by
  refine mk_Ri (cc := cX8_lastHour) (maxL := 3) (by decide) rfl (Nat.le_of_ble_eq_true rfl) ?_
  intro p e s m args below meth c Q S hKN hP hret ls hl
  obtain ⟨hx, hb, hml, hown, hts⟩ := S
  obtain ⟨hK, hN⟩ := hKN
  have hl : lv_has ls 3 [(0, .ref m0)] := hl
  have q_0 := hts (.fieldLink RX8 57 "DelayClustersModel" "places" "I") (by decide +kernel)
  have q_1 := hts (.fieldLink RX8 37 "DelayClustersModel" "hour" "[I") (by decide +kernel)
  unfold Mo_lastHour at hf
  refine lv_iconst (v := 0) hx hb dX8_lastHour_0 (by decide) ?_
  refine lv_istore_n (lv' := [(1, .int 0), (0, .ref m0)]) hx hb dX8_lastHour_1 rfl hl (by decide) rfl (fun ls hl => ?_)
  refine lv_iconst (v := 0) hx hb dX8_lastHour_2 (by decide) ?_
  refine lv_istore_n (lv' := [(2, .int 0), (1, .int 0), (0, .ref m0)]) hx hb dX8_lastHour_3 rfl hl (by decide) rfl (fun ls hl => ?_)
  obtain ⟨w_4, i_4, hf⟩ := bd_s hf
  have KX_4 : ∀ (v1_7 : Int32), v1_7 = w_4 → ∀ (ls : Array Slot), lv_has ls 3 [(1, .int v1_7)] → W p l e rm_Mo_lastHour s m args below meth c s.heap [] 0 0 Q (F0 m 39 ls []) := by
    intro v1_7 e_
    subst e_
    try dsimp only at hf
    intro ls hl
    refine lv_iload_n hx hb dX8_lastHour_39 rfl (lv_at hl 0 rfl) ?_
    exact hret ls 40 v1_7 dX8_lastHour_40 (Option.some.inj hf)
  have KL_4 : ∀ (n_ : Nat) (v1_1 : Int32) (v2_2 : Int32), it (Mo_lastHour_L4 m_places m_hour) n_ (v1_1, v2_2) = some w_4 → ∀ (ls : Array Slot), lv_has ls 3 [(0, .ref m0), (1, .int v1_1), (2, .int v2_2)] → W p l e rm_Mo_lastHour s m args below meth c s.heap [] 0 0 Q (F0 m 4 ls []) := by
    intro n_
    induction n_ with
    | zero => intro v1_1 v2_2 hit; exact (it_z hit).elim
    | succ n_4 ih_4 =>
      intro v1_1 v2_2 hit
      intro ls hl
      obtain ⟨x_4, hf, hc_4, hq_4⟩ := it_s hit
      dsimp only [Mo_lastHour_L4] at hf
      refine lv_iload_n hx hb dX8_lastHour_4 rfl (lv_at hl 2 rfl) ?_
      refine lv_aload_n hx hb dX8_lastHour_5 rfl (lv_at hl 0 rfl) ?_
      refine va_get (D := E.1) (ci := 8) (v := .int m_places) (C := RX8) (T := TX8) (N := 20) hx hb hts in_X8_lastHour_X8 hown hK hP 0 rfl rfl 2 (by decide) q_0 (fun _ h9 => h9) rfl dX8_lastHour_6 ?_
      refine lv_icmp_ge (tgt := 39) hx hb dX8_lastHour_9 (by decide) (fun c_6 => ?_) (fun c_6 => ?_)
      · have hf := ite_t c_6 hf
        exact KX_4 v1_1 (hq_4 _ (Option.some.inj hf).symm) _ (lv_sub hl [1] rfl)
      · have hf := ite_f c_6 hf
        refine lv_aload_n hx hb dX8_lastHour_12 rfl (lv_at hl 0 rfl) ?_
        refine va_get (D := E.1) (ci := 8) (v := .ref m10) (C := RX8) (T := TX8) (N := 20) hx hb hts in_X8_lastHour_X8 hown hK hP 0 rfl rfl 17 (by decide) q_1 (fun _ h9 => h9) rfl dX8_lastHour_13 ?_
        refine lv_iload_n hx hb dX8_lastHour_16 rfl (lv_at hl 2 rfl) ?_
        obtain ⟨g_3, hf⟩ := gk_s hf
        refine va_iald hx hb hK hP 10 0 rfl rfl g_3 dX8_lastHour_17 ?_
        refine lv_iload_n hx hb dX8_lastHour_18 rfl (lv_at hl 1 rfl) ?_
        refine lv_icmp_le (tgt := 31) hx hb dX8_lastHour_19 (by decide) (fun c_5 => ?_) (fun c_5 => ?_)
        · have hf := ite_t c_5 hf
          refine lv_iload_n hx hb dX8_lastHour_31 rfl (lv_at hl 1 rfl) ?_
          refine lv_istore_n (lv' := [(1, .int v1_1), (0, .ref m0), (2, .int v2_2)]) hx hb dX8_lastHour_32 rfl hl (by decide) rfl (fun ls hl => ?_)
          refine lv_iinc (v := (v2_2 + 1)) (lv' := [(2, .int (v2_2 + 1)), (1, .int v1_1), (0, .ref m0)]) hx hb dX8_lastHour_33 hl (k := 2) rfl rfl (by decide) rfl (fun ls hl => ?_)
          refine lv_goto (tgt := 4) hx hb dX8_lastHour_36 (by decide) ?_
          exact ih_4 v1_1 (v2_2 + 1) (hc_4 _ (Option.some.inj hf).symm) _ (lv_sub hl [2, 1, 0] rfl)
        · have hf := ite_f c_5 hf
          refine lv_aload_n hx hb dX8_lastHour_22 rfl (lv_at hl 0 rfl) ?_
          refine va_get (D := E.1) (ci := 8) (v := .ref m10) (C := RX8) (T := TX8) (N := 20) hx hb hts in_X8_lastHour_X8 hown hK hP 0 rfl rfl 17 (by decide) q_1 (fun _ h9 => h9) rfl dX8_lastHour_23 ?_
          refine lv_iload_n hx hb dX8_lastHour_26 rfl (lv_at hl 2 rfl) ?_
          obtain ⟨g_4, hf⟩ := gk_s hf
          refine va_iald hx hb hK hP 10 0 rfl rfl g_4 dX8_lastHour_27 ?_
          refine lv_goto (tgt := 32) hx hb dX8_lastHour_28 (by decide) ?_
          refine lv_istore_n (lv' := [(1, .int (m_hour v2_2.toNatClampNeg)), (0, .ref m0), (2, .int v2_2)]) hx hb dX8_lastHour_32 rfl hl (by decide) rfl (fun ls hl => ?_)
          refine lv_iinc (v := (v2_2 + 1)) (lv' := [(2, .int (v2_2 + 1)), (1, .int (m_hour v2_2.toNatClampNeg)), (0, .ref m0)]) hx hb dX8_lastHour_33 hl (k := 2) rfl rfl (by decide) rfl (fun ls hl => ?_)
          refine lv_goto (tgt := 4) hx hb dX8_lastHour_36 (by decide) ?_
          exact ih_4 (m_hour v2_2.toNatClampNeg) (v2_2 + 1) (hc_4 _ (Option.some.inj hf).symm) _ (lv_sub hl [2, 1, 0] rfl)
  exact KL_4 _ 0 0 i_4 _ (lv_sub hl [2, 1, 0] rfl)
abbrev rm_Mo_keeps : Room := { frames := 0, cells := 0, slots := 0, locals := 0 }
theorem hd_Mo_keeps : hdOK yX8_keeps 0 := by decide +kernel
theorem in_X8_keeps_X8 : ∀ w ∈ wsX80, w ∈ wsX8_keeps := by decide +kernel
set_option maxRecDepth 100000 in
set_option maxHeartbeats 4000000 in
theorem c_Mo_keeps (l : Launch) (E : En4) (m0 m1 m2 m3 m4 m5 m6 m7 m8 m9 m10 m11 : Nat) (sz : Nat) (m_length : Int32) (m_places : Int32) (m_most : Int32) (m_tenths : Int32) (m_changes : Int32) (m_readPlaces : Int32) (m_value : Int32) (m_ends : Int32) (m_clusters : Int32) (m_text : Nat → Int32) (m_now : Nat → Int32) (m_read : Nat → Int32) (m_was : Nat → Int32) (m_readRule : Nat → Int32) (m_dist : Nat → Int32) (m_delays : Nat → Int32) (m_fractions : Nat → Int32) (m_head : Nat → Int32) (m_hour : Nat → Int32) (m_number : Nat → Int32)  (res : Int32 × (Nat → Int32)) (hf : Mo_keeps m_changes m_now m_was = some res) : Met l yX8_keeps wsX8_keeps rm_Mo_keeps (pcM [.ref m0] E sz (w_Mo E m0 m1 m2 m3 m4 m5 m6 m7 m8 m9 m10 m11 m_length m_places m_most m_tenths m_changes m_readPlaces m_value m_ends m_clusters m_text m_now m_read m_was m_readRule m_dist m_delays m_fractions m_head m_hour m_number)) (QMv E sz (w_Mo E m0 m1 m2 m3 m4 m5 m6 m7 m8 m9 m10 m11 m_length m_places m_most m_tenths m_changes m_readPlaces m_value m_ends m_clusters m_text m_now m_read m_was m_readRule m_dist m_delays m_fractions m_head m_hour m_number) (fun (u : Int32 × (Nat → Int32)) => (w_Mo E m0 m1 m2 m3 m4 m5 m6 m7 m8 m9 m10 m11 m_length m_places m_most m_tenths u.1 m_readPlaces m_value m_ends m_clusters m_text m_now m_read u.2 m_readRule m_dist m_delays m_fractions m_head m_hour m_number)) res) 0 0 (va_A (w_Mo E m0 m1 m2 m3 m4 m5 m6 m7 m8 m9 m10 m11 m_length m_places m_most m_tenths m_changes m_readPlaces m_value m_ends m_clusters m_text m_now m_read m_was m_readRule m_dist m_delays m_fractions m_head m_hour m_number) sz) := by
  refine mk_Mv (cc := cX8_keeps) (maxL := 2) (by decide) rfl (Nat.le_of_ble_eq_true rfl) ?_
  intro p e s m args below meth c Q A S hKN hA hret H locs ls hP hD hS hl
  obtain ⟨hx, hb, hml, hown, hts⟩ := S
  obtain ⟨hK, hN⟩ := hKN
  have hl : lv_has ls 2 [(0, .ref m0)] := hl
  have q_0 := hts (.fieldLink RX8 66 "DelayClustersModel" "changes" "I") (by decide +kernel)
  have q_1 := hts (.fieldLink RX8 19 "DelayClustersModel" "was" "[I") (by decide +kernel)
  have q_2 := hts (.fieldLink RX8 13 "DelayClustersModel" "now" "[I") (by decide +kernel)
  unfold Mo_keeps at hf
  refine lv_aload_n hx hb dX8_keeps_0 rfl (lv_at hl 0 rfl) ?_
  refine va_get (D := E.1) (ci := 8) (v := .int m_changes) (C := RX8) (T := TX8) (N := 20) hx hb hts in_X8_keeps_X8 hown hK hP 0 rfl rfl 8 (by decide) q_0 (fun _ h9 => h9) rfl dX8_keeps_1 ?_
  refine lv_iconst (v := 4) hx hb dX8_keeps_4 (by decide) ?_
  obtain ⟨j_5, b_5, hf⟩ := bd_s hf
  have KJ_5 : ∀ (m_changes_8 : Int32) (m_was_9 : Nat → Int32), (m_changes_8, m_was_9) = j_5 → ∀ (H : Heap) (locs : List Loc) (ls : Array Slot), va_P E.1 vwCl (w_Mo E m0 m1 m2 m3 m4 m5 m6 m7 m8 m9 m10 m11 m_length m_places m_most m_tenths m_changes_8 m_readPlaces m_value m_ends m_clusters m_text m_now m_read m_was_9 m_readRule m_dist m_delays m_fractions m_head m_hour m_number) H → va_D A (w_Mo E m0 m1 m2 m3 m4 m5 m6 m7 m8 m9 m10 m11 m_length m_places m_most m_tenths m_changes_8 m_readPlaces m_value m_ends m_clusters m_text m_now m_read m_was_9 m_readRule m_dist m_delays m_fractions m_head m_hour m_number) → va_S A s.heap H locs → lv_has ls 2 [(0, .ref m0)] → W p l e rm_Mo_keeps s m args below meth c H locs 0 0 Q (F0 m 49 ls []) := by
    intro m_changes_8 m_was_9 e_
    subst e_
    try dsimp only at hf
    intro H locs ls hP hD hS hl
    refine lv_iconst (v := 0) hx hb dX8_keeps_49 (by decide) ?_
    refine lv_istore_n (lv' := [(1, .int 0), (0, .ref m0)]) hx hb dX8_keeps_50 rfl hl (by decide) rfl (fun ls hl => ?_)
    obtain ⟨w_51, i_51, hf⟩ := bd_s hf
    have KX_51 : ∀ (m_was_15 : Nat → Int32), m_was_15 = w_51 → ∀ (H : Heap) (locs : List Loc) (ls : Array Slot), va_P E.1 vwCl (w_Mo E m0 m1 m2 m3 m4 m5 m6 m7 m8 m9 m10 m11 m_length m_places m_most m_tenths m_changes_8 m_readPlaces m_value m_ends m_clusters m_text m_now m_read m_was_15 m_readRule m_dist m_delays m_fractions m_head m_hour m_number) H → va_D A (w_Mo E m0 m1 m2 m3 m4 m5 m6 m7 m8 m9 m10 m11 m_length m_places m_most m_tenths m_changes_8 m_readPlaces m_value m_ends m_clusters m_text m_now m_read m_was_15 m_readRule m_dist m_delays m_fractions m_head m_hour m_number) → va_S A s.heap H locs → lv_has ls 2 [(0, .ref m0)] → W p l e rm_Mo_keeps s m args below meth c H locs 0 0 Q (F0 m 85 ls []) := by
      intro m_was_15 e_
      subst e_
      try dsimp only at hf
      intro H locs ls hP hD hS hl
      refine lv_aload_n hx hb dX8_keeps_85 rfl (lv_at hl 0 rfl) ?_
      refine lv_dup hx hb dX8_keeps_86 rfl ?_
      refine va_get (D := E.1) (ci := 8) (v := .int m_changes_8) (C := RX8) (T := TX8) (N := 20) hx hb hts in_X8_keeps_X8 hown hK hP 0 rfl rfl 8 (by decide) q_0 (fun _ h9 => h9) rfl dX8_keeps_87 ?_
      refine lv_iconst (v := 1) hx hb dX8_keeps_90 (by decide) ?_
      refine lv_iadd hx hb dX8_keeps_91 ?_
      refine va_put (D := E.1) (ci := 8) (v := .int (m_changes_8 + 1)) (ty := .int) (C := RX8) (T := TX8) (N := 20) hx hb hts in_X8_keeps_X8 tyX8 tyX8_ok nmX8 hown hK hP hD hS 0 rfl rfl 8 (by decide) q_0 (fun _ h9 => h9) rfl (by decide +kernel) rfl rfl (Nat.le_of_ble_eq_true rfl) dX8_keeps_92 (fun H locs hP hD hS => ?_)
      have hP : va_P E.1 vwCl (w_Mo E m0 m1 m2 m3 m4 m5 m6 m7 m8 m9 m10 m11 m_length m_places m_most m_tenths (m_changes_8 + 1) m_readPlaces m_value m_ends m_clusters m_text m_now m_read m_was_15 m_readRule m_dist m_delays m_fractions m_head m_hour m_number) H := hP
      have hD : va_D A (w_Mo E m0 m1 m2 m3 m4 m5 m6 m7 m8 m9 m10 m11 m_length m_places m_most m_tenths (m_changes_8 + 1) m_readPlaces m_value m_ends m_clusters m_text m_now m_read m_was_15 m_readRule m_dist m_delays m_fractions m_head m_hour m_number) := hD
      exact hret H locs ls 95 ((m_changes_8 + 1), m_was_15) dX8_keeps_95 (Option.some.inj hf) hP hD hS
    have KL_51 : ∀ (n_ : Nat) (v1_10 : Int32) (m_was_11 : Nat → Int32), it (Mo_keeps_L51 m_now m_changes_8) n_ (v1_10, m_was_11) = some w_51 → ∀ (H : Heap) (locs : List Loc) (ls : Array Slot), va_P E.1 vwCl (w_Mo E m0 m1 m2 m3 m4 m5 m6 m7 m8 m9 m10 m11 m_length m_places m_most m_tenths m_changes_8 m_readPlaces m_value m_ends m_clusters m_text m_now m_read m_was_11 m_readRule m_dist m_delays m_fractions m_head m_hour m_number) H → va_D A (w_Mo E m0 m1 m2 m3 m4 m5 m6 m7 m8 m9 m10 m11 m_length m_places m_most m_tenths m_changes_8 m_readPlaces m_value m_ends m_clusters m_text m_now m_read m_was_11 m_readRule m_dist m_delays m_fractions m_head m_hour m_number) → va_S A s.heap H locs → lv_has ls 2 [(0, .ref m0), (1, .int v1_10)] → W p l e rm_Mo_keeps s m args below meth c H locs 0 0 Q (F0 m 51 ls []) := by
      intro n_
      induction n_ with
      | zero => intro v1_10 m_was_11 hit; exact (it_z hit).elim
      | succ n_51 ih_51 =>
        intro v1_10 m_was_11 hit
        intro H locs ls hP hD hS hl
        obtain ⟨x_51, hf, hc_51, hq_51⟩ := it_s hit
        dsimp only [Mo_keeps_L51] at hf
        refine lv_iload_n hx hb dX8_keeps_51 rfl (lv_at hl 1 rfl) ?_
        refine lv_sipush (v := 289) hx hb dX8_keeps_52 (by decide) ?_
        refine lv_icmp_ge (tgt := 85) hx hb dX8_keeps_55 (by decide) (fun c_14 => ?_) (fun c_14 => ?_)
        · have hf := ite_t c_14 hf
          exact KX_51 m_was_11 (hq_51 _ (Option.some.inj hf).symm) H locs _ hP hD hS (lv_sub hl [0] rfl)
        · have hf := ite_f c_14 hf
          refine lv_aload_n hx hb dX8_keeps_58 rfl (lv_at hl 0 rfl) ?_
          refine va_get (D := E.1) (ci := 8) (v := .ref m4) (C := RX8) (T := TX8) (N := 20) hx hb hts in_X8_keeps_X8 hown hK hP 0 rfl rfl 7 (by decide) q_1 (fun _ h9 => h9) rfl dX8_keeps_59 ?_
          refine lv_sipush (v := 289) hx hb dX8_keeps_62 (by decide) ?_
          refine lv_aload_n hx hb dX8_keeps_65 rfl (lv_at hl 0 rfl) ?_
          refine va_get (D := E.1) (ci := 8) (v := .int m_changes_8) (C := RX8) (T := TX8) (N := 20) hx hb hts in_X8_keeps_X8 hown hK hP 0 rfl rfl 8 (by decide) q_0 (fun _ h9 => h9) rfl dX8_keeps_66 ?_
          refine lv_imul hx hb dX8_keeps_69 ?_
          refine lv_iload_n hx hb dX8_keeps_70 rfl (lv_at hl 1 rfl) ?_
          refine lv_iadd hx hb dX8_keeps_71 ?_
          refine lv_aload_n hx hb dX8_keeps_72 rfl (lv_at hl 0 rfl) ?_
          refine va_get (D := E.1) (ci := 8) (v := .ref m2) (C := RX8) (T := TX8) (N := 20) hx hb hts in_X8_keeps_X8 hown hK hP 0 rfl rfl 5 (by decide) q_2 (fun _ h9 => h9) rfl dX8_keeps_73 ?_
          refine lv_iload_n hx hb dX8_keeps_76 rfl (lv_at hl 1 rfl) ?_
          obtain ⟨g_12, hf⟩ := gk_s hf
          refine va_iald hx hb hK hP 2 0 rfl rfl g_12 dX8_keeps_77 ?_
          obtain ⟨g_13, hf⟩ := gk_s hf
          refine va_iast hx hb hK hP hD hS 4 0 rfl rfl g_13 dX8_keeps_78 (fun H locs hP hD hS => ?_)
          have hP : va_P E.1 vwCl (w_Mo E m0 m1 m2 m3 m4 m5 m6 m7 m8 m9 m10 m11 m_length m_places m_most m_tenths m_changes_8 m_readPlaces m_value m_ends m_clusters m_text m_now m_read (upd m_was_11 ((289 * m_changes_8) + v1_10).toNatClampNeg (m_now v1_10.toNatClampNeg)) m_readRule m_dist m_delays m_fractions m_head m_hour m_number) H := hP
          have hD : va_D A (w_Mo E m0 m1 m2 m3 m4 m5 m6 m7 m8 m9 m10 m11 m_length m_places m_most m_tenths m_changes_8 m_readPlaces m_value m_ends m_clusters m_text m_now m_read (upd m_was_11 ((289 * m_changes_8) + v1_10).toNatClampNeg (m_now v1_10.toNatClampNeg)) m_readRule m_dist m_delays m_fractions m_head m_hour m_number) := hD
          refine lv_iinc (v := (v1_10 + 1)) (lv' := [(1, .int (v1_10 + 1)), (0, .ref m0)]) hx hb dX8_keeps_79 hl (k := 1) rfl rfl (by decide) rfl (fun ls hl => ?_)
          refine lv_goto (tgt := 51) hx hb dX8_keeps_82 (by decide) ?_
          exact ih_51 (v1_10 + 1) (upd m_was_11 ((289 * m_changes_8) + v1_10).toNatClampNeg (m_now v1_10.toNatClampNeg)) (hc_51 _ (Option.some.inj hf).symm) H locs _ hP hD hS (lv_sub hl [1, 0] rfl)
    exact KL_51 _ 0 m_was_9 i_51 H locs _ hP hD hS (lv_sub hl [1, 0] rfl)
  have hf := b_5
  refine lv_icmp_ne (tgt := 49) hx hb dX8_keeps_5 (by decide) (fun c_7 => ?_) (fun c_7 => ?_)
  · have hf := ite_f c_7 hf
    exact KJ_5 m_changes m_was (Option.some.inj hf) H locs _ hP hD hS (lv_sub hl [0] rfl)
  · have hf := ite_t c_7 hf
    refine lv_iconst (v := 0) hx hb dX8_keeps_8 (by decide) ?_
    refine lv_istore_n (lv' := [(1, .int 0), (0, .ref m0)]) hx hb dX8_keeps_9 rfl hl (by decide) rfl (fun ls hl => ?_)
    obtain ⟨w_10, i_10, hf⟩ := bd_s hf
    have KX_10 : ∀ (m_was_6 : Nat → Int32), m_was_6 = w_10 → ∀ (H : Heap) (locs : List Loc) (ls : Array Slot), va_P E.1 vwCl (w_Mo E m0 m1 m2 m3 m4 m5 m6 m7 m8 m9 m10 m11 m_length m_places m_most m_tenths m_changes m_readPlaces m_value m_ends m_clusters m_text m_now m_read m_was_6 m_readRule m_dist m_delays m_fractions m_head m_hour m_number) H → va_D A (w_Mo E m0 m1 m2 m3 m4 m5 m6 m7 m8 m9 m10 m11 m_length m_places m_most m_tenths m_changes m_readPlaces m_value m_ends m_clusters m_text m_now m_read m_was_6 m_readRule m_dist m_delays m_fractions m_head m_hour m_number) → va_S A s.heap H locs → lv_has ls 2 [(0, .ref m0)] → W p l e rm_Mo_keeps s m args below meth c H locs 0 0 Q (F0 m 39 ls []) := by
      intro m_was_6 e_
      subst e_
      try dsimp only at hf
      intro H locs ls hP hD hS hl
      refine lv_aload_n hx hb dX8_keeps_39 rfl (lv_at hl 0 rfl) ?_
      refine lv_dup hx hb dX8_keeps_40 rfl ?_
      refine va_get (D := E.1) (ci := 8) (v := .int m_changes) (C := RX8) (T := TX8) (N := 20) hx hb hts in_X8_keeps_X8 hown hK hP 0 rfl rfl 8 (by decide) q_0 (fun _ h9 => h9) rfl dX8_keeps_41 ?_
      refine lv_iconst (v := 1) hx hb dX8_keeps_44 (by decide) ?_
      refine lv_isub hx hb dX8_keeps_45 ?_
      refine va_put (D := E.1) (ci := 8) (v := .int (m_changes - 1)) (ty := .int) (C := RX8) (T := TX8) (N := 20) hx hb hts in_X8_keeps_X8 tyX8 tyX8_ok nmX8 hown hK hP hD hS 0 rfl rfl 8 (by decide) q_0 (fun _ h9 => h9) rfl (by decide +kernel) rfl rfl (Nat.le_of_ble_eq_true rfl) dX8_keeps_46 (fun H locs hP hD hS => ?_)
      have hP : va_P E.1 vwCl (w_Mo E m0 m1 m2 m3 m4 m5 m6 m7 m8 m9 m10 m11 m_length m_places m_most m_tenths (m_changes - 1) m_readPlaces m_value m_ends m_clusters m_text m_now m_read m_was_6 m_readRule m_dist m_delays m_fractions m_head m_hour m_number) H := hP
      have hD : va_D A (w_Mo E m0 m1 m2 m3 m4 m5 m6 m7 m8 m9 m10 m11 m_length m_places m_most m_tenths (m_changes - 1) m_readPlaces m_value m_ends m_clusters m_text m_now m_read m_was_6 m_readRule m_dist m_delays m_fractions m_head m_hour m_number) := hD
      exact KJ_5 (m_changes - 1) m_was_6 (Option.some.inj hf) H locs _ hP hD hS (lv_sub hl [0] rfl)
    have KL_10 : ∀ (n_ : Nat) (v1_1 : Int32) (m_was_2 : Nat → Int32), it Mo_keeps_L10 n_ (v1_1, m_was_2) = some w_10 → ∀ (H : Heap) (locs : List Loc) (ls : Array Slot), va_P E.1 vwCl (w_Mo E m0 m1 m2 m3 m4 m5 m6 m7 m8 m9 m10 m11 m_length m_places m_most m_tenths m_changes m_readPlaces m_value m_ends m_clusters m_text m_now m_read m_was_2 m_readRule m_dist m_delays m_fractions m_head m_hour m_number) H → va_D A (w_Mo E m0 m1 m2 m3 m4 m5 m6 m7 m8 m9 m10 m11 m_length m_places m_most m_tenths m_changes m_readPlaces m_value m_ends m_clusters m_text m_now m_read m_was_2 m_readRule m_dist m_delays m_fractions m_head m_hour m_number) → va_S A s.heap H locs → lv_has ls 2 [(0, .ref m0), (1, .int v1_1)] → W p l e rm_Mo_keeps s m args below meth c H locs 0 0 Q (F0 m 10 ls []) := by
      intro n_
      induction n_ with
      | zero => intro v1_1 m_was_2 hit; exact (it_z hit).elim
      | succ n_10 ih_10 =>
        intro v1_1 m_was_2 hit
        intro H locs ls hP hD hS hl
        obtain ⟨x_10, hf, hc_10, hq_10⟩ := it_s hit
        dsimp only [Mo_keeps_L10] at hf
        refine lv_iload_n hx hb dX8_keeps_10 rfl (lv_at hl 1 rfl) ?_
        refine lv_sipush (v := 867) hx hb dX8_keeps_11 (by decide) ?_
        refine lv_icmp_ge (tgt := 39) hx hb dX8_keeps_14 (by decide) (fun c_5 => ?_) (fun c_5 => ?_)
        · have hf := ite_t c_5 hf
          exact KX_10 m_was_2 (hq_10 _ (Option.some.inj hf).symm) H locs _ hP hD hS (lv_sub hl [0] rfl)
        · have hf := ite_f c_5 hf
          refine lv_aload_n hx hb dX8_keeps_17 rfl (lv_at hl 0 rfl) ?_
          refine va_get (D := E.1) (ci := 8) (v := .ref m4) (C := RX8) (T := TX8) (N := 20) hx hb hts in_X8_keeps_X8 hown hK hP 0 rfl rfl 7 (by decide) q_1 (fun _ h9 => h9) rfl dX8_keeps_18 ?_
          refine lv_iload_n hx hb dX8_keeps_21 rfl (lv_at hl 1 rfl) ?_
          refine lv_aload_n hx hb dX8_keeps_22 rfl (lv_at hl 0 rfl) ?_
          refine va_get (D := E.1) (ci := 8) (v := .ref m4) (C := RX8) (T := TX8) (N := 20) hx hb hts in_X8_keeps_X8 hown hK hP 0 rfl rfl 7 (by decide) q_1 (fun _ h9 => h9) rfl dX8_keeps_23 ?_
          refine lv_iload_n hx hb dX8_keeps_26 rfl (lv_at hl 1 rfl) ?_
          refine lv_sipush (v := 289) hx hb dX8_keeps_27 (by decide) ?_
          refine lv_iadd hx hb dX8_keeps_30 ?_
          obtain ⟨g_3, hf⟩ := gk_s hf
          refine va_iald hx hb hK hP 4 0 rfl rfl g_3 dX8_keeps_31 ?_
          obtain ⟨g_4, hf⟩ := gk_s hf
          refine va_iast hx hb hK hP hD hS 4 0 rfl rfl g_4 dX8_keeps_32 (fun H locs hP hD hS => ?_)
          have hP : va_P E.1 vwCl (w_Mo E m0 m1 m2 m3 m4 m5 m6 m7 m8 m9 m10 m11 m_length m_places m_most m_tenths m_changes m_readPlaces m_value m_ends m_clusters m_text m_now m_read (upd m_was_2 v1_1.toNatClampNeg (m_was_2 (v1_1 + 289).toNatClampNeg)) m_readRule m_dist m_delays m_fractions m_head m_hour m_number) H := hP
          have hD : va_D A (w_Mo E m0 m1 m2 m3 m4 m5 m6 m7 m8 m9 m10 m11 m_length m_places m_most m_tenths m_changes m_readPlaces m_value m_ends m_clusters m_text m_now m_read (upd m_was_2 v1_1.toNatClampNeg (m_was_2 (v1_1 + 289).toNatClampNeg)) m_readRule m_dist m_delays m_fractions m_head m_hour m_number) := hD
          refine lv_iinc (v := (v1_1 + 1)) (lv' := [(1, .int (v1_1 + 1)), (0, .ref m0)]) hx hb dX8_keeps_33 hl (k := 1) rfl rfl (by decide) rfl (fun ls hl => ?_)
          refine lv_goto (tgt := 10) hx hb dX8_keeps_36 (by decide) ?_
          exact ih_10 (v1_1 + 1) (upd m_was_2 v1_1.toNatClampNeg (m_was_2 (v1_1 + 289).toNatClampNeg)) (hc_10 _ (Option.some.inj hf).symm) H locs _ hP hD hS (lv_sub hl [1, 0] rfl)
    exact KL_10 _ 0 m_was i_10 H locs _ hP hD hS (lv_sub hl [1, 0] rfl)
abbrev rm_Mo_undo : Room := { frames := 0, cells := 0, slots := 0, locals := 0 }
theorem hd_Mo_undo : hdOK yX8_undo 0 := by decide +kernel
theorem in_X8_undo_X8 : ∀ w ∈ wsX80, w ∈ wsX8_undo := by decide +kernel
set_option maxRecDepth 100000 in
set_option maxHeartbeats 4000000 in
theorem c_Mo_undo (l : Launch) (E : En4) (m0 m1 m2 m3 m4 m5 m6 m7 m8 m9 m10 m11 : Nat) (sz : Nat) (m_length : Int32) (m_places : Int32) (m_most : Int32) (m_tenths : Int32) (m_changes : Int32) (m_readPlaces : Int32) (m_value : Int32) (m_ends : Int32) (m_clusters : Int32) (m_text : Nat → Int32) (m_now : Nat → Int32) (m_read : Nat → Int32) (m_was : Nat → Int32) (m_readRule : Nat → Int32) (m_dist : Nat → Int32) (m_delays : Nat → Int32) (m_fractions : Nat → Int32) (m_head : Nat → Int32) (m_hour : Nat → Int32) (m_number : Nat → Int32)  (res : Int32 × Int32 × (Nat → Int32)) (hf : Mo_undo m_changes m_now m_was = some res) : Met l yX8_undo wsX8_undo rm_Mo_undo (pcM [.ref m0] E sz (w_Mo E m0 m1 m2 m3 m4 m5 m6 m7 m8 m9 m10 m11 m_length m_places m_most m_tenths m_changes m_readPlaces m_value m_ends m_clusters m_text m_now m_read m_was m_readRule m_dist m_delays m_fractions m_head m_hour m_number)) (QMi E sz (w_Mo E m0 m1 m2 m3 m4 m5 m6 m7 m8 m9 m10 m11 m_length m_places m_most m_tenths m_changes m_readPlaces m_value m_ends m_clusters m_text m_now m_read m_was m_readRule m_dist m_delays m_fractions m_head m_hour m_number) (fun (u : Int32 × (Nat → Int32)) => (w_Mo E m0 m1 m2 m3 m4 m5 m6 m7 m8 m9 m10 m11 m_length m_places m_most m_tenths u.1 m_readPlaces m_value m_ends m_clusters m_text u.2 m_read m_was m_readRule m_dist m_delays m_fractions m_head m_hour m_number)) res) 0 0 (va_A (w_Mo E m0 m1 m2 m3 m4 m5 m6 m7 m8 m9 m10 m11 m_length m_places m_most m_tenths m_changes m_readPlaces m_value m_ends m_clusters m_text m_now m_read m_was m_readRule m_dist m_delays m_fractions m_head m_hour m_number) sz) := by
  refine mk_Mi (cc := cX8_undo) (maxL := 2) (by decide) rfl (Nat.le_of_ble_eq_true rfl) ?_
  intro p e s m args below meth c Q A S hKN hA hret H locs ls hP hD hS hl
  obtain ⟨hx, hb, hml, hown, hts⟩ := S
  obtain ⟨hK, hN⟩ := hKN
  have hl : lv_has ls 2 [(0, .ref m0)] := hl
  have q_0 := hts (.fieldLink RX8 66 "DelayClustersModel" "changes" "I") (by decide +kernel)
  have q_1 := hts (.fieldLink RX8 13 "DelayClustersModel" "now" "[I") (by decide +kernel)
  have q_2 := hts (.fieldLink RX8 19 "DelayClustersModel" "was" "[I") (by decide +kernel)
  unfold Mo_undo at hf
  refine lv_aload_n hx hb dX8_undo_0 rfl (lv_at hl 0 rfl) ?_
  refine va_get (D := E.1) (ci := 8) (v := .int m_changes) (C := RX8) (T := TX8) (N := 20) hx hb hts in_X8_undo_X8 hown hK hP 0 rfl rfl 8 (by decide) q_0 (fun _ h9 => h9) rfl dX8_undo_1 ?_
  refine lv_if_ne (tgt := 10) hx hb dX8_undo_4 (by decide) (fun c_7 => ?_) (fun c_7 => ?_)
  · have hf := ite_f c_7 hf
    refine lv_aload_n hx hb dX8_undo_10 rfl (lv_at hl 0 rfl) ?_
    refine lv_dup hx hb dX8_undo_11 rfl ?_
    refine va_get (D := E.1) (ci := 8) (v := .int m_changes) (C := RX8) (T := TX8) (N := 20) hx hb hts in_X8_undo_X8 hown hK hP 0 rfl rfl 8 (by decide) q_0 (fun _ h9 => h9) rfl dX8_undo_12 ?_
    refine lv_iconst (v := 1) hx hb dX8_undo_15 (by decide) ?_
    refine lv_isub hx hb dX8_undo_16 ?_
    refine va_put (D := E.1) (ci := 8) (v := .int (m_changes - 1)) (ty := .int) (C := RX8) (T := TX8) (N := 20) hx hb hts in_X8_undo_X8 tyX8 tyX8_ok nmX8 hown hK hP hD hS 0 rfl rfl 8 (by decide) q_0 (fun _ h9 => h9) rfl (by decide +kernel) rfl rfl (Nat.le_of_ble_eq_true rfl) dX8_undo_17 (fun H locs hP hD hS => ?_)
    have hP : va_P E.1 vwCl (w_Mo E m0 m1 m2 m3 m4 m5 m6 m7 m8 m9 m10 m11 m_length m_places m_most m_tenths (m_changes - 1) m_readPlaces m_value m_ends m_clusters m_text m_now m_read m_was m_readRule m_dist m_delays m_fractions m_head m_hour m_number) H := hP
    have hD : va_D A (w_Mo E m0 m1 m2 m3 m4 m5 m6 m7 m8 m9 m10 m11 m_length m_places m_most m_tenths (m_changes - 1) m_readPlaces m_value m_ends m_clusters m_text m_now m_read m_was m_readRule m_dist m_delays m_fractions m_head m_hour m_number) := hD
    refine lv_iconst (v := 0) hx hb dX8_undo_20 (by decide) ?_
    refine lv_istore_n (lv' := [(1, .int 0), (0, .ref m0)]) hx hb dX8_undo_21 rfl hl (by decide) rfl (fun ls hl => ?_)
    obtain ⟨w_22, i_22, hf⟩ := bd_s hf
    have KX_22 : ∀ (m_now_6 : Nat → Int32), m_now_6 = w_22 → ∀ (H : Heap) (locs : List Loc) (ls : Array Slot), va_P E.1 vwCl (w_Mo E m0 m1 m2 m3 m4 m5 m6 m7 m8 m9 m10 m11 m_length m_places m_most m_tenths (m_changes - 1) m_readPlaces m_value m_ends m_clusters m_text m_now_6 m_read m_was m_readRule m_dist m_delays m_fractions m_head m_hour m_number) H → va_D A (w_Mo E m0 m1 m2 m3 m4 m5 m6 m7 m8 m9 m10 m11 m_length m_places m_most m_tenths (m_changes - 1) m_readPlaces m_value m_ends m_clusters m_text m_now_6 m_read m_was m_readRule m_dist m_delays m_fractions m_head m_hour m_number) → va_S A s.heap H locs → lv_has ls 2 [(0, .ref m0)] → W p l e rm_Mo_undo s m args below meth c H locs 0 0 Q (F0 m 56 ls []) := by
      intro m_now_6 e_
      subst e_
      try dsimp only at hf
      intro H locs ls hP hD hS hl
      refine lv_aload_n hx hb dX8_undo_56 rfl (lv_at hl 0 rfl) ?_
      refine va_get (D := E.1) (ci := 8) (v := .int (m_changes - 1)) (C := RX8) (T := TX8) (N := 20) hx hb hts in_X8_undo_X8 hown hK hP 0 rfl rfl 8 (by decide) q_0 (fun _ h9 => h9) rfl dX8_undo_57 ?_
      exact hret H locs ls 60 (m_changes - 1) ((m_changes - 1), m_now_6) dX8_undo_60 (Option.some.inj hf) hP hD hS
    have KL_22 : ∀ (n_ : Nat) (v1_1 : Int32) (m_now_2 : Nat → Int32), it (Mo_undo_L22 m_changes m_was) n_ (v1_1, m_now_2) = some w_22 → ∀ (H : Heap) (locs : List Loc) (ls : Array Slot), va_P E.1 vwCl (w_Mo E m0 m1 m2 m3 m4 m5 m6 m7 m8 m9 m10 m11 m_length m_places m_most m_tenths (m_changes - 1) m_readPlaces m_value m_ends m_clusters m_text m_now_2 m_read m_was m_readRule m_dist m_delays m_fractions m_head m_hour m_number) H → va_D A (w_Mo E m0 m1 m2 m3 m4 m5 m6 m7 m8 m9 m10 m11 m_length m_places m_most m_tenths (m_changes - 1) m_readPlaces m_value m_ends m_clusters m_text m_now_2 m_read m_was m_readRule m_dist m_delays m_fractions m_head m_hour m_number) → va_S A s.heap H locs → lv_has ls 2 [(0, .ref m0), (1, .int v1_1)] → W p l e rm_Mo_undo s m args below meth c H locs 0 0 Q (F0 m 22 ls []) := by
      intro n_
      induction n_ with
      | zero => intro v1_1 m_now_2 hit; exact (it_z hit).elim
      | succ n_22 ih_22 =>
        intro v1_1 m_now_2 hit
        intro H locs ls hP hD hS hl
        obtain ⟨x_22, hf, hc_22, hq_22⟩ := it_s hit
        dsimp only [Mo_undo_L22] at hf
        refine lv_iload_n hx hb dX8_undo_22 rfl (lv_at hl 1 rfl) ?_
        refine lv_sipush (v := 289) hx hb dX8_undo_23 (by decide) ?_
        refine lv_icmp_ge (tgt := 56) hx hb dX8_undo_26 (by decide) (fun c_5 => ?_) (fun c_5 => ?_)
        · have hf := ite_t c_5 hf
          exact KX_22 m_now_2 (hq_22 _ (Option.some.inj hf).symm) H locs _ hP hD hS (lv_sub hl [0] rfl)
        · have hf := ite_f c_5 hf
          refine lv_aload_n hx hb dX8_undo_29 rfl (lv_at hl 0 rfl) ?_
          refine va_get (D := E.1) (ci := 8) (v := .ref m2) (C := RX8) (T := TX8) (N := 20) hx hb hts in_X8_undo_X8 hown hK hP 0 rfl rfl 5 (by decide) q_1 (fun _ h9 => h9) rfl dX8_undo_30 ?_
          refine lv_iload_n hx hb dX8_undo_33 rfl (lv_at hl 1 rfl) ?_
          refine lv_aload_n hx hb dX8_undo_34 rfl (lv_at hl 0 rfl) ?_
          refine va_get (D := E.1) (ci := 8) (v := .ref m4) (C := RX8) (T := TX8) (N := 20) hx hb hts in_X8_undo_X8 hown hK hP 0 rfl rfl 7 (by decide) q_2 (fun _ h9 => h9) rfl dX8_undo_35 ?_
          refine lv_sipush (v := 289) hx hb dX8_undo_38 (by decide) ?_
          refine lv_aload_n hx hb dX8_undo_41 rfl (lv_at hl 0 rfl) ?_
          refine va_get (D := E.1) (ci := 8) (v := .int (m_changes - 1)) (C := RX8) (T := TX8) (N := 20) hx hb hts in_X8_undo_X8 hown hK hP 0 rfl rfl 8 (by decide) q_0 (fun _ h9 => h9) rfl dX8_undo_42 ?_
          refine lv_imul hx hb dX8_undo_45 ?_
          refine lv_iload_n hx hb dX8_undo_46 rfl (lv_at hl 1 rfl) ?_
          refine lv_iadd hx hb dX8_undo_47 ?_
          obtain ⟨g_3, hf⟩ := gk_s hf
          refine va_iald hx hb hK hP 4 0 rfl rfl g_3 dX8_undo_48 ?_
          obtain ⟨g_4, hf⟩ := gk_s hf
          refine va_iast hx hb hK hP hD hS 2 0 rfl rfl g_4 dX8_undo_49 (fun H locs hP hD hS => ?_)
          have hP : va_P E.1 vwCl (w_Mo E m0 m1 m2 m3 m4 m5 m6 m7 m8 m9 m10 m11 m_length m_places m_most m_tenths (m_changes - 1) m_readPlaces m_value m_ends m_clusters m_text (upd m_now_2 v1_1.toNatClampNeg (m_was ((289 * (m_changes - 1)) + v1_1).toNatClampNeg)) m_read m_was m_readRule m_dist m_delays m_fractions m_head m_hour m_number) H := hP
          have hD : va_D A (w_Mo E m0 m1 m2 m3 m4 m5 m6 m7 m8 m9 m10 m11 m_length m_places m_most m_tenths (m_changes - 1) m_readPlaces m_value m_ends m_clusters m_text (upd m_now_2 v1_1.toNatClampNeg (m_was ((289 * (m_changes - 1)) + v1_1).toNatClampNeg)) m_read m_was m_readRule m_dist m_delays m_fractions m_head m_hour m_number) := hD
          refine lv_iinc (v := (v1_1 + 1)) (lv' := [(1, .int (v1_1 + 1)), (0, .ref m0)]) hx hb dX8_undo_50 hl (k := 1) rfl rfl (by decide) rfl (fun ls hl => ?_)
          refine lv_goto (tgt := 22) hx hb dX8_undo_53 (by decide) ?_
          exact ih_22 (v1_1 + 1) (upd m_now_2 v1_1.toNatClampNeg (m_was ((289 * (m_changes - 1)) + v1_1).toNatClampNeg)) (hc_22 _ (Option.some.inj hf).symm) H locs _ hP hD hS (lv_sub hl [1, 0] rfl)
    exact KL_22 _ 0 m_now i_22 H locs _ hP hD hS (lv_sub hl [1, 0] rfl)
  · have hf := ite_t c_7 hf
    refine lv_bipush (v := (-2)) hx hb dX8_undo_7 (by decide) ?_
    exact hret H locs ls 9 (-2) (m_changes, m_now) dX8_undo_9 (Option.some.inj hf) hP hD hS
abbrev rm_Mo_isPlace : Room := { frames := 1, cells := 0, slots := 0, locals := 22 }
theorem hd_Mo_isPlace : hdOK yX8_isPlace 1 := by decide +kernel
theorem in_X8_isPlace_X8 : ∀ w ∈ wsX80, w ∈ wsX8_isPlace := by decide +kernel
set_option maxRecDepth 100000 in
set_option maxHeartbeats 4000000 in
theorem c_Mo_isPlace (l : Launch) (E : En4) (m0 m1 m2 m3 m4 m5 m6 m7 m8 m9 m10 m11 : Nat) (m_length : Int32) (m_places : Int32) (m_most : Int32) (m_tenths : Int32) (m_changes : Int32) (m_readPlaces : Int32) (m_value : Int32) (m_ends : Int32) (m_clusters : Int32) (m_text : Nat → Int32) (m_now : Nat → Int32) (m_read : Nat → Int32) (m_was : Nat → Int32) (m_readRule : Nat → Int32) (m_dist : Nat → Int32) (m_delays : Nat → Int32) (m_fractions : Nat → Int32) (m_head : Nat → Int32) (m_hour : Nat → Int32) (m_number : Nat → Int32) (a1 : Int32)  (res : Int32) (hf : Mo_isPlace m_places a1 = some res) : Met l yX8_isPlace wsX8_isPlace rm_Mo_isPlace (pcR [.ref m0, .int a1] E (w_Mo E m0 m1 m2 m3 m4 m5 m6 m7 m8 m9 m10 m11 m_length m_places m_most m_tenths m_changes m_readPlaces m_value m_ends m_clusters m_text m_now m_read m_was m_readRule m_dist m_delays m_fractions m_head m_hour m_number)) (vp_Si (fun r => r = res)) 0 0 (fun _ => False) := by
  refine mk_Rz (cc := cX8_isPlace) (maxL := 2) (by decide) rfl (Nat.le_of_ble_eq_true rfl) ?_
  intro p e s m args below meth c Q S hKN hP hret ls hl
  obtain ⟨hx, hb, hml, hown, hts⟩ := S
  obtain ⟨hK, hN⟩ := hKN
  have hl : lv_has ls 2 [(0, .ref m0), (1, .int a1)] := hl
  have q_0 := hts (.fieldLink RX8 57 "DelayClustersModel" "places" "I") (by decide +kernel)
  unfold Mo_isPlace at hf
  refine lv_iload_n hx hb dX8_isPlace_0 rfl (lv_at hl 1 rfl) ?_
  refine lv_iconst (v := 0) hx hb dX8_isPlace_1 (by decide) ?_
  refine lv_aload_n hx hb dX8_isPlace_2 rfl (lv_at hl 0 rfl) ?_
  refine va_get (D := E.1) (ci := 8) (v := .int m_places) (C := RX8) (T := TX8) (N := 20) hx hb hts in_X8_isPlace_X8 hown hK hP 0 rfl rfl 2 (by decide) q_0 (fun _ h9 => h9) rfl dX8_isPlace_3 ?_
  refine lv_iconst (v := 1) hx hb dX8_isPlace_6 (by decide) ?_
  refine lv_isub hx hb dX8_isPlace_7 ?_
  obtain ⟨r_2, h_1, hf⟩ := bd_s hf
  refine ca_S (As := [.int a1, .int 0, .int (m_places - 1)]) (rest := []) ⟨hx, hb, hml, hown, hts⟩ ⟨hK, hN⟩ hP (c_Mo_isIn l E   a1 0 (m_places - 1) r_2 h_1) [] rfl gX8_isPlace_X8_isIn rfl rfl rfl hd_Mo_isIn ⟨(Nat.le_of_ble_eq_true rfl), (Nat.le_of_ble_eq_true rfl)⟩ rfl hl.1 rfl (Nat.le_of_ble_eq_true rfl) dX8_isPlace_8 ⟨(Nat.zero_le _), (Nat.zero_le _)⟩ ?_
  obtain ⟨g_3, hf⟩ := gb_s hf
  exact hret ls 11 r_2 dX8_isPlace_11 g_3 (Option.some.inj hf)
abbrev rm_Mo_areTwo : Room := { frames := 2, cells := 0, slots := 0, locals := 43 }
theorem hd_Mo_areTwo : hdOK yX8_areTwo 2 := by decide +kernel
set_option maxRecDepth 100000 in
set_option maxHeartbeats 4000000 in
theorem c_Mo_areTwo (l : Launch) (E : En4) (m0 m1 m2 m3 m4 m5 m6 m7 m8 m9 m10 m11 : Nat) (m_length : Int32) (m_places : Int32) (m_most : Int32) (m_tenths : Int32) (m_changes : Int32) (m_readPlaces : Int32) (m_value : Int32) (m_ends : Int32) (m_clusters : Int32) (m_text : Nat → Int32) (m_now : Nat → Int32) (m_read : Nat → Int32) (m_was : Nat → Int32) (m_readRule : Nat → Int32) (m_dist : Nat → Int32) (m_delays : Nat → Int32) (m_fractions : Nat → Int32) (m_head : Nat → Int32) (m_hour : Nat → Int32) (m_number : Nat → Int32) (a1 : Int32) (a2 : Int32)  (res : Int32) (hf : Mo_areTwo m_places a1 a2 = some res) : Met l yX8_areTwo wsX8_areTwo rm_Mo_areTwo (pcR [.ref m0, .int a1, .int a2] E (w_Mo E m0 m1 m2 m3 m4 m5 m6 m7 m8 m9 m10 m11 m_length m_places m_most m_tenths m_changes m_readPlaces m_value m_ends m_clusters m_text m_now m_read m_was m_readRule m_dist m_delays m_fractions m_head m_hour m_number)) (vp_Si (fun r => r = res)) 0 0 (fun _ => False) := by
  refine mk_Rz (cc := cX8_areTwo) (maxL := 3) (by decide) rfl (Nat.le_of_ble_eq_true rfl) ?_
  intro p e s m args below meth c Q S hKN hP hret ls hl
  obtain ⟨hx, hb, hml, hown, hts⟩ := S
  obtain ⟨hK, hN⟩ := hKN
  have hl : lv_has ls 3 [(0, .ref m0), (1, .int a1), (2, .int a2)] := hl
  unfold Mo_areTwo at hf
  refine lv_aload_n hx hb dX8_areTwo_0 rfl (lv_at hl 0 rfl) ?_
  refine lv_iload_n hx hb dX8_areTwo_1 rfl (lv_at hl 1 rfl) ?_
  obtain ⟨r_2, h_1, hf⟩ := bd_s hf
  refine ca_V (As := [.int a1]) (rest := []) ⟨hx, hb, hml, hown, hts⟩ ⟨hK, hN⟩ hP (c_Mo_isPlace l E m0 m1 m2 m3 m4 m5 m6 m7 m8 m9 m10 m11 m_length m_places m_most m_tenths m_changes m_readPlaces m_value m_ends m_clusters m_text m_now m_read m_was m_readRule m_dist m_delays m_fractions m_head m_hour m_number a1 r_2 h_1) [0, 1, 2, 3, 4, 5, 6, 7, 8, 9, 10, 11] rfl 8 0 rfl rfl rfl gX8_areTwo_X8_isPlace rfl rfl rfl rfl hd_Mo_isPlace ⟨(Nat.le_of_ble_eq_true rfl), (Nat.le_of_ble_eq_true rfl)⟩ rfl hl.1 rfl (Nat.le_of_ble_eq_true rfl) dX8_areTwo_2 ⟨(Nat.zero_le _), (Nat.zero_le _)⟩ ?_
  refine lv_if_eq (tgt := 25) hx hb dX8_areTwo_5 (by decide) (fun c_7 => ?_) (fun c_7 => ?_)
  · have hf := ite_t c_7 hf
    refine lv_iconst (v := 0) hx hb dX8_areTwo_25 (by decide) ?_
    exact hret ls 26 0 dX8_areTwo_26 (by decide) (Option.some.inj hf)
  · have hf := ite_f c_7 hf
    refine lv_aload_n hx hb dX8_areTwo_8 rfl (lv_at hl 0 rfl) ?_
    refine lv_iload_n hx hb dX8_areTwo_9 rfl (lv_at hl 2 rfl) ?_
    obtain ⟨r_4, h_3, hf⟩ := bd_s hf
    refine ca_V (As := [.int a2]) (rest := []) ⟨hx, hb, hml, hown, hts⟩ ⟨hK, hN⟩ hP (c_Mo_isPlace l E m0 m1 m2 m3 m4 m5 m6 m7 m8 m9 m10 m11 m_length m_places m_most m_tenths m_changes m_readPlaces m_value m_ends m_clusters m_text m_now m_read m_was m_readRule m_dist m_delays m_fractions m_head m_hour m_number a2 r_4 h_3) [0, 1, 2, 3, 4, 5, 6, 7, 8, 9, 10, 11] rfl 8 0 rfl rfl rfl gX8_areTwo_X8_isPlace rfl rfl rfl rfl hd_Mo_isPlace ⟨(Nat.le_of_ble_eq_true rfl), (Nat.le_of_ble_eq_true rfl)⟩ rfl hl.1 rfl (Nat.le_of_ble_eq_true rfl) dX8_areTwo_10 ⟨(Nat.zero_le _), (Nat.zero_le _)⟩ ?_
    refine lv_if_eq (tgt := 25) hx hb dX8_areTwo_13 (by decide) (fun c_6 => ?_) (fun c_6 => ?_)
    · have hf := ite_t c_6 hf
      refine lv_iconst (v := 0) hx hb dX8_areTwo_25 (by decide) ?_
      exact hret ls 26 0 dX8_areTwo_26 (by decide) (Option.some.inj hf)
    · have hf := ite_f c_6 hf
      refine lv_iload_n hx hb dX8_areTwo_16 rfl (lv_at hl 1 rfl) ?_
      refine lv_iload_n hx hb dX8_areTwo_17 rfl (lv_at hl 2 rfl) ?_
      refine lv_icmp_eq (tgt := 25) hx hb dX8_areTwo_18 (by decide) (fun c_5 => ?_) (fun c_5 => ?_)
      · have hf := ite_t c_5 hf
        refine lv_iconst (v := 0) hx hb dX8_areTwo_25 (by decide) ?_
        exact hret ls 26 0 dX8_areTwo_26 (by decide) (Option.some.inj hf)
      · have hf := ite_f c_5 hf
        refine lv_iconst (v := 1) hx hb dX8_areTwo_21 (by decide) ?_
        refine lv_goto (tgt := 26) hx hb dX8_areTwo_22 (by decide) ?_
        exact hret ls 26 1 dX8_areTwo_26 (by decide) (Option.some.inj hf)
abbrev rm_Mo_puts : Room := { frames := 0, cells := 0, slots := 0, locals := 0 }
theorem hd_Mo_puts : hdOK yX8_puts 3 := by decide +kernel
theorem in_X8_puts_X8 : ∀ w ∈ wsX80, w ∈ wsX8_puts := by decide +kernel
set_option maxRecDepth 100000 in
set_option maxHeartbeats 4000000 in
theorem c_Mo_puts (l : Launch) (E : En4) (m0 m1 m2 m3 m4 m5 m6 m7 m8 m9 m10 m11 : Nat) (sz : Nat) (m_length : Int32) (m_places : Int32) (m_most : Int32) (m_tenths : Int32) (m_changes : Int32) (m_readPlaces : Int32) (m_value : Int32) (m_ends : Int32) (m_clusters : Int32) (m_text : Nat → Int32) (m_now : Nat → Int32) (m_read : Nat → Int32) (m_was : Nat → Int32) (m_readRule : Nat → Int32) (m_dist : Nat → Int32) (m_delays : Nat → Int32) (m_fractions : Nat → Int32) (m_head : Nat → Int32) (m_hour : Nat → Int32) (m_number : Nat → Int32) (a1 : Int32) (a2 : Int32) (a3 : Int32)  (res : (Nat → Int32)) (hf : Mo_puts m_now a1 a2 a3 = some res) : Met l yX8_puts wsX8_puts rm_Mo_puts (pcM [.ref m0, .int a1, .int a2, .int a3] E sz (w_Mo E m0 m1 m2 m3 m4 m5 m6 m7 m8 m9 m10 m11 m_length m_places m_most m_tenths m_changes m_readPlaces m_value m_ends m_clusters m_text m_now m_read m_was m_readRule m_dist m_delays m_fractions m_head m_hour m_number)) (QMv E sz (w_Mo E m0 m1 m2 m3 m4 m5 m6 m7 m8 m9 m10 m11 m_length m_places m_most m_tenths m_changes m_readPlaces m_value m_ends m_clusters m_text m_now m_read m_was m_readRule m_dist m_delays m_fractions m_head m_hour m_number) (fun (u : (Nat → Int32)) => (w_Mo E m0 m1 m2 m3 m4 m5 m6 m7 m8 m9 m10 m11 m_length m_places m_most m_tenths m_changes m_readPlaces m_value m_ends m_clusters m_text u m_read m_was m_readRule m_dist m_delays m_fractions m_head m_hour m_number)) res) 0 0 (va_A (w_Mo E m0 m1 m2 m3 m4 m5 m6 m7 m8 m9 m10 m11 m_length m_places m_most m_tenths m_changes m_readPlaces m_value m_ends m_clusters m_text m_now m_read m_was m_readRule m_dist m_delays m_fractions m_head m_hour m_number) sz) := by
  refine mk_Mv (cc := cX8_puts) (maxL := 4) (by decide) rfl (Nat.le_of_ble_eq_true rfl) ?_
  intro p e s m args below meth c Q A S hKN hA hret H locs ls hP hD hS hl
  obtain ⟨hx, hb, hml, hown, hts⟩ := S
  obtain ⟨hK, hN⟩ := hKN
  have hl : lv_has ls 4 [(0, .ref m0), (1, .int a1), (2, .int a2), (3, .int a3)] := hl
  have q_0 := hts (.fieldLink RX8 13 "DelayClustersModel" "now" "[I") (by decide +kernel)
  unfold Mo_puts at hf
  refine lv_aload_n hx hb dX8_puts_0 rfl (lv_at hl 0 rfl) ?_
  refine va_get (D := E.1) (ci := 8) (v := .ref m2) (C := RX8) (T := TX8) (N := 20) hx hb hts in_X8_puts_X8 hown hK hP 0 rfl rfl 5 (by decide) q_0 (fun _ h9 => h9) rfl dX8_puts_1 ?_
  refine lv_bipush (v := 16) hx hb dX8_puts_4 (by decide) ?_
  refine lv_iload_n hx hb dX8_puts_6 rfl (lv_at hl 1 rfl) ?_
  refine lv_imul hx hb dX8_puts_7 ?_
  refine lv_iload_n hx hb dX8_puts_8 rfl (lv_at hl 2 rfl) ?_
  refine lv_iadd hx hb dX8_puts_9 ?_
  refine lv_iload_n hx hb dX8_puts_10 rfl (lv_at hl 3 rfl) ?_
  obtain ⟨g_1, hf⟩ := gk_s hf
  refine va_iast hx hb hK hP hD hS 2 0 rfl rfl g_1 dX8_puts_11 (fun H locs hP hD hS => ?_)
  have hP : va_P E.1 vwCl (w_Mo E m0 m1 m2 m3 m4 m5 m6 m7 m8 m9 m10 m11 m_length m_places m_most m_tenths m_changes m_readPlaces m_value m_ends m_clusters m_text (upd m_now ((16 * a1) + a2).toNatClampNeg a3) m_read m_was m_readRule m_dist m_delays m_fractions m_head m_hour m_number) H := hP
  have hD : va_D A (w_Mo E m0 m1 m2 m3 m4 m5 m6 m7 m8 m9 m10 m11 m_length m_places m_most m_tenths m_changes m_readPlaces m_value m_ends m_clusters m_text (upd m_now ((16 * a1) + a2).toNatClampNeg a3) m_read m_was m_readRule m_dist m_delays m_fractions m_head m_hour m_number) := hD
  refine lv_aload_n hx hb dX8_puts_12 rfl (lv_at hl 0 rfl) ?_
  refine va_get (D := E.1) (ci := 8) (v := .ref m2) (C := RX8) (T := TX8) (N := 20) hx hb hts in_X8_puts_X8 hown hK hP 0 rfl rfl 5 (by decide) q_0 (fun _ h9 => h9) rfl dX8_puts_13 ?_
  refine lv_bipush (v := 16) hx hb dX8_puts_16 (by decide) ?_
  refine lv_iload_n hx hb dX8_puts_18 rfl (lv_at hl 2 rfl) ?_
  refine lv_imul hx hb dX8_puts_19 ?_
  refine lv_iload_n hx hb dX8_puts_20 rfl (lv_at hl 1 rfl) ?_
  refine lv_iadd hx hb dX8_puts_21 ?_
  refine lv_iload_n hx hb dX8_puts_22 rfl (lv_at hl 3 rfl) ?_
  obtain ⟨g_2, hf⟩ := gk_s hf
  refine va_iast hx hb hK hP hD hS 2 0 rfl rfl g_2 dX8_puts_23 (fun H locs hP hD hS => ?_)
  have hP : va_P E.1 vwCl (w_Mo E m0 m1 m2 m3 m4 m5 m6 m7 m8 m9 m10 m11 m_length m_places m_most m_tenths m_changes m_readPlaces m_value m_ends m_clusters m_text (upd (upd m_now ((16 * a1) + a2).toNatClampNeg a3) ((16 * a2) + a1).toNatClampNeg a3) m_read m_was m_readRule m_dist m_delays m_fractions m_head m_hour m_number) H := hP
  have hD : va_D A (w_Mo E m0 m1 m2 m3 m4 m5 m6 m7 m8 m9 m10 m11 m_length m_places m_most m_tenths m_changes m_readPlaces m_value m_ends m_clusters m_text (upd (upd m_now ((16 * a1) + a2).toNatClampNeg a3) ((16 * a2) + a1).toNatClampNeg a3) m_read m_was m_readRule m_dist m_delays m_fractions m_head m_hour m_number) := hD
  exact hret H locs ls 24 (upd (upd m_now ((16 * a1) + a2).toNatClampNeg a3) ((16 * a2) + a1).toNatClampNeg a3) dX8_puts_24 (Option.some.inj hf) hP hD hS
abbrev rm_Mo_link : Room := { frames := 3, cells := 0, slots := 0, locals := 65 }
theorem hd_Mo_link : hdOK yX8_link 3 := by decide +kernel
theorem in_X8_link_X8 : ∀ w ∈ wsX80, w ∈ wsX8_link := by decide +kernel
set_option maxRecDepth 100000 in
set_option maxHeartbeats 4000000 in
theorem c_Mo_link (l : Launch) (E : En4) (m0 m1 m2 m3 m4 m5 m6 m7 m8 m9 m10 m11 : Nat) (sz : Nat) (m_length : Int32) (m_places : Int32) (m_most : Int32) (m_tenths : Int32) (m_changes : Int32) (m_readPlaces : Int32) (m_value : Int32) (m_ends : Int32) (m_clusters : Int32) (m_text : Nat → Int32) (m_now : Nat → Int32) (m_read : Nat → Int32) (m_was : Nat → Int32) (m_readRule : Nat → Int32) (m_dist : Nat → Int32) (m_delays : Nat → Int32) (m_fractions : Nat → Int32) (m_head : Nat → Int32) (m_hour : Nat → Int32) (m_number : Nat → Int32) (a1 : Int32) (a2 : Int32) (a3 : Int32)  (res : Int32 × Int32 × (Nat → Int32) × (Nat → Int32)) (hf : Mo_link m_places m_changes m_now m_was a1 a2 a3 = some res) : Met l yX8_link wsX8_link rm_Mo_link (pcM [.ref m0, .int a1, .int a2, .int a3] E sz (w_Mo E m0 m1 m2 m3 m4 m5 m6 m7 m8 m9 m10 m11 m_length m_places m_most m_tenths m_changes m_readPlaces m_value m_ends m_clusters m_text m_now m_read m_was m_readRule m_dist m_delays m_fractions m_head m_hour m_number)) (QMi E sz (w_Mo E m0 m1 m2 m3 m4 m5 m6 m7 m8 m9 m10 m11 m_length m_places m_most m_tenths m_changes m_readPlaces m_value m_ends m_clusters m_text m_now m_read m_was m_readRule m_dist m_delays m_fractions m_head m_hour m_number) (fun (u : Int32 × (Nat → Int32) × (Nat → Int32)) => (w_Mo E m0 m1 m2 m3 m4 m5 m6 m7 m8 m9 m10 m11 m_length m_places m_most m_tenths u.1 m_readPlaces m_value m_ends m_clusters m_text u.2.1 m_read u.2.2 m_readRule m_dist m_delays m_fractions m_head m_hour m_number)) res) 0 0 (va_A (w_Mo E m0 m1 m2 m3 m4 m5 m6 m7 m8 m9 m10 m11 m_length m_places m_most m_tenths m_changes m_readPlaces m_value m_ends m_clusters m_text m_now m_read m_was m_readRule m_dist m_delays m_fractions m_head m_hour m_number) sz) := by
  refine mk_Mi (cc := cX8_link) (maxL := 5) (by decide) rfl (Nat.le_of_ble_eq_true rfl) ?_
  intro p e s m args below meth c Q A S hKN hA hret H locs ls hP hD hS hl
  obtain ⟨hx, hb, hml, hown, hts⟩ := S
  obtain ⟨hK, hN⟩ := hKN
  have hl : lv_has ls 5 [(0, .ref m0), (1, .int a1), (2, .int a2), (3, .int a3)] := hl
  have q_0 := hts (.fieldLink RX8 13 "DelayClustersModel" "now" "[I") (by decide +kernel)
  unfold Mo_link at hf
  refine lv_aload_n hx hb dX8_link_0 rfl (lv_at hl 0 rfl) ?_
  refine lv_iload_n hx hb dX8_link_1 rfl (lv_at hl 1 rfl) ?_
  refine lv_iload_n hx hb dX8_link_2 rfl (lv_at hl 2 rfl) ?_
  obtain ⟨r_2, h_1, hf⟩ := bd_s hf
  refine ca_V (As := [.int a1, .int a2]) (rest := []) ⟨hx, hb, hml, hown, hts⟩ ⟨hK, hN⟩ hP (c_Mo_areTwo l E m0 m1 m2 m3 m4 m5 m6 m7 m8 m9 m10 m11 m_length m_places m_most m_tenths m_changes m_readPlaces m_value m_ends m_clusters m_text m_now m_read m_was m_readRule m_dist m_delays m_fractions m_head m_hour m_number a1 a2 r_2 h_1) [0, 1, 2, 3, 4, 5, 6, 7, 8, 9, 10, 11] rfl 8 0 rfl rfl rfl gX8_link_X8_areTwo rfl rfl rfl rfl hd_Mo_areTwo ⟨(Nat.le_of_ble_eq_true rfl), (Nat.le_of_ble_eq_true rfl)⟩ rfl hl.1 rfl (Nat.le_of_ble_eq_true rfl) dX8_link_3 ⟨(Nat.zero_le _), (Nat.zero_le _)⟩ ?_
  refine lv_if_eq (tgt := 19) hx hb dX8_link_6 (by decide) (fun c_19 => ?_) (fun c_19 => ?_)
  · have hf := ite_t c_19 hf
    refine lv_iconst (v := (-1)) hx hb dX8_link_19 (by decide) ?_
    exact hret H locs ls 20 (-1) (m_changes, m_now, m_was) dX8_link_20 (Option.some.inj hf) hP hD hS
  · have hf := ite_f c_19 hf
    refine lv_iload_n hx hb dX8_link_9 rfl (lv_at hl 3 rfl) ?_
    refine lv_iconst (v := 1) hx hb dX8_link_10 (by decide) ?_
    refine lv_bipush (v := 9) hx hb dX8_link_11 (by decide) ?_
    obtain ⟨r_4, h_3, hf⟩ := bd_s hf
    refine ca_S (As := [.int a3, .int 1, .int 9]) (rest := []) ⟨hx, hb, hml, hown, hts⟩ ⟨hK, hN⟩ hP (c_Mo_isIn l E   a3 1 9 r_4 h_3) [] rfl gX8_link_X8_isIn rfl rfl rfl hd_Mo_isIn ⟨(Nat.le_of_ble_eq_true rfl), (Nat.le_of_ble_eq_true rfl)⟩ rfl hl.1 rfl (Nat.le_of_ble_eq_true rfl) dX8_link_13 ⟨(Nat.zero_le _), (Nat.zero_le _)⟩ ?_
    refine lv_if_ne (tgt := 21) hx hb dX8_link_16 (by decide) (fun c_18 => ?_) (fun c_18 => ?_)
    · have hf := ite_f c_18 hf
      refine lv_aload_n hx hb dX8_link_21 rfl (lv_at hl 0 rfl) ?_
      refine va_get (D := E.1) (ci := 8) (v := .ref m2) (C := RX8) (T := TX8) (N := 20) hx hb hts in_X8_link_X8 hown hK hP 0 rfl rfl 5 (by decide) q_0 (fun _ h9 => h9) rfl dX8_link_22 ?_
      refine lv_bipush (v := 16) hx hb dX8_link_25 (by decide) ?_
      refine lv_iload_n hx hb dX8_link_27 rfl (lv_at hl 1 rfl) ?_
      refine lv_imul hx hb dX8_link_28 ?_
      refine lv_iload_n hx hb dX8_link_29 rfl (lv_at hl 2 rfl) ?_
      refine lv_iadd hx hb dX8_link_30 ?_
      obtain ⟨g_5, hf⟩ := gk_s hf
      refine va_iald hx hb hK hP 2 0 rfl rfl g_5 dX8_link_31 ?_
      refine lv_istore (lv' := [(4, .int (m_now ((16 * a1) + a2).toNatClampNeg)), (0, .ref m0), (1, .int a1), (2, .int a2), (3, .int a3)]) hx hb dX8_link_32 hl (by decide) rfl (fun ls hl => ?_)
      refine lv_iload hx hb dX8_link_34 (lv_at hl 0 rfl) ?_
      refine lv_iload_n hx hb dX8_link_36 rfl (lv_at hl 4 rfl) ?_
      refine lv_icmp_ne (tgt := 43) hx hb dX8_link_37 (by decide) (fun c_17 => ?_) (fun c_17 => ?_)
      · have hf := ite_f c_17 hf
        refine lv_iload hx hb dX8_link_43 (lv_at hl 0 rfl) ?_
        obtain ⟨j_45, b_45, hf⟩ := bd_s hf
        have KE_45 : ∀ y_, Sum.inr y_ = j_45 → some y_ = some res := by intro y_ e_; subst e_; exact hf
        have KJ_45 : Sum.inl () = j_45 → ∀ (H : Heap) (locs : List Loc) (ls : Array Slot), va_P E.1 vwCl (w_Mo E m0 m1 m2 m3 m4 m5 m6 m7 m8 m9 m10 m11 m_length m_places m_most m_tenths m_changes m_readPlaces m_value m_ends m_clusters m_text m_now m_read m_was m_readRule m_dist m_delays m_fractions m_head m_hour m_number) H → va_D A (w_Mo E m0 m1 m2 m3 m4 m5 m6 m7 m8 m9 m10 m11 m_length m_places m_most m_tenths m_changes m_readPlaces m_value m_ends m_clusters m_text m_now m_read m_was m_readRule m_dist m_delays m_fractions m_head m_hour m_number) → va_S A s.heap H locs → lv_has ls 5 [(0, .ref m0), (1, .int a1), (2, .int a2), (3, .int a3)] → W p l e rm_Mo_link s m args below meth c H locs 0 0 Q (F0 m 63 ls []) := by
          intro e_
          subst e_
          try dsimp only at hf
          intro H locs ls hP hD hS hl
          refine lv_aload_n hx hb dX8_link_63 rfl (lv_at hl 0 rfl) ?_
          obtain ⟨⟨m_changes_11, m_was_12⟩, h_10, hf⟩ := bd_s hf
          try dsimp only at hf
          refine ca_Mv (w2 := (w_Mo E m0 m1 m2 m3 m4 m5 m6 m7 m8 m9 m10 m11 m_length m_places m_most m_tenths m_changes_11 m_readPlaces m_value m_ends m_clusters m_text m_now m_read m_was_12 m_readRule m_dist m_delays m_fractions m_head m_hour m_number)) (As := []) (rest := []) ⟨hx, hb, hml, hown, hts⟩ ⟨hK, hN⟩ hP hD hS hA (c_Mo_keeps l E m0 m1 m2 m3 m4 m5 m6 m7 m8 m9 m10 m11 H.size m_length m_places m_most m_tenths m_changes m_readPlaces m_value m_ends m_clusters m_text m_now m_read m_was m_readRule m_dist m_delays m_fractions m_head m_hour m_number (m_changes_11, m_was_12) h_10) [0, 1, 2, 3, 4, 5, 6, 7, 8, 9, 10, 11] [] [0, 1, 2, 3, 4, 5, 6, 7, 8, 9, 10, 11] rfl rfl rfl rfl (by decide) rfl rfl 8 0 rfl rfl rfl gX8_link_X8_keeps rfl rfl rfl rfl hd_Mo_keeps ⟨(Nat.le_of_ble_eq_true rfl), (Nat.le_of_ble_eq_true rfl)⟩ rfl hl.1 rfl (Nat.le_of_ble_eq_true rfl) dX8_link_64 ⟨(Nat.zero_le _), (Nat.zero_le _)⟩ (fun H locs hP hD hS => ?_)
          refine lv_aload_n hx hb dX8_link_67 rfl (lv_at hl 0 rfl) ?_
          refine lv_iload_n hx hb dX8_link_68 rfl (lv_at hl 1 rfl) ?_
          refine lv_iload_n hx hb dX8_link_69 rfl (lv_at hl 2 rfl) ?_
          refine lv_iload_n hx hb dX8_link_70 rfl (lv_at hl 3 rfl) ?_
          obtain ⟨m_now_14, h_13, hf⟩ := bd_s hf
          try dsimp only at hf
          refine ca_Mv (w2 := (w_Mo E m0 m1 m2 m3 m4 m5 m6 m7 m8 m9 m10 m11 m_length m_places m_most m_tenths m_changes_11 m_readPlaces m_value m_ends m_clusters m_text m_now_14 m_read m_was_12 m_readRule m_dist m_delays m_fractions m_head m_hour m_number)) (As := [.int a1, .int a2, .int a3]) (rest := []) ⟨hx, hb, hml, hown, hts⟩ ⟨hK, hN⟩ hP hD hS hA (c_Mo_puts l E m0 m1 m2 m3 m4 m5 m6 m7 m8 m9 m10 m11 H.size m_length m_places m_most m_tenths m_changes_11 m_readPlaces m_value m_ends m_clusters m_text m_now m_read m_was_12 m_readRule m_dist m_delays m_fractions m_head m_hour m_number a1 a2 a3 m_now_14 h_13) [0, 1, 2, 3, 4, 5, 6, 7, 8, 9, 10, 11] [] [0, 1, 2, 3, 4, 5, 6, 7, 8, 9, 10, 11] rfl rfl rfl rfl (by decide) rfl rfl 8 0 rfl rfl rfl gX8_link_X8_puts rfl rfl rfl rfl hd_Mo_puts ⟨(Nat.le_of_ble_eq_true rfl), (Nat.le_of_ble_eq_true rfl)⟩ rfl hl.1 rfl (Nat.le_of_ble_eq_true rfl) dX8_link_71 ⟨(Nat.zero_le _), (Nat.zero_le _)⟩ (fun H locs hP hD hS => ?_)
          refine lv_aload_n hx hb dX8_link_74 rfl (lv_at hl 0 rfl) ?_
          refine va_get (D := E.1) (ci := 8) (v := .ref m2) (C := RX8) (T := TX8) (N := 20) hx hb hts in_X8_link_X8 hown hK hP 0 rfl rfl 5 (by decide) q_0 (fun _ h9 => h9) rfl dX8_link_75 ?_
          obtain ⟨r_16, h_15, hf⟩ := bd_s hf
          refine ca_S (As := [.ref m2]) (rest := []) ⟨hx, hb, hml, hown, hts⟩ ⟨hK, hN⟩ hP (c_Mo_linksOf l E m2 m_now_14 r_16 h_15) [2] rfl gX8_link_X8_linksOf rfl rfl rfl hd_Mo_linksOf ⟨(Nat.le_of_ble_eq_true rfl), (Nat.le_of_ble_eq_true rfl)⟩ rfl hl.1 rfl (Nat.le_of_ble_eq_true rfl) dX8_link_78 ⟨(Nat.zero_le _), (Nat.zero_le _)⟩ ?_
          exact hret H locs ls 81 r_16 (m_changes_11, m_now_14, m_was_12) dX8_link_81 (Option.some.inj hf) hP hD hS
        have hf := b_45
        refine lv_if_ne (tgt := 63) hx hb dX8_link_45 (by decide) (fun c_9 => ?_) (fun c_9 => ?_)
        · have hf := ite_f c_9 hf
          exact KJ_45 (Option.some.inj hf) H locs _ hP hD hS (lv_sub hl [1, 2, 3, 4] rfl)
        · have hf := ite_t c_9 hf
          refine lv_aload_n hx hb dX8_link_48 rfl (lv_at hl 1 rfl) ?_
          refine va_get (D := E.1) (ci := 8) (v := .ref m2) (C := RX8) (T := TX8) (N := 20) hx hb hts in_X8_link_X8 hown hK hP 0 rfl rfl 5 (by decide) q_0 (fun _ h9 => h9) rfl dX8_link_49 ?_
          obtain ⟨r_7, h_6, hf⟩ := bd_s hf
          refine ca_S (As := [.ref m2]) (rest := []) ⟨hx, hb, hml, hown, hts⟩ ⟨hK, hN⟩ hP (c_Mo_linksOf l E m2 m_now r_7 h_6) [2] rfl gX8_link_X8_linksOf rfl rfl rfl hd_Mo_linksOf ⟨(Nat.le_of_ble_eq_true rfl), (Nat.le_of_ble_eq_true rfl)⟩ rfl hl.1 rfl (Nat.le_of_ble_eq_true rfl) dX8_link_52 ⟨(Nat.zero_le _), (Nat.zero_le _)⟩ ?_
          refine lv_bipush (v := 40) hx hb dX8_link_55 (by decide) ?_
          refine lv_icmp_ne (tgt := 63) hx hb dX8_link_57 (by decide) (fun c_8 => ?_) (fun c_8 => ?_)
          · have hf := ite_f c_8 hf
            exact KJ_45 (Option.some.inj hf) H locs _ hP hD hS (lv_sub hl [1, 2, 3, 4] rfl)
          · have hf := ite_t c_8 hf
            refine lv_bipush (v := (-3)) hx hb dX8_link_60 (by decide) ?_
            have hf := KE_45 _ (Option.some.inj hf)
            exact hret H locs ls 62 (-3) (m_changes, m_now, m_was) dX8_link_62 (Option.some.inj hf) hP hD hS
      · have hf := ite_t c_17 hf
        refine lv_bipush (v := (-2)) hx hb dX8_link_40 (by decide) ?_
        exact hret H locs ls 42 (-2) (m_changes, m_now, m_was) dX8_link_42 (Option.some.inj hf) hP hD hS
    · have hf := ite_t c_18 hf
      refine lv_iconst (v := (-1)) hx hb dX8_link_19 (by decide) ?_
      exact hret H locs ls 20 (-1) (m_changes, m_now, m_was) dX8_link_20 (Option.some.inj hf) hP hD hS
abbrev rm_Mo_unlink : Room := { frames := 3, cells := 0, slots := 0, locals := 65 }
theorem hd_Mo_unlink : hdOK yX8_unlink 2 := by decide +kernel
theorem in_X8_unlink_X8 : ∀ w ∈ wsX80, w ∈ wsX8_unlink := by decide +kernel
set_option maxRecDepth 100000 in
set_option maxHeartbeats 4000000 in
theorem c_Mo_unlink (l : Launch) (E : En4) (m0 m1 m2 m3 m4 m5 m6 m7 m8 m9 m10 m11 : Nat) (sz : Nat) (m_length : Int32) (m_places : Int32) (m_most : Int32) (m_tenths : Int32) (m_changes : Int32) (m_readPlaces : Int32) (m_value : Int32) (m_ends : Int32) (m_clusters : Int32) (m_text : Nat → Int32) (m_now : Nat → Int32) (m_read : Nat → Int32) (m_was : Nat → Int32) (m_readRule : Nat → Int32) (m_dist : Nat → Int32) (m_delays : Nat → Int32) (m_fractions : Nat → Int32) (m_head : Nat → Int32) (m_hour : Nat → Int32) (m_number : Nat → Int32) (a1 : Int32) (a2 : Int32)  (res : Int32 × Int32 × (Nat → Int32) × (Nat → Int32)) (hf : Mo_unlink m_places m_changes m_now m_was a1 a2 = some res) : Met l yX8_unlink wsX8_unlink rm_Mo_unlink (pcM [.ref m0, .int a1, .int a2] E sz (w_Mo E m0 m1 m2 m3 m4 m5 m6 m7 m8 m9 m10 m11 m_length m_places m_most m_tenths m_changes m_readPlaces m_value m_ends m_clusters m_text m_now m_read m_was m_readRule m_dist m_delays m_fractions m_head m_hour m_number)) (QMi E sz (w_Mo E m0 m1 m2 m3 m4 m5 m6 m7 m8 m9 m10 m11 m_length m_places m_most m_tenths m_changes m_readPlaces m_value m_ends m_clusters m_text m_now m_read m_was m_readRule m_dist m_delays m_fractions m_head m_hour m_number) (fun (u : Int32 × (Nat → Int32) × (Nat → Int32)) => (w_Mo E m0 m1 m2 m3 m4 m5 m6 m7 m8 m9 m10 m11 m_length m_places m_most m_tenths u.1 m_readPlaces m_value m_ends m_clusters m_text u.2.1 m_read u.2.2 m_readRule m_dist m_delays m_fractions m_head m_hour m_number)) res) 0 0 (va_A (w_Mo E m0 m1 m2 m3 m4 m5 m6 m7 m8 m9 m10 m11 m_length m_places m_most m_tenths m_changes m_readPlaces m_value m_ends m_clusters m_text m_now m_read m_was m_readRule m_dist m_delays m_fractions m_head m_hour m_number) sz) := by
  refine mk_Mi (cc := cX8_unlink) (maxL := 4) (by decide) rfl (Nat.le_of_ble_eq_true rfl) ?_
  intro p e s m args below meth c Q A S hKN hA hret H locs ls hP hD hS hl
  obtain ⟨hx, hb, hml, hown, hts⟩ := S
  obtain ⟨hK, hN⟩ := hKN
  have hl : lv_has ls 4 [(0, .ref m0), (1, .int a1), (2, .int a2)] := hl
  have q_0 := hts (.fieldLink RX8 13 "DelayClustersModel" "now" "[I") (by decide +kernel)
  unfold Mo_unlink at hf
  refine lv_aload_n hx hb dX8_unlink_0 rfl (lv_at hl 0 rfl) ?_
  refine lv_iload_n hx hb dX8_unlink_1 rfl (lv_at hl 1 rfl) ?_
  refine lv_iload_n hx hb dX8_unlink_2 rfl (lv_at hl 2 rfl) ?_
  obtain ⟨r_2, h_1, hf⟩ := bd_s hf
  refine ca_V (As := [.int a1, .int a2]) (rest := []) ⟨hx, hb, hml, hown, hts⟩ ⟨hK, hN⟩ hP (c_Mo_areTwo l E m0 m1 m2 m3 m4 m5 m6 m7 m8 m9 m10 m11 m_length m_places m_most m_tenths m_changes m_readPlaces m_value m_ends m_clusters m_text m_now m_read m_was m_readRule m_dist m_delays m_fractions m_head m_hour m_number a1 a2 r_2 h_1) [0, 1, 2, 3, 4, 5, 6, 7, 8, 9, 10, 11] rfl 8 0 rfl rfl rfl gX8_unlink_X8_areTwo rfl rfl rfl rfl hd_Mo_areTwo ⟨(Nat.le_of_ble_eq_true rfl), (Nat.le_of_ble_eq_true rfl)⟩ rfl hl.1 rfl (Nat.le_of_ble_eq_true rfl) dX8_unlink_3 ⟨(Nat.zero_le _), (Nat.zero_le _)⟩ ?_
  refine lv_if_ne (tgt := 11) hx hb dX8_unlink_6 (by decide) (fun c_10 => ?_) (fun c_10 => ?_)
  · have hf := ite_f c_10 hf
    refine lv_aload_n hx hb dX8_unlink_11 rfl (lv_at hl 0 rfl) ?_
    refine va_get (D := E.1) (ci := 8) (v := .ref m2) (C := RX8) (T := TX8) (N := 20) hx hb hts in_X8_unlink_X8 hown hK hP 0 rfl rfl 5 (by decide) q_0 (fun _ h9 => h9) rfl dX8_unlink_12 ?_
    refine lv_bipush (v := 16) hx hb dX8_unlink_15 (by decide) ?_
    refine lv_iload_n hx hb dX8_unlink_17 rfl (lv_at hl 1 rfl) ?_
    refine lv_imul hx hb dX8_unlink_18 ?_
    refine lv_iload_n hx hb dX8_unlink_19 rfl (lv_at hl 2 rfl) ?_
    refine lv_iadd hx hb dX8_unlink_20 ?_
    obtain ⟨g_3, hf⟩ := gk_s hf
    refine va_iald hx hb hK hP 2 0 rfl rfl g_3 dX8_unlink_21 ?_
    refine lv_istore_n (lv' := [(3, .int (m_now ((16 * a1) + a2).toNatClampNeg)), (0, .ref m0), (1, .int a1), (2, .int a2)]) hx hb dX8_unlink_22 rfl hl (by decide) rfl (fun ls hl => ?_)
    refine lv_iload_n hx hb dX8_unlink_23 rfl (lv_at hl 0 rfl) ?_
    refine lv_if_ne (tgt := 30) hx hb dX8_unlink_24 (by decide) (fun c_9 => ?_) (fun c_9 => ?_)
    · have hf := ite_f c_9 hf
      refine lv_aload_n hx hb dX8_unlink_30 rfl (lv_at hl 1 rfl) ?_
      obtain ⟨⟨m_changes_5, m_was_6⟩, h_4, hf⟩ := bd_s hf
      try dsimp only at hf
      refine ca_Mv (w2 := (w_Mo E m0 m1 m2 m3 m4 m5 m6 m7 m8 m9 m10 m11 m_length m_places m_most m_tenths m_changes_5 m_readPlaces m_value m_ends m_clusters m_text m_now m_read m_was_6 m_readRule m_dist m_delays m_fractions m_head m_hour m_number)) (As := []) (rest := []) ⟨hx, hb, hml, hown, hts⟩ ⟨hK, hN⟩ hP hD hS hA (c_Mo_keeps l E m0 m1 m2 m3 m4 m5 m6 m7 m8 m9 m10 m11 H.size m_length m_places m_most m_tenths m_changes m_readPlaces m_value m_ends m_clusters m_text m_now m_read m_was m_readRule m_dist m_delays m_fractions m_head m_hour m_number (m_changes_5, m_was_6) h_4) [0, 1, 2, 3, 4, 5, 6, 7, 8, 9, 10, 11] [] [0, 1, 2, 3, 4, 5, 6, 7, 8, 9, 10, 11] rfl rfl rfl rfl (by decide) rfl rfl 8 0 rfl rfl rfl gX8_unlink_X8_keeps rfl rfl rfl rfl hd_Mo_keeps ⟨(Nat.le_of_ble_eq_true rfl), (Nat.le_of_ble_eq_true rfl)⟩ rfl hl.1 rfl (Nat.le_of_ble_eq_true rfl) dX8_unlink_31 ⟨(Nat.zero_le _), (Nat.zero_le _)⟩ (fun H locs hP hD hS => ?_)
      refine lv_aload_n hx hb dX8_unlink_34 rfl (lv_at hl 1 rfl) ?_
      refine lv_iload_n hx hb dX8_unlink_35 rfl (lv_at hl 2 rfl) ?_
      refine lv_iload_n hx hb dX8_unlink_36 rfl (lv_at hl 3 rfl) ?_
      refine lv_iconst (v := 0) hx hb dX8_unlink_37 (by decide) ?_
      obtain ⟨m_now_8, h_7, hf⟩ := bd_s hf
      try dsimp only at hf
      refine ca_Mv (w2 := (w_Mo E m0 m1 m2 m3 m4 m5 m6 m7 m8 m9 m10 m11 m_length m_places m_most m_tenths m_changes_5 m_readPlaces m_value m_ends m_clusters m_text m_now_8 m_read m_was_6 m_readRule m_dist m_delays m_fractions m_head m_hour m_number)) (As := [.int a1, .int a2, .int 0]) (rest := []) ⟨hx, hb, hml, hown, hts⟩ ⟨hK, hN⟩ hP hD hS hA (c_Mo_puts l E m0 m1 m2 m3 m4 m5 m6 m7 m8 m9 m10 m11 H.size m_length m_places m_most m_tenths m_changes_5 m_readPlaces m_value m_ends m_clusters m_text m_now m_read m_was_6 m_readRule m_dist m_delays m_fractions m_head m_hour m_number a1 a2 0 m_now_8 h_7) [0, 1, 2, 3, 4, 5, 6, 7, 8, 9, 10, 11] [] [0, 1, 2, 3, 4, 5, 6, 7, 8, 9, 10, 11] rfl rfl rfl rfl (by decide) rfl rfl 8 0 rfl rfl rfl gX8_unlink_X8_puts rfl rfl rfl rfl hd_Mo_puts ⟨(Nat.le_of_ble_eq_true rfl), (Nat.le_of_ble_eq_true rfl)⟩ rfl hl.1 rfl (Nat.le_of_ble_eq_true rfl) dX8_unlink_38 ⟨(Nat.zero_le _), (Nat.zero_le _)⟩ (fun H locs hP hD hS => ?_)
      refine lv_iload_n hx hb dX8_unlink_41 rfl (lv_at hl 0 rfl) ?_
      exact hret H locs ls 42 (m_now ((16 * a1) + a2).toNatClampNeg) (m_changes_5, m_now_8, m_was_6) dX8_unlink_42 (Option.some.inj hf) hP hD hS
    · have hf := ite_t c_9 hf
      refine lv_bipush (v := (-2)) hx hb dX8_unlink_27 (by decide) ?_
      exact hret H locs ls 29 (-2) (m_changes, m_now, m_was) dX8_unlink_29 (Option.some.inj hf) hP hD hS
  · have hf := ite_t c_10 hf
    refine lv_iconst (v := (-1)) hx hb dX8_unlink_9 (by decide) ?_
    exact hret H locs ls 10 (-1) (m_changes, m_now, m_was) dX8_unlink_10 (Option.some.inj hf) hP hD hS
abbrev rm_Mo_delay : Room := { frames := 4, cells := 0, slots := 0, locals := 95 }
theorem hd_Mo_delay : hdOK yX8_delay 3 := by decide +kernel
theorem in_X8_delay_X8 : ∀ w ∈ wsX80, w ∈ wsX8_delay := by decide +kernel
set_option maxRecDepth 100000 in
set_option maxHeartbeats 4000000 in
theorem c_Mo_delay (l : Launch) (E : En4) (m0 m1 m2 m3 m4 m5 m6 m7 m8 m9 m10 m11 : Nat) (sz : Nat) (m_length : Int32) (m_places : Int32) (m_most : Int32) (m_tenths : Int32) (m_changes : Int32) (m_readPlaces : Int32) (m_value : Int32) (m_ends : Int32) (m_clusters : Int32) (m_text : Nat → Int32) (m_now : Nat → Int32) (m_read : Nat → Int32) (m_was : Nat → Int32) (m_readRule : Nat → Int32) (m_dist : Nat → Int32) (m_delays : Nat → Int32) (m_fractions : Nat → Int32) (m_head : Nat → Int32) (m_hour : Nat → Int32) (m_number : Nat → Int32) (a1 : Int32) (a2 : Int32) (a3 : Int32)  (res : Int32 × Int32 × Int32 × (Nat → Int32) × (Nat → Int32) × (Nat → Int32) × (Nat → Int32) × (Nat → Int32) × (Nat → Int32) × (Nat → Int32) × (Nat → Int32)) (hf : Mo_delay m_places m_most m_tenths m_changes m_clusters m_now m_was m_dist m_delays m_fractions m_head m_hour m_number a1 a2 a3 = some res) : Met l yX8_delay wsX8_delay rm_Mo_delay (pcM [.ref m0, .int a1, .int a2, .int a3] E sz (w_Mo E m0 m1 m2 m3 m4 m5 m6 m7 m8 m9 m10 m11 m_length m_places m_most m_tenths m_changes m_readPlaces m_value m_ends m_clusters m_text m_now m_read m_was m_readRule m_dist m_delays m_fractions m_head m_hour m_number)) (QMi E sz (w_Mo E m0 m1 m2 m3 m4 m5 m6 m7 m8 m9 m10 m11 m_length m_places m_most m_tenths m_changes m_readPlaces m_value m_ends m_clusters m_text m_now m_read m_was m_readRule m_dist m_delays m_fractions m_head m_hour m_number) (fun (u : Int32 × Int32 × (Nat → Int32) × (Nat → Int32) × (Nat → Int32) × (Nat → Int32) × (Nat → Int32) × (Nat → Int32) × (Nat → Int32) × (Nat → Int32)) => (w_Mo E m0 m1 m2 m3 m4 m5 m6 m7 m8 m9 m10 m11 m_length m_places m_most m_tenths u.1 m_readPlaces m_value m_ends u.2.1 m_text u.2.2.1 m_read u.2.2.2.1 m_readRule u.2.2.2.2.1 u.2.2.2.2.2.1 u.2.2.2.2.2.2.1 u.2.2.2.2.2.2.2.1 u.2.2.2.2.2.2.2.2.1 u.2.2.2.2.2.2.2.2.2)) res) 0 0 (va_A (w_Mo E m0 m1 m2 m3 m4 m5 m6 m7 m8 m9 m10 m11 m_length m_places m_most m_tenths m_changes m_readPlaces m_value m_ends m_clusters m_text m_now m_read m_was m_readRule m_dist m_delays m_fractions m_head m_hour m_number) sz) := by
  refine mk_Mi (cc := cX8_delay) (maxL := 5) (by decide) rfl (Nat.le_of_ble_eq_true rfl) ?_
  intro p e s m args below meth c Q A S hKN hA hret H locs ls hP hD hS hl
  obtain ⟨hx, hb, hml, hown, hts⟩ := S
  obtain ⟨hK, hN⟩ := hKN
  have hl : lv_has ls 5 [(0, .ref m0), (1, .int a1), (2, .int a2), (3, .int a3)] := hl
  have q_0 := hts (.fieldLink RX8 28 "DelayClustersModel" "delays" "[I") (by decide +kernel)
  have q_1 := hts (.fieldLink RX8 13 "DelayClustersModel" "now" "[I") (by decide +kernel)
  unfold Mo_delay at hf
  refine lv_aload_n hx hb dX8_delay_0 rfl (lv_at hl 0 rfl) ?_
  refine lv_iload_n hx hb dX8_delay_1 rfl (lv_at hl 1 rfl) ?_
  obtain ⟨r_2, h_1, hf⟩ := bd_s hf
  refine ca_V (As := [.int a1]) (rest := []) ⟨hx, hb, hml, hown, hts⟩ ⟨hK, hN⟩ hP (c_Mo_isPlace l E m0 m1 m2 m3 m4 m5 m6 m7 m8 m9 m10 m11 m_length m_places m_most m_tenths m_changes m_readPlaces m_value m_ends m_clusters m_text m_now m_read m_was m_readRule m_dist m_delays m_fractions m_head m_hour m_number a1 r_2 h_1) [0, 1, 2, 3, 4, 5, 6, 7, 8, 9, 10, 11] rfl 8 0 rfl rfl rfl gX8_delay_X8_isPlace rfl rfl rfl rfl hd_Mo_isPlace ⟨(Nat.le_of_ble_eq_true rfl), (Nat.le_of_ble_eq_true rfl)⟩ rfl hl.1 rfl (Nat.le_of_ble_eq_true rfl) dX8_delay_2 ⟨(Nat.zero_le _), (Nat.zero_le _)⟩ ?_
  refine lv_if_eq (tgt := 29) hx hb dX8_delay_5 (by decide) (fun c_23 => ?_) (fun c_23 => ?_)
  · have hf := ite_t c_23 hf
    refine lv_iconst (v := (-1)) hx hb dX8_delay_29 (by decide) ?_
    exact hret H locs ls 30 (-1) (m_changes, m_clusters, m_now, m_was, m_dist, m_delays, m_fractions, m_head, m_hour, m_number) dX8_delay_30 (Option.some.inj hf) hP hD hS
  · have hf := ite_f c_23 hf
    refine lv_iload_n hx hb dX8_delay_8 rfl (lv_at hl 2 rfl) ?_
    refine lv_iconst (v := 0) hx hb dX8_delay_9 (by decide) ?_
    refine lv_bipush (v := 30) hx hb dX8_delay_10 (by decide) ?_
    obtain ⟨r_4, h_3, hf⟩ := bd_s hf
    refine ca_S (As := [.int a2, .int 0, .int 30]) (rest := []) ⟨hx, hb, hml, hown, hts⟩ ⟨hK, hN⟩ hP (c_Mo_isIn l E   a2 0 30 r_4 h_3) [] rfl gX8_delay_X8_isIn rfl rfl rfl hd_Mo_isIn ⟨(Nat.le_of_ble_eq_true rfl), (Nat.le_of_ble_eq_true rfl)⟩ rfl hl.1 rfl (Nat.le_of_ble_eq_true rfl) dX8_delay_12 ⟨(Nat.zero_le _), (Nat.zero_le _)⟩ ?_
    refine lv_if_eq (tgt := 29) hx hb dX8_delay_15 (by decide) (fun c_22 => ?_) (fun c_22 => ?_)
    · have hf := ite_t c_22 hf
      refine lv_iconst (v := (-1)) hx hb dX8_delay_29 (by decide) ?_
      exact hret H locs ls 30 (-1) (m_changes, m_clusters, m_now, m_was, m_dist, m_delays, m_fractions, m_head, m_hour, m_number) dX8_delay_30 (Option.some.inj hf) hP hD hS
    · have hf := ite_f c_22 hf
      refine lv_iload_n hx hb dX8_delay_18 rfl (lv_at hl 3 rfl) ?_
      refine lv_iconst (v := 0) hx hb dX8_delay_19 (by decide) ?_
      refine lv_sipush (v := 999) hx hb dX8_delay_20 (by decide) ?_
      obtain ⟨r_6, h_5, hf⟩ := bd_s hf
      refine ca_S (As := [.int a3, .int 0, .int 999]) (rest := []) ⟨hx, hb, hml, hown, hts⟩ ⟨hK, hN⟩ hP (c_Mo_isIn l E   a3 0 999 r_6 h_5) [] rfl gX8_delay_X8_isIn rfl rfl rfl hd_Mo_isIn ⟨(Nat.le_of_ble_eq_true rfl), (Nat.le_of_ble_eq_true rfl)⟩ rfl hl.1 rfl (Nat.le_of_ble_eq_true rfl) dX8_delay_23 ⟨(Nat.zero_le _), (Nat.zero_le _)⟩ ?_
      refine lv_if_ne (tgt := 31) hx hb dX8_delay_26 (by decide) (fun c_21 => ?_) (fun c_21 => ?_)
      · have hf := ite_f c_21 hf
        refine lv_aload_n hx hb dX8_delay_31 rfl (lv_at hl 0 rfl) ?_
        obtain ⟨⟨m_clusters_8, m_dist_9, m_delays_10, m_fractions_11, m_head_12, m_hour_13, m_number_14⟩, h_7, hf⟩ := bd_s hf
        try dsimp only at hf
        refine ca_Mv (w2 := (w_Mo E m0 m1 m2 m3 m4 m5 m6 m7 m8 m9 m10 m11 m_length m_places m_most m_tenths m_changes m_readPlaces m_value m_ends m_clusters_8 m_text m_now m_read m_was m_readRule m_dist_9 m_delays_10 m_fractions_11 m_head_12 m_hour_13 m_number_14)) (As := []) (rest := []) ⟨hx, hb, hml, hown, hts⟩ ⟨hK, hN⟩ hP hD hS hA (c_Mo_settle l E m0 m1 m2 m3 m4 m5 m6 m7 m8 m9 m10 m11 H.size m_length m_places m_most m_tenths m_changes m_readPlaces m_value m_ends m_clusters m_text m_now m_read m_was m_readRule m_dist m_delays m_fractions m_head m_hour m_number (m_clusters_8, m_dist_9, m_delays_10, m_fractions_11, m_head_12, m_hour_13, m_number_14) h_7) [0, 1, 2, 3, 4, 5, 6, 7, 8, 9, 10, 11] [] [0, 1, 2, 3, 4, 5, 6, 7, 8, 9, 10, 11] rfl rfl rfl rfl (by decide) rfl rfl 8 0 rfl rfl rfl gX8_delay_X8_settle rfl rfl rfl rfl hd_Mo_settle ⟨(Nat.le_of_ble_eq_true rfl), (Nat.le_of_ble_eq_true rfl)⟩ rfl hl.1 rfl (Nat.le_of_ble_eq_true rfl) dX8_delay_32 ⟨(Nat.zero_le _), (Nat.zero_le _)⟩ (fun H locs hP hD hS => ?_)
        refine lv_aload_n hx hb dX8_delay_35 rfl (lv_at hl 0 rfl) ?_
        refine va_get (D := E.1) (ci := 8) (v := .ref m7) (C := RX8) (T := TX8) (N := 20) hx hb hts in_X8_delay_X8 hown hK hP 0 rfl rfl 14 (by decide) q_0 (fun _ h9 => h9) rfl dX8_delay_36 ?_
        refine lv_iload_n hx hb dX8_delay_39 rfl (lv_at hl 1 rfl) ?_
        obtain ⟨g_15, hf⟩ := gk_s hf
        refine va_iald hx hb hK hP 7 0 rfl rfl g_15 dX8_delay_40 ?_
        refine lv_istore (lv' := [(4, .int (m_delays_10 a1.toNatClampNeg)), (0, .ref m0), (1, .int a1), (2, .int a2), (3, .int a3)]) hx hb dX8_delay_41 hl (by decide) rfl (fun ls hl => ?_)
        refine lv_aload_n hx hb dX8_delay_43 rfl (lv_at hl 1 rfl) ?_
        obtain ⟨⟨m_changes_17, m_was_18⟩, h_16, hf⟩ := bd_s hf
        try dsimp only at hf
        refine ca_Mv (w2 := (w_Mo E m0 m1 m2 m3 m4 m5 m6 m7 m8 m9 m10 m11 m_length m_places m_most m_tenths m_changes_17 m_readPlaces m_value m_ends m_clusters_8 m_text m_now m_read m_was_18 m_readRule m_dist_9 m_delays_10 m_fractions_11 m_head_12 m_hour_13 m_number_14)) (As := []) (rest := []) ⟨hx, hb, hml, hown, hts⟩ ⟨hK, hN⟩ hP hD hS hA (c_Mo_keeps l E m0 m1 m2 m3 m4 m5 m6 m7 m8 m9 m10 m11 H.size m_length m_places m_most m_tenths m_changes m_readPlaces m_value m_ends m_clusters_8 m_text m_now m_read m_was m_readRule m_dist_9 m_delays_10 m_fractions_11 m_head_12 m_hour_13 m_number_14 (m_changes_17, m_was_18) h_16) [0, 1, 2, 3, 4, 5, 6, 7, 8, 9, 10, 11] [] [0, 1, 2, 3, 4, 5, 6, 7, 8, 9, 10, 11] rfl rfl rfl rfl (by decide) rfl rfl 8 0 rfl rfl rfl gX8_delay_X8_keeps rfl rfl rfl rfl hd_Mo_keeps ⟨(Nat.le_of_ble_eq_true rfl), (Nat.le_of_ble_eq_true rfl)⟩ rfl hl.1 rfl (Nat.le_of_ble_eq_true rfl) dX8_delay_44 ⟨(Nat.zero_le _), (Nat.zero_le _)⟩ (fun H locs hP hD hS => ?_)
        refine lv_aload_n hx hb dX8_delay_47 rfl (lv_at hl 1 rfl) ?_
        refine va_get (D := E.1) (ci := 8) (v := .ref m2) (C := RX8) (T := TX8) (N := 20) hx hb hts in_X8_delay_X8 hown hK hP 0 rfl rfl 5 (by decide) q_1 (fun _ h9 => h9) rfl dX8_delay_48 ?_
        refine lv_sipush (v := 256) hx hb dX8_delay_51 (by decide) ?_
        refine lv_iload_n hx hb dX8_delay_54 rfl (lv_at hl 2 rfl) ?_
        refine lv_iadd hx hb dX8_delay_55 ?_
        refine lv_iload_n hx hb dX8_delay_56 rfl (lv_at hl 3 rfl) ?_
        refine lv_iconst (v := 1) hx hb dX8_delay_57 (by decide) ?_
        refine lv_iadd hx hb dX8_delay_58 ?_
        obtain ⟨g_19, hf⟩ := gk_s hf
        refine va_iast hx hb hK hP hD hS 2 0 rfl rfl g_19 dX8_delay_59 (fun H locs hP hD hS => ?_)
        have hP : va_P E.1 vwCl (w_Mo E m0 m1 m2 m3 m4 m5 m6 m7 m8 m9 m10 m11 m_length m_places m_most m_tenths m_changes_17 m_readPlaces m_value m_ends m_clusters_8 m_text (upd m_now (256 + a1).toNatClampNeg (a2 + 1)) m_read m_was_18 m_readRule m_dist_9 m_delays_10 m_fractions_11 m_head_12 m_hour_13 m_number_14) H := hP
        have hD : va_D A (w_Mo E m0 m1 m2 m3 m4 m5 m6 m7 m8 m9 m10 m11 m_length m_places m_most m_tenths m_changes_17 m_readPlaces m_value m_ends m_clusters_8 m_text (upd m_now (256 + a1).toNatClampNeg (a2 + 1)) m_read m_was_18 m_readRule m_dist_9 m_delays_10 m_fractions_11 m_head_12 m_hour_13 m_number_14) := hD
        refine lv_aload_n hx hb dX8_delay_60 rfl (lv_at hl 1 rfl) ?_
        refine va_get (D := E.1) (ci := 8) (v := .ref m2) (C := RX8) (T := TX8) (N := 20) hx hb hts in_X8_delay_X8 hown hK hP 0 rfl rfl 5 (by decide) q_1 (fun _ h9 => h9) rfl dX8_delay_61 ?_
        refine lv_sipush (v := 272) hx hb dX8_delay_64 (by decide) ?_
        refine lv_iload_n hx hb dX8_delay_67 rfl (lv_at hl 2 rfl) ?_
        refine lv_iadd hx hb dX8_delay_68 ?_
        refine lv_iload_n hx hb dX8_delay_69 rfl (lv_at hl 4 rfl) ?_
        obtain ⟨g_20, hf⟩ := gk_s hf
        refine va_iast hx hb hK hP hD hS 2 0 rfl rfl g_20 dX8_delay_70 (fun H locs hP hD hS => ?_)
        have hP : va_P E.1 vwCl (w_Mo E m0 m1 m2 m3 m4 m5 m6 m7 m8 m9 m10 m11 m_length m_places m_most m_tenths m_changes_17 m_readPlaces m_value m_ends m_clusters_8 m_text (upd (upd m_now (256 + a1).toNatClampNeg (a2 + 1)) (272 + a1).toNatClampNeg a3) m_read m_was_18 m_readRule m_dist_9 m_delays_10 m_fractions_11 m_head_12 m_hour_13 m_number_14) H := hP
        have hD : va_D A (w_Mo E m0 m1 m2 m3 m4 m5 m6 m7 m8 m9 m10 m11 m_length m_places m_most m_tenths m_changes_17 m_readPlaces m_value m_ends m_clusters_8 m_text (upd (upd m_now (256 + a1).toNatClampNeg (a2 + 1)) (272 + a1).toNatClampNeg a3) m_read m_was_18 m_readRule m_dist_9 m_delays_10 m_fractions_11 m_head_12 m_hour_13 m_number_14) := hD
        refine lv_iload hx hb dX8_delay_71 (lv_at hl 0 rfl) ?_
        exact hret H locs ls 73 (m_delays_10 a1.toNatClampNeg) (m_changes_17, m_clusters_8, (upd (upd m_now (256 + a1).toNatClampNeg (a2 + 1)) (272 + a1).toNatClampNeg a3), m_was_18, m_dist_9, m_delays_10, m_fractions_11, m_head_12, m_hour_13, m_number_14) dX8_delay_73 (Option.some.inj hf) hP hD hS
      · have hf := ite_t c_21 hf
        refine lv_iconst (v := (-1)) hx hb dX8_delay_29 (by decide) ?_
        exact hret H locs ls 30 (-1) (m_changes, m_clusters, m_now, m_was, m_dist, m_delays, m_fractions, m_head, m_hour, m_number) dX8_delay_30 (Option.some.inj hf) hP hD hS
abbrev rm_Mo_drawn : Room := { frames := 2, cells := 0, slots := 0, locals := 47 }
theorem hd_Mo_drawn : hdOK yX8_drawn 1 := by decide +kernel
theorem in_X8_drawn_X8 : ∀ w ∈ wsX80, w ∈ wsX8_drawn := by decide +kernel
set_option maxRecDepth 100000 in
set_option maxHeartbeats 4000000 in
theorem c_Mo_drawn (l : Launch) (E : En4) (m0 m1 m2 m3 m4 m5 m6 m7 m8 m9 m10 m11 : Nat) (sz : Nat) (m_length : Int32) (m_places : Int32) (m_most : Int32) (m_tenths : Int32) (m_changes : Int32) (m_readPlaces : Int32) (m_value : Int32) (m_ends : Int32) (m_clusters : Int32) (m_text : Nat → Int32) (m_now : Nat → Int32) (m_read : Nat → Int32) (m_was : Nat → Int32) (m_readRule : Nat → Int32) (m_dist : Nat → Int32) (m_delays : Nat → Int32) (m_fractions : Nat → Int32) (m_head : Nat → Int32) (m_hour : Nat → Int32) (m_number : Nat → Int32) (a1 : Int32)  (res : Int32 × Int32 × (Nat → Int32) × (Nat → Int32)) (hf : Mo_drawn m_places m_most m_tenths m_changes m_now m_was a1 = some res) : Met l yX8_drawn wsX8_drawn rm_Mo_drawn (pcM [.ref m0, .int a1] E sz (w_Mo E m0 m1 m2 m3 m4 m5 m6 m7 m8 m9 m10 m11 m_length m_places m_most m_tenths m_changes m_readPlaces m_value m_ends m_clusters m_text m_now m_read m_was m_readRule m_dist m_delays m_fractions m_head m_hour m_number)) (QMi E sz (w_Mo E m0 m1 m2 m3 m4 m5 m6 m7 m8 m9 m10 m11 m_length m_places m_most m_tenths m_changes m_readPlaces m_value m_ends m_clusters m_text m_now m_read m_was m_readRule m_dist m_delays m_fractions m_head m_hour m_number) (fun (u : Int32 × (Nat → Int32) × (Nat → Int32)) => (w_Mo E m0 m1 m2 m3 m4 m5 m6 m7 m8 m9 m10 m11 m_length m_places m_most m_tenths u.1 m_readPlaces m_value m_ends m_clusters m_text u.2.1 m_read u.2.2 m_readRule m_dist m_delays m_fractions m_head m_hour m_number)) res) 0 0 (va_A (w_Mo E m0 m1 m2 m3 m4 m5 m6 m7 m8 m9 m10 m11 m_length m_places m_most m_tenths m_changes m_readPlaces m_value m_ends m_clusters m_text m_now m_read m_was m_readRule m_dist m_delays m_fractions m_head m_hour m_number) sz) := by
  refine mk_Mi (cc := cX8_drawn) (maxL := 2) (by decide) rfl (Nat.le_of_ble_eq_true rfl) ?_
  intro p e s m args below meth c Q A S hKN hA hret H locs ls hP hD hS hl
  obtain ⟨hx, hb, hml, hown, hts⟩ := S
  obtain ⟨hK, hN⟩ := hKN
  have hl : lv_has ls 2 [(0, .ref m0), (1, .int a1)] := hl
  have q_0 := hts (.fieldLink RX8 13 "DelayClustersModel" "now" "[I") (by decide +kernel)
  unfold Mo_drawn at hf
  refine lv_aload_n hx hb dX8_drawn_0 rfl (lv_at hl 0 rfl) ?_
  refine lv_iload_n hx hb dX8_drawn_1 rfl (lv_at hl 1 rfl) ?_
  obtain ⟨r_2, h_1, hf⟩ := bd_s hf
  refine ca_V (As := [.int a1]) (rest := []) ⟨hx, hb, hml, hown, hts⟩ ⟨hK, hN⟩ hP (c_Mo_isPlace l E m0 m1 m2 m3 m4 m5 m6 m7 m8 m9 m10 m11 m_length m_places m_most m_tenths m_changes m_readPlaces m_value m_ends m_clusters m_text m_now m_read m_was m_readRule m_dist m_delays m_fractions m_head m_hour m_number a1 r_2 h_1) [0, 1, 2, 3, 4, 5, 6, 7, 8, 9, 10, 11] rfl 8 0 rfl rfl rfl gX8_drawn_X8_isPlace rfl rfl rfl rfl hd_Mo_isPlace ⟨(Nat.le_of_ble_eq_true rfl), (Nat.le_of_ble_eq_true rfl)⟩ rfl hl.1 rfl (Nat.le_of_ble_eq_true rfl) dX8_drawn_2 ⟨(Nat.zero_le _), (Nat.zero_le _)⟩ ?_
  refine lv_if_ne (tgt := 10) hx hb dX8_drawn_5 (by decide) (fun c_11 => ?_) (fun c_11 => ?_)
  · have hf := ite_f c_11 hf
    refine lv_aload_n hx hb dX8_drawn_10 rfl (lv_at hl 0 rfl) ?_
    refine va_get (D := E.1) (ci := 8) (v := .ref m2) (C := RX8) (T := TX8) (N := 20) hx hb hts in_X8_drawn_X8 hown hK hP 0 rfl rfl 5 (by decide) q_0 (fun _ h9 => h9) rfl dX8_drawn_11 ?_
    refine lv_sipush (v := 256) hx hb dX8_drawn_14 (by decide) ?_
    refine lv_iload_n hx hb dX8_drawn_17 rfl (lv_at hl 1 rfl) ?_
    refine lv_iadd hx hb dX8_drawn_18 ?_
    obtain ⟨g_3, hf⟩ := gk_s hf
    refine va_iald hx hb hK hP 2 0 rfl rfl g_3 dX8_drawn_19 ?_
    refine lv_if_ne (tgt := 26) hx hb dX8_drawn_20 (by decide) (fun c_10 => ?_) (fun c_10 => ?_)
    · have hf := ite_f c_10 hf
      refine lv_aload_n hx hb dX8_drawn_26 rfl (lv_at hl 0 rfl) ?_
      obtain ⟨⟨m_changes_5, m_was_6⟩, h_4, hf⟩ := bd_s hf
      try dsimp only at hf
      refine ca_Mv (w2 := (w_Mo E m0 m1 m2 m3 m4 m5 m6 m7 m8 m9 m10 m11 m_length m_places m_most m_tenths m_changes_5 m_readPlaces m_value m_ends m_clusters m_text m_now m_read m_was_6 m_readRule m_dist m_delays m_fractions m_head m_hour m_number)) (As := []) (rest := []) ⟨hx, hb, hml, hown, hts⟩ ⟨hK, hN⟩ hP hD hS hA (c_Mo_keeps l E m0 m1 m2 m3 m4 m5 m6 m7 m8 m9 m10 m11 H.size m_length m_places m_most m_tenths m_changes m_readPlaces m_value m_ends m_clusters m_text m_now m_read m_was m_readRule m_dist m_delays m_fractions m_head m_hour m_number (m_changes_5, m_was_6) h_4) [0, 1, 2, 3, 4, 5, 6, 7, 8, 9, 10, 11] [] [0, 1, 2, 3, 4, 5, 6, 7, 8, 9, 10, 11] rfl rfl rfl rfl (by decide) rfl rfl 8 0 rfl rfl rfl gX8_drawn_X8_keeps rfl rfl rfl rfl hd_Mo_keeps ⟨(Nat.le_of_ble_eq_true rfl), (Nat.le_of_ble_eq_true rfl)⟩ rfl hl.1 rfl (Nat.le_of_ble_eq_true rfl) dX8_drawn_27 ⟨(Nat.zero_le _), (Nat.zero_le _)⟩ (fun H locs hP hD hS => ?_)
      refine lv_aload_n hx hb dX8_drawn_30 rfl (lv_at hl 0 rfl) ?_
      refine va_get (D := E.1) (ci := 8) (v := .ref m2) (C := RX8) (T := TX8) (N := 20) hx hb hts in_X8_drawn_X8 hown hK hP 0 rfl rfl 5 (by decide) q_0 (fun _ h9 => h9) rfl dX8_drawn_31 ?_
      refine lv_sipush (v := 256) hx hb dX8_drawn_34 (by decide) ?_
      refine lv_iload_n hx hb dX8_drawn_37 rfl (lv_at hl 1 rfl) ?_
      refine lv_iadd hx hb dX8_drawn_38 ?_
      refine lv_iconst (v := 0) hx hb dX8_drawn_39 (by decide) ?_
      obtain ⟨g_7, hf⟩ := gk_s hf
      refine va_iast hx hb hK hP hD hS 2 0 rfl rfl g_7 dX8_drawn_40 (fun H locs hP hD hS => ?_)
      have hP : va_P E.1 vwCl (w_Mo E m0 m1 m2 m3 m4 m5 m6 m7 m8 m9 m10 m11 m_length m_places m_most m_tenths m_changes_5 m_readPlaces m_value m_ends m_clusters m_text (upd m_now (256 + a1).toNatClampNeg 0) m_read m_was_6 m_readRule m_dist m_delays m_fractions m_head m_hour m_number) H := hP
      have hD : va_D A (w_Mo E m0 m1 m2 m3 m4 m5 m6 m7 m8 m9 m10 m11 m_length m_places m_most m_tenths m_changes_5 m_readPlaces m_value m_ends m_clusters m_text (upd m_now (256 + a1).toNatClampNeg 0) m_read m_was_6 m_readRule m_dist m_delays m_fractions m_head m_hour m_number) := hD
      refine lv_aload_n hx hb dX8_drawn_41 rfl (lv_at hl 0 rfl) ?_
      refine lv_aload_n hx hb dX8_drawn_42 rfl (lv_at hl 0 rfl) ?_
      refine va_get (D := E.1) (ci := 8) (v := .ref m2) (C := RX8) (T := TX8) (N := 20) hx hb hts in_X8_drawn_X8 hown hK hP 0 rfl rfl 5 (by decide) q_0 (fun _ h9 => h9) rfl dX8_drawn_43 ?_
      refine lv_sipush (v := 288) hx hb dX8_drawn_46 (by decide) ?_
      refine va_iald hx hb hK hP 2 0 rfl rfl (ck_in (by decide)) dX8_drawn_49 ?_
      refine lv_iload_n hx hb dX8_drawn_50 rfl (lv_at hl 1 rfl) ?_
      obtain ⟨r_9, h_8, hf⟩ := bd_s hf
      refine ca_V (As := [.int ((upd m_now (256 + a1).toNatClampNeg 0) (288 : Int32).toNatClampNeg), .int a1]) (rest := []) ⟨hx, hb, hml, hown, hts⟩ ⟨hK, hN⟩ hP (c_Mo_drawnDelay l E m0 m1 m2 m3 m4 m5 m6 m7 m8 m9 m10 m11 m_length m_places m_most m_tenths m_changes_5 m_readPlaces m_value m_ends m_clusters m_text (upd m_now (256 + a1).toNatClampNeg 0) m_read m_was_6 m_readRule m_dist m_delays m_fractions m_head m_hour m_number ((upd m_now (256 + a1).toNatClampNeg 0) (288 : Int32).toNatClampNeg) a1 r_9 h_8) [0, 1, 2, 3, 4, 5, 6, 7, 8, 9, 10, 11] rfl 8 0 rfl rfl rfl gX8_drawn_X8_drawnDelay rfl rfl rfl rfl hd_Mo_drawnDelay ⟨(Nat.le_of_ble_eq_true rfl), (Nat.le_of_ble_eq_true rfl)⟩ rfl hl.1 rfl (Nat.le_of_ble_eq_true rfl) dX8_drawn_51 ⟨(Nat.zero_le _), (Nat.zero_le _)⟩ ?_
      exact hret H locs ls 54 r_9 (m_changes_5, (upd m_now (256 + a1).toNatClampNeg 0), m_was_6) dX8_drawn_54 (Option.some.inj hf) hP hD hS
    · have hf := ite_t c_10 hf
      refine lv_bipush (v := (-2)) hx hb dX8_drawn_23 (by decide) ?_
      exact hret H locs ls 25 (-2) (m_changes, m_now, m_was) dX8_drawn_25 (Option.some.inj hf) hP hD hS
  · have hf := ite_t c_11 hf
    refine lv_iconst (v := (-1)) hx hb dX8_drawn_8 (by decide) ?_
    exact hret H locs ls 9 (-1) (m_changes, m_now, m_was) dX8_drawn_9 (Option.some.inj hf) hP hD hS
abbrev rm_Mo_draws : Room := { frames := 1, cells := 0, slots := 0, locals := 22 }
theorem hd_Mo_draws : hdOK yX8_draws 1 := by decide +kernel
theorem in_X8_draws_X8 : ∀ w ∈ wsX80, w ∈ wsX8_draws := by decide +kernel
set_option maxRecDepth 100000 in
set_option maxHeartbeats 4000000 in
theorem c_Mo_draws (l : Launch) (E : En4) (m0 m1 m2 m3 m4 m5 m6 m7 m8 m9 m10 m11 : Nat) (sz : Nat) (m_length : Int32) (m_places : Int32) (m_most : Int32) (m_tenths : Int32) (m_changes : Int32) (m_readPlaces : Int32) (m_value : Int32) (m_ends : Int32) (m_clusters : Int32) (m_text : Nat → Int32) (m_now : Nat → Int32) (m_read : Nat → Int32) (m_was : Nat → Int32) (m_readRule : Nat → Int32) (m_dist : Nat → Int32) (m_delays : Nat → Int32) (m_fractions : Nat → Int32) (m_head : Nat → Int32) (m_hour : Nat → Int32) (m_number : Nat → Int32) (a1 : Int32)  (res : Int32 × Int32 × (Nat → Int32) × (Nat → Int32)) (hf : Mo_draws m_changes m_now m_was a1 = some res) : Met l yX8_draws wsX8_draws rm_Mo_draws (pcM [.ref m0, .int a1] E sz (w_Mo E m0 m1 m2 m3 m4 m5 m6 m7 m8 m9 m10 m11 m_length m_places m_most m_tenths m_changes m_readPlaces m_value m_ends m_clusters m_text m_now m_read m_was m_readRule m_dist m_delays m_fractions m_head m_hour m_number)) (QMi E sz (w_Mo E m0 m1 m2 m3 m4 m5 m6 m7 m8 m9 m10 m11 m_length m_places m_most m_tenths m_changes m_readPlaces m_value m_ends m_clusters m_text m_now m_read m_was m_readRule m_dist m_delays m_fractions m_head m_hour m_number) (fun (u : Int32 × (Nat → Int32) × (Nat → Int32)) => (w_Mo E m0 m1 m2 m3 m4 m5 m6 m7 m8 m9 m10 m11 m_length m_places m_most m_tenths u.1 m_readPlaces m_value m_ends m_clusters m_text u.2.1 m_read u.2.2 m_readRule m_dist m_delays m_fractions m_head m_hour m_number)) res) 0 0 (va_A (w_Mo E m0 m1 m2 m3 m4 m5 m6 m7 m8 m9 m10 m11 m_length m_places m_most m_tenths m_changes m_readPlaces m_value m_ends m_clusters m_text m_now m_read m_was m_readRule m_dist m_delays m_fractions m_head m_hour m_number) sz) := by
  refine mk_Mi (cc := cX8_draws) (maxL := 3) (by decide) rfl (Nat.le_of_ble_eq_true rfl) ?_
  intro p e s m args below meth c Q A S hKN hA hret H locs ls hP hD hS hl
  obtain ⟨hx, hb, hml, hown, hts⟩ := S
  obtain ⟨hK, hN⟩ := hKN
  have hl : lv_has ls 3 [(0, .ref m0), (1, .int a1)] := hl
  have q_0 := hts (.fieldLink RX8 13 "DelayClustersModel" "now" "[I") (by decide +kernel)
  unfold Mo_draws at hf
  refine lv_iload_n hx hb dX8_draws_0 rfl (lv_at hl 1 rfl) ?_
  refine lv_iconst (v := 0) hx hb dX8_draws_1 (by decide) ?_
  refine lv_sipush (v := 9999) hx hb dX8_draws_2 (by decide) ?_
  obtain ⟨r_2, h_1, hf⟩ := bd_s hf
  refine ca_S (As := [.int a1, .int 0, .int 9999]) (rest := []) ⟨hx, hb, hml, hown, hts⟩ ⟨hK, hN⟩ hP (c_Mo_isIn l E   a1 0 9999 r_2 h_1) [] rfl gX8_draws_X8_isIn rfl rfl rfl hd_Mo_isIn ⟨(Nat.le_of_ble_eq_true rfl), (Nat.le_of_ble_eq_true rfl)⟩ rfl hl.1 rfl (Nat.le_of_ble_eq_true rfl) dX8_draws_5 ⟨(Nat.zero_le _), (Nat.zero_le _)⟩ ?_
  refine lv_if_ne (tgt := 13) hx hb dX8_draws_8 (by decide) (fun c_7 => ?_) (fun c_7 => ?_)
  · have hf := ite_f c_7 hf
    refine lv_aload_n hx hb dX8_draws_13 rfl (lv_at hl 0 rfl) ?_
    refine va_get (D := E.1) (ci := 8) (v := .ref m2) (C := RX8) (T := TX8) (N := 20) hx hb hts in_X8_draws_X8 hown hK hP 0 rfl rfl 5 (by decide) q_0 (fun _ h9 => h9) rfl dX8_draws_14 ?_
    refine lv_sipush (v := 288) hx hb dX8_draws_17 (by decide) ?_
    refine va_iald hx hb hK hP 2 0 rfl rfl (ck_in (by decide)) dX8_draws_20 ?_
    refine lv_istore_n (lv' := [(2, .int (m_now (288 : Int32).toNatClampNeg)), (0, .ref m0), (1, .int a1)]) hx hb dX8_draws_21 rfl hl (by decide) rfl (fun ls hl => ?_)
    refine lv_iload_n hx hb dX8_draws_22 rfl (lv_at hl 0 rfl) ?_
    refine lv_iload_n hx hb dX8_draws_23 rfl (lv_at hl 2 rfl) ?_
    refine lv_icmp_ne (tgt := 30) hx hb dX8_draws_24 (by decide) (fun c_6 => ?_) (fun c_6 => ?_)
    · have hf := ite_f c_6 hf
      refine lv_aload_n hx hb dX8_draws_30 rfl (lv_at hl 1 rfl) ?_
      obtain ⟨⟨m_changes_4, m_was_5⟩, h_3, hf⟩ := bd_s hf
      try dsimp only at hf
      refine ca_Mv (w2 := (w_Mo E m0 m1 m2 m3 m4 m5 m6 m7 m8 m9 m10 m11 m_length m_places m_most m_tenths m_changes_4 m_readPlaces m_value m_ends m_clusters m_text m_now m_read m_was_5 m_readRule m_dist m_delays m_fractions m_head m_hour m_number)) (As := []) (rest := []) ⟨hx, hb, hml, hown, hts⟩ ⟨hK, hN⟩ hP hD hS hA (c_Mo_keeps l E m0 m1 m2 m3 m4 m5 m6 m7 m8 m9 m10 m11 H.size m_length m_places m_most m_tenths m_changes m_readPlaces m_value m_ends m_clusters m_text m_now m_read m_was m_readRule m_dist m_delays m_fractions m_head m_hour m_number (m_changes_4, m_was_5) h_3) [0, 1, 2, 3, 4, 5, 6, 7, 8, 9, 10, 11] [] [0, 1, 2, 3, 4, 5, 6, 7, 8, 9, 10, 11] rfl rfl rfl rfl (by decide) rfl rfl 8 0 rfl rfl rfl gX8_draws_X8_keeps rfl rfl rfl rfl hd_Mo_keeps ⟨(Nat.le_of_ble_eq_true rfl), (Nat.le_of_ble_eq_true rfl)⟩ rfl hl.1 rfl (Nat.le_of_ble_eq_true rfl) dX8_draws_31 ⟨(Nat.zero_le _), (Nat.zero_le _)⟩ (fun H locs hP hD hS => ?_)
      refine lv_aload_n hx hb dX8_draws_34 rfl (lv_at hl 1 rfl) ?_
      refine va_get (D := E.1) (ci := 8) (v := .ref m2) (C := RX8) (T := TX8) (N := 20) hx hb hts in_X8_draws_X8 hown hK hP 0 rfl rfl 5 (by decide) q_0 (fun _ h9 => h9) rfl dX8_draws_35 ?_
      refine lv_sipush (v := 288) hx hb dX8_draws_38 (by decide) ?_
      refine lv_iload_n hx hb dX8_draws_41 rfl (lv_at hl 2 rfl) ?_
      refine va_iast hx hb hK hP hD hS 2 0 rfl rfl (ck_in (by decide)) dX8_draws_42 (fun H locs hP hD hS => ?_)
      have hP : va_P E.1 vwCl (w_Mo E m0 m1 m2 m3 m4 m5 m6 m7 m8 m9 m10 m11 m_length m_places m_most m_tenths m_changes_4 m_readPlaces m_value m_ends m_clusters m_text (upd m_now (288 : Int32).toNatClampNeg a1) m_read m_was_5 m_readRule m_dist m_delays m_fractions m_head m_hour m_number) H := hP
      have hD : va_D A (w_Mo E m0 m1 m2 m3 m4 m5 m6 m7 m8 m9 m10 m11 m_length m_places m_most m_tenths m_changes_4 m_readPlaces m_value m_ends m_clusters m_text (upd m_now (288 : Int32).toNatClampNeg a1) m_read m_was_5 m_readRule m_dist m_delays m_fractions m_head m_hour m_number) := hD
      refine lv_iload_n hx hb dX8_draws_43 rfl (lv_at hl 0 rfl) ?_
      exact hret H locs ls 44 (m_now (288 : Int32).toNatClampNeg) (m_changes_4, (upd m_now (288 : Int32).toNatClampNeg a1), m_was_5) dX8_draws_44 (Option.some.inj hf) hP hD hS
    · have hf := ite_t c_6 hf
      refine lv_bipush (v := (-2)) hx hb dX8_draws_27 (by decide) ?_
      exact hret H locs ls 29 (-2) (m_changes, m_now, m_was) dX8_draws_29 (Option.some.inj hf) hP hD hS
  · have hf := ite_t c_7 hf
    refine lv_iconst (v := (-1)) hx hb dX8_draws_11 (by decide) ?_
    exact hret H locs ls 12 (-1) (m_changes, m_now, m_was) dX8_draws_12 (Option.some.inj hf) hP hD hS
abbrev rm_Mo_place : Room := { frames := 4, cells := 0, slots := 0, locals := 95 }
theorem hd_Mo_place : hdOK yX8_place 2 := by decide +kernel
theorem in_X8_place_X8 : ∀ w ∈ wsX80, w ∈ wsX8_place := by decide +kernel
set_option maxRecDepth 100000 in
set_option maxHeartbeats 4000000 in
theorem c_Mo_place (l : Launch) (E : En4) (m0 m1 m2 m3 m4 m5 m6 m7 m8 m9 m10 m11 : Nat) (sz : Nat) (m_length : Int32) (m_places : Int32) (m_most : Int32) (m_tenths : Int32) (m_changes : Int32) (m_readPlaces : Int32) (m_value : Int32) (m_ends : Int32) (m_clusters : Int32) (m_text : Nat → Int32) (m_now : Nat → Int32) (m_read : Nat → Int32) (m_was : Nat → Int32) (m_readRule : Nat → Int32) (m_dist : Nat → Int32) (m_delays : Nat → Int32) (m_fractions : Nat → Int32) (m_head : Nat → Int32) (m_hour : Nat → Int32) (m_number : Nat → Int32) (a1 : Int32) (a2 : Int32)  (res : Int32 × Int32 × (Nat → Int32) × (Nat → Int32) × (Nat → Int32) × (Nat → Int32) × (Nat → Int32) × (Nat → Int32)) (hf : Mo_place m_places m_most m_tenths m_clusters m_now m_dist m_delays m_fractions m_head m_hour m_number a1 a2 = some res) : Met l yX8_place wsX8_place rm_Mo_place (pcM [.ref m0, .int a1, .int a2] E sz (w_Mo E m0 m1 m2 m3 m4 m5 m6 m7 m8 m9 m10 m11 m_length m_places m_most m_tenths m_changes m_readPlaces m_value m_ends m_clusters m_text m_now m_read m_was m_readRule m_dist m_delays m_fractions m_head m_hour m_number)) (QMi E sz (w_Mo E m0 m1 m2 m3 m4 m5 m6 m7 m8 m9 m10 m11 m_length m_places m_most m_tenths m_changes m_readPlaces m_value m_ends m_clusters m_text m_now m_read m_was m_readRule m_dist m_delays m_fractions m_head m_hour m_number) (fun (u : Int32 × (Nat → Int32) × (Nat → Int32) × (Nat → Int32) × (Nat → Int32) × (Nat → Int32) × (Nat → Int32)) => (w_Mo E m0 m1 m2 m3 m4 m5 m6 m7 m8 m9 m10 m11 m_length m_places m_most m_tenths m_changes m_readPlaces m_value m_ends u.1 m_text m_now m_read m_was m_readRule u.2.1 u.2.2.1 u.2.2.2.1 u.2.2.2.2.1 u.2.2.2.2.2.1 u.2.2.2.2.2.2)) res) 0 0 (va_A (w_Mo E m0 m1 m2 m3 m4 m5 m6 m7 m8 m9 m10 m11 m_length m_places m_most m_tenths m_changes m_readPlaces m_value m_ends m_clusters m_text m_now m_read m_was m_readRule m_dist m_delays m_fractions m_head m_hour m_number) sz) := by
  refine mk_Mi (cc := cX8_place) (maxL := 5) (by decide) rfl (Nat.le_of_ble_eq_true rfl) ?_
  intro p e s m args below meth c Q A S hKN hA hret H locs ls hP hD hS hl
  obtain ⟨hx, hb, hml, hown, hts⟩ := S
  obtain ⟨hK, hN⟩ := hKN
  have hl : lv_has ls 5 [(0, .ref m0), (1, .int a1), (2, .int a2)] := hl
  have q_0 := hts (.fieldLink RX8 28 "DelayClustersModel" "delays" "[I") (by decide +kernel)
  have q_1 := hts (.fieldLink RX8 31 "DelayClustersModel" "fractions" "[I") (by decide +kernel)
  have q_2 := hts (.fieldLink RX8 13 "DelayClustersModel" "now" "[I") (by decide +kernel)
  have q_3 := hts (.fieldLink RX8 34 "DelayClustersModel" "head" "[I") (by decide +kernel)
  have q_4 := hts (.fieldLink RX8 40 "DelayClustersModel" "number" "[I") (by decide +kernel)
  have q_5 := hts (.fieldLink RX8 37 "DelayClustersModel" "hour" "[I") (by decide +kernel)
  have q_6 := hts (.fieldLink RX8 57 "DelayClustersModel" "places" "I") (by decide +kernel)
  unfold Mo_place at hf
  refine lv_aload_n hx hb dX8_place_0 rfl (lv_at hl 0 rfl) ?_
  refine lv_iload_n hx hb dX8_place_1 rfl (lv_at hl 1 rfl) ?_
  obtain ⟨r_2, h_1, hf⟩ := bd_s hf
  refine ca_V (As := [.int a1]) (rest := []) ⟨hx, hb, hml, hown, hts⟩ ⟨hK, hN⟩ hP (c_Mo_isPlace l E m0 m1 m2 m3 m4 m5 m6 m7 m8 m9 m10 m11 m_length m_places m_most m_tenths m_changes m_readPlaces m_value m_ends m_clusters m_text m_now m_read m_was m_readRule m_dist m_delays m_fractions m_head m_hour m_number a1 r_2 h_1) [0, 1, 2, 3, 4, 5, 6, 7, 8, 9, 10, 11] rfl 8 0 rfl rfl rfl gX8_place_X8_isPlace rfl rfl rfl rfl hd_Mo_isPlace ⟨(Nat.le_of_ble_eq_true rfl), (Nat.le_of_ble_eq_true rfl)⟩ rfl hl.1 rfl (Nat.le_of_ble_eq_true rfl) dX8_place_2 ⟨(Nat.zero_le _), (Nat.zero_le _)⟩ ?_
  refine lv_if_eq (tgt := 18) hx hb dX8_place_5 (by decide) (fun c_44 => ?_) (fun c_44 => ?_)
  · have hf := ite_t c_44 hf
    refine lv_iconst (v := (-1)) hx hb dX8_place_18 (by decide) ?_
    exact hret H locs ls 19 (-1) (m_clusters, m_dist, m_delays, m_fractions, m_head, m_hour, m_number) dX8_place_19 (Option.some.inj hf) hP hD hS
  · have hf := ite_f c_44 hf
    refine lv_iload_n hx hb dX8_place_8 rfl (lv_at hl 2 rfl) ?_
    refine lv_iconst (v := 0) hx hb dX8_place_9 (by decide) ?_
    refine lv_bipush (v := 9) hx hb dX8_place_10 (by decide) ?_
    obtain ⟨r_4, h_3, hf⟩ := bd_s hf
    refine ca_S (As := [.int a2, .int 0, .int 9]) (rest := []) ⟨hx, hb, hml, hown, hts⟩ ⟨hK, hN⟩ hP (c_Mo_isIn l E   a2 0 9 r_4 h_3) [] rfl gX8_place_X8_isIn rfl rfl rfl hd_Mo_isIn ⟨(Nat.le_of_ble_eq_true rfl), (Nat.le_of_ble_eq_true rfl)⟩ rfl hl.1 rfl (Nat.le_of_ble_eq_true rfl) dX8_place_12 ⟨(Nat.zero_le _), (Nat.zero_le _)⟩ ?_
    refine lv_if_ne (tgt := 20) hx hb dX8_place_15 (by decide) (fun c_43 => ?_) (fun c_43 => ?_)
    · have hf := ite_f c_43 hf
      refine lv_aload_n hx hb dX8_place_20 rfl (lv_at hl 0 rfl) ?_
      obtain ⟨⟨m_clusters_6, m_dist_7, m_delays_8, m_fractions_9, m_head_10, m_hour_11, m_number_12⟩, h_5, hf⟩ := bd_s hf
      try dsimp only at hf
      refine ca_Mv (w2 := (w_Mo E m0 m1 m2 m3 m4 m5 m6 m7 m8 m9 m10 m11 m_length m_places m_most m_tenths m_changes m_readPlaces m_value m_ends m_clusters_6 m_text m_now m_read m_was m_readRule m_dist_7 m_delays_8 m_fractions_9 m_head_10 m_hour_11 m_number_12)) (As := []) (rest := []) ⟨hx, hb, hml, hown, hts⟩ ⟨hK, hN⟩ hP hD hS hA (c_Mo_settle l E m0 m1 m2 m3 m4 m5 m6 m7 m8 m9 m10 m11 H.size m_length m_places m_most m_tenths m_changes m_readPlaces m_value m_ends m_clusters m_text m_now m_read m_was m_readRule m_dist m_delays m_fractions m_head m_hour m_number (m_clusters_6, m_dist_7, m_delays_8, m_fractions_9, m_head_10, m_hour_11, m_number_12) h_5) [0, 1, 2, 3, 4, 5, 6, 7, 8, 9, 10, 11] [] [0, 1, 2, 3, 4, 5, 6, 7, 8, 9, 10, 11] rfl rfl rfl rfl (by decide) rfl rfl 8 0 rfl rfl rfl gX8_place_X8_settle rfl rfl rfl rfl hd_Mo_settle ⟨(Nat.le_of_ble_eq_true rfl), (Nat.le_of_ble_eq_true rfl)⟩ rfl hl.1 rfl (Nat.le_of_ble_eq_true rfl) dX8_place_21 ⟨(Nat.zero_le _), (Nat.zero_le _)⟩ (fun H locs hP hD hS => ?_)
      refine lv_iload_n hx hb dX8_place_24 rfl (lv_at hl 2 rfl) ?_
      by_cases c_14 : a2 = 0
      · have hf := ite_t c_14 hf
        refine lv_tableIn (off := 51) (tgt := 76) hx hb dX8_place_25 (by rw [c_14]; decide) (by rw [c_14]; decide) (by rw [c_14]; rfl) (by decide) ?_
        refine lv_aload_n hx hb dX8_place_76 rfl (lv_at hl 0 rfl) ?_
        refine va_get (D := E.1) (ci := 8) (v := .ref m7) (C := RX8) (T := TX8) (N := 20) hx hb hts in_X8_place_X8 hown hK hP 0 rfl rfl 14 (by decide) q_0 (fun _ h9 => h9) rfl dX8_place_77 ?_
        refine lv_iload_n hx hb dX8_place_80 rfl (lv_at hl 1 rfl) ?_
        obtain ⟨g_13, hf⟩ := gk_s hf
        refine va_iald hx hb hK hP 7 0 rfl rfl g_13 dX8_place_81 ?_
        exact hret H locs ls 82 (m_delays_8 a1.toNatClampNeg) (m_clusters_6, m_dist_7, m_delays_8, m_fractions_9, m_head_10, m_hour_11, m_number_12) dX8_place_82 (Option.some.inj hf) hP hD hS
      · have hf := ite_f c_14 hf
        by_cases c_16 : a2 = 1
        · have hf := ite_t c_16 hf
          refine lv_tableIn (off := 58) (tgt := 83) hx hb dX8_place_25 (by rw [c_16]; decide) (by rw [c_16]; decide) (by rw [c_16]; rfl) (by decide) ?_
          refine lv_aload_n hx hb dX8_place_83 rfl (lv_at hl 0 rfl) ?_
          refine va_get (D := E.1) (ci := 8) (v := .ref m8) (C := RX8) (T := TX8) (N := 20) hx hb hts in_X8_place_X8 hown hK hP 0 rfl rfl 15 (by decide) q_1 (fun _ h9 => h9) rfl dX8_place_84 ?_
          refine lv_iload_n hx hb dX8_place_87 rfl (lv_at hl 1 rfl) ?_
          obtain ⟨g_15, hf⟩ := gk_s hf
          refine va_iald hx hb hK hP 8 0 rfl rfl g_15 dX8_place_88 ?_
          exact hret H locs ls 89 (m_fractions_9 a1.toNatClampNeg) (m_clusters_6, m_dist_7, m_delays_8, m_fractions_9, m_head_10, m_hour_11, m_number_12) dX8_place_89 (Option.some.inj hf) hP hD hS
        · have hf := ite_f c_16 hf
          by_cases c_19 : a2 = 2
          · have hf := ite_t c_19 hf
            refine lv_tableIn (off := 65) (tgt := 90) hx hb dX8_place_25 (by rw [c_19]; decide) (by rw [c_19]; decide) (by rw [c_19]; rfl) (by decide) ?_
            refine lv_aload_n hx hb dX8_place_90 rfl (lv_at hl 0 rfl) ?_
            refine va_get (D := E.1) (ci := 8) (v := .ref m2) (C := RX8) (T := TX8) (N := 20) hx hb hts in_X8_place_X8 hown hK hP 0 rfl rfl 5 (by decide) q_2 (fun _ h9 => h9) rfl dX8_place_91 ?_
            refine lv_sipush (v := 256) hx hb dX8_place_94 (by decide) ?_
            refine lv_iload_n hx hb dX8_place_97 rfl (lv_at hl 1 rfl) ?_
            refine lv_iadd hx hb dX8_place_98 ?_
            obtain ⟨g_17, hf⟩ := gk_s hf
            refine va_iald hx hb hK hP 2 0 rfl rfl g_17 dX8_place_99 ?_
            refine lv_if_le (tgt := 107) hx hb dX8_place_100 (by decide) (fun c_18 => ?_) (fun c_18 => ?_)
            · have hf := ite_t c_18 hf
              refine lv_iconst (v := 0) hx hb dX8_place_107 (by decide) ?_
              exact hret H locs ls 108 0 (m_clusters_6, m_dist_7, m_delays_8, m_fractions_9, m_head_10, m_hour_11, m_number_12) dX8_place_108 (Option.some.inj hf) hP hD hS
            · have hf := ite_f c_18 hf
              refine lv_iconst (v := 1) hx hb dX8_place_103 (by decide) ?_
              refine lv_goto (tgt := 108) hx hb dX8_place_104 (by decide) ?_
              exact hret H locs ls 108 1 (m_clusters_6, m_dist_7, m_delays_8, m_fractions_9, m_head_10, m_hour_11, m_number_12) dX8_place_108 (Option.some.inj hf) hP hD hS
          · have hf := ite_f c_19 hf
            by_cases c_23 : a2 = 3
            · have hf := ite_t c_23 hf
              refine lv_tableIn (off := 84) (tgt := 109) hx hb dX8_place_25 (by rw [c_23]; decide) (by rw [c_23]; decide) (by rw [c_23]; rfl) (by decide) ?_
              refine lv_aload_n hx hb dX8_place_109 rfl (lv_at hl 0 rfl) ?_
              obtain ⟨r_21, h_20, hf⟩ := bd_s hf
              refine ca_V (As := []) (rest := []) ⟨hx, hb, hml, hown, hts⟩ ⟨hK, hN⟩ hP (c_Mo_greatest l E m0 m1 m2 m3 m4 m5 m6 m7 m8 m9 m10 m11 m_length m_places m_most m_tenths m_changes m_readPlaces m_value m_ends m_clusters_6 m_text m_now m_read m_was m_readRule m_dist_7 m_delays_8 m_fractions_9 m_head_10 m_hour_11 m_number_12 r_21 h_20) [0, 1, 2, 3, 4, 5, 6, 7, 8, 9, 10, 11] rfl 8 0 rfl rfl rfl gX8_place_X8_greatest rfl rfl rfl rfl hd_Mo_greatest ⟨(Nat.le_of_ble_eq_true rfl), (Nat.le_of_ble_eq_true rfl)⟩ rfl hl.1 rfl (Nat.le_of_ble_eq_true rfl) dX8_place_110 ⟨(Nat.zero_le _), (Nat.zero_le _)⟩ ?_
              refine lv_aload_n hx hb dX8_place_113 rfl (lv_at hl 0 rfl) ?_
              refine va_get (D := E.1) (ci := 8) (v := .ref m7) (C := RX8) (T := TX8) (N := 20) hx hb hts in_X8_place_X8 hown hK hP 0 rfl rfl 14 (by decide) q_0 (fun _ h9 => h9) rfl dX8_place_114 ?_
              refine lv_iload_n hx hb dX8_place_117 rfl (lv_at hl 1 rfl) ?_
              obtain ⟨g_22, hf⟩ := gk_s hf
              refine va_iald hx hb hK hP 7 0 rfl rfl g_22 dX8_place_118 ?_
              refine lv_isub hx hb dX8_place_119 ?_
              exact hret H locs ls 120 (r_21 - (m_delays_8 a1.toNatClampNeg)) (m_clusters_6, m_dist_7, m_delays_8, m_fractions_9, m_head_10, m_hour_11, m_number_12) dX8_place_120 (Option.some.inj hf) hP hD hS
            · have hf := ite_f c_23 hf
              by_cases c_25 : a2 = 4
              · have hf := ite_t c_25 hf
                refine lv_tableIn (off := 96) (tgt := 121) hx hb dX8_place_25 (by rw [c_25]; decide) (by rw [c_25]; decide) (by rw [c_25]; rfl) (by decide) ?_
                refine lv_aload_n hx hb dX8_place_121 rfl (lv_at hl 0 rfl) ?_
                refine va_get (D := E.1) (ci := 8) (v := .ref m9) (C := RX8) (T := TX8) (N := 20) hx hb hts in_X8_place_X8 hown hK hP 0 rfl rfl 16 (by decide) q_3 (fun _ h9 => h9) rfl dX8_place_122 ?_
                refine lv_iload_n hx hb dX8_place_125 rfl (lv_at hl 1 rfl) ?_
                obtain ⟨g_24, hf⟩ := gk_s hf
                refine va_iald hx hb hK hP 9 0 rfl rfl g_24 dX8_place_126 ?_
                exact hret H locs ls 127 (m_head_10 a1.toNatClampNeg) (m_clusters_6, m_dist_7, m_delays_8, m_fractions_9, m_head_10, m_hour_11, m_number_12) dX8_place_127 (Option.some.inj hf) hP hD hS
              · have hf := ite_f c_25 hf
                by_cases c_28 : a2 = 5
                · have hf := ite_t c_28 hf
                  refine lv_tableIn (off := 103) (tgt := 128) hx hb dX8_place_25 (by rw [c_28]; decide) (by rw [c_28]; decide) (by rw [c_28]; rfl) (by decide) ?_
                  refine lv_aload_n hx hb dX8_place_128 rfl (lv_at hl 0 rfl) ?_
                  refine va_get (D := E.1) (ci := 8) (v := .ref m11) (C := RX8) (T := TX8) (N := 20) hx hb hts in_X8_place_X8 hown hK hP 0 rfl rfl 18 (by decide) q_4 (fun _ h9 => h9) rfl dX8_place_129 ?_
                  refine lv_aload_n hx hb dX8_place_132 rfl (lv_at hl 0 rfl) ?_
                  refine va_get (D := E.1) (ci := 8) (v := .ref m9) (C := RX8) (T := TX8) (N := 20) hx hb hts in_X8_place_X8 hown hK hP 0 rfl rfl 16 (by decide) q_3 (fun _ h9 => h9) rfl dX8_place_133 ?_
                  refine lv_iload_n hx hb dX8_place_136 rfl (lv_at hl 1 rfl) ?_
                  obtain ⟨g_26, hf⟩ := gk_s hf
                  refine va_iald hx hb hK hP 9 0 rfl rfl g_26 dX8_place_137 ?_
                  obtain ⟨g_27, hf⟩ := gk_s hf
                  refine va_iald hx hb hK hP 11 0 rfl rfl g_27 dX8_place_138 ?_
                  exact hret H locs ls 139 (m_number_12 (m_head_10 a1.toNatClampNeg).toNatClampNeg) (m_clusters_6, m_dist_7, m_delays_8, m_fractions_9, m_head_10, m_hour_11, m_number_12) dX8_place_139 (Option.some.inj hf) hP hD hS
                · have hf := ite_f c_28 hf
                  by_cases c_31 : a2 = 6
                  · have hf := ite_t c_31 hf
                    refine lv_tableIn (off := 115) (tgt := 140) hx hb dX8_place_25 (by rw [c_31]; decide) (by rw [c_31]; decide) (by rw [c_31]; rfl) (by decide) ?_
                    refine lv_aload_n hx hb dX8_place_140 rfl (lv_at hl 0 rfl) ?_
                    refine lv_iload_n hx hb dX8_place_141 rfl (lv_at hl 1 rfl) ?_
                    obtain ⟨r_30, h_29, hf⟩ := bd_s hf
                    refine ca_V (As := [.int a1]) (rest := []) ⟨hx, hb, hml, hown, hts⟩ ⟨hK, hN⟩ hP (c_Mo_depth l E m0 m1 m2 m3 m4 m5 m6 m7 m8 m9 m10 m11 m_length m_places m_most m_tenths m_changes m_readPlaces m_value m_ends m_clusters_6 m_text m_now m_read m_was m_readRule m_dist_7 m_delays_8 m_fractions_9 m_head_10 m_hour_11 m_number_12 a1 r_30 h_29) [0, 1, 2, 3, 4, 5, 6, 7, 8, 9, 10, 11] rfl 8 0 rfl rfl rfl gX8_place_X8_depth rfl rfl rfl rfl hd_Mo_depth ⟨(Nat.le_of_ble_eq_true rfl), (Nat.le_of_ble_eq_true rfl)⟩ rfl hl.1 rfl (Nat.le_of_ble_eq_true rfl) dX8_place_142 ⟨(Nat.zero_le _), (Nat.zero_le _)⟩ ?_
                    exact hret H locs ls 145 r_30 (m_clusters_6, m_dist_7, m_delays_8, m_fractions_9, m_head_10, m_hour_11, m_number_12) dX8_place_145 (Option.some.inj hf) hP hD hS
                  · have hf := ite_f c_31 hf
                    by_cases c_33 : a2 = 7
                    · have hf := ite_t c_33 hf
                      refine lv_tableIn (off := 121) (tgt := 146) hx hb dX8_place_25 (by rw [c_33]; decide) (by rw [c_33]; decide) (by rw [c_33]; rfl) (by decide) ?_
                      refine lv_aload_n hx hb dX8_place_146 rfl (lv_at hl 0 rfl) ?_
                      refine va_get (D := E.1) (ci := 8) (v := .ref m10) (C := RX8) (T := TX8) (N := 20) hx hb hts in_X8_place_X8 hown hK hP 0 rfl rfl 17 (by decide) q_5 (fun _ h9 => h9) rfl dX8_place_147 ?_
                      refine lv_iload_n hx hb dX8_place_150 rfl (lv_at hl 1 rfl) ?_
                      obtain ⟨g_32, hf⟩ := gk_s hf
                      refine va_iald hx hb hK hP 10 0 rfl rfl g_32 dX8_place_151 ?_
                      exact hret H locs ls 152 (m_hour_11 a1.toNatClampNeg) (m_clusters_6, m_dist_7, m_delays_8, m_fractions_9, m_head_10, m_hour_11, m_number_12) dX8_place_152 (Option.some.inj hf) hP hD hS
                    · have hf := ite_f c_33 hf
                      by_cases c_36 : a2 = 8
                      · have hf := ite_t c_36 hf
                        refine lv_tableIn (off := 128) (tgt := 153) hx hb dX8_place_25 (by rw [c_36]; decide) (by rw [c_36]; decide) (by rw [c_36]; rfl) (by decide) ?_
                        refine lv_aload_n hx hb dX8_place_153 rfl (lv_at hl 0 rfl) ?_
                        refine lv_iload_n hx hb dX8_place_154 rfl (lv_at hl 1 rfl) ?_
                        obtain ⟨r_35, h_34, hf⟩ := bd_s hf
                        refine ca_V (As := [.int a1]) (rest := []) ⟨hx, hb, hml, hown, hts⟩ ⟨hK, hN⟩ hP (c_Mo_upOf l E m0 m1 m2 m3 m4 m5 m6 m7 m8 m9 m10 m11 m_length m_places m_most m_tenths m_changes m_readPlaces m_value m_ends m_clusters_6 m_text m_now m_read m_was m_readRule m_dist_7 m_delays_8 m_fractions_9 m_head_10 m_hour_11 m_number_12 a1 r_35 h_34) [0, 1, 2, 3, 4, 5, 6, 7, 8, 9, 10, 11] rfl 8 0 rfl rfl rfl gX8_place_X8_upOf rfl rfl rfl rfl hd_Mo_upOf ⟨(Nat.le_of_ble_eq_true rfl), (Nat.le_of_ble_eq_true rfl)⟩ rfl hl.1 rfl (Nat.le_of_ble_eq_true rfl) dX8_place_155 ⟨(Nat.zero_le _), (Nat.zero_le _)⟩ ?_
                        exact hret H locs ls 158 r_35 (m_clusters_6, m_dist_7, m_delays_8, m_fractions_9, m_head_10, m_hour_11, m_number_12) dX8_place_158 (Option.some.inj hf) hP hD hS
                      · have hf := ite_f c_36 hf
                        refine lv_tableOut (tgt := 159) hx hb dX8_place_25 (by have e_14 := lv_neT (a := 0) c_14 (by decide); have e_16 := lv_neT (a := 1) c_16 (by decide); have e_19 := lv_neT (a := 2) c_19 (by decide); have e_23 := lv_neT (a := 3) c_23 (by decide); have e_25 := lv_neT (a := 4) c_25 (by decide); have e_28 := lv_neT (a := 5) c_28 (by decide); have e_31 := lv_neT (a := 6) c_31 (by decide); have e_33 := lv_neT (a := 7) c_33 (by decide); have e_36 := lv_neT (a := 8) c_36 (by decide); omega) (by decide) ?_
                        refine lv_iconst (v := 0) hx hb dX8_place_159 (by decide) ?_
                        refine lv_istore_n (lv' := [(3, .int 0), (0, .ref m0), (1, .int a1), (2, .int a2)]) hx hb dX8_place_160 rfl hl (by decide) rfl (fun ls hl => ?_)
                        refine lv_iconst (v := 0) hx hb dX8_place_161 (by decide) ?_
                        refine lv_istore (lv' := [(4, .int 0), (3, .int 0), (0, .ref m0), (1, .int a1), (2, .int a2)]) hx hb dX8_place_162 hl (by decide) rfl (fun ls hl => ?_)
                        obtain ⟨w_164, i_164, hf⟩ := bd_s hf
                        have KX_164 : ∀ (v3_42 : Int32), v3_42 = w_164 → ∀ (H : Heap) (locs : List Loc) (ls : Array Slot), va_P E.1 vwCl (w_Mo E m0 m1 m2 m3 m4 m5 m6 m7 m8 m9 m10 m11 m_length m_places m_most m_tenths m_changes m_readPlaces m_value m_ends m_clusters_6 m_text m_now m_read m_was m_readRule m_dist_7 m_delays_8 m_fractions_9 m_head_10 m_hour_11 m_number_12) H → va_D A (w_Mo E m0 m1 m2 m3 m4 m5 m6 m7 m8 m9 m10 m11 m_length m_places m_most m_tenths m_changes m_readPlaces m_value m_ends m_clusters_6 m_text m_now m_read m_was m_readRule m_dist_7 m_delays_8 m_fractions_9 m_head_10 m_hour_11 m_number_12) → va_S A s.heap H locs → lv_has ls 5 [(3, .int v3_42)] → W p l e rm_Mo_place s m args below meth c H locs 0 0 Q (F0 m 202 ls []) := by
                          intro v3_42 e_
                          subst e_
                          try dsimp only at hf
                          intro H locs ls hP hD hS hl
                          refine lv_iload_n hx hb dX8_place_202 rfl (lv_at hl 0 rfl) ?_
                          exact hret H locs ls 203 v3_42 (m_clusters_6, m_dist_7, m_delays_8, m_fractions_9, m_head_10, m_hour_11, m_number_12) dX8_place_203 (Option.some.inj hf) hP hD hS
                        have KL_164 : ∀ (n_ : Nat) (v3_37 : Int32) (v4_38 : Int32), it (Mo_place_L164 m_places m_now a1) n_ (v3_37, v4_38) = some w_164 → ∀ (H : Heap) (locs : List Loc) (ls : Array Slot), va_P E.1 vwCl (w_Mo E m0 m1 m2 m3 m4 m5 m6 m7 m8 m9 m10 m11 m_length m_places m_most m_tenths m_changes m_readPlaces m_value m_ends m_clusters_6 m_text m_now m_read m_was m_readRule m_dist_7 m_delays_8 m_fractions_9 m_head_10 m_hour_11 m_number_12) H → va_D A (w_Mo E m0 m1 m2 m3 m4 m5 m6 m7 m8 m9 m10 m11 m_length m_places m_most m_tenths m_changes m_readPlaces m_value m_ends m_clusters_6 m_text m_now m_read m_was m_readRule m_dist_7 m_delays_8 m_fractions_9 m_head_10 m_hour_11 m_number_12) → va_S A s.heap H locs → lv_has ls 5 [(0, .ref m0), (1, .int a1), (3, .int v3_37), (4, .int v4_38)] → W p l e rm_Mo_place s m args below meth c H locs 0 0 Q (F0 m 164 ls []) := by
                          intro n_
                          induction n_ with
                          | zero => intro v3_37 v4_38 hit; exact (it_z hit).elim
                          | succ n_164 ih_164 =>
                            intro v3_37 v4_38 hit
                            intro H locs ls hP hD hS hl
                            obtain ⟨x_164, hf, hc_164, hq_164⟩ := it_s hit
                            dsimp only [Mo_place_L164] at hf
                            refine lv_iload hx hb dX8_place_164 (lv_at hl 3 rfl) ?_
                            refine lv_aload_n hx hb dX8_place_166 rfl (lv_at hl 0 rfl) ?_
                            refine va_get (D := E.1) (ci := 8) (v := .int m_places) (C := RX8) (T := TX8) (N := 20) hx hb hts in_X8_place_X8 hown hK hP 0 rfl rfl 2 (by decide) q_6 (fun _ h9 => h9) rfl dX8_place_167 ?_
                            refine lv_icmp_ge (tgt := 202) hx hb dX8_place_170 (by decide) (fun c_41 => ?_) (fun c_41 => ?_)
                            · have hf := ite_t c_41 hf
                              exact KX_164 v3_37 (hq_164 _ (Option.some.inj hf).symm) H locs _ hP hD hS (lv_sub hl [2] rfl)
                            · have hf := ite_f c_41 hf
                              refine lv_iload_n hx hb dX8_place_173 rfl (lv_at hl 2 rfl) ?_
                              refine lv_aload_n hx hb dX8_place_174 rfl (lv_at hl 0 rfl) ?_
                              refine va_get (D := E.1) (ci := 8) (v := .ref m2) (C := RX8) (T := TX8) (N := 20) hx hb hts in_X8_place_X8 hown hK hP 0 rfl rfl 5 (by decide) q_2 (fun _ h9 => h9) rfl dX8_place_175 ?_
                              refine lv_bipush (v := 16) hx hb dX8_place_178 (by decide) ?_
                              refine lv_iload_n hx hb dX8_place_180 rfl (lv_at hl 1 rfl) ?_
                              refine lv_imul hx hb dX8_place_181 ?_
                              refine lv_iload hx hb dX8_place_182 (lv_at hl 3 rfl) ?_
                              refine lv_iadd hx hb dX8_place_184 ?_
                              obtain ⟨g_39, hf⟩ := gk_s hf
                              refine va_iald hx hb hK hP 2 0 rfl rfl g_39 dX8_place_185 ?_
                              refine lv_if_le (tgt := 193) hx hb dX8_place_186 (by decide) (fun c_40 => ?_) (fun c_40 => ?_)
                              · have hf := ite_t c_40 hf
                                refine lv_iconst (v := 0) hx hb dX8_place_193 (by decide) ?_
                                refine lv_iadd hx hb dX8_place_194 ?_
                                refine lv_istore_n (lv' := [(3, .int (v3_37 + 0)), (0, .ref m0), (1, .int a1), (4, .int v4_38)]) hx hb dX8_place_195 rfl hl (by decide) rfl (fun ls hl => ?_)
                                refine lv_iinc (v := (v4_38 + 1)) (lv' := [(4, .int (v4_38 + 1)), (3, .int (v3_37 + 0)), (0, .ref m0), (1, .int a1)]) hx hb dX8_place_196 hl (k := 3) rfl rfl (by decide) rfl (fun ls hl => ?_)
                                refine lv_goto (tgt := 164) hx hb dX8_place_199 (by decide) ?_
                                exact ih_164 (v3_37 + 0) (v4_38 + 1) (hc_164 _ (Option.some.inj hf).symm) H locs _ hP hD hS (lv_sub hl [2, 3, 1, 0] rfl)
                              · have hf := ite_f c_40 hf
                                refine lv_iconst (v := 1) hx hb dX8_place_189 (by decide) ?_
                                refine lv_goto (tgt := 194) hx hb dX8_place_190 (by decide) ?_
                                refine lv_iadd hx hb dX8_place_194 ?_
                                refine lv_istore_n (lv' := [(3, .int (v3_37 + 1)), (0, .ref m0), (1, .int a1), (4, .int v4_38)]) hx hb dX8_place_195 rfl hl (by decide) rfl (fun ls hl => ?_)
                                refine lv_iinc (v := (v4_38 + 1)) (lv' := [(4, .int (v4_38 + 1)), (3, .int (v3_37 + 1)), (0, .ref m0), (1, .int a1)]) hx hb dX8_place_196 hl (k := 3) rfl rfl (by decide) rfl (fun ls hl => ?_)
                                refine lv_goto (tgt := 164) hx hb dX8_place_199 (by decide) ?_
                                exact ih_164 (v3_37 + 1) (v4_38 + 1) (hc_164 _ (Option.some.inj hf).symm) H locs _ hP hD hS (lv_sub hl [2, 3, 1, 0] rfl)
                        exact KL_164 _ 0 0 i_164 H locs _ hP hD hS (lv_sub hl [2, 3, 1, 0] rfl)
    · have hf := ite_t c_43 hf
      refine lv_iconst (v := (-1)) hx hb dX8_place_18 (by decide) ?_
      exact hret H locs ls 19 (-1) (m_clusters, m_dist, m_delays, m_fractions, m_head, m_hour, m_number) dX8_place_19 (Option.some.inj hf) hP hD hS
abbrev rm_Mo_far : Room := { frames := 2, cells := 0, slots := 0, locals := 43 }
theorem hd_Mo_far : hdOK yX8_far 2 := by decide +kernel
theorem in_X8_far_X8 : ∀ w ∈ wsX80, w ∈ wsX8_far := by decide +kernel
set_option maxRecDepth 100000 in
set_option maxHeartbeats 4000000 in
theorem c_Mo_far (l : Launch) (E : En4) (m0 m1 m2 m3 m4 m5 m6 m7 m8 m9 m10 m11 : Nat) (sz : Nat) (m_length : Int32) (m_places : Int32) (m_most : Int32) (m_tenths : Int32) (m_changes : Int32) (m_readPlaces : Int32) (m_value : Int32) (m_ends : Int32) (m_clusters : Int32) (m_text : Nat → Int32) (m_now : Nat → Int32) (m_read : Nat → Int32) (m_was : Nat → Int32) (m_readRule : Nat → Int32) (m_dist : Nat → Int32) (m_delays : Nat → Int32) (m_fractions : Nat → Int32) (m_head : Nat → Int32) (m_hour : Nat → Int32) (m_number : Nat → Int32) (a1 : Int32) (a2 : Int32)  (res : Int32 × (Nat → Int32)) (hf : Mo_far m_places m_now m_dist a1 a2 = some res) : Met l yX8_far wsX8_far rm_Mo_far (pcM [.ref m0, .int a1, .int a2] E sz (w_Mo E m0 m1 m2 m3 m4 m5 m6 m7 m8 m9 m10 m11 m_length m_places m_most m_tenths m_changes m_readPlaces m_value m_ends m_clusters m_text m_now m_read m_was m_readRule m_dist m_delays m_fractions m_head m_hour m_number)) (QMi E sz (w_Mo E m0 m1 m2 m3 m4 m5 m6 m7 m8 m9 m10 m11 m_length m_places m_most m_tenths m_changes m_readPlaces m_value m_ends m_clusters m_text m_now m_read m_was m_readRule m_dist m_delays m_fractions m_head m_hour m_number) (fun (u : (Nat → Int32)) => (w_Mo E m0 m1 m2 m3 m4 m5 m6 m7 m8 m9 m10 m11 m_length m_places m_most m_tenths m_changes m_readPlaces m_value m_ends m_clusters m_text m_now m_read m_was m_readRule u m_delays m_fractions m_head m_hour m_number)) res) 0 0 (va_A (w_Mo E m0 m1 m2 m3 m4 m5 m6 m7 m8 m9 m10 m11 m_length m_places m_most m_tenths m_changes m_readPlaces m_value m_ends m_clusters m_text m_now m_read m_was m_readRule m_dist m_delays m_fractions m_head m_hour m_number) sz) := by
  refine mk_Mi (cc := cX8_far) (maxL := 3) (by decide) rfl (Nat.le_of_ble_eq_true rfl) ?_
  intro p e s m args below meth c Q A S hKN hA hret H locs ls hP hD hS hl
  obtain ⟨hx, hb, hml, hown, hts⟩ := S
  obtain ⟨hK, hN⟩ := hKN
  have hl : lv_has ls 3 [(0, .ref m0), (1, .int a1), (2, .int a2)] := hl
  have q_0 := hts (.fieldLink RX8 25 "DelayClustersModel" "dist" "[I") (by decide +kernel)
  have q_1 := hts (.constant RX8 126 (1000000)) (by decide +kernel)
  unfold Mo_far at hf
  refine lv_aload_n hx hb dX8_far_0 rfl (lv_at hl 0 rfl) ?_
  refine lv_iload_n hx hb dX8_far_1 rfl (lv_at hl 1 rfl) ?_
  obtain ⟨r_2, h_1, hf⟩ := bd_s hf
  refine ca_V (As := [.int a1]) (rest := []) ⟨hx, hb, hml, hown, hts⟩ ⟨hK, hN⟩ hP (c_Mo_isPlace l E m0 m1 m2 m3 m4 m5 m6 m7 m8 m9 m10 m11 m_length m_places m_most m_tenths m_changes m_readPlaces m_value m_ends m_clusters m_text m_now m_read m_was m_readRule m_dist m_delays m_fractions m_head m_hour m_number a1 r_2 h_1) [0, 1, 2, 3, 4, 5, 6, 7, 8, 9, 10, 11] rfl 8 0 rfl rfl rfl gX8_far_X8_isPlace rfl rfl rfl rfl hd_Mo_isPlace ⟨(Nat.le_of_ble_eq_true rfl), (Nat.le_of_ble_eq_true rfl)⟩ rfl hl.1 rfl (Nat.le_of_ble_eq_true rfl) dX8_far_2 ⟨(Nat.zero_le _), (Nat.zero_le _)⟩ ?_
  refine lv_if_eq (tgt := 16) hx hb dX8_far_5 (by decide) (fun c_11 => ?_) (fun c_11 => ?_)
  · have hf := ite_t c_11 hf
    refine lv_iconst (v := (-1)) hx hb dX8_far_16 (by decide) ?_
    exact hret H locs ls 17 (-1) m_dist dX8_far_17 (Option.some.inj hf) hP hD hS
  · have hf := ite_f c_11 hf
    refine lv_aload_n hx hb dX8_far_8 rfl (lv_at hl 0 rfl) ?_
    refine lv_iload_n hx hb dX8_far_9 rfl (lv_at hl 2 rfl) ?_
    obtain ⟨r_4, h_3, hf⟩ := bd_s hf
    refine ca_V (As := [.int a2]) (rest := []) ⟨hx, hb, hml, hown, hts⟩ ⟨hK, hN⟩ hP (c_Mo_isPlace l E m0 m1 m2 m3 m4 m5 m6 m7 m8 m9 m10 m11 m_length m_places m_most m_tenths m_changes m_readPlaces m_value m_ends m_clusters m_text m_now m_read m_was m_readRule m_dist m_delays m_fractions m_head m_hour m_number a2 r_4 h_3) [0, 1, 2, 3, 4, 5, 6, 7, 8, 9, 10, 11] rfl 8 0 rfl rfl rfl gX8_far_X8_isPlace rfl rfl rfl rfl hd_Mo_isPlace ⟨(Nat.le_of_ble_eq_true rfl), (Nat.le_of_ble_eq_true rfl)⟩ rfl hl.1 rfl (Nat.le_of_ble_eq_true rfl) dX8_far_10 ⟨(Nat.zero_le _), (Nat.zero_le _)⟩ ?_
    refine lv_if_ne (tgt := 18) hx hb dX8_far_13 (by decide) (fun c_10 => ?_) (fun c_10 => ?_)
    · have hf := ite_f c_10 hf
      refine lv_aload_n hx hb dX8_far_18 rfl (lv_at hl 0 rfl) ?_
      obtain ⟨m_dist_6, h_5, hf⟩ := bd_s hf
      try dsimp only at hf
      refine ca_Mv (w2 := (w_Mo E m0 m1 m2 m3 m4 m5 m6 m7 m8 m9 m10 m11 m_length m_places m_most m_tenths m_changes m_readPlaces m_value m_ends m_clusters m_text m_now m_read m_was m_readRule m_dist_6 m_delays m_fractions m_head m_hour m_number)) (As := []) (rest := []) ⟨hx, hb, hml, hown, hts⟩ ⟨hK, hN⟩ hP hD hS hA (c_Mo_ways l E m0 m1 m2 m3 m4 m5 m6 m7 m8 m9 m10 m11 H.size m_length m_places m_most m_tenths m_changes m_readPlaces m_value m_ends m_clusters m_text m_now m_read m_was m_readRule m_dist m_delays m_fractions m_head m_hour m_number m_dist_6 h_5) [0, 1, 2, 3, 4, 5, 6, 7, 8, 9, 10, 11] [] [0, 1, 2, 3, 4, 5, 6, 7, 8, 9, 10, 11] rfl rfl rfl rfl (by decide) rfl rfl 8 0 rfl rfl rfl gX8_far_X8_ways rfl rfl rfl rfl hd_Mo_ways ⟨(Nat.le_of_ble_eq_true rfl), (Nat.le_of_ble_eq_true rfl)⟩ rfl hl.1 rfl (Nat.le_of_ble_eq_true rfl) dX8_far_19 ⟨(Nat.zero_le _), (Nat.zero_le _)⟩ (fun H locs hP hD hS => ?_)
      refine lv_aload_n hx hb dX8_far_22 rfl (lv_at hl 0 rfl) ?_
      refine va_get (D := E.1) (ci := 8) (v := .ref m6) (C := RX8) (T := TX8) (N := 20) hx hb hts in_X8_far_X8 hown hK hP 0 rfl rfl 13 (by decide) q_0 (fun _ h9 => h9) rfl dX8_far_23 ?_
      refine lv_bipush (v := 16) hx hb dX8_far_26 (by decide) ?_
      refine lv_iload_n hx hb dX8_far_28 rfl (lv_at hl 1 rfl) ?_
      refine lv_imul hx hb dX8_far_29 ?_
      refine lv_iload_n hx hb dX8_far_30 rfl (lv_at hl 2 rfl) ?_
      refine lv_iadd hx hb dX8_far_31 ?_
      obtain ⟨g_7, hf⟩ := gk_s hf
      refine va_iald hx hb hK hP 6 0 rfl rfl g_7 dX8_far_32 ?_
      refine lv_ldc (v := 1000000) hx hb hown q_1 dX8_far_33 ?_
      refine lv_icmp_ge (tgt := 52) hx hb dX8_far_35 (by decide) (fun c_9 => ?_) (fun c_9 => ?_)
      · have hf := ite_t c_9 hf
        refine lv_bipush (v := (-4)) hx hb dX8_far_52 (by decide) ?_
        exact hret H locs ls 54 (-4) m_dist_6 dX8_far_54 (Option.some.inj hf) hP hD hS
      · have hf := ite_f c_9 hf
        refine lv_aload_n hx hb dX8_far_38 rfl (lv_at hl 0 rfl) ?_
        refine va_get (D := E.1) (ci := 8) (v := .ref m6) (C := RX8) (T := TX8) (N := 20) hx hb hts in_X8_far_X8 hown hK hP 0 rfl rfl 13 (by decide) q_0 (fun _ h9 => h9) rfl dX8_far_39 ?_
        refine lv_bipush (v := 16) hx hb dX8_far_42 (by decide) ?_
        refine lv_iload_n hx hb dX8_far_44 rfl (lv_at hl 1 rfl) ?_
        refine lv_imul hx hb dX8_far_45 ?_
        refine lv_iload_n hx hb dX8_far_46 rfl (lv_at hl 2 rfl) ?_
        refine lv_iadd hx hb dX8_far_47 ?_
        obtain ⟨g_8, hf⟩ := gk_s hf
        refine va_iald hx hb hK hP 6 0 rfl rfl g_8 dX8_far_48 ?_
        refine lv_goto (tgt := 54) hx hb dX8_far_49 (by decide) ?_
        exact hret H locs ls 54 (m_dist_6 ((16 * a1) + a2).toNatClampNeg) m_dist_6 dX8_far_54 (Option.some.inj hf) hP hD hS
    · have hf := ite_t c_10 hf
      refine lv_iconst (v := (-1)) hx hb dX8_far_16 (by decide) ?_
      exact hret H locs ls 17 (-1) m_dist dX8_far_17 (Option.some.inj hf) hP hD hS
abbrev rm_Mo_front : Room := { frames := 4, cells := 0, slots := 0, locals := 95 }
theorem hd_Mo_front : hdOK yX8_front 2 := by decide +kernel
theorem in_X8_front_X8 : ∀ w ∈ wsX80, w ∈ wsX8_front := by decide +kernel
set_option maxRecDepth 100000 in
set_option maxHeartbeats 4000000 in
theorem c_Mo_front (l : Launch) (E : En4) (m0 m1 m2 m3 m4 m5 m6 m7 m8 m9 m10 m11 : Nat) (sz : Nat) (m_length : Int32) (m_places : Int32) (m_most : Int32) (m_tenths : Int32) (m_changes : Int32) (m_readPlaces : Int32) (m_value : Int32) (m_ends : Int32) (m_clusters : Int32) (m_text : Nat → Int32) (m_now : Nat → Int32) (m_read : Nat → Int32) (m_was : Nat → Int32) (m_readRule : Nat → Int32) (m_dist : Nat → Int32) (m_delays : Nat → Int32) (m_fractions : Nat → Int32) (m_head : Nat → Int32) (m_hour : Nat → Int32) (m_number : Nat → Int32) (a1 : Int32) (a2 : Int32)  (res : Int32 × Int32 × (Nat → Int32) × (Nat → Int32) × (Nat → Int32) × (Nat → Int32) × (Nat → Int32) × (Nat → Int32)) (hf : Mo_front m_places m_most m_tenths m_clusters m_now m_dist m_delays m_fractions m_head m_hour m_number a1 a2 = some res) : Met l yX8_front wsX8_front rm_Mo_front (pcM [.ref m0, .int a1, .int a2] E sz (w_Mo E m0 m1 m2 m3 m4 m5 m6 m7 m8 m9 m10 m11 m_length m_places m_most m_tenths m_changes m_readPlaces m_value m_ends m_clusters m_text m_now m_read m_was m_readRule m_dist m_delays m_fractions m_head m_hour m_number)) (QMi E sz (w_Mo E m0 m1 m2 m3 m4 m5 m6 m7 m8 m9 m10 m11 m_length m_places m_most m_tenths m_changes m_readPlaces m_value m_ends m_clusters m_text m_now m_read m_was m_readRule m_dist m_delays m_fractions m_head m_hour m_number) (fun (u : Int32 × (Nat → Int32) × (Nat → Int32) × (Nat → Int32) × (Nat → Int32) × (Nat → Int32) × (Nat → Int32)) => (w_Mo E m0 m1 m2 m3 m4 m5 m6 m7 m8 m9 m10 m11 m_length m_places m_most m_tenths m_changes m_readPlaces m_value m_ends u.1 m_text m_now m_read m_was m_readRule u.2.1 u.2.2.1 u.2.2.2.1 u.2.2.2.2.1 u.2.2.2.2.2.1 u.2.2.2.2.2.2)) res) 0 0 (va_A (w_Mo E m0 m1 m2 m3 m4 m5 m6 m7 m8 m9 m10 m11 m_length m_places m_most m_tenths m_changes m_readPlaces m_value m_ends m_clusters m_text m_now m_read m_was m_readRule m_dist m_delays m_fractions m_head m_hour m_number) sz) := by
  refine mk_Mi (cc := cX8_front) (maxL := 5) (by decide) rfl (Nat.le_of_ble_eq_true rfl) ?_
  intro p e s m args below meth c Q A S hKN hA hret H locs ls hP hD hS hl
  obtain ⟨hx, hb, hml, hown, hts⟩ := S
  obtain ⟨hK, hN⟩ := hKN
  have hl : lv_has ls 5 [(0, .ref m0), (1, .int a1), (2, .int a2)] := hl
  have q_0 := hts (.fieldLink RX8 57 "DelayClustersModel" "places" "I") (by decide +kernel)
  have q_1 := hts (.fieldLink RX8 37 "DelayClustersModel" "hour" "[I") (by decide +kernel)
  unfold Mo_front at hf
  refine lv_iload_n hx hb dX8_front_0 rfl (lv_at hl 1 rfl) ?_
  refine lv_iconst (v := 0) hx hb dX8_front_1 (by decide) ?_
  refine lv_sipush (v := 200) hx hb dX8_front_2 (by decide) ?_
  obtain ⟨r_2, h_1, hf⟩ := bd_s hf
  refine ca_S (As := [.int a1, .int 0, .int 200]) (rest := []) ⟨hx, hb, hml, hown, hts⟩ ⟨hK, hN⟩ hP (c_Mo_isIn l E   a1 0 200 r_2 h_1) [] rfl gX8_front_X8_isIn rfl rfl rfl hd_Mo_isIn ⟨(Nat.le_of_ble_eq_true rfl), (Nat.le_of_ble_eq_true rfl)⟩ rfl hl.1 rfl (Nat.le_of_ble_eq_true rfl) dX8_front_5 ⟨(Nat.zero_le _), (Nat.zero_le _)⟩ ?_
  refine lv_if_eq (tgt := 16) hx hb dX8_front_8 (by decide) (fun c_20 => ?_) (fun c_20 => ?_)
  · have hf := ite_t c_20 hf
    refine lv_iconst (v := (-1)) hx hb dX8_front_16 (by decide) ?_
    exact hret H locs ls 17 (-1) (m_clusters, m_dist, m_delays, m_fractions, m_head, m_hour, m_number) dX8_front_17 (Option.some.inj hf) hP hD hS
  · have hf := ite_f c_20 hf
    refine lv_iload_n hx hb dX8_front_11 rfl (lv_at hl 2 rfl) ?_
    refine lv_iconst (v := (-1)) hx hb dX8_front_12 (by decide) ?_
    refine lv_icmp_ge (tgt := 18) hx hb dX8_front_13 (by decide) (fun c_19 => ?_) (fun c_19 => ?_)
    · have hf := ite_t c_19 hf
      refine lv_aload_n hx hb dX8_front_18 rfl (lv_at hl 0 rfl) ?_
      obtain ⟨⟨m_clusters_4, m_dist_5, m_delays_6, m_fractions_7, m_head_8, m_hour_9, m_number_10⟩, h_3, hf⟩ := bd_s hf
      try dsimp only at hf
      refine ca_Mv (w2 := (w_Mo E m0 m1 m2 m3 m4 m5 m6 m7 m8 m9 m10 m11 m_length m_places m_most m_tenths m_changes m_readPlaces m_value m_ends m_clusters_4 m_text m_now m_read m_was m_readRule m_dist_5 m_delays_6 m_fractions_7 m_head_8 m_hour_9 m_number_10)) (As := []) (rest := []) ⟨hx, hb, hml, hown, hts⟩ ⟨hK, hN⟩ hP hD hS hA (c_Mo_settle l E m0 m1 m2 m3 m4 m5 m6 m7 m8 m9 m10 m11 H.size m_length m_places m_most m_tenths m_changes m_readPlaces m_value m_ends m_clusters m_text m_now m_read m_was m_readRule m_dist m_delays m_fractions m_head m_hour m_number (m_clusters_4, m_dist_5, m_delays_6, m_fractions_7, m_head_8, m_hour_9, m_number_10) h_3) [0, 1, 2, 3, 4, 5, 6, 7, 8, 9, 10, 11] [] [0, 1, 2, 3, 4, 5, 6, 7, 8, 9, 10, 11] rfl rfl rfl rfl (by decide) rfl rfl 8 0 rfl rfl rfl gX8_front_X8_settle rfl rfl rfl rfl hd_Mo_settle ⟨(Nat.le_of_ble_eq_true rfl), (Nat.le_of_ble_eq_true rfl)⟩ rfl hl.1 rfl (Nat.le_of_ble_eq_true rfl) dX8_front_19 ⟨(Nat.zero_le _), (Nat.zero_le _)⟩ (fun H locs hP hD hS => ?_)
      refine lv_iconst (v := 0) hx hb dX8_front_22 (by decide) ?_
      refine lv_istore_n (lv' := [(3, .int 0), (0, .ref m0), (1, .int a1), (2, .int a2)]) hx hb dX8_front_23 rfl hl (by decide) rfl (fun ls hl => ?_)
      refine lv_iconst (v := 0) hx hb dX8_front_24 (by decide) ?_
      refine lv_istore (lv' := [(4, .int 0), (3, .int 0), (0, .ref m0), (1, .int a1), (2, .int a2)]) hx hb dX8_front_25 hl (by decide) rfl (fun ls hl => ?_)
      obtain ⟨w_27, i_27, hf⟩ := bd_s hf
      have KE_27 : ∀ y_, Sum.inr y_ = w_27 → some y_ = some res := by intro y_ e_; subst e_; exact hf
      have KX_27 : ∀ (v3_17 : Int32), Sum.inl v3_17 = w_27 → ∀ (H : Heap) (locs : List Loc) (ls : Array Slot), va_P E.1 vwCl (w_Mo E m0 m1 m2 m3 m4 m5 m6 m7 m8 m9 m10 m11 m_length m_places m_most m_tenths m_changes m_readPlaces m_value m_ends m_clusters_4 m_text m_now m_read m_was m_readRule m_dist_5 m_delays_6 m_fractions_7 m_head_8 m_hour_9 m_number_10) H → va_D A (w_Mo E m0 m1 m2 m3 m4 m5 m6 m7 m8 m9 m10 m11 m_length m_places m_most m_tenths m_changes m_readPlaces m_value m_ends m_clusters_4 m_text m_now m_read m_was m_readRule m_dist_5 m_delays_6 m_fractions_7 m_head_8 m_hour_9 m_number_10) → va_S A s.heap H locs → lv_has ls 5 [(2, .int a2), (3, .int v3_17)] → W p l e rm_Mo_front s m args below meth c H locs 0 0 Q (F0 m 64 ls []) := by
        intro v3_17 e_
        subst e_
        try dsimp only at hf
        intro H locs ls hP hD hS hl
        refine lv_iload_n hx hb dX8_front_64 rfl (lv_at hl 0 rfl) ?_
        refine lv_iconst (v := (-1)) hx hb dX8_front_65 (by decide) ?_
        refine lv_icmp_ne (tgt := 73) hx hb dX8_front_66 (by decide) (fun c_18 => ?_) (fun c_18 => ?_)
        · have hf := ite_f c_18 hf
          refine lv_bipush (v := (-4)) hx hb dX8_front_73 (by decide) ?_
          exact hret H locs ls 75 (-4) (m_clusters_4, m_dist_5, m_delays_6, m_fractions_7, m_head_8, m_hour_9, m_number_10) dX8_front_75 (Option.some.inj hf) hP hD hS
        · have hf := ite_t c_18 hf
          refine lv_iload_n hx hb dX8_front_69 rfl (lv_at hl 1 rfl) ?_
          refine lv_goto (tgt := 75) hx hb dX8_front_70 (by decide) ?_
          exact hret H locs ls 75 v3_17 (m_clusters_4, m_dist_5, m_delays_6, m_fractions_7, m_head_8, m_hour_9, m_number_10) dX8_front_75 (Option.some.inj hf) hP hD hS
      have KL_27 : ∀ (n_ : Nat) (v3_11 : Int32) (v4_12 : Int32), it (Mo_front_L27 m_places a1 a2 m_clusters_4 m_dist_5 m_delays_6 m_fractions_7 m_head_8 m_hour_9 m_number_10) n_ (v3_11, v4_12) = some w_27 → ∀ (H : Heap) (locs : List Loc) (ls : Array Slot), va_P E.1 vwCl (w_Mo E m0 m1 m2 m3 m4 m5 m6 m7 m8 m9 m10 m11 m_length m_places m_most m_tenths m_changes m_readPlaces m_value m_ends m_clusters_4 m_text m_now m_read m_was m_readRule m_dist_5 m_delays_6 m_fractions_7 m_head_8 m_hour_9 m_number_10) H → va_D A (w_Mo E m0 m1 m2 m3 m4 m5 m6 m7 m8 m9 m10 m11 m_length m_places m_most m_tenths m_changes m_readPlaces m_value m_ends m_clusters_4 m_text m_now m_read m_was m_readRule m_dist_5 m_delays_6 m_fractions_7 m_head_8 m_hour_9 m_number_10) → va_S A s.heap H locs → lv_has ls 5 [(0, .ref m0), (1, .int a1), (2, .int a2), (3, .int v3_11), (4, .int v4_12)] → W p l e rm_Mo_front s m args below meth c H locs 0 0 Q (F0 m 27 ls []) := by
        intro n_
        induction n_ with
        | zero => intro v3_11 v4_12 hit; exact (it_z hit).elim
        | succ n_27 ih_27 =>
          intro v3_11 v4_12 hit
          intro H locs ls hP hD hS hl
          obtain ⟨x_27, hf, hc_27, hq_27⟩ := it_s hit
          dsimp only [Mo_front_L27] at hf
          refine lv_iload hx hb dX8_front_27 (lv_at hl 4 rfl) ?_
          refine lv_aload_n hx hb dX8_front_29 rfl (lv_at hl 0 rfl) ?_
          refine va_get (D := E.1) (ci := 8) (v := .int m_places) (C := RX8) (T := TX8) (N := 20) hx hb hts in_X8_front_X8 hown hK hP 0 rfl rfl 2 (by decide) q_0 (fun _ h9 => h9) rfl dX8_front_30 ?_
          refine lv_icmp_ge (tgt := 64) hx hb dX8_front_33 (by decide) (fun c_16 => ?_) (fun c_16 => ?_)
          · have hf := ite_t c_16 hf
            exact KX_27 v3_11 (hq_27 _ (Option.some.inj hf).symm) H locs _ hP hD hS (lv_sub hl [2, 3] rfl)
          · have hf := ite_f c_16 hf
            refine lv_aload_n hx hb dX8_front_36 rfl (lv_at hl 0 rfl) ?_
            refine va_get (D := E.1) (ci := 8) (v := .ref m10) (C := RX8) (T := TX8) (N := 20) hx hb hts in_X8_front_X8 hown hK hP 0 rfl rfl 17 (by decide) q_1 (fun _ h9 => h9) rfl dX8_front_37 ?_
            refine lv_iload hx hb dX8_front_40 (lv_at hl 4 rfl) ?_
            obtain ⟨g_13, hf⟩ := gk_s hf
            refine va_iald hx hb hK hP 10 0 rfl rfl g_13 dX8_front_42 ?_
            refine lv_iload_n hx hb dX8_front_43 rfl (lv_at hl 1 rfl) ?_
            refine lv_icmp_ne (tgt := 58) hx hb dX8_front_44 (by decide) (fun c_15 => ?_) (fun c_15 => ?_)
            · have hf := ite_f c_15 hf
              refine lv_iinc (v := (v4_12 + 1)) (lv' := [(4, .int (v4_12 + 1)), (0, .ref m0), (1, .int a1), (2, .int a2), (3, .int v3_11)]) hx hb dX8_front_58 hl (k := 4) rfl rfl (by decide) rfl (fun ls hl => ?_)
              refine lv_goto (tgt := 27) hx hb dX8_front_61 (by decide) ?_
              exact ih_27 v3_11 (v4_12 + 1) (hc_27 _ (Option.some.inj hf).symm) H locs _ hP hD hS (lv_sub hl [1, 2, 3, 4, 0] rfl)
            · have hf := ite_t c_15 hf
              refine lv_iload_n hx hb dX8_front_47 rfl (lv_at hl 3 rfl) ?_
              refine lv_iload_n hx hb dX8_front_48 rfl (lv_at hl 2 rfl) ?_
              refine lv_icmp_ne (tgt := 55) hx hb dX8_front_49 (by decide) (fun c_14 => ?_) (fun c_14 => ?_)
              · have hf := ite_f c_14 hf
                refine lv_iinc (v := (v3_11 + 1)) (lv' := [(3, .int (v3_11 + 1)), (0, .ref m0), (1, .int a1), (2, .int a2), (4, .int v4_12)]) hx hb dX8_front_55 hl (k := 3) rfl rfl (by decide) rfl (fun ls hl => ?_)
                refine lv_iinc (v := (v4_12 + 1)) (lv' := [(4, .int (v4_12 + 1)), (3, .int (v3_11 + 1)), (0, .ref m0), (1, .int a1), (2, .int a2)]) hx hb dX8_front_58 hl (k := 4) rfl rfl (by decide) rfl (fun ls hl => ?_)
                refine lv_goto (tgt := 27) hx hb dX8_front_61 (by decide) ?_
                exact ih_27 (v3_11 + 1) (v4_12 + 1) (hc_27 _ (Option.some.inj hf).symm) H locs _ hP hD hS (lv_sub hl [2, 3, 4, 1, 0] rfl)
              · have hf := ite_t c_14 hf
                refine lv_iload hx hb dX8_front_52 (lv_at hl 4 rfl) ?_
                have hf := KE_27 _ (hq_27 _ (Option.some.inj hf).symm)
                exact hret H locs ls 54 v4_12 (m_clusters_4, m_dist_5, m_delays_6, m_fractions_7, m_head_8, m_hour_9, m_number_10) dX8_front_54 (Option.some.inj hf) hP hD hS
      exact KL_27 _ 0 0 i_27 H locs _ hP hD hS (lv_sub hl [2, 3, 4, 1, 0] rfl)
    · have hf := ite_f c_19 hf
      refine lv_iconst (v := (-1)) hx hb dX8_front_16 (by decide) ?_
      exact hret H locs ls 17 (-1) (m_clusters, m_dist, m_delays, m_fractions, m_head, m_hour, m_number) dX8_front_17 (Option.some.inj hf) hP hD hS
abbrev rm_Mo_linkOf : Room := { frames := 4, cells := 0, slots := 0, locals := 95 }
theorem hd_Mo_linkOf : hdOK yX8_linkOf 3 := by decide +kernel
theorem in_X8_linkOf_X8 : ∀ w ∈ wsX80, w ∈ wsX8_linkOf := by decide +kernel
set_option maxRecDepth 100000 in
set_option maxHeartbeats 4000000 in
theorem c_Mo_linkOf (l : Launch) (E : En4) (m0 m1 m2 m3 m4 m5 m6 m7 m8 m9 m10 m11 : Nat) (sz : Nat) (m_length : Int32) (m_places : Int32) (m_most : Int32) (m_tenths : Int32) (m_changes : Int32) (m_readPlaces : Int32) (m_value : Int32) (m_ends : Int32) (m_clusters : Int32) (m_text : Nat → Int32) (m_now : Nat → Int32) (m_read : Nat → Int32) (m_was : Nat → Int32) (m_readRule : Nat → Int32) (m_dist : Nat → Int32) (m_delays : Nat → Int32) (m_fractions : Nat → Int32) (m_head : Nat → Int32) (m_hour : Nat → Int32) (m_number : Nat → Int32) (a1 : Int32) (a2 : Int32) (a3 : Int32)  (res : Int32 × Int32 × (Nat → Int32) × (Nat → Int32) × (Nat → Int32) × (Nat → Int32) × (Nat → Int32) × (Nat → Int32)) (hf : Mo_linkOf m_places m_most m_tenths m_clusters m_now m_dist m_delays m_fractions m_head m_hour m_number a1 a2 a3 = some res) : Met l yX8_linkOf wsX8_linkOf rm_Mo_linkOf (pcM [.ref m0, .int a1, .int a2, .int a3] E sz (w_Mo E m0 m1 m2 m3 m4 m5 m6 m7 m8 m9 m10 m11 m_length m_places m_most m_tenths m_changes m_readPlaces m_value m_ends m_clusters m_text m_now m_read m_was m_readRule m_dist m_delays m_fractions m_head m_hour m_number)) (QMi E sz (w_Mo E m0 m1 m2 m3 m4 m5 m6 m7 m8 m9 m10 m11 m_length m_places m_most m_tenths m_changes m_readPlaces m_value m_ends m_clusters m_text m_now m_read m_was m_readRule m_dist m_delays m_fractions m_head m_hour m_number) (fun (u : Int32 × (Nat → Int32) × (Nat → Int32) × (Nat → Int32) × (Nat → Int32) × (Nat → Int32) × (Nat → Int32)) => (w_Mo E m0 m1 m2 m3 m4 m5 m6 m7 m8 m9 m10 m11 m_length m_places m_most m_tenths m_changes m_readPlaces m_value m_ends u.1 m_text m_now m_read m_was m_readRule u.2.1 u.2.2.1 u.2.2.2.1 u.2.2.2.2.1 u.2.2.2.2.2.1 u.2.2.2.2.2.2)) res) 0 0 (va_A (w_Mo E m0 m1 m2 m3 m4 m5 m6 m7 m8 m9 m10 m11 m_length m_places m_most m_tenths m_changes m_readPlaces m_value m_ends m_clusters m_text m_now m_read m_was m_readRule m_dist m_delays m_fractions m_head m_hour m_number) sz) := by
  refine mk_Mi (cc := cX8_linkOf) (maxL := 4) (by decide) rfl (Nat.le_of_ble_eq_true rfl) ?_
  intro p e s m args below meth c Q A S hKN hA hret H locs ls hP hD hS hl
  obtain ⟨hx, hb, hml, hown, hts⟩ := S
  obtain ⟨hK, hN⟩ := hKN
  have hl : lv_has ls 4 [(0, .ref m0), (1, .int a1), (2, .int a2), (3, .int a3)] := hl
  have q_0 := hts (.fieldLink RX8 13 "DelayClustersModel" "now" "[I") (by decide +kernel)
  unfold Mo_linkOf at hf
  refine lv_aload_n hx hb dX8_linkOf_0 rfl (lv_at hl 0 rfl) ?_
  refine lv_iload_n hx hb dX8_linkOf_1 rfl (lv_at hl 1 rfl) ?_
  refine lv_iload_n hx hb dX8_linkOf_2 rfl (lv_at hl 2 rfl) ?_
  obtain ⟨r_2, h_1, hf⟩ := bd_s hf
  refine ca_V (As := [.int a1, .int a2]) (rest := []) ⟨hx, hb, hml, hown, hts⟩ ⟨hK, hN⟩ hP (c_Mo_areTwo l E m0 m1 m2 m3 m4 m5 m6 m7 m8 m9 m10 m11 m_length m_places m_most m_tenths m_changes m_readPlaces m_value m_ends m_clusters m_text m_now m_read m_was m_readRule m_dist m_delays m_fractions m_head m_hour m_number a1 a2 r_2 h_1) [0, 1, 2, 3, 4, 5, 6, 7, 8, 9, 10, 11] rfl 8 0 rfl rfl rfl gX8_linkOf_X8_areTwo rfl rfl rfl rfl hd_Mo_areTwo ⟨(Nat.le_of_ble_eq_true rfl), (Nat.le_of_ble_eq_true rfl)⟩ rfl hl.1 rfl (Nat.le_of_ble_eq_true rfl) dX8_linkOf_3 ⟨(Nat.zero_le _), (Nat.zero_le _)⟩ ?_
  refine lv_if_eq (tgt := 18) hx hb dX8_linkOf_6 (by decide) (fun c_20 => ?_) (fun c_20 => ?_)
  · have hf := ite_t c_20 hf
    refine lv_iconst (v := (-1)) hx hb dX8_linkOf_18 (by decide) ?_
    exact hret H locs ls 19 (-1) (m_clusters, m_dist, m_delays, m_fractions, m_head, m_hour, m_number) dX8_linkOf_19 (Option.some.inj hf) hP hD hS
  · have hf := ite_f c_20 hf
    refine lv_iload_n hx hb dX8_linkOf_9 rfl (lv_at hl 3 rfl) ?_
    refine lv_iconst (v := 0) hx hb dX8_linkOf_10 (by decide) ?_
    refine lv_iconst (v := 1) hx hb dX8_linkOf_11 (by decide) ?_
    obtain ⟨r_4, h_3, hf⟩ := bd_s hf
    refine ca_S (As := [.int a3, .int 0, .int 1]) (rest := []) ⟨hx, hb, hml, hown, hts⟩ ⟨hK, hN⟩ hP (c_Mo_isIn l E   a3 0 1 r_4 h_3) [] rfl gX8_linkOf_X8_isIn rfl rfl rfl hd_Mo_isIn ⟨(Nat.le_of_ble_eq_true rfl), (Nat.le_of_ble_eq_true rfl)⟩ rfl hl.1 rfl (Nat.le_of_ble_eq_true rfl) dX8_linkOf_12 ⟨(Nat.zero_le _), (Nat.zero_le _)⟩ ?_
    refine lv_if_ne (tgt := 20) hx hb dX8_linkOf_15 (by decide) (fun c_19 => ?_) (fun c_19 => ?_)
    · have hf := ite_f c_19 hf
      refine lv_aload_n hx hb dX8_linkOf_20 rfl (lv_at hl 0 rfl) ?_
      refine va_get (D := E.1) (ci := 8) (v := .ref m2) (C := RX8) (T := TX8) (N := 20) hx hb hts in_X8_linkOf_X8 hown hK hP 0 rfl rfl 5 (by decide) q_0 (fun _ h9 => h9) rfl dX8_linkOf_21 ?_
      refine lv_bipush (v := 16) hx hb dX8_linkOf_24 (by decide) ?_
      refine lv_iload_n hx hb dX8_linkOf_26 rfl (lv_at hl 1 rfl) ?_
      refine lv_imul hx hb dX8_linkOf_27 ?_
      refine lv_iload_n hx hb dX8_linkOf_28 rfl (lv_at hl 2 rfl) ?_
      refine lv_iadd hx hb dX8_linkOf_29 ?_
      obtain ⟨g_5, hf⟩ := gk_s hf
      refine va_iald hx hb hK hP 2 0 rfl rfl g_5 dX8_linkOf_30 ?_
      refine lv_if_ne (tgt := 37) hx hb dX8_linkOf_31 (by decide) (fun c_18 => ?_) (fun c_18 => ?_)
      · have hf := ite_f c_18 hf
        refine lv_aload_n hx hb dX8_linkOf_37 rfl (lv_at hl 0 rfl) ?_
        obtain ⟨⟨m_clusters_7, m_dist_8, m_delays_9, m_fractions_10, m_head_11, m_hour_12, m_number_13⟩, h_6, hf⟩ := bd_s hf
        try dsimp only at hf
        refine ca_Mv (w2 := (w_Mo E m0 m1 m2 m3 m4 m5 m6 m7 m8 m9 m10 m11 m_length m_places m_most m_tenths m_changes m_readPlaces m_value m_ends m_clusters_7 m_text m_now m_read m_was m_readRule m_dist_8 m_delays_9 m_fractions_10 m_head_11 m_hour_12 m_number_13)) (As := []) (rest := []) ⟨hx, hb, hml, hown, hts⟩ ⟨hK, hN⟩ hP hD hS hA (c_Mo_settle l E m0 m1 m2 m3 m4 m5 m6 m7 m8 m9 m10 m11 H.size m_length m_places m_most m_tenths m_changes m_readPlaces m_value m_ends m_clusters m_text m_now m_read m_was m_readRule m_dist m_delays m_fractions m_head m_hour m_number (m_clusters_7, m_dist_8, m_delays_9, m_fractions_10, m_head_11, m_hour_12, m_number_13) h_6) [0, 1, 2, 3, 4, 5, 6, 7, 8, 9, 10, 11] [] [0, 1, 2, 3, 4, 5, 6, 7, 8, 9, 10, 11] rfl rfl rfl rfl (by decide) rfl rfl 8 0 rfl rfl rfl gX8_linkOf_X8_settle rfl rfl rfl rfl hd_Mo_settle ⟨(Nat.le_of_ble_eq_true rfl), (Nat.le_of_ble_eq_true rfl)⟩ rfl hl.1 rfl (Nat.le_of_ble_eq_true rfl) dX8_linkOf_38 ⟨(Nat.zero_le _), (Nat.zero_le _)⟩ (fun H locs hP hD hS => ?_)
        refine lv_iload_n hx hb dX8_linkOf_41 rfl (lv_at hl 3 rfl) ?_
        refine lv_if_ne (tgt := 59) hx hb dX8_linkOf_42 (by decide) (fun c_17 => ?_) (fun c_17 => ?_)
        · have hf := ite_f c_17 hf
          refine lv_aload_n hx hb dX8_linkOf_59 rfl (lv_at hl 0 rfl) ?_
          refine lv_iload_n hx hb dX8_linkOf_60 rfl (lv_at hl 1 rfl) ?_
          refine lv_iload_n hx hb dX8_linkOf_61 rfl (lv_at hl 2 rfl) ?_
          obtain ⟨r_15, h_14, hf⟩ := bd_s hf
          refine ca_V (As := [.int a1, .int a2]) (rest := []) ⟨hx, hb, hml, hown, hts⟩ ⟨hK, hN⟩ hP (c_Mo_sortOf l E m0 m1 m2 m3 m4 m5 m6 m7 m8 m9 m10 m11 m_length m_places m_most m_tenths m_changes m_readPlaces m_value m_ends m_clusters_7 m_text m_now m_read m_was m_readRule m_dist_8 m_delays_9 m_fractions_10 m_head_11 m_hour_12 m_number_13 a1 a2 r_15 h_14) [0, 1, 2, 3, 4, 5, 6, 7, 8, 9, 10, 11] rfl 8 0 rfl rfl rfl gX8_linkOf_X8_sortOf rfl rfl rfl rfl hd_Mo_sortOf ⟨(Nat.le_of_ble_eq_true rfl), (Nat.le_of_ble_eq_true rfl)⟩ rfl hl.1 rfl (Nat.le_of_ble_eq_true rfl) dX8_linkOf_62 ⟨(Nat.zero_le _), (Nat.zero_le _)⟩ ?_
          exact hret H locs ls 65 r_15 (m_clusters_7, m_dist_8, m_delays_9, m_fractions_10, m_head_11, m_hour_12, m_number_13) dX8_linkOf_65 (Option.some.inj hf) hP hD hS
        · have hf := ite_t c_17 hf
          refine lv_aload_n hx hb dX8_linkOf_45 rfl (lv_at hl 0 rfl) ?_
          refine va_get (D := E.1) (ci := 8) (v := .ref m2) (C := RX8) (T := TX8) (N := 20) hx hb hts in_X8_linkOf_X8 hown hK hP 0 rfl rfl 5 (by decide) q_0 (fun _ h9 => h9) rfl dX8_linkOf_46 ?_
          refine lv_bipush (v := 16) hx hb dX8_linkOf_49 (by decide) ?_
          refine lv_iload_n hx hb dX8_linkOf_51 rfl (lv_at hl 1 rfl) ?_
          refine lv_imul hx hb dX8_linkOf_52 ?_
          refine lv_iload_n hx hb dX8_linkOf_53 rfl (lv_at hl 2 rfl) ?_
          refine lv_iadd hx hb dX8_linkOf_54 ?_
          obtain ⟨g_16, hf⟩ := gk_s hf
          refine va_iald hx hb hK hP 2 0 rfl rfl g_16 dX8_linkOf_55 ?_
          refine lv_goto (tgt := 65) hx hb dX8_linkOf_56 (by decide) ?_
          exact hret H locs ls 65 (m_now ((16 * a1) + a2).toNatClampNeg) (m_clusters_7, m_dist_8, m_delays_9, m_fractions_10, m_head_11, m_hour_12, m_number_13) dX8_linkOf_65 (Option.some.inj hf) hP hD hS
      · have hf := ite_t c_18 hf
        refine lv_bipush (v := (-4)) hx hb dX8_linkOf_34 (by decide) ?_
        exact hret H locs ls 36 (-4) (m_clusters, m_dist, m_delays, m_fractions, m_head, m_hour, m_number) dX8_linkOf_36 (Option.some.inj hf) hP hD hS
    · have hf := ite_t c_19 hf
      refine lv_iconst (v := (-1)) hx hb dX8_linkOf_18 (by decide) ?_
      exact hret H locs ls 19 (-1) (m_clusters, m_dist, m_delays, m_fractions, m_head, m_hour, m_number) dX8_linkOf_19 (Option.some.inj hf) hP hD hS
abbrev rm_Mo_headOf : Room := { frames := 0, cells := 0, slots := 0, locals := 0 }
theorem hd_Mo_headOf : hdOK yX8_headOf 1 := by decide +kernel
theorem in_X8_headOf_X8 : ∀ w ∈ wsX80, w ∈ wsX8_headOf := by decide +kernel
set_option maxRecDepth 100000 in
set_option maxHeartbeats 4000000 in
theorem c_Mo_headOf (l : Launch) (E : En4) (m0 m1 m2 m3 m4 m5 m6 m7 m8 m9 m10 m11 : Nat) (m_length : Int32) (m_places : Int32) (m_most : Int32) (m_tenths : Int32) (m_changes : Int32) (m_readPlaces : Int32) (m_value : Int32) (m_ends : Int32) (m_clusters : Int32) (m_text : Nat → Int32) (m_now : Nat → Int32) (m_read : Nat → Int32) (m_was : Nat → Int32) (m_readRule : Nat → Int32) (m_dist : Nat → Int32) (m_delays : Nat → Int32) (m_fractions : Nat → Int32) (m_head : Nat → Int32) (m_hour : Nat → Int32) (m_number : Nat → Int32) (a1 : Int32)  (res : Int32) (hf : Mo_headOf m_number a1 = some res) : Met l yX8_headOf wsX8_headOf rm_Mo_headOf (pcR [.ref m0, .int a1] E (w_Mo E m0 m1 m2 m3 m4 m5 m6 m7 m8 m9 m10 m11 m_length m_places m_most m_tenths m_changes m_readPlaces m_value m_ends m_clusters m_text m_now m_read m_was m_readRule m_dist m_delays m_fractions m_head m_hour m_number)) (vp_Si (fun r => r = res)) 0 0 (fun _ => False) := by
  refine mk_Ri (cc := cX8_headOf) (maxL := 3) (by decide) rfl (Nat.le_of_ble_eq_true rfl) ?_
  intro p e s m args below meth c Q S hKN hP hret ls hl
  obtain ⟨hx, hb, hml, hown, hts⟩ := S
  obtain ⟨hK, hN⟩ := hKN
  have hl : lv_has ls 3 [(0, .ref m0), (1, .int a1)] := hl
  have q_0 := hts (.fieldLink RX8 40 "DelayClustersModel" "number" "[I") (by decide +kernel)
  unfold Mo_headOf at hf
  refine lv_iconst (v := 0) hx hb dX8_headOf_0 (by decide) ?_
  refine lv_istore_n (lv' := [(2, .int 0), (0, .ref m0), (1, .int a1)]) hx hb dX8_headOf_1 rfl hl (by decide) rfl (fun ls hl => ?_)
  obtain ⟨w_2, i_2, hf⟩ := bd_s hf
  have KX_2 : ∀ (v2_4 : Int32), v2_4 = w_2 → ∀ (ls : Array Slot), lv_has ls 3 [(2, .int v2_4)] → W p l e rm_Mo_headOf s m args below meth c s.heap [] 0 0 Q (F0 m 18 ls []) := by
    intro v2_4 e_
    subst e_
    try dsimp only at hf
    intro ls hl
    refine lv_iload_n hx hb dX8_headOf_18 rfl (lv_at hl 0 rfl) ?_
    exact hret ls 19 v2_4 dX8_headOf_19 (Option.some.inj hf)
  have KL_2 : ∀ (n_ : Nat) (v2_1 : Int32), it (Mo_headOf_L2 m_number a1) n_ v2_1 = some w_2 → ∀ (ls : Array Slot), lv_has ls 3 [(0, .ref m0), (1, .int a1), (2, .int v2_1)] → W p l e rm_Mo_headOf s m args below meth c s.heap [] 0 0 Q (F0 m 2 ls []) := by
    intro n_
    induction n_ with
    | zero => intro v2_1 hit; exact (it_z hit).elim
    | succ n_2 ih_2 =>
      intro v2_1 hit
      intro ls hl
      obtain ⟨x_2, hf, hc_2, hq_2⟩ := it_s hit
      dsimp only [Mo_headOf_L2] at hf
      refine lv_aload_n hx hb dX8_headOf_2 rfl (lv_at hl 0 rfl) ?_
      refine va_get (D := E.1) (ci := 8) (v := .ref m11) (C := RX8) (T := TX8) (N := 20) hx hb hts in_X8_headOf_X8 hown hK hP 0 rfl rfl 18 (by decide) q_0 (fun _ h9 => h9) rfl dX8_headOf_3 ?_
      refine lv_iload_n hx hb dX8_headOf_6 rfl (lv_at hl 2 rfl) ?_
      obtain ⟨g_2, hf⟩ := gk_s hf
      refine va_iald hx hb hK hP 11 0 rfl rfl g_2 dX8_headOf_7 ?_
      refine lv_iload_n hx hb dX8_headOf_8 rfl (lv_at hl 1 rfl) ?_
      refine lv_icmp_eq (tgt := 18) hx hb dX8_headOf_9 (by decide) (fun c_3 => ?_) (fun c_3 => ?_)
      · have hf := ite_t c_3 hf
        exact KX_2 v2_1 (hq_2 _ (Option.some.inj hf).symm) _ (lv_sub hl [2] rfl)
      · have hf := ite_f c_3 hf
        refine lv_iinc (v := (v2_1 + 1)) (lv' := [(2, .int (v2_1 + 1)), (0, .ref m0), (1, .int a1)]) hx hb dX8_headOf_12 hl (k := 2) rfl rfl (by decide) rfl (fun ls hl => ?_)
        refine lv_goto (tgt := 2) hx hb dX8_headOf_15 (by decide) ?_
        exact ih_2 (v2_1 + 1) (hc_2 _ (Option.some.inj hf).symm) _ (lv_sub hl [1, 2, 0] rfl)
  exact KL_2 _ 0 i_2 _ (lv_sub hl [1, 2, 0] rfl)
abbrev rm_Mo_between : Room := { frames := 0, cells := 0, slots := 0, locals := 0 }
theorem hd_Mo_between : hdOK yX8_between 3 := by decide +kernel
theorem in_X8_between_X8 : ∀ w ∈ wsX80, w ∈ wsX8_between := by decide +kernel
set_option maxRecDepth 100000 in
set_option maxHeartbeats 4000000 in
theorem c_Mo_between (l : Launch) (E : En4) (m0 m1 m2 m3 m4 m5 m6 m7 m8 m9 m10 m11 : Nat) (m_length : Int32) (m_places : Int32) (m_most : Int32) (m_tenths : Int32) (m_changes : Int32) (m_readPlaces : Int32) (m_value : Int32) (m_ends : Int32) (m_clusters : Int32) (m_text : Nat → Int32) (m_now : Nat → Int32) (m_read : Nat → Int32) (m_was : Nat → Int32) (m_readRule : Nat → Int32) (m_dist : Nat → Int32) (m_delays : Nat → Int32) (m_fractions : Nat → Int32) (m_head : Nat → Int32) (m_hour : Nat → Int32) (m_number : Nat → Int32) (a1 : Int32) (a2 : Int32) (a3 : Int32)  (res : Int32) (hf : Mo_between m_places m_now m_head m_number a1 a2 a3 = some res) : Met l yX8_between wsX8_between rm_Mo_between (pcR [.ref m0, .int a1, .int a2, .int a3] E (w_Mo E m0 m1 m2 m3 m4 m5 m6 m7 m8 m9 m10 m11 m_length m_places m_most m_tenths m_changes m_readPlaces m_value m_ends m_clusters m_text m_now m_read m_was m_readRule m_dist m_delays m_fractions m_head m_hour m_number)) (vp_Si (fun r => r = res)) 0 0 (fun _ => False) := by
  refine mk_Ri (cc := cX8_between) (maxL := 10) (by decide) rfl (Nat.le_of_ble_eq_true rfl) ?_
  intro p e s m args below meth c Q S hKN hP hret ls hl
  obtain ⟨hx, hb, hml, hown, hts⟩ := S
  obtain ⟨hK, hN⟩ := hKN
  have hl : lv_has ls 10 [(0, .ref m0), (1, .int a1), (2, .int a2), (3, .int a3)] := hl
  have q_0 := hts (.fieldLink RX8 57 "DelayClustersModel" "places" "I") (by decide +kernel)
  have q_1 := hts (.fieldLink RX8 13 "DelayClustersModel" "now" "[I") (by decide +kernel)
  have q_2 := hts (.fieldLink RX8 40 "DelayClustersModel" "number" "[I") (by decide +kernel)
  have q_3 := hts (.fieldLink RX8 34 "DelayClustersModel" "head" "[I") (by decide +kernel)
  unfold Mo_between at hf
  refine lv_iconst (v := 0) hx hb dX8_between_0 (by decide) ?_
  refine lv_istore (lv' := [(4, .int 0), (0, .ref m0), (1, .int a1), (2, .int a2), (3, .int a3)]) hx hb dX8_between_1 hl (by decide) rfl (fun ls hl => ?_)
  refine lv_bipush (v := (-4)) hx hb dX8_between_3 (by decide) ?_
  refine lv_istore (lv' := [(5, .int (-4)), (4, .int 0), (0, .ref m0), (1, .int a1), (2, .int a2), (3, .int a3)]) hx hb dX8_between_5 hl (by decide) rfl (fun ls hl => ?_)
  refine lv_iconst (v := 0) hx hb dX8_between_7 (by decide) ?_
  refine lv_istore (lv' := [(6, .int 0), (5, .int (-4)), (4, .int 0), (0, .ref m0), (1, .int a1), (2, .int a2), (3, .int a3)]) hx hb dX8_between_8 hl (by decide) rfl (fun ls hl => ?_)
  obtain ⟨w_10, i_10, hf⟩ := bd_s hf
  have KX_10 : ∀ (v4_25 : Int32) (v5_26 : Int32), (v4_25, v5_26) = w_10 → ∀ (ls : Array Slot), lv_has ls 10 [(3, .int a3), (4, .int v4_25), (5, .int v5_26)] → W p l e rm_Mo_between s m args below meth c s.heap [] 0 0 Q (F0 m 137 ls []) := by
    intro v4_25 v5_26 e_
    subst e_
    try dsimp only at hf
    intro ls hl
    refine lv_iload_n hx hb dX8_between_137 rfl (lv_at hl 0 rfl) ?_
    refine lv_if_eq (tgt := 146) hx hb dX8_between_138 (by decide) (fun c_27 => ?_) (fun c_27 => ?_)
    · have hf := ite_t c_27 hf
      refine lv_iload hx hb dX8_between_146 (lv_at hl 1 rfl) ?_
      exact hret ls 148 v4_25 dX8_between_148 (Option.some.inj hf)
    · have hf := ite_f c_27 hf
      refine lv_iload hx hb dX8_between_141 (lv_at hl 2 rfl) ?_
      refine lv_goto (tgt := 148) hx hb dX8_between_143 (by decide) ?_
      exact hret ls 148 v5_26 dX8_between_148 (Option.some.inj hf)
  have KL_10 : ∀ (n_ : Nat) (v4_1 : Int32) (v5_2 : Int32) (v6_3 : Int32), it (Mo_between_L10 m_places m_now m_head m_number a1 a2) n_ (v4_1, v5_2, v6_3) = some w_10 → ∀ (ls : Array Slot), lv_has ls 10 [(0, .ref m0), (1, .int a1), (2, .int a2), (3, .int a3), (4, .int v4_1), (5, .int v5_2), (6, .int v6_3)] → W p l e rm_Mo_between s m args below meth c s.heap [] 0 0 Q (F0 m 10 ls []) := by
    intro n_
    induction n_ with
    | zero => intro v4_1 v5_2 v6_3 hit; exact (it_z hit).elim
    | succ n_10 ih_10 =>
      intro v4_1 v5_2 v6_3 hit
      intro ls hl
      obtain ⟨x_10, hf, hc_10, hq_10⟩ := it_s hit
      dsimp only [Mo_between_L10] at hf
      refine lv_iload hx hb dX8_between_10 (lv_at hl 6 rfl) ?_
      refine lv_aload_n hx hb dX8_between_12 rfl (lv_at hl 0 rfl) ?_
      refine va_get (D := E.1) (ci := 8) (v := .int m_places) (C := RX8) (T := TX8) (N := 20) hx hb hts in_X8_between_X8 hown hK hP 0 rfl rfl 2 (by decide) q_0 (fun _ h9 => h9) rfl dX8_between_13 ?_
      refine lv_icmp_ge (tgt := 137) hx hb dX8_between_16 (by decide) (fun c_24 => ?_) (fun c_24 => ?_)
      · have hf := ite_t c_24 hf
        exact KX_10 v4_1 v5_2 (hq_10 _ (Option.some.inj hf).symm) _ (lv_sub hl [3, 4, 5] rfl)
      · have hf := ite_f c_24 hf
        refine lv_iconst (v := 0) hx hb dX8_between_19 (by decide) ?_
        refine lv_istore (lv' := [(7, .int 0), (0, .ref m0), (1, .int a1), (2, .int a2), (3, .int a3), (4, .int v4_1), (5, .int v5_2), (6, .int v6_3)]) hx hb dX8_between_20 hl (by decide) rfl (fun ls hl => ?_)
        obtain ⟨w_22, i_22, hf⟩ := bd_s hf
        have KX_22 : ∀ (v4_22 : Int32) (v5_23 : Int32), (v4_22, v5_23) = w_22 → ∀ (ls : Array Slot), lv_has ls 10 [(0, .ref m0), (1, .int a1), (2, .int a2), (3, .int a3), (4, .int v4_22), (5, .int v5_23), (6, .int v6_3)] → W p l e rm_Mo_between s m args below meth c s.heap [] 0 0 Q (F0 m 131 ls []) := by
          intro v4_22 v5_23 e_
          subst e_
          try dsimp only at hf
          intro ls hl
          refine lv_iinc (v := (v6_3 + 1)) (lv' := [(6, .int (v6_3 + 1)), (0, .ref m0), (1, .int a1), (2, .int a2), (3, .int a3), (4, .int v4_22), (5, .int v5_23)]) hx hb dX8_between_131 hl (k := 6) rfl rfl (by decide) rfl (fun ls hl => ?_)
          refine lv_goto (tgt := 10) hx hb dX8_between_134 (by decide) ?_
          exact ih_10 v4_22 v5_23 (v6_3 + 1) (hc_10 _ (Option.some.inj hf).symm) _ (lv_sub hl [1, 2, 3, 4, 5, 6, 0] rfl)
        have KL_22 : ∀ (n_ : Nat) (v4_4 : Int32) (v5_5 : Int32) (v7_6 : Int32), it (Mo_between_L22 m_places m_now m_head m_number a1 a2 v6_3) n_ (v4_4, v5_5, v7_6) = some w_22 → ∀ (ls : Array Slot), lv_has ls 10 [(0, .ref m0), (1, .int a1), (2, .int a2), (3, .int a3), (4, .int v4_4), (5, .int v5_5), (6, .int v6_3), (7, .int v7_6)] → W p l e rm_Mo_between s m args below meth c s.heap [] 0 0 Q (F0 m 22 ls []) := by
          intro n_
          induction n_ with
          | zero => intro v4_4 v5_5 v7_6 hit; exact (it_z hit).elim
          | succ n_22 ih_22 =>
            intro v4_4 v5_5 v7_6 hit
            intro ls hl
            obtain ⟨x_22, hf, hc_22, hq_22⟩ := it_s hit
            dsimp only [Mo_between_L22] at hf
            refine lv_iload hx hb dX8_between_22 (lv_at hl 7 rfl) ?_
            refine lv_aload_n hx hb dX8_between_24 rfl (lv_at hl 0 rfl) ?_
            refine va_get (D := E.1) (ci := 8) (v := .int m_places) (C := RX8) (T := TX8) (N := 20) hx hb hts in_X8_between_X8 hown hK hP 0 rfl rfl 2 (by decide) q_0 (fun _ h9 => h9) rfl dX8_between_25 ?_
            refine lv_icmp_ge (tgt := 131) hx hb dX8_between_28 (by decide) (fun c_21 => ?_) (fun c_21 => ?_)
            · have hf := ite_t c_21 hf
              exact KX_22 v4_4 v5_5 (hq_22 _ (Option.some.inj hf).symm) _ (lv_sub hl [0, 1, 2, 3, 4, 5, 6] rfl)
            · have hf := ite_f c_21 hf
              refine lv_aload_n hx hb dX8_between_31 rfl (lv_at hl 0 rfl) ?_
              refine va_get (D := E.1) (ci := 8) (v := .ref m2) (C := RX8) (T := TX8) (N := 20) hx hb hts in_X8_between_X8 hown hK hP 0 rfl rfl 5 (by decide) q_1 (fun _ h9 => h9) rfl dX8_between_32 ?_
              refine lv_bipush (v := 16) hx hb dX8_between_35 (by decide) ?_
              refine lv_iload hx hb dX8_between_37 (lv_at hl 6 rfl) ?_
              refine lv_imul hx hb dX8_between_39 ?_
              refine lv_iload hx hb dX8_between_40 (lv_at hl 7 rfl) ?_
              refine lv_iadd hx hb dX8_between_42 ?_
              obtain ⟨g_7, hf⟩ := gk_s hf
              refine va_iald hx hb hK hP 2 0 rfl rfl g_7 dX8_between_43 ?_
              refine lv_istore (lv' := [(8, .int (m_now ((16 * v6_3) + v7_6).toNatClampNeg)), (0, .ref m0), (1, .int a1), (2, .int a2), (3, .int a3), (4, .int v4_4), (5, .int v5_5), (6, .int v6_3), (7, .int v7_6)]) hx hb dX8_between_44 hl (by decide) rfl (fun ls hl => ?_)
              refine lv_aload_n hx hb dX8_between_46 rfl (lv_at hl 1 rfl) ?_
              refine va_get (D := E.1) (ci := 8) (v := .ref m11) (C := RX8) (T := TX8) (N := 20) hx hb hts in_X8_between_X8 hown hK hP 0 rfl rfl 18 (by decide) q_2 (fun _ h9 => h9) rfl dX8_between_47 ?_
              refine lv_aload_n hx hb dX8_between_50 rfl (lv_at hl 1 rfl) ?_
              refine va_get (D := E.1) (ci := 8) (v := .ref m9) (C := RX8) (T := TX8) (N := 20) hx hb hts in_X8_between_X8 hown hK hP 0 rfl rfl 16 (by decide) q_3 (fun _ h9 => h9) rfl dX8_between_51 ?_
              refine lv_iload hx hb dX8_between_54 (lv_at hl 8 rfl) ?_
              obtain ⟨g_8, hf⟩ := gk_s hf
              refine va_iald hx hb hK hP 9 0 rfl rfl g_8 dX8_between_56 ?_
              obtain ⟨g_9, hf⟩ := gk_s hf
              refine va_iald hx hb hK hP 11 0 rfl rfl g_9 dX8_between_57 ?_
              refine lv_istore (lv' := [(9, .int (m_number (m_head v7_6.toNatClampNeg).toNatClampNeg)), (8, .int (m_now ((16 * v6_3) + v7_6).toNatClampNeg)), (0, .ref m0), (1, .int a1), (2, .int a2), (3, .int a3), (4, .int v4_4), (5, .int v5_5), (6, .int v6_3), (7, .int v7_6)]) hx hb dX8_between_58 hl (by decide) rfl (fun ls hl => ?_)
              refine lv_iload hx hb dX8_between_60 (lv_at hl 1 rfl) ?_
              refine lv_if_le (tgt := 125) hx hb dX8_between_62 (by decide) (fun c_20 => ?_) (fun c_20 => ?_)
              · have hf := ite_t c_20 hf
                refine lv_iinc (v := (v7_6 + 1)) (lv' := [(7, .int (v7_6 + 1)), (9, .int (m_number (m_head v7_6.toNatClampNeg).toNatClampNeg)), (8, .int (m_now ((16 * v6_3) + v7_6).toNatClampNeg)), (0, .ref m0), (1, .int a1), (2, .int a2), (3, .int a3), (4, .int v4_4), (5, .int v5_5), (6, .int v6_3)]) hx hb dX8_between_125 hl (k := 9) rfl rfl (by decide) rfl (fun ls hl => ?_)
                refine lv_goto (tgt := 22) hx hb dX8_between_128 (by decide) ?_
                exact ih_22 v4_4 v5_5 (v7_6 + 1) (hc_22 _ (Option.some.inj hf).symm) _ (lv_sub hl [3, 4, 5, 6, 7, 8, 9, 0] rfl)
              · have hf := ite_f c_20 hf
                refine lv_aload_n hx hb dX8_between_65 rfl (lv_at hl 2 rfl) ?_
                refine va_get (D := E.1) (ci := 8) (v := .ref m11) (C := RX8) (T := TX8) (N := 20) hx hb hts in_X8_between_X8 hown hK hP 0 rfl rfl 18 (by decide) q_2 (fun _ h9 => h9) rfl dX8_between_66 ?_
                refine lv_aload_n hx hb dX8_between_69 rfl (lv_at hl 2 rfl) ?_
                refine va_get (D := E.1) (ci := 8) (v := .ref m9) (C := RX8) (T := TX8) (N := 20) hx hb hts in_X8_between_X8 hown hK hP 0 rfl rfl 16 (by decide) q_3 (fun _ h9 => h9) rfl dX8_between_70 ?_
                refine lv_iload hx hb dX8_between_73 (lv_at hl 8 rfl) ?_
                obtain ⟨g_10, hf⟩ := gk_s hf
                refine va_iald hx hb hK hP 9 0 rfl rfl g_10 dX8_between_75 ?_
                obtain ⟨g_11, hf⟩ := gk_s hf
                refine va_iald hx hb hK hP 11 0 rfl rfl g_11 dX8_between_76 ?_
                refine lv_iload_n hx hb dX8_between_77 rfl (lv_at hl 3 rfl) ?_
                refine lv_icmp_ne (tgt := 125) hx hb dX8_between_78 (by decide) (fun c_19 => ?_) (fun c_19 => ?_)
                · have hf := ite_f c_19 hf
                  refine lv_iinc (v := (v7_6 + 1)) (lv' := [(7, .int (v7_6 + 1)), (9, .int (m_number (m_head v7_6.toNatClampNeg).toNatClampNeg)), (8, .int (m_now ((16 * v6_3) + v7_6).toNatClampNeg)), (0, .ref m0), (1, .int a1), (2, .int a2), (3, .int a3), (4, .int v4_4), (5, .int v5_5), (6, .int v6_3)]) hx hb dX8_between_125 hl (k := 9) rfl rfl (by decide) rfl (fun ls hl => ?_)
                  refine lv_goto (tgt := 22) hx hb dX8_between_128 (by decide) ?_
                  exact ih_22 v4_4 v5_5 (v7_6 + 1) (hc_22 _ (Option.some.inj hf).symm) _ (lv_sub hl [3, 4, 5, 6, 7, 8, 9, 0] rfl)
                · have hf := ite_t c_19 hf
                  refine lv_iload hx hb dX8_between_81 (lv_at hl 0 rfl) ?_
                  refine lv_iload_n hx hb dX8_between_83 rfl (lv_at hl 3 rfl) ?_
                  refine lv_icmp_eq (tgt := 125) hx hb dX8_between_84 (by decide) (fun c_18 => ?_) (fun c_18 => ?_)
                  · have hf := ite_t c_18 hf
                    refine lv_iinc (v := (v7_6 + 1)) (lv' := [(7, .int (v7_6 + 1)), (9, .int (m_number (m_head v7_6.toNatClampNeg).toNatClampNeg)), (8, .int (m_now ((16 * v6_3) + v7_6).toNatClampNeg)), (0, .ref m0), (1, .int a1), (2, .int a2), (3, .int a3), (4, .int v4_4), (5, .int v5_5), (6, .int v6_3)]) hx hb dX8_between_125 hl (k := 9) rfl rfl (by decide) rfl (fun ls hl => ?_)
                    refine lv_goto (tgt := 22) hx hb dX8_between_128 (by decide) ?_
                    exact ih_22 v4_4 v5_5 (v7_6 + 1) (hc_22 _ (Option.some.inj hf).symm) _ (lv_sub hl [3, 4, 5, 6, 7, 8, 9, 0] rfl)
                  · have hf := ite_f c_18 hf
                    refine lv_iload_n hx hb dX8_between_87 rfl (lv_at hl 4 rfl) ?_
                    refine lv_bipush (v := (-4)) hx hb dX8_between_88 (by decide) ?_
                    refine lv_icmp_eq (tgt := 99) hx hb dX8_between_90 (by decide) (fun c_17 => ?_) (fun c_17 => ?_)
                    · have hf := ite_t c_17 hf
                      refine lv_iinc (v := (v4_4 + 1)) (lv' := [(4, .int (v4_4 + 1)), (9, .int (m_number (m_head v7_6.toNatClampNeg).toNatClampNeg)), (8, .int (m_now ((16 * v6_3) + v7_6).toNatClampNeg)), (0, .ref m0), (1, .int a1), (2, .int a2), (3, .int a3), (5, .int v5_5), (6, .int v6_3), (7, .int v7_6)]) hx hb dX8_between_99 hl (k := 6) rfl rfl (by decide) rfl (fun ls hl => ?_)
                      refine lv_iload hx hb dX8_between_102 (lv_at hl 7 rfl) ?_
                      refine lv_bipush (v := (-4)) hx hb dX8_between_104 (by decide) ?_
                      refine lv_icmp_eq (tgt := 116) hx hb dX8_between_106 (by decide) (fun c_13 => ?_) (fun c_13 => ?_)
                      · have hf := ite_t c_13 hf
                        refine lv_iload hx hb dX8_between_116 (lv_at hl 2 rfl) ?_
                        refine lv_goto (tgt := 123) hx hb dX8_between_118 (by decide) ?_
                        refine lv_istore (lv' := [(5, .int (m_now ((16 * v6_3) + v7_6).toNatClampNeg)), (4, .int (v4_4 + 1)), (9, .int (m_number (m_head v7_6.toNatClampNeg).toNatClampNeg)), (8, .int (m_now ((16 * v6_3) + v7_6).toNatClampNeg)), (0, .ref m0), (1, .int a1), (2, .int a2), (3, .int a3), (6, .int v6_3), (7, .int v7_6)]) hx hb dX8_between_123 hl (by decide) rfl (fun ls hl => ?_)
                        refine lv_iinc (v := (v7_6 + 1)) (lv' := [(7, .int (v7_6 + 1)), (5, .int (m_now ((16 * v6_3) + v7_6).toNatClampNeg)), (4, .int (v4_4 + 1)), (9, .int (m_number (m_head v7_6.toNatClampNeg).toNatClampNeg)), (8, .int (m_now ((16 * v6_3) + v7_6).toNatClampNeg)), (0, .ref m0), (1, .int a1), (2, .int a2), (3, .int a3), (6, .int v6_3)]) hx hb dX8_between_125 hl (k := 9) rfl rfl (by decide) rfl (fun ls hl => ?_)
                        refine lv_goto (tgt := 22) hx hb dX8_between_128 (by decide) ?_
                        exact ih_22 (v4_4 + 1) (m_now ((16 * v6_3) + v7_6).toNatClampNeg) (v7_6 + 1) (hc_22 _ (Option.some.inj hf).symm) _ (lv_sub hl [5, 6, 7, 8, 2, 1, 9, 0] rfl)
                      · have hf := ite_f c_13 hf
                        refine lv_iload hx hb dX8_between_109 (lv_at hl 2 rfl) ?_
                        refine lv_iload hx hb dX8_between_111 (lv_at hl 7 rfl) ?_
                        refine lv_icmp_ge (tgt := 121) hx hb dX8_between_113 (by decide) (fun c_12 => ?_) (fun c_12 => ?_)
                        · have hf := ite_t c_12 hf
                          refine lv_iload hx hb dX8_between_121 (lv_at hl 7 rfl) ?_
                          refine lv_istore (lv' := [(5, .int v5_5), (4, .int (v4_4 + 1)), (9, .int (m_number (m_head v7_6.toNatClampNeg).toNatClampNeg)), (8, .int (m_now ((16 * v6_3) + v7_6).toNatClampNeg)), (0, .ref m0), (1, .int a1), (2, .int a2), (3, .int a3), (6, .int v6_3), (7, .int v7_6)]) hx hb dX8_between_123 hl (by decide) rfl (fun ls hl => ?_)
                          refine lv_iinc (v := (v7_6 + 1)) (lv' := [(7, .int (v7_6 + 1)), (5, .int v5_5), (4, .int (v4_4 + 1)), (9, .int (m_number (m_head v7_6.toNatClampNeg).toNatClampNeg)), (8, .int (m_now ((16 * v6_3) + v7_6).toNatClampNeg)), (0, .ref m0), (1, .int a1), (2, .int a2), (3, .int a3), (6, .int v6_3)]) hx hb dX8_between_125 hl (k := 9) rfl rfl (by decide) rfl (fun ls hl => ?_)
                          refine lv_goto (tgt := 22) hx hb dX8_between_128 (by decide) ?_
                          exact ih_22 (v4_4 + 1) v5_5 (v7_6 + 1) (hc_22 _ (Option.some.inj hf).symm) _ (lv_sub hl [5, 6, 7, 8, 2, 1, 9, 0] rfl)
                        · have hf := ite_f c_12 hf
                          refine lv_iload hx hb dX8_between_116 (lv_at hl 2 rfl) ?_
                          refine lv_goto (tgt := 123) hx hb dX8_between_118 (by decide) ?_
                          refine lv_istore (lv' := [(5, .int (m_now ((16 * v6_3) + v7_6).toNatClampNeg)), (4, .int (v4_4 + 1)), (9, .int (m_number (m_head v7_6.toNatClampNeg).toNatClampNeg)), (8, .int (m_now ((16 * v6_3) + v7_6).toNatClampNeg)), (0, .ref m0), (1, .int a1), (2, .int a2), (3, .int a3), (6, .int v6_3), (7, .int v7_6)]) hx hb dX8_between_123 hl (by decide) rfl (fun ls hl => ?_)
                          refine lv_iinc (v := (v7_6 + 1)) (lv' := [(7, .int (v7_6 + 1)), (5, .int (m_now ((16 * v6_3) + v7_6).toNatClampNeg)), (4, .int (v4_4 + 1)), (9, .int (m_number (m_head v7_6.toNatClampNeg).toNatClampNeg)), (8, .int (m_now ((16 * v6_3) + v7_6).toNatClampNeg)), (0, .ref m0), (1, .int a1), (2, .int a2), (3, .int a3), (6, .int v6_3)]) hx hb dX8_between_125 hl (k := 9) rfl rfl (by decide) rfl (fun ls hl => ?_)
                          refine lv_goto (tgt := 22) hx hb dX8_between_128 (by decide) ?_
                          exact ih_22 (v4_4 + 1) (m_now ((16 * v6_3) + v7_6).toNatClampNeg) (v7_6 + 1) (hc_22 _ (Option.some.inj hf).symm) _ (lv_sub hl [5, 6, 7, 8, 2, 1, 9, 0] rfl)
                    · have hf := ite_f c_17 hf
                      refine lv_iload hx hb dX8_between_93 (lv_at hl 0 rfl) ?_
                      refine lv_iload_n hx hb dX8_between_95 rfl (lv_at hl 4 rfl) ?_
                      refine lv_icmp_ne (tgt := 125) hx hb dX8_between_96 (by decide) (fun c_16 => ?_) (fun c_16 => ?_)
                      · have hf := ite_f c_16 hf
                        refine lv_iinc (v := (v7_6 + 1)) (lv' := [(7, .int (v7_6 + 1)), (9, .int (m_number (m_head v7_6.toNatClampNeg).toNatClampNeg)), (8, .int (m_now ((16 * v6_3) + v7_6).toNatClampNeg)), (0, .ref m0), (1, .int a1), (2, .int a2), (3, .int a3), (4, .int v4_4), (5, .int v5_5), (6, .int v6_3)]) hx hb dX8_between_125 hl (k := 9) rfl rfl (by decide) rfl (fun ls hl => ?_)
                        refine lv_goto (tgt := 22) hx hb dX8_between_128 (by decide) ?_
                        exact ih_22 v4_4 v5_5 (v7_6 + 1) (hc_22 _ (Option.some.inj hf).symm) _ (lv_sub hl [3, 4, 5, 6, 7, 8, 9, 0] rfl)
                      · have hf := ite_t c_16 hf
                        refine lv_iinc (v := (v4_4 + 1)) (lv' := [(4, .int (v4_4 + 1)), (9, .int (m_number (m_head v7_6.toNatClampNeg).toNatClampNeg)), (8, .int (m_now ((16 * v6_3) + v7_6).toNatClampNeg)), (0, .ref m0), (1, .int a1), (2, .int a2), (3, .int a3), (5, .int v5_5), (6, .int v6_3), (7, .int v7_6)]) hx hb dX8_between_99 hl (k := 6) rfl rfl (by decide) rfl (fun ls hl => ?_)
                        refine lv_iload hx hb dX8_between_102 (lv_at hl 7 rfl) ?_
                        refine lv_bipush (v := (-4)) hx hb dX8_between_104 (by decide) ?_
                        refine lv_icmp_eq (tgt := 116) hx hb dX8_between_106 (by decide) (fun c_15 => ?_) (fun c_15 => ?_)
                        · have hf := ite_t c_15 hf
                          refine lv_iload hx hb dX8_between_116 (lv_at hl 2 rfl) ?_
                          refine lv_goto (tgt := 123) hx hb dX8_between_118 (by decide) ?_
                          refine lv_istore (lv' := [(5, .int (m_now ((16 * v6_3) + v7_6).toNatClampNeg)), (4, .int (v4_4 + 1)), (9, .int (m_number (m_head v7_6.toNatClampNeg).toNatClampNeg)), (8, .int (m_now ((16 * v6_3) + v7_6).toNatClampNeg)), (0, .ref m0), (1, .int a1), (2, .int a2), (3, .int a3), (6, .int v6_3), (7, .int v7_6)]) hx hb dX8_between_123 hl (by decide) rfl (fun ls hl => ?_)
                          refine lv_iinc (v := (v7_6 + 1)) (lv' := [(7, .int (v7_6 + 1)), (5, .int (m_now ((16 * v6_3) + v7_6).toNatClampNeg)), (4, .int (v4_4 + 1)), (9, .int (m_number (m_head v7_6.toNatClampNeg).toNatClampNeg)), (8, .int (m_now ((16 * v6_3) + v7_6).toNatClampNeg)), (0, .ref m0), (1, .int a1), (2, .int a2), (3, .int a3), (6, .int v6_3)]) hx hb dX8_between_125 hl (k := 9) rfl rfl (by decide) rfl (fun ls hl => ?_)
                          refine lv_goto (tgt := 22) hx hb dX8_between_128 (by decide) ?_
                          exact ih_22 (v4_4 + 1) (m_now ((16 * v6_3) + v7_6).toNatClampNeg) (v7_6 + 1) (hc_22 _ (Option.some.inj hf).symm) _ (lv_sub hl [5, 6, 7, 8, 2, 1, 9, 0] rfl)
                        · have hf := ite_f c_15 hf
                          refine lv_iload hx hb dX8_between_109 (lv_at hl 2 rfl) ?_
                          refine lv_iload hx hb dX8_between_111 (lv_at hl 7 rfl) ?_
                          refine lv_icmp_ge (tgt := 121) hx hb dX8_between_113 (by decide) (fun c_14 => ?_) (fun c_14 => ?_)
                          · have hf := ite_t c_14 hf
                            refine lv_iload hx hb dX8_between_121 (lv_at hl 7 rfl) ?_
                            refine lv_istore (lv' := [(5, .int v5_5), (4, .int (v4_4 + 1)), (9, .int (m_number (m_head v7_6.toNatClampNeg).toNatClampNeg)), (8, .int (m_now ((16 * v6_3) + v7_6).toNatClampNeg)), (0, .ref m0), (1, .int a1), (2, .int a2), (3, .int a3), (6, .int v6_3), (7, .int v7_6)]) hx hb dX8_between_123 hl (by decide) rfl (fun ls hl => ?_)
                            refine lv_iinc (v := (v7_6 + 1)) (lv' := [(7, .int (v7_6 + 1)), (5, .int v5_5), (4, .int (v4_4 + 1)), (9, .int (m_number (m_head v7_6.toNatClampNeg).toNatClampNeg)), (8, .int (m_now ((16 * v6_3) + v7_6).toNatClampNeg)), (0, .ref m0), (1, .int a1), (2, .int a2), (3, .int a3), (6, .int v6_3)]) hx hb dX8_between_125 hl (k := 9) rfl rfl (by decide) rfl (fun ls hl => ?_)
                            refine lv_goto (tgt := 22) hx hb dX8_between_128 (by decide) ?_
                            exact ih_22 (v4_4 + 1) v5_5 (v7_6 + 1) (hc_22 _ (Option.some.inj hf).symm) _ (lv_sub hl [5, 6, 7, 8, 2, 1, 9, 0] rfl)
                          · have hf := ite_f c_14 hf
                            refine lv_iload hx hb dX8_between_116 (lv_at hl 2 rfl) ?_
                            refine lv_goto (tgt := 123) hx hb dX8_between_118 (by decide) ?_
                            refine lv_istore (lv' := [(5, .int (m_now ((16 * v6_3) + v7_6).toNatClampNeg)), (4, .int (v4_4 + 1)), (9, .int (m_number (m_head v7_6.toNatClampNeg).toNatClampNeg)), (8, .int (m_now ((16 * v6_3) + v7_6).toNatClampNeg)), (0, .ref m0), (1, .int a1), (2, .int a2), (3, .int a3), (6, .int v6_3), (7, .int v7_6)]) hx hb dX8_between_123 hl (by decide) rfl (fun ls hl => ?_)
                            refine lv_iinc (v := (v7_6 + 1)) (lv' := [(7, .int (v7_6 + 1)), (5, .int (m_now ((16 * v6_3) + v7_6).toNatClampNeg)), (4, .int (v4_4 + 1)), (9, .int (m_number (m_head v7_6.toNatClampNeg).toNatClampNeg)), (8, .int (m_now ((16 * v6_3) + v7_6).toNatClampNeg)), (0, .ref m0), (1, .int a1), (2, .int a2), (3, .int a3), (6, .int v6_3)]) hx hb dX8_between_125 hl (k := 9) rfl rfl (by decide) rfl (fun ls hl => ?_)
                            refine lv_goto (tgt := 22) hx hb dX8_between_128 (by decide) ?_
                            exact ih_22 (v4_4 + 1) (m_now ((16 * v6_3) + v7_6).toNatClampNeg) (v7_6 + 1) (hc_22 _ (Option.some.inj hf).symm) _ (lv_sub hl [5, 6, 7, 8, 2, 1, 9, 0] rfl)
        exact KL_22 _ v4_1 v5_2 0 i_22 _ (lv_sub hl [1, 2, 3, 4, 5, 6, 7, 0] rfl)
  exact KL_10 _ 0 (-4) 0 i_10 _ (lv_sub hl [3, 4, 5, 6, 2, 1, 0] rfl)
abbrev rm_Mo_cluster : Room := { frames := 4, cells := 0, slots := 0, locals := 95 }
theorem hd_Mo_cluster : hdOK yX8_cluster 2 := by decide +kernel
theorem in_X8_cluster_X8 : ∀ w ∈ wsX80, w ∈ wsX8_cluster := by decide +kernel
set_option maxRecDepth 100000 in
set_option maxHeartbeats 4000000 in
theorem c_Mo_cluster (l : Launch) (E : En4) (m0 m1 m2 m3 m4 m5 m6 m7 m8 m9 m10 m11 : Nat) (sz : Nat) (m_length : Int32) (m_places : Int32) (m_most : Int32) (m_tenths : Int32) (m_changes : Int32) (m_readPlaces : Int32) (m_value : Int32) (m_ends : Int32) (m_clusters : Int32) (m_text : Nat → Int32) (m_now : Nat → Int32) (m_read : Nat → Int32) (m_was : Nat → Int32) (m_readRule : Nat → Int32) (m_dist : Nat → Int32) (m_delays : Nat → Int32) (m_fractions : Nat → Int32) (m_head : Nat → Int32) (m_hour : Nat → Int32) (m_number : Nat → Int32) (a1 : Int32) (a2 : Int32)  (res : Int32 × Int32 × (Nat → Int32) × (Nat → Int32) × (Nat → Int32) × (Nat → Int32) × (Nat → Int32) × (Nat → Int32)) (hf : Mo_cluster m_places m_most m_tenths m_clusters m_now m_dist m_delays m_fractions m_head m_hour m_number a1 a2 = some res) : Met l yX8_cluster wsX8_cluster rm_Mo_cluster (pcM [.ref m0, .int a1, .int a2] E sz (w_Mo E m0 m1 m2 m3 m4 m5 m6 m7 m8 m9 m10 m11 m_length m_places m_most m_tenths m_changes m_readPlaces m_value m_ends m_clusters m_text m_now m_read m_was m_readRule m_dist m_delays m_fractions m_head m_hour m_number)) (QMi E sz (w_Mo E m0 m1 m2 m3 m4 m5 m6 m7 m8 m9 m10 m11 m_length m_places m_most m_tenths m_changes m_readPlaces m_value m_ends m_clusters m_text m_now m_read m_was m_readRule m_dist m_delays m_fractions m_head m_hour m_number) (fun (u : Int32 × (Nat → Int32) × (Nat → Int32) × (Nat → Int32) × (Nat → Int32) × (Nat → Int32) × (Nat → Int32)) => (w_Mo E m0 m1 m2 m3 m4 m5 m6 m7 m8 m9 m10 m11 m_length m_places m_most m_tenths m_changes m_readPlaces m_value m_ends u.1 m_text m_now m_read m_was m_readRule u.2.1 u.2.2.1 u.2.2.2.1 u.2.2.2.2.1 u.2.2.2.2.2.1 u.2.2.2.2.2.2)) res) 0 0 (va_A (w_Mo E m0 m1 m2 m3 m4 m5 m6 m7 m8 m9 m10 m11 m_length m_places m_most m_tenths m_changes m_readPlaces m_value m_ends m_clusters m_text m_now m_read m_was m_readRule m_dist m_delays m_fractions m_head m_hour m_number) sz) := by
  refine mk_Mi (cc := cX8_cluster) (maxL := 8) (by decide) rfl (Nat.le_of_ble_eq_true rfl) ?_
  intro p e s m args below meth c Q A S hKN hA hret H locs ls hP hD hS hl
  obtain ⟨hx, hb, hml, hown, hts⟩ := S
  obtain ⟨hK, hN⟩ := hKN
  have hl : lv_has ls 8 [(0, .ref m0), (1, .int a1), (2, .int a2)] := hl
  have q_0 := hts (.fieldLink RX8 130 "DelayClustersModel" "clusters" "I") (by decide +kernel)
  have q_1 := hts (.fieldLink RX8 57 "DelayClustersModel" "places" "I") (by decide +kernel)
  have q_2 := hts (.fieldLink RX8 34 "DelayClustersModel" "head" "[I") (by decide +kernel)
  unfold Mo_cluster at hf
  refine lv_aload_n hx hb dX8_cluster_0 rfl (lv_at hl 0 rfl) ?_
  obtain ⟨⟨m_clusters_2, m_dist_3, m_delays_4, m_fractions_5, m_head_6, m_hour_7, m_number_8⟩, h_1, hf⟩ := bd_s hf
  try dsimp only at hf
  refine ca_Mv (w2 := (w_Mo E m0 m1 m2 m3 m4 m5 m6 m7 m8 m9 m10 m11 m_length m_places m_most m_tenths m_changes m_readPlaces m_value m_ends m_clusters_2 m_text m_now m_read m_was m_readRule m_dist_3 m_delays_4 m_fractions_5 m_head_6 m_hour_7 m_number_8)) (As := []) (rest := []) ⟨hx, hb, hml, hown, hts⟩ ⟨hK, hN⟩ hP hD hS hA (c_Mo_settle l E m0 m1 m2 m3 m4 m5 m6 m7 m8 m9 m10 m11 H.size m_length m_places m_most m_tenths m_changes m_readPlaces m_value m_ends m_clusters m_text m_now m_read m_was m_readRule m_dist m_delays m_fractions m_head m_hour m_number (m_clusters_2, m_dist_3, m_delays_4, m_fractions_5, m_head_6, m_hour_7, m_number_8) h_1) [0, 1, 2, 3, 4, 5, 6, 7, 8, 9, 10, 11] [] [0, 1, 2, 3, 4, 5, 6, 7, 8, 9, 10, 11] rfl rfl rfl rfl (by decide) rfl rfl 8 0 rfl rfl rfl gX8_cluster_X8_settle rfl rfl rfl rfl hd_Mo_settle ⟨(Nat.le_of_ble_eq_true rfl), (Nat.le_of_ble_eq_true rfl)⟩ rfl hl.1 rfl (Nat.le_of_ble_eq_true rfl) dX8_cluster_1 ⟨(Nat.zero_le _), (Nat.zero_le _)⟩ (fun H locs hP hD hS => ?_)
  refine lv_iload_n hx hb dX8_cluster_4 rfl (lv_at hl 1 rfl) ?_
  refine lv_iconst (v := 0) hx hb dX8_cluster_5 (by decide) ?_
  refine lv_aload_n hx hb dX8_cluster_6 rfl (lv_at hl 0 rfl) ?_
  refine va_get (D := E.1) (ci := 8) (v := .int m_clusters_2) (C := RX8) (T := TX8) (N := 20) hx hb hts in_X8_cluster_X8 hown hK hP 0 rfl rfl 19 (by decide) q_0 (fun _ h9 => h9) rfl dX8_cluster_7 ?_
  refine lv_iconst (v := 1) hx hb dX8_cluster_10 (by decide) ?_
  refine lv_isub hx hb dX8_cluster_11 ?_
  obtain ⟨r_10, h_9, hf⟩ := bd_s hf
  refine ca_S (As := [.int a1, .int 0, .int (m_clusters_2 - 1)]) (rest := []) ⟨hx, hb, hml, hown, hts⟩ ⟨hK, hN⟩ hP (c_Mo_isIn l E   a1 0 (m_clusters_2 - 1) r_10 h_9) [] rfl gX8_cluster_X8_isIn rfl rfl rfl hd_Mo_isIn ⟨(Nat.le_of_ble_eq_true rfl), (Nat.le_of_ble_eq_true rfl)⟩ rfl hl.1 rfl (Nat.le_of_ble_eq_true rfl) dX8_cluster_12 ⟨(Nat.zero_le _), (Nat.zero_le _)⟩ ?_
  refine lv_if_eq (tgt := 27) hx hb dX8_cluster_15 (by decide) (fun c_44 => ?_) (fun c_44 => ?_)
  · have hf := ite_t c_44 hf
    refine lv_iconst (v := (-1)) hx hb dX8_cluster_27 (by decide) ?_
    exact hret H locs ls 28 (-1) (m_clusters_2, m_dist_3, m_delays_4, m_fractions_5, m_head_6, m_hour_7, m_number_8) dX8_cluster_28 (Option.some.inj hf) hP hD hS
  · have hf := ite_f c_44 hf
    refine lv_iload_n hx hb dX8_cluster_18 rfl (lv_at hl 2 rfl) ?_
    refine lv_iconst (v := 0) hx hb dX8_cluster_19 (by decide) ?_
    refine lv_iconst (v := 5) hx hb dX8_cluster_20 (by decide) ?_
    obtain ⟨r_12, h_11, hf⟩ := bd_s hf
    refine ca_S (As := [.int a2, .int 0, .int 5]) (rest := []) ⟨hx, hb, hml, hown, hts⟩ ⟨hK, hN⟩ hP (c_Mo_isIn l E   a2 0 5 r_12 h_11) [] rfl gX8_cluster_X8_isIn rfl rfl rfl hd_Mo_isIn ⟨(Nat.le_of_ble_eq_true rfl), (Nat.le_of_ble_eq_true rfl)⟩ rfl hl.1 rfl (Nat.le_of_ble_eq_true rfl) dX8_cluster_21 ⟨(Nat.zero_le _), (Nat.zero_le _)⟩ ?_
    refine lv_if_ne (tgt := 29) hx hb dX8_cluster_24 (by decide) (fun c_43 => ?_) (fun c_43 => ?_)
    · have hf := ite_f c_43 hf
      refine lv_aload_n hx hb dX8_cluster_29 rfl (lv_at hl 0 rfl) ?_
      refine lv_iload_n hx hb dX8_cluster_30 rfl (lv_at hl 1 rfl) ?_
      obtain ⟨r_14, h_13, hf⟩ := bd_s hf
      refine ca_V (As := [.int a1]) (rest := []) ⟨hx, hb, hml, hown, hts⟩ ⟨hK, hN⟩ hP (c_Mo_headOf l E m0 m1 m2 m3 m4 m5 m6 m7 m8 m9 m10 m11 m_length m_places m_most m_tenths m_changes m_readPlaces m_value m_ends m_clusters_2 m_text m_now m_read m_was m_readRule m_dist_3 m_delays_4 m_fractions_5 m_head_6 m_hour_7 m_number_8 a1 r_14 h_13) [0, 1, 2, 3, 4, 5, 6, 7, 8, 9, 10, 11] rfl 8 0 rfl rfl rfl gX8_cluster_X8_headOf rfl rfl rfl rfl hd_Mo_headOf ⟨(Nat.le_of_ble_eq_true rfl), (Nat.le_of_ble_eq_true rfl)⟩ rfl hl.1 rfl (Nat.le_of_ble_eq_true rfl) dX8_cluster_31 ⟨(Nat.zero_le _), (Nat.zero_le _)⟩ ?_
      refine lv_istore_n (lv' := [(3, .int r_14), (0, .ref m0), (1, .int a1), (2, .int a2)]) hx hb dX8_cluster_34 rfl hl (by decide) rfl (fun ls hl => ?_)
      refine lv_iconst (v := 0) hx hb dX8_cluster_35 (by decide) ?_
      refine lv_istore (lv' := [(4, .int 0), (3, .int r_14), (0, .ref m0), (1, .int a1), (2, .int a2)]) hx hb dX8_cluster_36 hl (by decide) rfl (fun ls hl => ?_)
      refine lv_iconst (v := 0) hx hb dX8_cluster_38 (by decide) ?_
      refine lv_istore (lv' := [(5, .int 0), (4, .int 0), (3, .int r_14), (0, .ref m0), (1, .int a1), (2, .int a2)]) hx hb dX8_cluster_39 hl (by decide) rfl (fun ls hl => ?_)
      refine lv_iconst (v := 0) hx hb dX8_cluster_41 (by decide) ?_
      refine lv_istore (lv' := [(6, .int 0), (5, .int 0), (4, .int 0), (3, .int r_14), (0, .ref m0), (1, .int a1), (2, .int a2)]) hx hb dX8_cluster_42 hl (by decide) rfl (fun ls hl => ?_)
      obtain ⟨w_44, i_44, hf⟩ := bd_s hf
      have KX_44 : ∀ (v4_24 : Int32) (v5_25 : Int32), (v4_24, v5_25) = w_44 → ∀ (H : Heap) (locs : List Loc) (ls : Array Slot), va_P E.1 vwCl (w_Mo E m0 m1 m2 m3 m4 m5 m6 m7 m8 m9 m10 m11 m_length m_places m_most m_tenths m_changes m_readPlaces m_value m_ends m_clusters_2 m_text m_now m_read m_was m_readRule m_dist_3 m_delays_4 m_fractions_5 m_head_6 m_hour_7 m_number_8) H → va_D A (w_Mo E m0 m1 m2 m3 m4 m5 m6 m7 m8 m9 m10 m11 m_length m_places m_most m_tenths m_changes m_readPlaces m_value m_ends m_clusters_2 m_text m_now m_read m_was m_readRule m_dist_3 m_delays_4 m_fractions_5 m_head_6 m_hour_7 m_number_8) → va_S A s.heap H locs → lv_has ls 8 [(0, .ref m0), (1, .int a1), (2, .int a2), (3, .int r_14), (4, .int v4_24), (5, .int v5_25)] → W p l e rm_Mo_cluster s m args below meth c H locs 0 0 Q (F0 m 104 ls []) := by
        intro v4_24 v5_25 e_
        subst e_
        try dsimp only at hf
        intro H locs ls hP hD hS hl
        refine lv_iload_n hx hb dX8_cluster_104 rfl (lv_at hl 2 rfl) ?_
        by_cases c_26 : a2 = 0
        · have hf := ite_t c_26 hf
          refine lv_tableIn (off := 35) (tgt := 140) hx hb dX8_cluster_105 (by rw [c_26]; decide) (by rw [c_26]; decide) (by rw [c_26]; rfl) (by decide) ?_
          refine lv_iload_n hx hb dX8_cluster_140 rfl (lv_at hl 3 rfl) ?_
          exact hret H locs ls 141 r_14 (m_clusters_2, m_dist_3, m_delays_4, m_fractions_5, m_head_6, m_hour_7, m_number_8) dX8_cluster_141 (Option.some.inj hf) hP hD hS
        · have hf := ite_f c_26 hf
          by_cases c_27 : a2 = 1
          · have hf := ite_t c_27 hf
            refine lv_tableIn (off := 37) (tgt := 142) hx hb dX8_cluster_105 (by rw [c_27]; decide) (by rw [c_27]; decide) (by rw [c_27]; rfl) (by decide) ?_
            refine lv_iload hx hb dX8_cluster_142 (lv_at hl 5 rfl) ?_
            exact hret H locs ls 144 v5_25 (m_clusters_2, m_dist_3, m_delays_4, m_fractions_5, m_head_6, m_hour_7, m_number_8) dX8_cluster_144 (Option.some.inj hf) hP hD hS
          · have hf := ite_f c_27 hf
            by_cases c_30 : a2 = 2
            · have hf := ite_t c_30 hf
              refine lv_tableIn (off := 40) (tgt := 145) hx hb dX8_cluster_105 (by rw [c_30]; decide) (by rw [c_30]; decide) (by rw [c_30]; rfl) (by decide) ?_
              refine lv_aload_n hx hb dX8_cluster_145 rfl (lv_at hl 0 rfl) ?_
              refine lv_iload_n hx hb dX8_cluster_146 rfl (lv_at hl 3 rfl) ?_
              obtain ⟨r_29, h_28, hf⟩ := bd_s hf
              refine ca_V (As := [.int r_14]) (rest := []) ⟨hx, hb, hml, hown, hts⟩ ⟨hK, hN⟩ hP (c_Mo_wide l E m0 m1 m2 m3 m4 m5 m6 m7 m8 m9 m10 m11 m_length m_places m_most m_tenths m_changes m_readPlaces m_value m_ends m_clusters_2 m_text m_now m_read m_was m_readRule m_dist_3 m_delays_4 m_fractions_5 m_head_6 m_hour_7 m_number_8 r_14 r_29 h_28) [0, 1, 2, 3, 4, 5, 6, 7, 8, 9, 10, 11] rfl 8 0 rfl rfl rfl gX8_cluster_X8_wide rfl rfl rfl rfl hd_Mo_wide ⟨(Nat.le_of_ble_eq_true rfl), (Nat.le_of_ble_eq_true rfl)⟩ rfl hl.1 rfl (Nat.le_of_ble_eq_true rfl) dX8_cluster_147 ⟨(Nat.zero_le _), (Nat.zero_le _)⟩ ?_
              exact hret H locs ls 150 r_29 (m_clusters_2, m_dist_3, m_delays_4, m_fractions_5, m_head_6, m_hour_7, m_number_8) dX8_cluster_150 (Option.some.inj hf) hP hD hS
            · have hf := ite_f c_30 hf
              by_cases c_33 : a2 = 3
              · have hf := ite_t c_33 hf
                refine lv_tableIn (off := 46) (tgt := 151) hx hb dX8_cluster_105 (by rw [c_33]; decide) (by rw [c_33]; decide) (by rw [c_33]; rfl) (by decide) ?_
                refine lv_aload_n hx hb dX8_cluster_151 rfl (lv_at hl 0 rfl) ?_
                refine lv_iload_n hx hb dX8_cluster_152 rfl (lv_at hl 1 rfl) ?_
                refine lv_bipush (v := (-4)) hx hb dX8_cluster_153 (by decide) ?_
                refine lv_iconst (v := 0) hx hb dX8_cluster_155 (by decide) ?_
                obtain ⟨r_32, h_31, hf⟩ := bd_s hf
                refine ca_V (As := [.int a1, .int (-4), .int 0]) (rest := []) ⟨hx, hb, hml, hown, hts⟩ ⟨hK, hN⟩ hP (c_Mo_between l E m0 m1 m2 m3 m4 m5 m6 m7 m8 m9 m10 m11 m_length m_places m_most m_tenths m_changes m_readPlaces m_value m_ends m_clusters_2 m_text m_now m_read m_was m_readRule m_dist_3 m_delays_4 m_fractions_5 m_head_6 m_hour_7 m_number_8 a1 (-4) 0 r_32 h_31) [0, 1, 2, 3, 4, 5, 6, 7, 8, 9, 10, 11] rfl 8 0 rfl rfl rfl gX8_cluster_X8_between rfl rfl rfl rfl hd_Mo_between ⟨(Nat.le_of_ble_eq_true rfl), (Nat.le_of_ble_eq_true rfl)⟩ rfl hl.1 rfl (Nat.le_of_ble_eq_true rfl) dX8_cluster_156 ⟨(Nat.zero_le _), (Nat.zero_le _)⟩ ?_
                exact hret H locs ls 159 r_32 (m_clusters_2, m_dist_3, m_delays_4, m_fractions_5, m_head_6, m_hour_7, m_number_8) dX8_cluster_159 (Option.some.inj hf) hP hD hS
              · have hf := ite_f c_33 hf
                by_cases c_42 : a2 = 4
                · have hf := ite_t c_42 hf
                  refine lv_tableIn (off := 55) (tgt := 160) hx hb dX8_cluster_105 (by rw [c_42]; decide) (by rw [c_42]; decide) (by rw [c_42]; rfl) (by decide) ?_
                  refine lv_iconst (v := 0) hx hb dX8_cluster_160 (by decide) ?_
                  refine lv_istore (lv' := [(6, .int 0), (0, .ref m0), (1, .int a1), (2, .int a2), (3, .int r_14), (4, .int v4_24), (5, .int v5_25)]) hx hb dX8_cluster_161 hl (by decide) rfl (fun ls hl => ?_)
                  refine lv_iconst (v := 0) hx hb dX8_cluster_163 (by decide) ?_
                  refine lv_istore (lv' := [(7, .int 0), (6, .int 0), (0, .ref m0), (1, .int a1), (2, .int a2), (3, .int r_14), (4, .int v4_24), (5, .int v5_25)]) hx hb dX8_cluster_164 hl (by decide) rfl (fun ls hl => ?_)
                  obtain ⟨w_166, i_166, hf⟩ := bd_s hf
                  have KX_166 : ∀ (v6_41 : Int32), v6_41 = w_166 → ∀ (H : Heap) (locs : List Loc) (ls : Array Slot), va_P E.1 vwCl (w_Mo E m0 m1 m2 m3 m4 m5 m6 m7 m8 m9 m10 m11 m_length m_places m_most m_tenths m_changes m_readPlaces m_value m_ends m_clusters_2 m_text m_now m_read m_was m_readRule m_dist_3 m_delays_4 m_fractions_5 m_head_6 m_hour_7 m_number_8) H → va_D A (w_Mo E m0 m1 m2 m3 m4 m5 m6 m7 m8 m9 m10 m11 m_length m_places m_most m_tenths m_changes m_readPlaces m_value m_ends m_clusters_2 m_text m_now m_read m_was m_readRule m_dist_3 m_delays_4 m_fractions_5 m_head_6 m_hour_7 m_number_8) → va_S A s.heap H locs → lv_has ls 8 [(6, .int v6_41)] → W p l e rm_Mo_cluster s m args below meth c H locs 0 0 Q (F0 m 208 ls []) := by
                    intro v6_41 e_
                    subst e_
                    try dsimp only at hf
                    intro H locs ls hP hD hS hl
                    refine lv_iload hx hb dX8_cluster_208 (lv_at hl 0 rfl) ?_
                    exact hret H locs ls 210 v6_41 (m_clusters_2, m_dist_3, m_delays_4, m_fractions_5, m_head_6, m_hour_7, m_number_8) dX8_cluster_210 (Option.some.inj hf) hP hD hS
                  have KL_166 : ∀ (n_ : Nat) (v6_34 : Int32) (v7_35 : Int32), it (Mo_cluster_L166 m_places m_now a1 m_clusters_2 m_head_6 m_number_8) n_ (v6_34, v7_35) = some w_166 → ∀ (H : Heap) (locs : List Loc) (ls : Array Slot), va_P E.1 vwCl (w_Mo E m0 m1 m2 m3 m4 m5 m6 m7 m8 m9 m10 m11 m_length m_places m_most m_tenths m_changes m_readPlaces m_value m_ends m_clusters_2 m_text m_now m_read m_was m_readRule m_dist_3 m_delays_4 m_fractions_5 m_head_6 m_hour_7 m_number_8) H → va_D A (w_Mo E m0 m1 m2 m3 m4 m5 m6 m7 m8 m9 m10 m11 m_length m_places m_most m_tenths m_changes m_readPlaces m_value m_ends m_clusters_2 m_text m_now m_read m_was m_readRule m_dist_3 m_delays_4 m_fractions_5 m_head_6 m_hour_7 m_number_8) → va_S A s.heap H locs → lv_has ls 8 [(0, .ref m0), (1, .int a1), (6, .int v6_34), (7, .int v7_35)] → W p l e rm_Mo_cluster s m args below meth c H locs 0 0 Q (F0 m 166 ls []) := by
                    intro n_
                    induction n_ with
                    | zero => intro v6_34 v7_35 hit; exact (it_z hit).elim
                    | succ n_166 ih_166 =>
                      intro v6_34 v7_35 hit
                      intro H locs ls hP hD hS hl
                      obtain ⟨x_166, hf, hc_166, hq_166⟩ := it_s hit
                      dsimp only [Mo_cluster_L166] at hf
                      refine lv_iload hx hb dX8_cluster_166 (lv_at hl 3 rfl) ?_
                      refine lv_aload_n hx hb dX8_cluster_168 rfl (lv_at hl 0 rfl) ?_
                      refine va_get (D := E.1) (ci := 8) (v := .int m_clusters_2) (C := RX8) (T := TX8) (N := 20) hx hb hts in_X8_cluster_X8 hown hK hP 0 rfl rfl 19 (by decide) q_0 (fun _ h9 => h9) rfl dX8_cluster_169 ?_
                      refine lv_icmp_ge (tgt := 208) hx hb dX8_cluster_172 (by decide) (fun c_40 => ?_) (fun c_40 => ?_)
                      · have hf := ite_t c_40 hf
                        exact KX_166 v6_34 (hq_166 _ (Option.some.inj hf).symm) H locs _ hP hD hS (lv_sub hl [2] rfl)
                      · have hf := ite_f c_40 hf
                        refine lv_iload hx hb dX8_cluster_175 (lv_at hl 2 rfl) ?_
                        refine lv_iload hx hb dX8_cluster_177 (lv_at hl 3 rfl) ?_
                        refine lv_iload_n hx hb dX8_cluster_179 rfl (lv_at hl 1 rfl) ?_
                        refine lv_icmp_eq (tgt := 198) hx hb dX8_cluster_180 (by decide) (fun c_39 => ?_) (fun c_39 => ?_)
                        · have hf := ite_t c_39 hf
                          refine lv_iconst (v := 0) hx hb dX8_cluster_198 (by decide) ?_
                          refine lv_iadd hx hb dX8_cluster_199 ?_
                          refine lv_istore (lv' := [(6, .int (v6_34 + 0)), (0, .ref m0), (1, .int a1), (7, .int v7_35)]) hx hb dX8_cluster_200 hl (by decide) rfl (fun ls hl => ?_)
                          refine lv_iinc (v := (v7_35 + 1)) (lv' := [(7, .int (v7_35 + 1)), (6, .int (v6_34 + 0)), (0, .ref m0), (1, .int a1)]) hx hb dX8_cluster_202 hl (k := 3) rfl rfl (by decide) rfl (fun ls hl => ?_)
                          refine lv_goto (tgt := 166) hx hb dX8_cluster_205 (by decide) ?_
                          exact ih_166 (v6_34 + 0) (v7_35 + 1) (hc_166 _ (Option.some.inj hf).symm) H locs _ hP hD hS (lv_sub hl [2, 3, 1, 0] rfl)
                        · have hf := ite_f c_39 hf
                          refine lv_aload_n hx hb dX8_cluster_183 rfl (lv_at hl 0 rfl) ?_
                          refine lv_iload_n hx hb dX8_cluster_184 rfl (lv_at hl 1 rfl) ?_
                          refine lv_iload hx hb dX8_cluster_185 (lv_at hl 3 rfl) ?_
                          refine lv_iconst (v := 0) hx hb dX8_cluster_187 (by decide) ?_
                          obtain ⟨r_37, h_36, hf⟩ := bd_s hf
                          refine ca_V (As := [.int a1, .int v7_35, .int 0]) (rest := [.int v6_34]) ⟨hx, hb, hml, hown, hts⟩ ⟨hK, hN⟩ hP (c_Mo_between l E m0 m1 m2 m3 m4 m5 m6 m7 m8 m9 m10 m11 m_length m_places m_most m_tenths m_changes m_readPlaces m_value m_ends m_clusters_2 m_text m_now m_read m_was m_readRule m_dist_3 m_delays_4 m_fractions_5 m_head_6 m_hour_7 m_number_8 a1 v7_35 0 r_37 h_36) [0, 1, 2, 3, 4, 5, 6, 7, 8, 9, 10, 11] rfl 8 0 rfl rfl rfl gX8_cluster_X8_between rfl rfl rfl rfl hd_Mo_between ⟨(Nat.le_of_ble_eq_true rfl), (Nat.le_of_ble_eq_true rfl)⟩ rfl hl.1 rfl (Nat.le_of_ble_eq_true rfl) dX8_cluster_188 ⟨(Nat.zero_le _), (Nat.zero_le _)⟩ ?_
                          refine lv_if_le (tgt := 198) hx hb dX8_cluster_191 (by decide) (fun c_38 => ?_) (fun c_38 => ?_)
                          · have hf := ite_t c_38 hf
                            refine lv_iconst (v := 0) hx hb dX8_cluster_198 (by decide) ?_
                            refine lv_iadd hx hb dX8_cluster_199 ?_
                            refine lv_istore (lv' := [(6, .int (v6_34 + 0)), (0, .ref m0), (1, .int a1), (7, .int v7_35)]) hx hb dX8_cluster_200 hl (by decide) rfl (fun ls hl => ?_)
                            refine lv_iinc (v := (v7_35 + 1)) (lv' := [(7, .int (v7_35 + 1)), (6, .int (v6_34 + 0)), (0, .ref m0), (1, .int a1)]) hx hb dX8_cluster_202 hl (k := 3) rfl rfl (by decide) rfl (fun ls hl => ?_)
                            refine lv_goto (tgt := 166) hx hb dX8_cluster_205 (by decide) ?_
                            exact ih_166 (v6_34 + 0) (v7_35 + 1) (hc_166 _ (Option.some.inj hf).symm) H locs _ hP hD hS (lv_sub hl [2, 3, 1, 0] rfl)
                          · have hf := ite_f c_38 hf
                            refine lv_iconst (v := 1) hx hb dX8_cluster_194 (by decide) ?_
                            refine lv_goto (tgt := 199) hx hb dX8_cluster_195 (by decide) ?_
                            refine lv_iadd hx hb dX8_cluster_199 ?_
                            refine lv_istore (lv' := [(6, .int (v6_34 + 1)), (0, .ref m0), (1, .int a1), (7, .int v7_35)]) hx hb dX8_cluster_200 hl (by decide) rfl (fun ls hl => ?_)
                            refine lv_iinc (v := (v7_35 + 1)) (lv' := [(7, .int (v7_35 + 1)), (6, .int (v6_34 + 1)), (0, .ref m0), (1, .int a1)]) hx hb dX8_cluster_202 hl (k := 3) rfl rfl (by decide) rfl (fun ls hl => ?_)
                            refine lv_goto (tgt := 166) hx hb dX8_cluster_205 (by decide) ?_
                            exact ih_166 (v6_34 + 1) (v7_35 + 1) (hc_166 _ (Option.some.inj hf).symm) H locs _ hP hD hS (lv_sub hl [2, 3, 1, 0] rfl)
                  exact KL_166 _ 0 0 i_166 H locs _ hP hD hS (lv_sub hl [2, 3, 1, 0] rfl)
                · have hf := ite_f c_42 hf
                  refine lv_tableOut (tgt := 211) hx hb dX8_cluster_105 (by have e_26 := lv_neT (a := 0) c_26 (by decide); have e_27 := lv_neT (a := 1) c_27 (by decide); have e_30 := lv_neT (a := 2) c_30 (by decide); have e_33 := lv_neT (a := 3) c_33 (by decide); have e_42 := lv_neT (a := 4) c_42 (by decide); omega) (by decide) ?_
                  refine lv_iload hx hb dX8_cluster_211 (lv_at hl 4 rfl) ?_
                  exact hret H locs ls 213 v4_24 (m_clusters_2, m_dist_3, m_delays_4, m_fractions_5, m_head_6, m_hour_7, m_number_8) dX8_cluster_213 (Option.some.inj hf) hP hD hS
      have KL_44 : ∀ (n_ : Nat) (v4_15 : Int32) (v5_16 : Int32) (v6_17 : Int32), it (Mo_cluster_L44 m_places m_head_6 r_14) n_ (v4_15, v5_16, v6_17) = some w_44 → ∀ (H : Heap) (locs : List Loc) (ls : Array Slot), va_P E.1 vwCl (w_Mo E m0 m1 m2 m3 m4 m5 m6 m7 m8 m9 m10 m11 m_length m_places m_most m_tenths m_changes m_readPlaces m_value m_ends m_clusters_2 m_text m_now m_read m_was m_readRule m_dist_3 m_delays_4 m_fractions_5 m_head_6 m_hour_7 m_number_8) H → va_D A (w_Mo E m0 m1 m2 m3 m4 m5 m6 m7 m8 m9 m10 m11 m_length m_places m_most m_tenths m_changes m_readPlaces m_value m_ends m_clusters_2 m_text m_now m_read m_was m_readRule m_dist_3 m_delays_4 m_fractions_5 m_head_6 m_hour_7 m_number_8) → va_S A s.heap H locs → lv_has ls 8 [(0, .ref m0), (1, .int a1), (2, .int a2), (3, .int r_14), (4, .int v4_15), (5, .int v5_16), (6, .int v6_17)] → W p l e rm_Mo_cluster s m args below meth c H locs 0 0 Q (F0 m 44 ls []) := by
        intro n_
        induction n_ with
        | zero => intro v4_15 v5_16 v6_17 hit; exact (it_z hit).elim
        | succ n_44 ih_44 =>
          intro v4_15 v5_16 v6_17 hit
          intro H locs ls hP hD hS hl
          obtain ⟨x_44, hf, hc_44, hq_44⟩ := it_s hit
          dsimp only [Mo_cluster_L44] at hf
          refine lv_iload hx hb dX8_cluster_44 (lv_at hl 6 rfl) ?_
          refine lv_aload_n hx hb dX8_cluster_46 rfl (lv_at hl 0 rfl) ?_
          refine va_get (D := E.1) (ci := 8) (v := .int m_places) (C := RX8) (T := TX8) (N := 20) hx hb hts in_X8_cluster_X8 hown hK hP 0 rfl rfl 2 (by decide) q_1 (fun _ h9 => h9) rfl dX8_cluster_47 ?_
          refine lv_icmp_ge (tgt := 104) hx hb dX8_cluster_50 (by decide) (fun c_23 => ?_) (fun c_23 => ?_)
          · have hf := ite_t c_23 hf
            exact KX_44 v4_15 v5_16 (hq_44 _ (Option.some.inj hf).symm) H locs _ hP hD hS (lv_sub hl [0, 1, 2, 3, 4, 5] rfl)
          · have hf := ite_f c_23 hf
            refine lv_iload hx hb dX8_cluster_53 (lv_at hl 4 rfl) ?_
            refine lv_aload_n hx hb dX8_cluster_55 rfl (lv_at hl 0 rfl) ?_
            refine va_get (D := E.1) (ci := 8) (v := .ref m9) (C := RX8) (T := TX8) (N := 20) hx hb hts in_X8_cluster_X8 hown hK hP 0 rfl rfl 16 (by decide) q_2 (fun _ h9 => h9) rfl dX8_cluster_56 ?_
            refine lv_iload hx hb dX8_cluster_59 (lv_at hl 6 rfl) ?_
            obtain ⟨g_18, hf⟩ := gk_s hf
            refine va_iald hx hb hK hP 9 0 rfl rfl g_18 dX8_cluster_61 ?_
            refine lv_iload_n hx hb dX8_cluster_62 rfl (lv_at hl 3 rfl) ?_
            obtain ⟨j_63, b_63, hf⟩ := bd_s hf
            have KJ_63 : ∀ (t_20 : Int32), t_20 = j_63 → ∀ (H : Heap) (locs : List Loc) (ls : Array Slot), va_P E.1 vwCl (w_Mo E m0 m1 m2 m3 m4 m5 m6 m7 m8 m9 m10 m11 m_length m_places m_most m_tenths m_changes m_readPlaces m_value m_ends m_clusters_2 m_text m_now m_read m_was m_readRule m_dist_3 m_delays_4 m_fractions_5 m_head_6 m_hour_7 m_number_8) H → va_D A (w_Mo E m0 m1 m2 m3 m4 m5 m6 m7 m8 m9 m10 m11 m_length m_places m_most m_tenths m_changes m_readPlaces m_value m_ends m_clusters_2 m_text m_now m_read m_was m_readRule m_dist_3 m_delays_4 m_fractions_5 m_head_6 m_hour_7 m_number_8) → va_S A s.heap H locs → lv_has ls 8 [(0, .ref m0), (1, .int a1), (2, .int a2), (3, .int r_14), (5, .int v5_16), (6, .int v6_17)] → W p l e rm_Mo_cluster s m args below meth c H locs 0 0 Q (F0 m 74 ls [.int t_20, .int v4_15]) := by
              intro t_20 e_
              subst e_
              try dsimp only at hf
              intro H locs ls hP hD hS hl
              refine lv_ior hx hb dX8_cluster_74 ?_
              refine lv_istore (lv' := [(4, .int (v4_15 ||| t_20)), (0, .ref m0), (1, .int a1), (2, .int a2), (3, .int r_14), (5, .int v5_16), (6, .int v6_17)]) hx hb dX8_cluster_75 hl (by decide) rfl (fun ls hl => ?_)
              refine lv_iload hx hb dX8_cluster_77 (lv_at hl 5 rfl) ?_
              refine lv_aload_n hx hb dX8_cluster_79 rfl (lv_at hl 1 rfl) ?_
              refine va_get (D := E.1) (ci := 8) (v := .ref m9) (C := RX8) (T := TX8) (N := 20) hx hb hts in_X8_cluster_X8 hown hK hP 0 rfl rfl 16 (by decide) q_2 (fun _ h9 => h9) rfl dX8_cluster_80 ?_
              refine lv_iload hx hb dX8_cluster_83 (lv_at hl 6 rfl) ?_
              obtain ⟨g_21, hf⟩ := gk_s hf
              refine va_iald hx hb hK hP 9 0 rfl rfl g_21 dX8_cluster_85 ?_
              refine lv_iload_n hx hb dX8_cluster_86 rfl (lv_at hl 4 rfl) ?_
              refine lv_icmp_ne (tgt := 94) hx hb dX8_cluster_87 (by decide) (fun c_22 => ?_) (fun c_22 => ?_)
              · have hf := ite_f c_22 hf
                refine lv_iconst (v := 0) hx hb dX8_cluster_94 (by decide) ?_
                refine lv_iadd hx hb dX8_cluster_95 ?_
                refine lv_istore (lv' := [(5, .int (v5_16 + 0)), (4, .int (v4_15 ||| t_20)), (0, .ref m0), (1, .int a1), (2, .int a2), (3, .int r_14), (6, .int v6_17)]) hx hb dX8_cluster_96 hl (by decide) rfl (fun ls hl => ?_)
                refine lv_iinc (v := (v6_17 + 1)) (lv' := [(6, .int (v6_17 + 1)), (5, .int (v5_16 + 0)), (4, .int (v4_15 ||| t_20)), (0, .ref m0), (1, .int a1), (2, .int a2), (3, .int r_14)]) hx hb dX8_cluster_98 hl (k := 6) rfl rfl (by decide) rfl (fun ls hl => ?_)
                refine lv_goto (tgt := 44) hx hb dX8_cluster_101 (by decide) ?_
                exact ih_44 (v4_15 ||| t_20) (v5_16 + 0) (v6_17 + 1) (hc_44 _ (Option.some.inj hf).symm) H locs _ hP hD hS (lv_sub hl [3, 4, 5, 6, 2, 1, 0] rfl)
              · have hf := ite_t c_22 hf
                refine lv_iconst (v := 1) hx hb dX8_cluster_90 (by decide) ?_
                refine lv_goto (tgt := 95) hx hb dX8_cluster_91 (by decide) ?_
                refine lv_iadd hx hb dX8_cluster_95 ?_
                refine lv_istore (lv' := [(5, .int (v5_16 + 1)), (4, .int (v4_15 ||| t_20)), (0, .ref m0), (1, .int a1), (2, .int a2), (3, .int r_14), (6, .int v6_17)]) hx hb dX8_cluster_96 hl (by decide) rfl (fun ls hl => ?_)
                refine lv_iinc (v := (v6_17 + 1)) (lv' := [(6, .int (v6_17 + 1)), (5, .int (v5_16 + 1)), (4, .int (v4_15 ||| t_20)), (0, .ref m0), (1, .int a1), (2, .int a2), (3, .int r_14)]) hx hb dX8_cluster_98 hl (k := 6) rfl rfl (by decide) rfl (fun ls hl => ?_)
                refine lv_goto (tgt := 44) hx hb dX8_cluster_101 (by decide) ?_
                exact ih_44 (v4_15 ||| t_20) (v5_16 + 1) (v6_17 + 1) (hc_44 _ (Option.some.inj hf).symm) H locs _ hP hD hS (lv_sub hl [3, 4, 5, 6, 2, 1, 0] rfl)
            have hf := b_63
            refine lv_icmp_ne (tgt := 73) hx hb dX8_cluster_63 (by decide) (fun c_19 => ?_) (fun c_19 => ?_)
            · have hf := ite_f c_19 hf
              refine lv_iconst (v := 0) hx hb dX8_cluster_73 (by decide) ?_
              exact KJ_63 0 (Option.some.inj hf) H locs _ hP hD hS (lv_sub hl [0, 1, 2, 3, 5, 6] rfl)
            · have hf := ite_t c_19 hf
              refine lv_iconst (v := 1) hx hb dX8_cluster_66 (by decide) ?_
              refine lv_iload hx hb dX8_cluster_67 (lv_at hl 6 rfl) ?_
              refine lv_ishl hx hb dX8_cluster_69 ?_
              refine lv_goto (tgt := 74) hx hb dX8_cluster_70 (by decide) ?_
              exact KJ_63 (1 <<< (v6_17 &&& 31)) (Option.some.inj hf) H locs _ hP hD hS (lv_sub hl [0, 1, 2, 3, 5, 6] rfl)
      exact KL_44 _ 0 0 0 i_44 H locs _ hP hD hS (lv_sub hl [4, 5, 6, 3, 2, 1, 0] rfl)
    · have hf := ite_t c_43 hf
      refine lv_iconst (v := (-1)) hx hb dX8_cluster_27 (by decide) ?_
      exact hret H locs ls 28 (-1) (m_clusters_2, m_dist_3, m_delays_4, m_fractions_5, m_head_6, m_hour_7, m_number_8) dX8_cluster_28 (Option.some.inj hf) hP hD hS
abbrev rm_Mo_beside : Room := { frames := 4, cells := 0, slots := 0, locals := 95 }
theorem hd_Mo_beside : hdOK yX8_beside 3 := by decide +kernel
theorem in_X8_beside_X8 : ∀ w ∈ wsX80, w ∈ wsX8_beside := by decide +kernel
set_option maxRecDepth 100000 in
set_option maxHeartbeats 4000000 in
theorem c_Mo_beside (l : Launch) (E : En4) (m0 m1 m2 m3 m4 m5 m6 m7 m8 m9 m10 m11 : Nat) (sz : Nat) (m_length : Int32) (m_places : Int32) (m_most : Int32) (m_tenths : Int32) (m_changes : Int32) (m_readPlaces : Int32) (m_value : Int32) (m_ends : Int32) (m_clusters : Int32) (m_text : Nat → Int32) (m_now : Nat → Int32) (m_read : Nat → Int32) (m_was : Nat → Int32) (m_readRule : Nat → Int32) (m_dist : Nat → Int32) (m_delays : Nat → Int32) (m_fractions : Nat → Int32) (m_head : Nat → Int32) (m_hour : Nat → Int32) (m_number : Nat → Int32) (a1 : Int32) (a2 : Int32) (a3 : Int32)  (res : Int32 × Int32 × (Nat → Int32) × (Nat → Int32) × (Nat → Int32) × (Nat → Int32) × (Nat → Int32) × (Nat → Int32)) (hf : Mo_beside m_places m_most m_tenths m_clusters m_now m_dist m_delays m_fractions m_head m_hour m_number a1 a2 a3 = some res) : Met l yX8_beside wsX8_beside rm_Mo_beside (pcM [.ref m0, .int a1, .int a2, .int a3] E sz (w_Mo E m0 m1 m2 m3 m4 m5 m6 m7 m8 m9 m10 m11 m_length m_places m_most m_tenths m_changes m_readPlaces m_value m_ends m_clusters m_text m_now m_read m_was m_readRule m_dist m_delays m_fractions m_head m_hour m_number)) (QMi E sz (w_Mo E m0 m1 m2 m3 m4 m5 m6 m7 m8 m9 m10 m11 m_length m_places m_most m_tenths m_changes m_readPlaces m_value m_ends m_clusters m_text m_now m_read m_was m_readRule m_dist m_delays m_fractions m_head m_hour m_number) (fun (u : Int32 × (Nat → Int32) × (Nat → Int32) × (Nat → Int32) × (Nat → Int32) × (Nat → Int32) × (Nat → Int32)) => (w_Mo E m0 m1 m2 m3 m4 m5 m6 m7 m8 m9 m10 m11 m_length m_places m_most m_tenths m_changes m_readPlaces m_value m_ends u.1 m_text m_now m_read m_was m_readRule u.2.1 u.2.2.1 u.2.2.2.1 u.2.2.2.2.1 u.2.2.2.2.2.1 u.2.2.2.2.2.2)) res) 0 0 (va_A (w_Mo E m0 m1 m2 m3 m4 m5 m6 m7 m8 m9 m10 m11 m_length m_places m_most m_tenths m_changes m_readPlaces m_value m_ends m_clusters m_text m_now m_read m_was m_readRule m_dist m_delays m_fractions m_head m_hour m_number) sz) := by
  refine mk_Mi (cc := cX8_beside) (maxL := 4) (by decide) rfl (Nat.le_of_ble_eq_true rfl) ?_
  intro p e s m args below meth c Q A S hKN hA hret H locs ls hP hD hS hl
  obtain ⟨hx, hb, hml, hown, hts⟩ := S
  obtain ⟨hK, hN⟩ := hKN
  have hl : lv_has ls 4 [(0, .ref m0), (1, .int a1), (2, .int a2), (3, .int a3)] := hl
  have q_0 := hts (.fieldLink RX8 130 "DelayClustersModel" "clusters" "I") (by decide +kernel)
  unfold Mo_beside at hf
  refine lv_aload_n hx hb dX8_beside_0 rfl (lv_at hl 0 rfl) ?_
  obtain ⟨⟨m_clusters_2, m_dist_3, m_delays_4, m_fractions_5, m_head_6, m_hour_7, m_number_8⟩, h_1, hf⟩ := bd_s hf
  try dsimp only at hf
  refine ca_Mv (w2 := (w_Mo E m0 m1 m2 m3 m4 m5 m6 m7 m8 m9 m10 m11 m_length m_places m_most m_tenths m_changes m_readPlaces m_value m_ends m_clusters_2 m_text m_now m_read m_was m_readRule m_dist_3 m_delays_4 m_fractions_5 m_head_6 m_hour_7 m_number_8)) (As := []) (rest := []) ⟨hx, hb, hml, hown, hts⟩ ⟨hK, hN⟩ hP hD hS hA (c_Mo_settle l E m0 m1 m2 m3 m4 m5 m6 m7 m8 m9 m10 m11 H.size m_length m_places m_most m_tenths m_changes m_readPlaces m_value m_ends m_clusters m_text m_now m_read m_was m_readRule m_dist m_delays m_fractions m_head m_hour m_number (m_clusters_2, m_dist_3, m_delays_4, m_fractions_5, m_head_6, m_hour_7, m_number_8) h_1) [0, 1, 2, 3, 4, 5, 6, 7, 8, 9, 10, 11] [] [0, 1, 2, 3, 4, 5, 6, 7, 8, 9, 10, 11] rfl rfl rfl rfl (by decide) rfl rfl 8 0 rfl rfl rfl gX8_beside_X8_settle rfl rfl rfl rfl hd_Mo_settle ⟨(Nat.le_of_ble_eq_true rfl), (Nat.le_of_ble_eq_true rfl)⟩ rfl hl.1 rfl (Nat.le_of_ble_eq_true rfl) dX8_beside_1 ⟨(Nat.zero_le _), (Nat.zero_le _)⟩ (fun H locs hP hD hS => ?_)
  refine lv_iload_n hx hb dX8_beside_4 rfl (lv_at hl 1 rfl) ?_
  refine lv_iconst (v := 0) hx hb dX8_beside_5 (by decide) ?_
  refine lv_aload_n hx hb dX8_beside_6 rfl (lv_at hl 0 rfl) ?_
  refine va_get (D := E.1) (ci := 8) (v := .int m_clusters_2) (C := RX8) (T := TX8) (N := 20) hx hb hts in_X8_beside_X8 hown hK hP 0 rfl rfl 19 (by decide) q_0 (fun _ h9 => h9) rfl dX8_beside_7 ?_
  refine lv_iconst (v := 1) hx hb dX8_beside_10 (by decide) ?_
  refine lv_isub hx hb dX8_beside_11 ?_
  obtain ⟨r_10, h_9, hf⟩ := bd_s hf
  refine ca_S (As := [.int a1, .int 0, .int (m_clusters_2 - 1)]) (rest := []) ⟨hx, hb, hml, hown, hts⟩ ⟨hK, hN⟩ hP (c_Mo_isIn l E   a1 0 (m_clusters_2 - 1) r_10 h_9) [] rfl gX8_beside_X8_isIn rfl rfl rfl hd_Mo_isIn ⟨(Nat.le_of_ble_eq_true rfl), (Nat.le_of_ble_eq_true rfl)⟩ rfl hl.1 rfl (Nat.le_of_ble_eq_true rfl) dX8_beside_12 ⟨(Nat.zero_le _), (Nat.zero_le _)⟩ ?_
  refine lv_if_eq (tgt := 46) hx hb dX8_beside_15 (by decide) (fun c_22 => ?_) (fun c_22 => ?_)
  · have hf := ite_t c_22 hf
    refine lv_iconst (v := (-1)) hx hb dX8_beside_46 (by decide) ?_
    exact hret H locs ls 47 (-1) (m_clusters_2, m_dist_3, m_delays_4, m_fractions_5, m_head_6, m_hour_7, m_number_8) dX8_beside_47 (Option.some.inj hf) hP hD hS
  · have hf := ite_f c_22 hf
    refine lv_iload_n hx hb dX8_beside_18 rfl (lv_at hl 2 rfl) ?_
    refine lv_iconst (v := 0) hx hb dX8_beside_19 (by decide) ?_
    refine lv_aload_n hx hb dX8_beside_20 rfl (lv_at hl 0 rfl) ?_
    refine va_get (D := E.1) (ci := 8) (v := .int m_clusters_2) (C := RX8) (T := TX8) (N := 20) hx hb hts in_X8_beside_X8 hown hK hP 0 rfl rfl 19 (by decide) q_0 (fun _ h9 => h9) rfl dX8_beside_21 ?_
    refine lv_iconst (v := 1) hx hb dX8_beside_24 (by decide) ?_
    refine lv_isub hx hb dX8_beside_25 ?_
    obtain ⟨r_12, h_11, hf⟩ := bd_s hf
    refine ca_S (As := [.int a2, .int 0, .int (m_clusters_2 - 1)]) (rest := []) ⟨hx, hb, hml, hown, hts⟩ ⟨hK, hN⟩ hP (c_Mo_isIn l E   a2 0 (m_clusters_2 - 1) r_12 h_11) [] rfl gX8_beside_X8_isIn rfl rfl rfl hd_Mo_isIn ⟨(Nat.le_of_ble_eq_true rfl), (Nat.le_of_ble_eq_true rfl)⟩ rfl hl.1 rfl (Nat.le_of_ble_eq_true rfl) dX8_beside_26 ⟨(Nat.zero_le _), (Nat.zero_le _)⟩ ?_
    refine lv_if_eq (tgt := 46) hx hb dX8_beside_29 (by decide) (fun c_21 => ?_) (fun c_21 => ?_)
    · have hf := ite_t c_21 hf
      refine lv_iconst (v := (-1)) hx hb dX8_beside_46 (by decide) ?_
      exact hret H locs ls 47 (-1) (m_clusters_2, m_dist_3, m_delays_4, m_fractions_5, m_head_6, m_hour_7, m_number_8) dX8_beside_47 (Option.some.inj hf) hP hD hS
    · have hf := ite_f c_21 hf
      refine lv_iload_n hx hb dX8_beside_32 rfl (lv_at hl 1 rfl) ?_
      refine lv_iload_n hx hb dX8_beside_33 rfl (lv_at hl 2 rfl) ?_
      refine lv_icmp_eq (tgt := 46) hx hb dX8_beside_34 (by decide) (fun c_20 => ?_) (fun c_20 => ?_)
      · have hf := ite_t c_20 hf
        refine lv_iconst (v := (-1)) hx hb dX8_beside_46 (by decide) ?_
        exact hret H locs ls 47 (-1) (m_clusters_2, m_dist_3, m_delays_4, m_fractions_5, m_head_6, m_hour_7, m_number_8) dX8_beside_47 (Option.some.inj hf) hP hD hS
      · have hf := ite_f c_20 hf
        refine lv_iload_n hx hb dX8_beside_37 rfl (lv_at hl 3 rfl) ?_
        refine lv_iconst (v := 0) hx hb dX8_beside_38 (by decide) ?_
        refine lv_iconst (v := 1) hx hb dX8_beside_39 (by decide) ?_
        obtain ⟨r_14, h_13, hf⟩ := bd_s hf
        refine ca_S (As := [.int a3, .int 0, .int 1]) (rest := []) ⟨hx, hb, hml, hown, hts⟩ ⟨hK, hN⟩ hP (c_Mo_isIn l E   a3 0 1 r_14 h_13) [] rfl gX8_beside_X8_isIn rfl rfl rfl hd_Mo_isIn ⟨(Nat.le_of_ble_eq_true rfl), (Nat.le_of_ble_eq_true rfl)⟩ rfl hl.1 rfl (Nat.le_of_ble_eq_true rfl) dX8_beside_40 ⟨(Nat.zero_le _), (Nat.zero_le _)⟩ ?_
        refine lv_if_ne (tgt := 48) hx hb dX8_beside_43 (by decide) (fun c_19 => ?_) (fun c_19 => ?_)
        · have hf := ite_f c_19 hf
          refine lv_aload_n hx hb dX8_beside_48 rfl (lv_at hl 0 rfl) ?_
          refine lv_iload_n hx hb dX8_beside_49 rfl (lv_at hl 1 rfl) ?_
          refine lv_iload_n hx hb dX8_beside_50 rfl (lv_at hl 2 rfl) ?_
          refine lv_iload_n hx hb dX8_beside_51 rfl (lv_at hl 3 rfl) ?_
          refine lv_iconst (v := 1) hx hb dX8_beside_52 (by decide) ?_
          obtain ⟨j_53, b_53, hf⟩ := bd_s hf
          have KJ_53 : ∀ (t_16 : Int32), t_16 = j_53 → ∀ (H : Heap) (locs : List Loc) (ls : Array Slot), va_P E.1 vwCl (w_Mo E m0 m1 m2 m3 m4 m5 m6 m7 m8 m9 m10 m11 m_length m_places m_most m_tenths m_changes m_readPlaces m_value m_ends m_clusters_2 m_text m_now m_read m_was m_readRule m_dist_3 m_delays_4 m_fractions_5 m_head_6 m_hour_7 m_number_8) H → va_D A (w_Mo E m0 m1 m2 m3 m4 m5 m6 m7 m8 m9 m10 m11 m_length m_places m_most m_tenths m_changes m_readPlaces m_value m_ends m_clusters_2 m_text m_now m_read m_was m_readRule m_dist_3 m_delays_4 m_fractions_5 m_head_6 m_hour_7 m_number_8) → va_S A s.heap H locs → lv_has ls 4 [] → W p l e rm_Mo_beside s m args below meth c H locs 0 0 Q (F0 m 61 ls [.int t_16, .int a2, .int a1, .ref m0]) := by
            intro t_16 e_
            subst e_
            try dsimp only at hf
            intro H locs ls hP hD hS hl
            obtain ⟨r_18, h_17, hf⟩ := bd_s hf
            refine ca_V (As := [.int a1, .int a2, .int t_16]) (rest := []) ⟨hx, hb, hml, hown, hts⟩ ⟨hK, hN⟩ hP (c_Mo_between l E m0 m1 m2 m3 m4 m5 m6 m7 m8 m9 m10 m11 m_length m_places m_most m_tenths m_changes m_readPlaces m_value m_ends m_clusters_2 m_text m_now m_read m_was m_readRule m_dist_3 m_delays_4 m_fractions_5 m_head_6 m_hour_7 m_number_8 a1 a2 t_16 r_18 h_17) [0, 1, 2, 3, 4, 5, 6, 7, 8, 9, 10, 11] rfl 8 0 rfl rfl rfl gX8_beside_X8_between rfl rfl rfl rfl hd_Mo_between ⟨(Nat.le_of_ble_eq_true rfl), (Nat.le_of_ble_eq_true rfl)⟩ rfl hl.1 rfl (Nat.le_of_ble_eq_true rfl) dX8_beside_61 ⟨(Nat.zero_le _), (Nat.zero_le _)⟩ ?_
            exact hret H locs ls 64 r_18 (m_clusters_2, m_dist_3, m_delays_4, m_fractions_5, m_head_6, m_hour_7, m_number_8) dX8_beside_64 (Option.some.inj hf) hP hD hS
          have hf := b_53
          refine lv_icmp_ne (tgt := 60) hx hb dX8_beside_53 (by decide) (fun c_15 => ?_) (fun c_15 => ?_)
          · have hf := ite_f c_15 hf
            refine lv_iconst (v := 0) hx hb dX8_beside_60 (by decide) ?_
            exact KJ_53 0 (Option.some.inj hf) H locs _ hP hD hS (lv_sub hl [] rfl)
          · have hf := ite_t c_15 hf
            refine lv_iconst (v := 1) hx hb dX8_beside_56 (by decide) ?_
            refine lv_goto (tgt := 61) hx hb dX8_beside_57 (by decide) ?_
            exact KJ_53 1 (Option.some.inj hf) H locs _ hP hD hS (lv_sub hl [] rfl)
        · have hf := ite_t c_19 hf
          refine lv_iconst (v := (-1)) hx hb dX8_beside_46 (by decide) ?_
          exact hret H locs ls 47 (-1) (m_clusters_2, m_dist_3, m_delays_4, m_fractions_5, m_head_6, m_hour_7, m_number_8) dX8_beside_47 (Option.some.inj hf) hP hD hS
abbrev rm_Mo_tried : Room := { frames := 4, cells := 0, slots := 0, locals := 90 }
theorem hd_Mo_tried : hdOK yX8_tried 2 := by decide +kernel
theorem in_X8_tried_X8 : ∀ w ∈ wsX80, w ∈ wsX8_tried := by decide +kernel
set_option maxRecDepth 100000 in
set_option maxHeartbeats 4000000 in
theorem c_Mo_tried (l : Launch) (E : En4) (m0 m1 m2 m3 m4 m5 m6 m7 m8 m9 m10 m11 : Nat) (sz : Nat) (m_length : Int32) (m_places : Int32) (m_most : Int32) (m_tenths : Int32) (m_changes : Int32) (m_readPlaces : Int32) (m_value : Int32) (m_ends : Int32) (m_clusters : Int32) (m_text : Nat → Int32) (m_now : Nat → Int32) (m_read : Nat → Int32) (m_was : Nat → Int32) (m_readRule : Nat → Int32) (m_dist : Nat → Int32) (m_delays : Nat → Int32) (m_fractions : Nat → Int32) (m_head : Nat → Int32) (m_hour : Nat → Int32) (m_number : Nat → Int32) (a1 : Int32) (a2 : Int32)  (res : Int32 × Int32 × (Nat → Int32) × (Nat → Int32) × (Nat → Int32) × (Nat → Int32) × (Nat → Int32) × (Nat → Int32)) (hf : Mo_tried m_places m_most m_tenths m_clusters m_now m_dist m_delays m_fractions m_head m_hour m_number a1 a2 = some res) : Met l yX8_tried wsX8_tried rm_Mo_tried (pcM [.ref m0, .int a1, .int a2] E sz (w_Mo E m0 m1 m2 m3 m4 m5 m6 m7 m8 m9 m10 m11 m_length m_places m_most m_tenths m_changes m_readPlaces m_value m_ends m_clusters m_text m_now m_read m_was m_readRule m_dist m_delays m_fractions m_head m_hour m_number)) (QMi E sz (w_Mo E m0 m1 m2 m3 m4 m5 m6 m7 m8 m9 m10 m11 m_length m_places m_most m_tenths m_changes m_readPlaces m_value m_ends m_clusters m_text m_now m_read m_was m_readRule m_dist m_delays m_fractions m_head m_hour m_number) (fun (u : Int32 × (Nat → Int32) × (Nat → Int32) × (Nat → Int32) × (Nat → Int32) × (Nat → Int32) × (Nat → Int32)) => (w_Mo E m0 m1 m2 m3 m4 m5 m6 m7 m8 m9 m10 m11 m_length m_places m_most m_tenths m_changes m_readPlaces m_value m_ends u.1 m_text m_now m_read m_was m_readRule u.2.1 u.2.2.1 u.2.2.2.1 u.2.2.2.2.1 u.2.2.2.2.2.1 u.2.2.2.2.2.2)) res) 0 0 (va_A (w_Mo E m0 m1 m2 m3 m4 m5 m6 m7 m8 m9 m10 m11 m_length m_places m_most m_tenths m_changes m_readPlaces m_value m_ends m_clusters m_text m_now m_read m_was m_readRule m_dist m_delays m_fractions m_head m_hour m_number) sz) := by
  refine mk_Mi (cc := cX8_tried) (maxL := 3) (by decide) rfl (Nat.le_of_ble_eq_true rfl) ?_
  intro p e s m args below meth c Q A S hKN hA hret H locs ls hP hD hS hl
  obtain ⟨hx, hb, hml, hown, hts⟩ := S
  obtain ⟨hK, hN⟩ := hKN
  have hl : lv_has ls 3 [(0, .ref m0), (1, .int a1), (2, .int a2)] := hl
  have q_0 := hts (.fieldLink RX8 130 "DelayClustersModel" "clusters" "I") (by decide +kernel)
  unfold Mo_tried at hf
  refine lv_iload_n hx hb dX8_tried_0 rfl (lv_at hl 1 rfl) ?_
  refine lv_iconst (v := 0) hx hb dX8_tried_1 (by decide) ?_
  refine lv_sipush (v := 9999) hx hb dX8_tried_2 (by decide) ?_
  obtain ⟨r_2, h_1, hf⟩ := bd_s hf
  refine ca_S (As := [.int a1, .int 0, .int 9999]) (rest := []) ⟨hx, hb, hml, hown, hts⟩ ⟨hK, hN⟩ hP (c_Mo_isIn l E   a1 0 9999 r_2 h_1) [] rfl gX8_tried_X8_isIn rfl rfl rfl hd_Mo_isIn ⟨(Nat.le_of_ble_eq_true rfl), (Nat.le_of_ble_eq_true rfl)⟩ rfl hl.1 rfl (Nat.le_of_ble_eq_true rfl) dX8_tried_5 ⟨(Nat.zero_le _), (Nat.zero_le _)⟩ ?_
  refine lv_if_eq (tgt := 20) hx hb dX8_tried_8 (by decide) (fun c_23 => ?_) (fun c_23 => ?_)
  · have hf := ite_t c_23 hf
    refine lv_iconst (v := (-1)) hx hb dX8_tried_20 (by decide) ?_
    exact hret H locs ls 21 (-1) (m_clusters, m_dist, m_delays, m_fractions, m_head, m_hour, m_number) dX8_tried_21 (Option.some.inj hf) hP hD hS
  · have hf := ite_f c_23 hf
    refine lv_iload_n hx hb dX8_tried_11 rfl (lv_at hl 2 rfl) ?_
    refine lv_iconst (v := 0) hx hb dX8_tried_12 (by decide) ?_
    refine lv_iconst (v := 3) hx hb dX8_tried_13 (by decide) ?_
    obtain ⟨r_4, h_3, hf⟩ := bd_s hf
    refine ca_S (As := [.int a2, .int 0, .int 3]) (rest := []) ⟨hx, hb, hml, hown, hts⟩ ⟨hK, hN⟩ hP (c_Mo_isIn l E   a2 0 3 r_4 h_3) [] rfl gX8_tried_X8_isIn rfl rfl rfl hd_Mo_isIn ⟨(Nat.le_of_ble_eq_true rfl), (Nat.le_of_ble_eq_true rfl)⟩ rfl hl.1 rfl (Nat.le_of_ble_eq_true rfl) dX8_tried_14 ⟨(Nat.zero_le _), (Nat.zero_le _)⟩ ?_
    refine lv_if_ne (tgt := 22) hx hb dX8_tried_17 (by decide) (fun c_22 => ?_) (fun c_22 => ?_)
    · have hf := ite_f c_22 hf
      refine lv_aload_n hx hb dX8_tried_22 rfl (lv_at hl 0 rfl) ?_
      refine lv_iload_n hx hb dX8_tried_23 rfl (lv_at hl 1 rfl) ?_
      obtain ⟨⟨m_clusters_6, m_dist_7, m_delays_8, m_fractions_9, m_head_10, m_hour_11, m_number_12⟩, h_5, hf⟩ := bd_s hf
      try dsimp only at hf
      refine ca_Mv (w2 := (w_Mo E m0 m1 m2 m3 m4 m5 m6 m7 m8 m9 m10 m11 m_length m_places m_most m_tenths m_changes m_readPlaces m_value m_ends m_clusters_6 m_text m_now m_read m_was m_readRule m_dist_7 m_delays_8 m_fractions_9 m_head_10 m_hour_11 m_number_12)) (As := [.int a1]) (rest := []) ⟨hx, hb, hml, hown, hts⟩ ⟨hK, hN⟩ hP hD hS hA (c_Mo_settles l E m0 m1 m2 m3 m4 m5 m6 m7 m8 m9 m10 m11 H.size m_length m_places m_most m_tenths m_changes m_readPlaces m_value m_ends m_clusters m_text m_now m_read m_was m_readRule m_dist m_delays m_fractions m_head m_hour m_number a1 (m_clusters_6, m_dist_7, m_delays_8, m_fractions_9, m_head_10, m_hour_11, m_number_12) h_5) [0, 1, 2, 3, 4, 5, 6, 7, 8, 9, 10, 11] [] [0, 1, 2, 3, 4, 5, 6, 7, 8, 9, 10, 11] rfl rfl rfl rfl (by decide) rfl rfl 8 0 rfl rfl rfl gX8_tried_X8_settles rfl rfl rfl rfl hd_Mo_settles ⟨(Nat.le_of_ble_eq_true rfl), (Nat.le_of_ble_eq_true rfl)⟩ rfl hl.1 rfl (Nat.le_of_ble_eq_true rfl) dX8_tried_24 ⟨(Nat.zero_le _), (Nat.zero_le _)⟩ (fun H locs hP hD hS => ?_)
      refine lv_iload_n hx hb dX8_tried_27 rfl (lv_at hl 2 rfl) ?_
      refine lv_if_ne (tgt := 38) hx hb dX8_tried_28 (by decide) (fun c_21 => ?_) (fun c_21 => ?_)
      · have hf := ite_f c_21 hf
        refine lv_iload_n hx hb dX8_tried_38 rfl (lv_at hl 2 rfl) ?_
        refine lv_iconst (v := 1) hx hb dX8_tried_39 (by decide) ?_
        refine lv_icmp_ne (tgt := 51) hx hb dX8_tried_40 (by decide) (fun c_20 => ?_) (fun c_20 => ?_)
        · have hf := ite_f c_20 hf
          refine lv_iload_n hx hb dX8_tried_51 rfl (lv_at hl 2 rfl) ?_
          refine lv_iconst (v := 2) hx hb dX8_tried_52 (by decide) ?_
          refine lv_icmp_ne (tgt := 65) hx hb dX8_tried_53 (by decide) (fun c_17 => ?_) (fun c_17 => ?_)
          · have hf := ite_f c_17 hf
            refine lv_aload_n hx hb dX8_tried_65 rfl (lv_at hl 0 rfl) ?_
            obtain ⟨r_14, h_13, hf⟩ := bd_s hf
            refine ca_V (As := []) (rest := []) ⟨hx, hb, hml, hown, hts⟩ ⟨hK, hN⟩ hP (c_Mo_lastHour l E m0 m1 m2 m3 m4 m5 m6 m7 m8 m9 m10 m11 m_length m_places m_most m_tenths m_changes m_readPlaces m_value m_ends m_clusters_6 m_text m_now m_read m_was m_readRule m_dist_7 m_delays_8 m_fractions_9 m_head_10 m_hour_11 m_number_12 r_14 h_13) [0, 1, 2, 3, 4, 5, 6, 7, 8, 9, 10, 11] rfl 8 0 rfl rfl rfl gX8_tried_X8_lastHour rfl rfl rfl rfl hd_Mo_lastHour ⟨(Nat.le_of_ble_eq_true rfl), (Nat.le_of_ble_eq_true rfl)⟩ rfl hl.1 rfl (Nat.le_of_ble_eq_true rfl) dX8_tried_66 ⟨(Nat.zero_le _), (Nat.zero_le _)⟩ ?_
            exact hret H locs ls 69 r_14 (m_clusters_6, m_dist_7, m_delays_8, m_fractions_9, m_head_10, m_hour_11, m_number_12) dX8_tried_69 (Option.some.inj hf) hP hD hS
          · have hf := ite_t c_17 hf
            refine lv_aload_n hx hb dX8_tried_56 rfl (lv_at hl 0 rfl) ?_
            refine lv_bipush (v := (-4)) hx hb dX8_tried_57 (by decide) ?_
            obtain ⟨r_16, h_15, hf⟩ := bd_s hf
            refine ca_V (As := [.int (-4)]) (rest := []) ⟨hx, hb, hml, hown, hts⟩ ⟨hK, hN⟩ hP (c_Mo_wide l E m0 m1 m2 m3 m4 m5 m6 m7 m8 m9 m10 m11 m_length m_places m_most m_tenths m_changes m_readPlaces m_value m_ends m_clusters_6 m_text m_now m_read m_was m_readRule m_dist_7 m_delays_8 m_fractions_9 m_head_10 m_hour_11 m_number_12 (-4) r_16 h_15) [0, 1, 2, 3, 4, 5, 6, 7, 8, 9, 10, 11] rfl 8 0 rfl rfl rfl gX8_tried_X8_wide rfl rfl rfl rfl hd_Mo_wide ⟨(Nat.le_of_ble_eq_true rfl), (Nat.le_of_ble_eq_true rfl)⟩ rfl hl.1 rfl (Nat.le_of_ble_eq_true rfl) dX8_tried_59 ⟨(Nat.zero_le _), (Nat.zero_le _)⟩ ?_
            refine lv_goto (tgt := 69) hx hb dX8_tried_62 (by decide) ?_
            exact hret H locs ls 69 r_16 (m_clusters_6, m_dist_7, m_delays_8, m_fractions_9, m_head_10, m_hour_11, m_number_12) dX8_tried_69 (Option.some.inj hf) hP hD hS
        · have hf := ite_t c_20 hf
          refine lv_aload_n hx hb dX8_tried_43 rfl (lv_at hl 0 rfl) ?_
          refine lv_iconst (v := 2) hx hb dX8_tried_44 (by decide) ?_
          obtain ⟨r_19, h_18, hf⟩ := bd_s hf
          refine ca_V (As := [.int 2]) (rest := []) ⟨hx, hb, hml, hown, hts⟩ ⟨hK, hN⟩ hP (c_Mo_links l E m0 m1 m2 m3 m4 m5 m6 m7 m8 m9 m10 m11 m_length m_places m_most m_tenths m_changes m_readPlaces m_value m_ends m_clusters_6 m_text m_now m_read m_was m_readRule m_dist_7 m_delays_8 m_fractions_9 m_head_10 m_hour_11 m_number_12 2 r_19 h_18) [0, 1, 2, 3, 4, 5, 6, 7, 8, 9, 10, 11] rfl 8 0 rfl rfl rfl gX8_tried_X8_links rfl rfl rfl rfl hd_Mo_links ⟨(Nat.le_of_ble_eq_true rfl), (Nat.le_of_ble_eq_true rfl)⟩ rfl hl.1 rfl (Nat.le_of_ble_eq_true rfl) dX8_tried_45 ⟨(Nat.zero_le _), (Nat.zero_le _)⟩ ?_
          refine lv_goto (tgt := 69) hx hb dX8_tried_48 (by decide) ?_
          exact hret H locs ls 69 r_19 (m_clusters_6, m_dist_7, m_delays_8, m_fractions_9, m_head_10, m_hour_11, m_number_12) dX8_tried_69 (Option.some.inj hf) hP hD hS
      · have hf := ite_t c_21 hf
        refine lv_aload_n hx hb dX8_tried_31 rfl (lv_at hl 0 rfl) ?_
        refine va_get (D := E.1) (ci := 8) (v := .int m_clusters_6) (C := RX8) (T := TX8) (N := 20) hx hb hts in_X8_tried_X8 hown hK hP 0 rfl rfl 19 (by decide) q_0 (fun _ h9 => h9) rfl dX8_tried_32 ?_
        refine lv_goto (tgt := 69) hx hb dX8_tried_35 (by decide) ?_
        exact hret H locs ls 69 m_clusters_6 (m_clusters_6, m_dist_7, m_delays_8, m_fractions_9, m_head_10, m_hour_11, m_number_12) dX8_tried_69 (Option.some.inj hf) hP hD hS
    · have hf := ite_t c_22 hf
      refine lv_iconst (v := (-1)) hx hb dX8_tried_20 (by decide) ?_
      exact hret H locs ls 21 (-1) (m_clusters, m_dist, m_delays, m_fractions, m_head, m_hour, m_number) dX8_tried_21 (Option.some.inj hf) hP hD hS
abbrev rm_Mo_best : Room := { frames := 4, cells := 0, slots := 0, locals := 90 }
theorem hd_Mo_best : hdOK yX8_best 3 := by decide +kernel
set_option maxRecDepth 100000 in
set_option maxHeartbeats 4000000 in
theorem c_Mo_best (l : Launch) (E : En4) (m0 m1 m2 m3 m4 m5 m6 m7 m8 m9 m10 m11 : Nat) (sz : Nat) (m_length : Int32) (m_places : Int32) (m_most : Int32) (m_tenths : Int32) (m_changes : Int32) (m_readPlaces : Int32) (m_value : Int32) (m_ends : Int32) (m_clusters : Int32) (m_text : Nat → Int32) (m_now : Nat → Int32) (m_read : Nat → Int32) (m_was : Nat → Int32) (m_readRule : Nat → Int32) (m_dist : Nat → Int32) (m_delays : Nat → Int32) (m_fractions : Nat → Int32) (m_head : Nat → Int32) (m_hour : Nat → Int32) (m_number : Nat → Int32) (a1 : Int32) (a2 : Int32) (a3 : Int32)  (res : Int32 × Int32 × (Nat → Int32) × (Nat → Int32) × (Nat → Int32) × (Nat → Int32) × (Nat → Int32) × (Nat → Int32)) (hf : Mo_best m_places m_most m_tenths m_clusters m_now m_dist m_delays m_fractions m_head m_hour m_number a1 a2 a3 = some res) : Met l yX8_best wsX8_best rm_Mo_best (pcM [.ref m0, .int a1, .int a2, .int a3] E sz (w_Mo E m0 m1 m2 m3 m4 m5 m6 m7 m8 m9 m10 m11 m_length m_places m_most m_tenths m_changes m_readPlaces m_value m_ends m_clusters m_text m_now m_read m_was m_readRule m_dist m_delays m_fractions m_head m_hour m_number)) (QMi E sz (w_Mo E m0 m1 m2 m3 m4 m5 m6 m7 m8 m9 m10 m11 m_length m_places m_most m_tenths m_changes m_readPlaces m_value m_ends m_clusters m_text m_now m_read m_was m_readRule m_dist m_delays m_fractions m_head m_hour m_number) (fun (u : Int32 × (Nat → Int32) × (Nat → Int32) × (Nat → Int32) × (Nat → Int32) × (Nat → Int32) × (Nat → Int32)) => (w_Mo E m0 m1 m2 m3 m4 m5 m6 m7 m8 m9 m10 m11 m_length m_places m_most m_tenths m_changes m_readPlaces m_value m_ends u.1 m_text m_now m_read m_was m_readRule u.2.1 u.2.2.1 u.2.2.2.1 u.2.2.2.2.1 u.2.2.2.2.2.1 u.2.2.2.2.2.2)) res) 0 0 (va_A (w_Mo E m0 m1 m2 m3 m4 m5 m6 m7 m8 m9 m10 m11 m_length m_places m_most m_tenths m_changes m_readPlaces m_value m_ends m_clusters m_text m_now m_read m_was m_readRule m_dist m_delays m_fractions m_head m_hour m_number) sz) := by
  refine mk_Mi (cc := cX8_best) (maxL := 8) (by decide) rfl (Nat.le_of_ble_eq_true rfl) ?_
  intro p e s m args below meth c Q A S hKN hA hret H locs ls hP hD hS hl
  obtain ⟨hx, hb, hml, hown, hts⟩ := S
  obtain ⟨hK, hN⟩ := hKN
  have hl : lv_has ls 8 [(0, .ref m0), (1, .int a1), (2, .int a2), (3, .int a3)] := hl
  unfold Mo_best at hf
  refine lv_iload_n hx hb dX8_best_0 rfl (lv_at hl 1 rfl) ?_
  refine lv_iconst (v := 1) hx hb dX8_best_1 (by decide) ?_
  refine lv_bipush (v := 60) hx hb dX8_best_2 (by decide) ?_
  obtain ⟨r_2, h_1, hf⟩ := bd_s hf
  refine ca_S (As := [.int a1, .int 1, .int 60]) (rest := []) ⟨hx, hb, hml, hown, hts⟩ ⟨hK, hN⟩ hP (c_Mo_isIn l E   a1 1 60 r_2 h_1) [] rfl gX8_best_X8_isIn rfl rfl rfl hd_Mo_isIn ⟨(Nat.le_of_ble_eq_true rfl), (Nat.le_of_ble_eq_true rfl)⟩ rfl hl.1 rfl (Nat.le_of_ble_eq_true rfl) dX8_best_4 ⟨(Nat.zero_le _), (Nat.zero_le _)⟩ ?_
  refine lv_if_eq (tgt := 30) hx hb dX8_best_7 (by decide) (fun c_46 => ?_) (fun c_46 => ?_)
  · have hf := ite_t c_46 hf
    refine lv_iconst (v := (-1)) hx hb dX8_best_30 (by decide) ?_
    exact hret H locs ls 31 (-1) (m_clusters, m_dist, m_delays, m_fractions, m_head, m_hour, m_number) dX8_best_31 (Option.some.inj hf) hP hD hS
  · have hf := ite_f c_46 hf
    refine lv_iload_n hx hb dX8_best_10 rfl (lv_at hl 2 rfl) ?_
    refine lv_iconst (v := 0) hx hb dX8_best_11 (by decide) ?_
    refine lv_sipush (v := 200) hx hb dX8_best_12 (by decide) ?_
    obtain ⟨r_4, h_3, hf⟩ := bd_s hf
    refine ca_S (As := [.int a2, .int 0, .int 200]) (rest := []) ⟨hx, hb, hml, hown, hts⟩ ⟨hK, hN⟩ hP (c_Mo_isIn l E   a2 0 200 r_4 h_3) [] rfl gX8_best_X8_isIn rfl rfl rfl hd_Mo_isIn ⟨(Nat.le_of_ble_eq_true rfl), (Nat.le_of_ble_eq_true rfl)⟩ rfl hl.1 rfl (Nat.le_of_ble_eq_true rfl) dX8_best_15 ⟨(Nat.zero_le _), (Nat.zero_le _)⟩ ?_
    refine lv_if_eq (tgt := 30) hx hb dX8_best_18 (by decide) (fun c_45 => ?_) (fun c_45 => ?_)
    · have hf := ite_t c_45 hf
      refine lv_iconst (v := (-1)) hx hb dX8_best_30 (by decide) ?_
      exact hret H locs ls 31 (-1) (m_clusters, m_dist, m_delays, m_fractions, m_head, m_hour, m_number) dX8_best_31 (Option.some.inj hf) hP hD hS
    · have hf := ite_f c_45 hf
      refine lv_iload_n hx hb dX8_best_21 rfl (lv_at hl 3 rfl) ?_
      refine lv_iconst (v := 0) hx hb dX8_best_22 (by decide) ?_
      refine lv_iconst (v := 1) hx hb dX8_best_23 (by decide) ?_
      obtain ⟨r_6, h_5, hf⟩ := bd_s hf
      refine ca_S (As := [.int a3, .int 0, .int 1]) (rest := []) ⟨hx, hb, hml, hown, hts⟩ ⟨hK, hN⟩ hP (c_Mo_isIn l E   a3 0 1 r_6 h_5) [] rfl gX8_best_X8_isIn rfl rfl rfl hd_Mo_isIn ⟨(Nat.le_of_ble_eq_true rfl), (Nat.le_of_ble_eq_true rfl)⟩ rfl hl.1 rfl (Nat.le_of_ble_eq_true rfl) dX8_best_24 ⟨(Nat.zero_le _), (Nat.zero_le _)⟩ ?_
      refine lv_if_ne (tgt := 32) hx hb dX8_best_27 (by decide) (fun c_44 => ?_) (fun c_44 => ?_)
      · have hf := ite_f c_44 hf
        refine lv_bipush (v := (-4)) hx hb dX8_best_32 (by decide) ?_
        refine lv_istore (lv' := [(4, .int (-4)), (0, .ref m0), (1, .int a1), (2, .int a2), (3, .int a3)]) hx hb dX8_best_34 hl (by decide) rfl (fun ls hl => ?_)
        refine lv_iconst (v := 0) hx hb dX8_best_36 (by decide) ?_
        refine lv_istore (lv' := [(5, .int 0), (4, .int (-4)), (0, .ref m0), (1, .int a1), (2, .int a2), (3, .int a3)]) hx hb dX8_best_37 hl (by decide) rfl (fun ls hl => ?_)
        refine lv_iconst (v := 0) hx hb dX8_best_39 (by decide) ?_
        refine lv_istore (lv' := [(6, .int 0), (5, .int 0), (4, .int (-4)), (0, .ref m0), (1, .int a1), (2, .int a2), (3, .int a3)]) hx hb dX8_best_40 hl (by decide) rfl (fun ls hl => ?_)
        obtain ⟨w_42, i_42, hf⟩ := bd_s hf
        have KX_42 : ∀ (v4_33 : Int32) (v5_34 : Int32) (m_clusters_35 : Int32) (m_dist_36 : Nat → Int32) (m_delays_37 : Nat → Int32) (m_fractions_38 : Nat → Int32) (m_head_39 : Nat → Int32) (m_hour_40 : Nat → Int32) (m_number_41 : Nat → Int32), (v4_33, v5_34, m_clusters_35, m_dist_36, m_delays_37, m_fractions_38, m_head_39, m_hour_40, m_number_41) = w_42 → ∀ (H : Heap) (locs : List Loc) (ls : Array Slot), va_P E.1 vwCl (w_Mo E m0 m1 m2 m3 m4 m5 m6 m7 m8 m9 m10 m11 m_length m_places m_most m_tenths m_changes m_readPlaces m_value m_ends m_clusters_35 m_text m_now m_read m_was m_readRule m_dist_36 m_delays_37 m_fractions_38 m_head_39 m_hour_40 m_number_41) H → va_D A (w_Mo E m0 m1 m2 m3 m4 m5 m6 m7 m8 m9 m10 m11 m_length m_places m_most m_tenths m_changes m_readPlaces m_value m_ends m_clusters_35 m_text m_now m_read m_was m_readRule m_dist_36 m_delays_37 m_fractions_38 m_head_39 m_hour_40 m_number_41) → va_S A s.heap H locs → lv_has ls 8 [(3, .int a3), (4, .int v4_33), (5, .int v5_34)] → W p l e rm_Mo_best s m args below meth c H locs 0 0 Q (F0 m 99 ls []) := by
          intro v4_33 v5_34 m_clusters_35 m_dist_36 m_delays_37 m_fractions_38 m_head_39 m_hour_40 m_number_41 e_
          subst e_
          try dsimp only at hf
          intro H locs ls hP hD hS hl
          refine lv_iload hx hb dX8_best_99 (lv_at hl 1 rfl) ?_
          refine lv_bipush (v := (-4)) hx hb dX8_best_101 (by decide) ?_
          refine lv_icmp_eq (tgt := 110) hx hb dX8_best_103 (by decide) (fun c_43 => ?_) (fun c_43 => ?_)
          · have hf := ite_t c_43 hf
            refine lv_iload hx hb dX8_best_110 (lv_at hl 1 rfl) ?_
            refine lv_goto (tgt := 117) hx hb dX8_best_112 (by decide) ?_
            exact hret H locs ls 117 v4_33 (m_clusters_35, m_dist_36, m_delays_37, m_fractions_38, m_head_39, m_hour_40, m_number_41) dX8_best_117 (Option.some.inj hf) hP hD hS
          · have hf := ite_f c_43 hf
            refine lv_iload_n hx hb dX8_best_106 rfl (lv_at hl 0 rfl) ?_
            refine lv_if_ne (tgt := 115) hx hb dX8_best_107 (by decide) (fun c_42 => ?_) (fun c_42 => ?_)
            · have hf := ite_f c_42 hf
              refine lv_iload hx hb dX8_best_115 (lv_at hl 2 rfl) ?_
              exact hret H locs ls 117 v5_34 (m_clusters_35, m_dist_36, m_delays_37, m_fractions_38, m_head_39, m_hour_40, m_number_41) dX8_best_117 (Option.some.inj hf) hP hD hS
            · have hf := ite_t c_42 hf
              refine lv_iload hx hb dX8_best_110 (lv_at hl 1 rfl) ?_
              refine lv_goto (tgt := 117) hx hb dX8_best_112 (by decide) ?_
              exact hret H locs ls 117 v4_33 (m_clusters_35, m_dist_36, m_delays_37, m_fractions_38, m_head_39, m_hour_40, m_number_41) dX8_best_117 (Option.some.inj hf) hP hD hS
        have KL_42 : ∀ (n_ : Nat) (v4_7 : Int32) (v5_8 : Int32) (v6_9 : Int32) (m_clusters_10 : Int32) (m_dist_11 : Nat → Int32) (m_delays_12 : Nat → Int32) (m_fractions_13 : Nat → Int32) (m_head_14 : Nat → Int32) (m_hour_15 : Nat → Int32) (m_number_16 : Nat → Int32), it (Mo_best_L42 m_places m_most m_tenths m_now a1 a2) n_ (v4_7, v5_8, v6_9, m_clusters_10, m_dist_11, m_delays_12, m_fractions_13, m_head_14, m_hour_15, m_number_16) = some w_42 → ∀ (H : Heap) (locs : List Loc) (ls : Array Slot), va_P E.1 vwCl (w_Mo E m0 m1 m2 m3 m4 m5 m6 m7 m8 m9 m10 m11 m_length m_places m_most m_tenths m_changes m_readPlaces m_value m_ends m_clusters_10 m_text m_now m_read m_was m_readRule m_dist_11 m_delays_12 m_fractions_13 m_head_14 m_hour_15 m_number_16) H → va_D A (w_Mo E m0 m1 m2 m3 m4 m5 m6 m7 m8 m9 m10 m11 m_length m_places m_most m_tenths m_changes m_readPlaces m_value m_ends m_clusters_10 m_text m_now m_read m_was m_readRule m_dist_11 m_delays_12 m_fractions_13 m_head_14 m_hour_15 m_number_16) → va_S A s.heap H locs → lv_has ls 8 [(0, .ref m0), (1, .int a1), (2, .int a2), (3, .int a3), (4, .int v4_7), (5, .int v5_8), (6, .int v6_9)] → W p l e rm_Mo_best s m args below meth c H locs 0 0 Q (F0 m 42 ls []) := by
          intro n_
          induction n_ with
          | zero => intro v4_7 v5_8 v6_9 m_clusters_10 m_dist_11 m_delays_12 m_fractions_13 m_head_14 m_hour_15 m_number_16 hit; exact (it_z hit).elim
          | succ n_42 ih_42 =>
            intro v4_7 v5_8 v6_9 m_clusters_10 m_dist_11 m_delays_12 m_fractions_13 m_head_14 m_hour_15 m_number_16 hit
            intro H locs ls hP hD hS hl
            obtain ⟨x_42, hf, hc_42, hq_42⟩ := it_s hit
            dsimp only [Mo_best_L42] at hf
            refine lv_iload hx hb dX8_best_42 (lv_at hl 6 rfl) ?_
            refine lv_iload_n hx hb dX8_best_44 rfl (lv_at hl 1 rfl) ?_
            refine lv_icmp_ge (tgt := 99) hx hb dX8_best_45 (by decide) (fun c_32 => ?_) (fun c_32 => ?_)
            · have hf := ite_t c_32 hf
              exact KX_42 v4_7 v5_8 m_clusters_10 m_dist_11 m_delays_12 m_fractions_13 m_head_14 m_hour_15 m_number_16 (hq_42 _ (Option.some.inj hf).symm) H locs _ hP hD hS (lv_sub hl [3, 4, 5] rfl)
            · have hf := ite_f c_32 hf
              refine lv_aload_n hx hb dX8_best_48 rfl (lv_at hl 0 rfl) ?_
              refine lv_iload hx hb dX8_best_49 (lv_at hl 6 rfl) ?_
              obtain ⟨⟨m_clusters_18, m_dist_19, m_delays_20, m_fractions_21, m_head_22, m_hour_23, m_number_24⟩, h_17, hf⟩ := bd_s hf
              try dsimp only at hf
              refine ca_Mv (w2 := (w_Mo E m0 m1 m2 m3 m4 m5 m6 m7 m8 m9 m10 m11 m_length m_places m_most m_tenths m_changes m_readPlaces m_value m_ends m_clusters_18 m_text m_now m_read m_was m_readRule m_dist_19 m_delays_20 m_fractions_21 m_head_22 m_hour_23 m_number_24)) (As := [.int v6_9]) (rest := []) ⟨hx, hb, hml, hown, hts⟩ ⟨hK, hN⟩ hP hD hS hA (c_Mo_settles l E m0 m1 m2 m3 m4 m5 m6 m7 m8 m9 m10 m11 H.size m_length m_places m_most m_tenths m_changes m_readPlaces m_value m_ends m_clusters_10 m_text m_now m_read m_was m_readRule m_dist_11 m_delays_12 m_fractions_13 m_head_14 m_hour_15 m_number_16 v6_9 (m_clusters_18, m_dist_19, m_delays_20, m_fractions_21, m_head_22, m_hour_23, m_number_24) h_17) [0, 1, 2, 3, 4, 5, 6, 7, 8, 9, 10, 11] [] [0, 1, 2, 3, 4, 5, 6, 7, 8, 9, 10, 11] rfl rfl rfl rfl (by decide) rfl rfl 8 0 rfl rfl rfl gX8_best_X8_settles rfl rfl rfl rfl hd_Mo_settles ⟨(Nat.le_of_ble_eq_true rfl), (Nat.le_of_ble_eq_true rfl)⟩ rfl hl.1 rfl (Nat.le_of_ble_eq_true rfl) dX8_best_51 ⟨(Nat.zero_le _), (Nat.zero_le _)⟩ (fun H locs hP hD hS => ?_)
              refine lv_aload_n hx hb dX8_best_54 rfl (lv_at hl 0 rfl) ?_
              refine lv_iconst (v := 2) hx hb dX8_best_55 (by decide) ?_
              obtain ⟨r_26, h_25, hf⟩ := bd_s hf
              refine ca_V (As := [.int 2]) (rest := []) ⟨hx, hb, hml, hown, hts⟩ ⟨hK, hN⟩ hP (c_Mo_links l E m0 m1 m2 m3 m4 m5 m6 m7 m8 m9 m10 m11 m_length m_places m_most m_tenths m_changes m_readPlaces m_value m_ends m_clusters_18 m_text m_now m_read m_was m_readRule m_dist_19 m_delays_20 m_fractions_21 m_head_22 m_hour_23 m_number_24 2 r_26 h_25) [0, 1, 2, 3, 4, 5, 6, 7, 8, 9, 10, 11] rfl 8 0 rfl rfl rfl gX8_best_X8_links rfl rfl rfl rfl hd_Mo_links ⟨(Nat.le_of_ble_eq_true rfl), (Nat.le_of_ble_eq_true rfl)⟩ rfl hl.1 rfl (Nat.le_of_ble_eq_true rfl) dX8_best_56 ⟨(Nat.zero_le _), (Nat.zero_le _)⟩ ?_
              refine lv_istore (lv' := [(7, .int r_26), (0, .ref m0), (1, .int a1), (2, .int a2), (3, .int a3), (4, .int v4_7), (5, .int v5_8), (6, .int v6_9)]) hx hb dX8_best_59 hl (by decide) rfl (fun ls hl => ?_)
              refine lv_aload_n hx hb dX8_best_61 rfl (lv_at hl 1 rfl) ?_
              refine lv_bipush (v := (-4)) hx hb dX8_best_62 (by decide) ?_
              obtain ⟨r_28, h_27, hf⟩ := bd_s hf
              refine ca_V (As := [.int (-4)]) (rest := []) ⟨hx, hb, hml, hown, hts⟩ ⟨hK, hN⟩ hP (c_Mo_wide l E m0 m1 m2 m3 m4 m5 m6 m7 m8 m9 m10 m11 m_length m_places m_most m_tenths m_changes m_readPlaces m_value m_ends m_clusters_18 m_text m_now m_read m_was m_readRule m_dist_19 m_delays_20 m_fractions_21 m_head_22 m_hour_23 m_number_24 (-4) r_28 h_27) [0, 1, 2, 3, 4, 5, 6, 7, 8, 9, 10, 11] rfl 8 0 rfl rfl rfl gX8_best_X8_wide rfl rfl rfl rfl hd_Mo_wide ⟨(Nat.le_of_ble_eq_true rfl), (Nat.le_of_ble_eq_true rfl)⟩ rfl hl.1 rfl (Nat.le_of_ble_eq_true rfl) dX8_best_64 ⟨(Nat.zero_le _), (Nat.zero_le _)⟩ ?_
              refine lv_iload_n hx hb dX8_best_67 rfl (lv_at hl 3 rfl) ?_
              refine lv_icmp_gt (tgt := 93) hx hb dX8_best_68 (by decide) (fun c_31 => ?_) (fun c_31 => ?_)
              · have hf := ite_t c_31 hf
                refine lv_iinc (v := (v6_9 + 1)) (lv' := [(6, .int (v6_9 + 1)), (7, .int r_26), (0, .ref m0), (1, .int a1), (2, .int a2), (3, .int a3), (4, .int v4_7), (5, .int v5_8)]) hx hb dX8_best_93 hl (k := 7) rfl rfl (by decide) rfl (fun ls hl => ?_)
                refine lv_goto (tgt := 42) hx hb dX8_best_96 (by decide) ?_
                exact ih_42 v4_7 v5_8 (v6_9 + 1) m_clusters_18 m_dist_19 m_delays_20 m_fractions_21 m_head_22 m_hour_23 m_number_24 (hc_42 _ (Option.some.inj hf).symm) H locs _ hP hD hS (lv_sub hl [2, 3, 4, 5, 6, 7, 0] rfl)
              · have hf := ite_f c_31 hf
                refine lv_iload hx hb dX8_best_71 (lv_at hl 5 rfl) ?_
                refine lv_bipush (v := (-4)) hx hb dX8_best_73 (by decide) ?_
                refine lv_icmp_eq (tgt := 85) hx hb dX8_best_75 (by decide) (fun c_30 => ?_) (fun c_30 => ?_)
                · have hf := ite_t c_30 hf
                  refine lv_iload hx hb dX8_best_85 (lv_at hl 7 rfl) ?_
                  refine lv_istore (lv' := [(4, .int v6_9), (7, .int r_26), (0, .ref m0), (1, .int a1), (2, .int a2), (3, .int a3), (5, .int v5_8), (6, .int v6_9)]) hx hb dX8_best_87 hl (by decide) rfl (fun ls hl => ?_)
                  refine lv_iload hx hb dX8_best_89 (lv_at hl 1 rfl) ?_
                  refine lv_istore (lv' := [(5, .int r_26), (4, .int v6_9), (7, .int r_26), (0, .ref m0), (1, .int a1), (2, .int a2), (3, .int a3), (6, .int v6_9)]) hx hb dX8_best_91 hl (by decide) rfl (fun ls hl => ?_)
                  refine lv_iinc (v := (v6_9 + 1)) (lv' := [(6, .int (v6_9 + 1)), (5, .int r_26), (4, .int v6_9), (7, .int r_26), (0, .ref m0), (1, .int a1), (2, .int a2), (3, .int a3)]) hx hb dX8_best_93 hl (k := 7) rfl rfl (by decide) rfl (fun ls hl => ?_)
                  refine lv_goto (tgt := 42) hx hb dX8_best_96 (by decide) ?_
                  exact ih_42 v6_9 r_26 (v6_9 + 1) m_clusters_18 m_dist_19 m_delays_20 m_fractions_21 m_head_22 m_hour_23 m_number_24 (hc_42 _ (Option.some.inj hf).symm) H locs _ hP hD hS (lv_sub hl [4, 5, 6, 7, 2, 1, 0] rfl)
                · have hf := ite_f c_30 hf
                  refine lv_iload hx hb dX8_best_78 (lv_at hl 0 rfl) ?_
                  refine lv_iload hx hb dX8_best_80 (lv_at hl 6 rfl) ?_
                  refine lv_icmp_ge (tgt := 93) hx hb dX8_best_82 (by decide) (fun c_29 => ?_) (fun c_29 => ?_)
                  · have hf := ite_t c_29 hf
                    refine lv_iinc (v := (v6_9 + 1)) (lv' := [(6, .int (v6_9 + 1)), (7, .int r_26), (0, .ref m0), (1, .int a1), (2, .int a2), (3, .int a3), (4, .int v4_7), (5, .int v5_8)]) hx hb dX8_best_93 hl (k := 7) rfl rfl (by decide) rfl (fun ls hl => ?_)
                    refine lv_goto (tgt := 42) hx hb dX8_best_96 (by decide) ?_
                    exact ih_42 v4_7 v5_8 (v6_9 + 1) m_clusters_18 m_dist_19 m_delays_20 m_fractions_21 m_head_22 m_hour_23 m_number_24 (hc_42 _ (Option.some.inj hf).symm) H locs _ hP hD hS (lv_sub hl [2, 3, 4, 5, 6, 7, 0] rfl)
                  · have hf := ite_f c_29 hf
                    refine lv_iload hx hb dX8_best_85 (lv_at hl 7 rfl) ?_
                    refine lv_istore (lv' := [(4, .int v6_9), (7, .int r_26), (0, .ref m0), (1, .int a1), (2, .int a2), (3, .int a3), (5, .int v5_8), (6, .int v6_9)]) hx hb dX8_best_87 hl (by decide) rfl (fun ls hl => ?_)
                    refine lv_iload hx hb dX8_best_89 (lv_at hl 1 rfl) ?_
                    refine lv_istore (lv' := [(5, .int r_26), (4, .int v6_9), (7, .int r_26), (0, .ref m0), (1, .int a1), (2, .int a2), (3, .int a3), (6, .int v6_9)]) hx hb dX8_best_91 hl (by decide) rfl (fun ls hl => ?_)
                    refine lv_iinc (v := (v6_9 + 1)) (lv' := [(6, .int (v6_9 + 1)), (5, .int r_26), (4, .int v6_9), (7, .int r_26), (0, .ref m0), (1, .int a1), (2, .int a2), (3, .int a3)]) hx hb dX8_best_93 hl (k := 7) rfl rfl (by decide) rfl (fun ls hl => ?_)
                    refine lv_goto (tgt := 42) hx hb dX8_best_96 (by decide) ?_
                    exact ih_42 v6_9 r_26 (v6_9 + 1) m_clusters_18 m_dist_19 m_delays_20 m_fractions_21 m_head_22 m_hour_23 m_number_24 (hc_42 _ (Option.some.inj hf).symm) H locs _ hP hD hS (lv_sub hl [4, 5, 6, 7, 2, 1, 0] rfl)
        exact KL_42 _ (-4) 0 0 m_clusters m_dist m_delays m_fractions m_head m_hour m_number i_42 H locs _ hP hD hS (lv_sub hl [3, 4, 5, 6, 2, 1, 0] rfl)
      · have hf := ite_t c_44 hf
        refine lv_iconst (v := (-1)) hx hb dX8_best_30 (by decide) ?_
        exact hret H locs ls 31 (-1) (m_clusters, m_dist, m_delays, m_fractions, m_head, m_hour, m_number) dX8_best_31 (Option.some.inj hf) hP hD hS
abbrev rm_Mo_chance : Room := { frames := 3, cells := 0, slots := 0, locals := 75 }
theorem hd_Mo_chance : hdOK yX8_chance 4 := by decide +kernel
theorem in_X8_chance_X8 : ∀ w ∈ wsX80, w ∈ wsX8_chance := by decide +kernel
set_option maxRecDepth 100000 in
set_option maxHeartbeats 4000000 in
theorem c_Mo_chance (l : Launch) (E : En4) (m0 m1 m2 m3 m4 m5 m6 m7 m8 m9 m10 m11 : Nat) (sz : Nat) (m_length : Int32) (m_places : Int32) (m_most : Int32) (m_tenths : Int32) (m_changes : Int32) (m_readPlaces : Int32) (m_value : Int32) (m_ends : Int32) (m_clusters : Int32) (m_text : Nat → Int32) (m_now : Nat → Int32) (m_read : Nat → Int32) (m_was : Nat → Int32) (m_readRule : Nat → Int32) (m_dist : Nat → Int32) (m_delays : Nat → Int32) (m_fractions : Nat → Int32) (m_head : Nat → Int32) (m_hour : Nat → Int32) (m_number : Nat → Int32) (a1 : Int32) (a2 : Int32) (a3 : Int32) (a4 : Int32)  (res : Int32 × Int32 × (Nat → Int32) × (Nat → Int32) × (Nat → Int32) × (Nat → Int32) × (Nat → Int32) × (Nat → Int32)) (hf : Mo_chance m_places m_most m_tenths m_clusters m_now m_dist m_delays m_fractions m_head m_hour m_number a1 a2 a3 a4 = some res) : Met l yX8_chance wsX8_chance rm_Mo_chance (pcM [.ref m0, .int a1, .int a2, .int a3, .int a4] E sz (w_Mo E m0 m1 m2 m3 m4 m5 m6 m7 m8 m9 m10 m11 m_length m_places m_most m_tenths m_changes m_readPlaces m_value m_ends m_clusters m_text m_now m_read m_was m_readRule m_dist m_delays m_fractions m_head m_hour m_number)) (QMi E sz (w_Mo E m0 m1 m2 m3 m4 m5 m6 m7 m8 m9 m10 m11 m_length m_places m_most m_tenths m_changes m_readPlaces m_value m_ends m_clusters m_text m_now m_read m_was m_readRule m_dist m_delays m_fractions m_head m_hour m_number) (fun (u : Int32 × (Nat → Int32) × (Nat → Int32) × (Nat → Int32) × (Nat → Int32) × (Nat → Int32) × (Nat → Int32)) => (w_Mo E m0 m1 m2 m3 m4 m5 m6 m7 m8 m9 m10 m11 m_length m_places m_most m_tenths m_changes m_readPlaces m_value m_ends u.1 m_text m_now m_read m_was m_readRule u.2.1 u.2.2.1 u.2.2.2.1 u.2.2.2.2.1 u.2.2.2.2.2.1 u.2.2.2.2.2.2)) res) 0 0 (va_A (w_Mo E m0 m1 m2 m3 m4 m5 m6 m7 m8 m9 m10 m11 m_length m_places m_most m_tenths m_changes m_readPlaces m_value m_ends m_clusters m_text m_now m_read m_was m_readRule m_dist m_delays m_fractions m_head m_hour m_number) sz) := by
  refine mk_Mi (cc := cX8_chance) (maxL := 9) (by decide) rfl (Nat.le_of_ble_eq_true rfl) ?_
  intro p e s m args below meth c Q A S hKN hA hret H locs ls hP hD hS hl
  obtain ⟨hx, hb, hml, hown, hts⟩ := S
  obtain ⟨hK, hN⟩ := hKN
  have hl : lv_has ls 9 [(0, .ref m0), (1, .int a1), (2, .int a2), (3, .int a3), (4, .int a4)] := hl
  have q_0 := hts (.fieldLink RX8 13 "DelayClustersModel" "now" "[I") (by decide +kernel)
  have q_1 := hts (.fieldLink RX8 34 "DelayClustersModel" "head" "[I") (by decide +kernel)
  unfold Mo_chance at hf
  refine lv_aload_n hx hb dX8_chance_0 rfl (lv_at hl 0 rfl) ?_
  refine lv_iload_n hx hb dX8_chance_1 rfl (lv_at hl 1 rfl) ?_
  refine lv_iload_n hx hb dX8_chance_2 rfl (lv_at hl 2 rfl) ?_
  obtain ⟨r_2, h_1, hf⟩ := bd_s hf
  refine ca_V (As := [.int a1, .int a2]) (rest := []) ⟨hx, hb, hml, hown, hts⟩ ⟨hK, hN⟩ hP (c_Mo_areTwo l E m0 m1 m2 m3 m4 m5 m6 m7 m8 m9 m10 m11 m_length m_places m_most m_tenths m_changes m_readPlaces m_value m_ends m_clusters m_text m_now m_read m_was m_readRule m_dist m_delays m_fractions m_head m_hour m_number a1 a2 r_2 h_1) [0, 1, 2, 3, 4, 5, 6, 7, 8, 9, 10, 11] rfl 8 0 rfl rfl rfl gX8_chance_X8_areTwo rfl rfl rfl rfl hd_Mo_areTwo ⟨(Nat.le_of_ble_eq_true rfl), (Nat.le_of_ble_eq_true rfl)⟩ rfl hl.1 rfl (Nat.le_of_ble_eq_true rfl) dX8_chance_3 ⟨(Nat.zero_le _), (Nat.zero_le _)⟩ ?_
  refine lv_if_eq (tgt := 29) hx hb dX8_chance_6 (by decide) (fun c_48 => ?_) (fun c_48 => ?_)
  · have hf := ite_t c_48 hf
    refine lv_iconst (v := (-1)) hx hb dX8_chance_29 (by decide) ?_
    exact hret H locs ls 30 (-1) (m_clusters, m_dist, m_delays, m_fractions, m_head, m_hour, m_number) dX8_chance_30 (Option.some.inj hf) hP hD hS
  · have hf := ite_f c_48 hf
    refine lv_iload_n hx hb dX8_chance_9 rfl (lv_at hl 3 rfl) ?_
    refine lv_iconst (v := 1) hx hb dX8_chance_10 (by decide) ?_
    refine lv_bipush (v := 60) hx hb dX8_chance_11 (by decide) ?_
    obtain ⟨r_4, h_3, hf⟩ := bd_s hf
    refine ca_S (As := [.int a3, .int 1, .int 60]) (rest := []) ⟨hx, hb, hml, hown, hts⟩ ⟨hK, hN⟩ hP (c_Mo_isIn l E   a3 1 60 r_4 h_3) [] rfl gX8_chance_X8_isIn rfl rfl rfl hd_Mo_isIn ⟨(Nat.le_of_ble_eq_true rfl), (Nat.le_of_ble_eq_true rfl)⟩ rfl hl.1 rfl (Nat.le_of_ble_eq_true rfl) dX8_chance_13 ⟨(Nat.zero_le _), (Nat.zero_le _)⟩ ?_
    refine lv_if_eq (tgt := 29) hx hb dX8_chance_16 (by decide) (fun c_47 => ?_) (fun c_47 => ?_)
    · have hf := ite_t c_47 hf
      refine lv_iconst (v := (-1)) hx hb dX8_chance_29 (by decide) ?_
      exact hret H locs ls 30 (-1) (m_clusters, m_dist, m_delays, m_fractions, m_head, m_hour, m_number) dX8_chance_30 (Option.some.inj hf) hP hD hS
    · have hf := ite_f c_47 hf
      refine lv_iload hx hb dX8_chance_19 (lv_at hl 4 rfl) ?_
      refine lv_iconst (v := 0) hx hb dX8_chance_21 (by decide) ?_
      refine lv_iconst (v := 1) hx hb dX8_chance_22 (by decide) ?_
      obtain ⟨r_6, h_5, hf⟩ := bd_s hf
      refine ca_S (As := [.int a4, .int 0, .int 1]) (rest := []) ⟨hx, hb, hml, hown, hts⟩ ⟨hK, hN⟩ hP (c_Mo_isIn l E   a4 0 1 r_6 h_5) [] rfl gX8_chance_X8_isIn rfl rfl rfl hd_Mo_isIn ⟨(Nat.le_of_ble_eq_true rfl), (Nat.le_of_ble_eq_true rfl)⟩ rfl hl.1 rfl (Nat.le_of_ble_eq_true rfl) dX8_chance_23 ⟨(Nat.zero_le _), (Nat.zero_le _)⟩ ?_
      refine lv_if_ne (tgt := 31) hx hb dX8_chance_26 (by decide) (fun c_46 => ?_) (fun c_46 => ?_)
      · have hf := ite_f c_46 hf
        refine lv_aload_n hx hb dX8_chance_31 rfl (lv_at hl 0 rfl) ?_
        refine va_get (D := E.1) (ci := 8) (v := .ref m2) (C := RX8) (T := TX8) (N := 20) hx hb hts in_X8_chance_X8 hown hK hP 0 rfl rfl 5 (by decide) q_0 (fun _ h9 => h9) rfl dX8_chance_32 ?_
        refine lv_bipush (v := 16) hx hb dX8_chance_35 (by decide) ?_
        refine lv_iload_n hx hb dX8_chance_37 rfl (lv_at hl 1 rfl) ?_
        refine lv_imul hx hb dX8_chance_38 ?_
        refine lv_iload_n hx hb dX8_chance_39 rfl (lv_at hl 2 rfl) ?_
        refine lv_iadd hx hb dX8_chance_40 ?_
        obtain ⟨g_7, hf⟩ := gk_s hf
        refine va_iald hx hb hK hP 2 0 rfl rfl g_7 dX8_chance_41 ?_
        refine lv_if_ne (tgt := 48) hx hb dX8_chance_42 (by decide) (fun c_45 => ?_) (fun c_45 => ?_)
        · have hf := ite_f c_45 hf
          refine lv_iconst (v := 0) hx hb dX8_chance_48 (by decide) ?_
          refine lv_istore (lv' := [(5, .int 0), (0, .ref m0), (1, .int a1), (2, .int a2), (3, .int a3), (4, .int a4)]) hx hb dX8_chance_49 hl (by decide) rfl (fun ls hl => ?_)
          refine lv_iconst (v := 0) hx hb dX8_chance_51 (by decide) ?_
          refine lv_istore (lv' := [(6, .int 0), (5, .int 0), (0, .ref m0), (1, .int a1), (2, .int a2), (3, .int a3), (4, .int a4)]) hx hb dX8_chance_52 hl (by decide) rfl (fun ls hl => ?_)
          obtain ⟨w_54, i_54, hf⟩ := bd_s hf
          have KX_54 : ∀ (v5_29 : Int32) (m_clusters_30 : Int32) (m_dist_31 : Nat → Int32) (m_delays_32 : Nat → Int32) (m_fractions_33 : Nat → Int32) (m_head_34 : Nat → Int32) (m_hour_35 : Nat → Int32) (m_number_36 : Nat → Int32), (v5_29, m_clusters_30, m_dist_31, m_delays_32, m_fractions_33, m_head_34, m_hour_35, m_number_36) = w_54 → ∀ (H : Heap) (locs : List Loc) (ls : Array Slot), va_P E.1 vwCl (w_Mo E m0 m1 m2 m3 m4 m5 m6 m7 m8 m9 m10 m11 m_length m_places m_most m_tenths m_changes m_readPlaces m_value m_ends m_clusters_30 m_text m_now m_read m_was m_readRule m_dist_31 m_delays_32 m_fractions_33 m_head_34 m_hour_35 m_number_36) H → va_D A (w_Mo E m0 m1 m2 m3 m4 m5 m6 m7 m8 m9 m10 m11 m_length m_places m_most m_tenths m_changes m_readPlaces m_value m_ends m_clusters_30 m_text m_now m_read m_was m_readRule m_dist_31 m_delays_32 m_fractions_33 m_head_34 m_hour_35 m_number_36) → va_S A s.heap H locs → lv_has ls 9 [(3, .int a3), (4, .int a4), (5, .int v5_29)] → W p l e rm_Mo_chance s m args below meth c H locs 0 0 Q (F0 m 97 ls []) := by
            intro v5_29 m_clusters_30 m_dist_31 m_delays_32 m_fractions_33 m_head_34 m_hour_35 m_number_36 e_
            subst e_
            try dsimp only at hf
            intro H locs ls hP hD hS hl
            refine lv_iload_n hx hb dX8_chance_97 rfl (lv_at hl 0 rfl) ?_
            refine lv_istore (lv' := [(6, .int a3), (3, .int a3), (4, .int a4), (5, .int v5_29)]) hx hb dX8_chance_98 hl (by decide) rfl (fun ls hl => ?_)
            refine lv_iload hx hb dX8_chance_100 (lv_at hl 3 rfl) ?_
            refine lv_istore (lv' := [(7, .int v5_29), (6, .int a3), (3, .int a3), (4, .int a4), (5, .int v5_29)]) hx hb dX8_chance_102 hl (by decide) rfl (fun ls hl => ?_)
            obtain ⟨w_104, i_104, hf⟩ := bd_s hf
            have KX_104 : ∀ (v6_41 : Int32), v6_41 = w_104 → ∀ (H : Heap) (locs : List Loc) (ls : Array Slot), va_P E.1 vwCl (w_Mo E m0 m1 m2 m3 m4 m5 m6 m7 m8 m9 m10 m11 m_length m_places m_most m_tenths m_changes m_readPlaces m_value m_ends m_clusters_30 m_text m_now m_read m_was m_readRule m_dist_31 m_delays_32 m_fractions_33 m_head_34 m_hour_35 m_number_36) H → va_D A (w_Mo E m0 m1 m2 m3 m4 m5 m6 m7 m8 m9 m10 m11 m_length m_places m_most m_tenths m_changes m_readPlaces m_value m_ends m_clusters_30 m_text m_now m_read m_was m_readRule m_dist_31 m_delays_32 m_fractions_33 m_head_34 m_hour_35 m_number_36) → va_S A s.heap H locs → lv_has ls 9 [(3, .int a3), (4, .int a4), (5, .int v5_29), (6, .int v6_41)] → W p l e rm_Mo_chance s m args below meth c H locs 0 0 Q (F0 m 127 ls []) := by
              intro v6_41 e_
              subst e_
              try dsimp only at hf
              intro H locs ls hP hD hS hl
              refine lv_iload hx hb dX8_chance_127 (lv_at hl 1 rfl) ?_
              refine lv_if_ne (tgt := 140) hx hb dX8_chance_129 (by decide) (fun c_44 => ?_) (fun c_44 => ?_)
              · have hf := ite_f c_44 hf
                refine lv_iload_n hx hb dX8_chance_140 rfl (lv_at hl 0 rfl) ?_
                refine lv_iload hx hb dX8_chance_141 (lv_at hl 3 rfl) ?_
                obtain ⟨g_42, hf⟩ := gz_s hf
                refine lv_idiv hx hb dX8_chance_143 g_42 ?_
                exact hret H locs ls 144 (a3 / v6_41) (m_clusters_30, m_dist_31, m_delays_32, m_fractions_33, m_head_34, m_hour_35, m_number_36) dX8_chance_144 (Option.some.inj hf) hP hD hS
              · have hf := ite_t c_44 hf
                refine lv_iload hx hb dX8_chance_132 (lv_at hl 2 rfl) ?_
                refine lv_iload hx hb dX8_chance_134 (lv_at hl 3 rfl) ?_
                obtain ⟨g_43, hf⟩ := gz_s hf
                refine lv_idiv hx hb dX8_chance_136 g_43 ?_
                refine lv_goto (tgt := 144) hx hb dX8_chance_137 (by decide) ?_
                exact hret H locs ls 144 (v5_29 / v6_41) (m_clusters_30, m_dist_31, m_delays_32, m_fractions_33, m_head_34, m_hour_35, m_number_36) dX8_chance_144 (Option.some.inj hf) hP hD hS
            have KL_104 : ∀ (n_ : Nat) (v6_37 : Int32) (v7_38 : Int32), it Mo_chance_L104 n_ (v6_37, v7_38) = some w_104 → ∀ (H : Heap) (locs : List Loc) (ls : Array Slot), va_P E.1 vwCl (w_Mo E m0 m1 m2 m3 m4 m5 m6 m7 m8 m9 m10 m11 m_length m_places m_most m_tenths m_changes m_readPlaces m_value m_ends m_clusters_30 m_text m_now m_read m_was m_readRule m_dist_31 m_delays_32 m_fractions_33 m_head_34 m_hour_35 m_number_36) H → va_D A (w_Mo E m0 m1 m2 m3 m4 m5 m6 m7 m8 m9 m10 m11 m_length m_places m_most m_tenths m_changes m_readPlaces m_value m_ends m_clusters_30 m_text m_now m_read m_was m_readRule m_dist_31 m_delays_32 m_fractions_33 m_head_34 m_hour_35 m_number_36) → va_S A s.heap H locs → lv_has ls 9 [(3, .int a3), (4, .int a4), (5, .int v5_29), (6, .int v6_37), (7, .int v7_38)] → W p l e rm_Mo_chance s m args below meth c H locs 0 0 Q (F0 m 104 ls []) := by
              intro n_
              induction n_ with
              | zero => intro v6_37 v7_38 hit; exact (it_z hit).elim
              | succ n_104 ih_104 =>
                intro v6_37 v7_38 hit
                intro H locs ls hP hD hS hl
                obtain ⟨x_104, hf, hc_104, hq_104⟩ := it_s hit
                dsimp only [Mo_chance_L104] at hf
                refine lv_iload hx hb dX8_chance_104 (lv_at hl 4 rfl) ?_
                refine lv_if_eq (tgt := 127) hx hb dX8_chance_106 (by decide) (fun c_40 => ?_) (fun c_40 => ?_)
                · have hf := ite_t c_40 hf
                  exact KX_104 v6_37 (hq_104 _ (Option.some.inj hf).symm) H locs _ hP hD hS (lv_sub hl [0, 1, 2, 3] rfl)
                · have hf := ite_f c_40 hf
                  refine lv_iload hx hb dX8_chance_109 (lv_at hl 3 rfl) ?_
                  refine lv_iload hx hb dX8_chance_111 (lv_at hl 4 rfl) ?_
                  obtain ⟨g_39, hf⟩ := gz_s hf
                  refine lv_irem hx hb dX8_chance_113 g_39 ?_
                  refine lv_istore (lv' := [(8, .int (v6_37 - v6_37 / v7_38 * v7_38)), (3, .int a3), (4, .int a4), (5, .int v5_29), (6, .int v6_37), (7, .int v7_38)]) hx hb dX8_chance_114 hl (by decide) rfl (fun ls hl => ?_)
                  refine lv_iload hx hb dX8_chance_116 (lv_at hl 5 rfl) ?_
                  refine lv_istore (lv' := [(6, .int v7_38), (8, .int (v6_37 - v6_37 / v7_38 * v7_38)), (3, .int a3), (4, .int a4), (5, .int v5_29), (7, .int v7_38)]) hx hb dX8_chance_118 hl (by decide) rfl (fun ls hl => ?_)
                  refine lv_iload hx hb dX8_chance_120 (lv_at hl 1 rfl) ?_
                  refine lv_istore (lv' := [(7, .int (v6_37 - v6_37 / v7_38 * v7_38)), (6, .int v7_38), (8, .int (v6_37 - v6_37 / v7_38 * v7_38)), (3, .int a3), (4, .int a4), (5, .int v5_29)]) hx hb dX8_chance_122 hl (by decide) rfl (fun ls hl => ?_)
                  refine lv_goto (tgt := 104) hx hb dX8_chance_124 (by decide) ?_
                  exact ih_104 v7_38 (v6_37 - v6_37 / v7_38 * v7_38) (hc_104 _ (Option.some.inj hf).symm) H locs _ hP hD hS (lv_sub hl [3, 4, 5, 1, 0] rfl)
            exact KL_104 _ a3 v5_29 i_104 H locs _ hP hD hS (lv_sub hl [2, 3, 4, 1, 0] rfl)
          have KL_54 : ∀ (n_ : Nat) (v5_8 : Int32) (v6_9 : Int32) (m_clusters_10 : Int32) (m_dist_11 : Nat → Int32) (m_delays_12 : Nat → Int32) (m_fractions_13 : Nat → Int32) (m_head_14 : Nat → Int32) (m_hour_15 : Nat → Int32) (m_number_16 : Nat → Int32), it (Mo_chance_L54 m_places m_most m_tenths m_now a1 a2 a3) n_ (v5_8, v6_9, m_clusters_10, m_dist_11, m_delays_12, m_fractions_13, m_head_14, m_hour_15, m_number_16) = some w_54 → ∀ (H : Heap) (locs : List Loc) (ls : Array Slot), va_P E.1 vwCl (w_Mo E m0 m1 m2 m3 m4 m5 m6 m7 m8 m9 m10 m11 m_length m_places m_most m_tenths m_changes m_readPlaces m_value m_ends m_clusters_10 m_text m_now m_read m_was m_readRule m_dist_11 m_delays_12 m_fractions_13 m_head_14 m_hour_15 m_number_16) H → va_D A (w_Mo E m0 m1 m2 m3 m4 m5 m6 m7 m8 m9 m10 m11 m_length m_places m_most m_tenths m_changes m_readPlaces m_value m_ends m_clusters_10 m_text m_now m_read m_was m_readRule m_dist_11 m_delays_12 m_fractions_13 m_head_14 m_hour_15 m_number_16) → va_S A s.heap H locs → lv_has ls 9 [(0, .ref m0), (1, .int a1), (2, .int a2), (3, .int a3), (4, .int a4), (5, .int v5_8), (6, .int v6_9)] → W p l e rm_Mo_chance s m args below meth c H locs 0 0 Q (F0 m 54 ls []) := by
            intro n_
            induction n_ with
            | zero => intro v5_8 v6_9 m_clusters_10 m_dist_11 m_delays_12 m_fractions_13 m_head_14 m_hour_15 m_number_16 hit; exact (it_z hit).elim
            | succ n_54 ih_54 =>
              intro v5_8 v6_9 m_clusters_10 m_dist_11 m_delays_12 m_fractions_13 m_head_14 m_hour_15 m_number_16 hit
              intro H locs ls hP hD hS hl
              obtain ⟨x_54, hf, hc_54, hq_54⟩ := it_s hit
              dsimp only [Mo_chance_L54] at hf
              refine lv_iload hx hb dX8_chance_54 (lv_at hl 6 rfl) ?_
              refine lv_iload_n hx hb dX8_chance_56 rfl (lv_at hl 3 rfl) ?_
              refine lv_icmp_ge (tgt := 97) hx hb dX8_chance_57 (by decide) (fun c_28 => ?_) (fun c_28 => ?_)
              · have hf := ite_t c_28 hf
                exact KX_54 v5_8 m_clusters_10 m_dist_11 m_delays_12 m_fractions_13 m_head_14 m_hour_15 m_number_16 (hq_54 _ (Option.some.inj hf).symm) H locs _ hP hD hS (lv_sub hl [3, 4, 5] rfl)
              · have hf := ite_f c_28 hf
                refine lv_aload_n hx hb dX8_chance_60 rfl (lv_at hl 0 rfl) ?_
                refine lv_iload hx hb dX8_chance_61 (lv_at hl 6 rfl) ?_
                obtain ⟨⟨m_clusters_18, m_dist_19, m_delays_20, m_fractions_21, m_head_22, m_hour_23, m_number_24⟩, h_17, hf⟩ := bd_s hf
                try dsimp only at hf
                refine ca_Mv (w2 := (w_Mo E m0 m1 m2 m3 m4 m5 m6 m7 m8 m9 m10 m11 m_length m_places m_most m_tenths m_changes m_readPlaces m_value m_ends m_clusters_18 m_text m_now m_read m_was m_readRule m_dist_19 m_delays_20 m_fractions_21 m_head_22 m_hour_23 m_number_24)) (As := [.int v6_9]) (rest := []) ⟨hx, hb, hml, hown, hts⟩ ⟨hK, hN⟩ hP hD hS hA (c_Mo_settles l E m0 m1 m2 m3 m4 m5 m6 m7 m8 m9 m10 m11 H.size m_length m_places m_most m_tenths m_changes m_readPlaces m_value m_ends m_clusters_10 m_text m_now m_read m_was m_readRule m_dist_11 m_delays_12 m_fractions_13 m_head_14 m_hour_15 m_number_16 v6_9 (m_clusters_18, m_dist_19, m_delays_20, m_fractions_21, m_head_22, m_hour_23, m_number_24) h_17) [0, 1, 2, 3, 4, 5, 6, 7, 8, 9, 10, 11] [] [0, 1, 2, 3, 4, 5, 6, 7, 8, 9, 10, 11] rfl rfl rfl rfl (by decide) rfl rfl 8 0 rfl rfl rfl gX8_chance_X8_settles rfl rfl rfl rfl hd_Mo_settles ⟨(Nat.le_of_ble_eq_true rfl), (Nat.le_of_ble_eq_true rfl)⟩ rfl hl.1 rfl (Nat.le_of_ble_eq_true rfl) dX8_chance_63 ⟨(Nat.zero_le _), (Nat.zero_le _)⟩ (fun H locs hP hD hS => ?_)
                refine lv_iload hx hb dX8_chance_66 (lv_at hl 5 rfl) ?_
                refine lv_aload_n hx hb dX8_chance_68 rfl (lv_at hl 0 rfl) ?_
                refine va_get (D := E.1) (ci := 8) (v := .ref m9) (C := RX8) (T := TX8) (N := 20) hx hb hts in_X8_chance_X8 hown hK hP 0 rfl rfl 16 (by decide) q_1 (fun _ h9 => h9) rfl dX8_chance_69 ?_
                refine lv_iload_n hx hb dX8_chance_72 rfl (lv_at hl 1 rfl) ?_
                obtain ⟨g_25, hf⟩ := gk_s hf
                refine va_iald hx hb hK hP 9 0 rfl rfl g_25 dX8_chance_73 ?_
                refine lv_aload_n hx hb dX8_chance_74 rfl (lv_at hl 0 rfl) ?_
                refine va_get (D := E.1) (ci := 8) (v := .ref m9) (C := RX8) (T := TX8) (N := 20) hx hb hts in_X8_chance_X8 hown hK hP 0 rfl rfl 16 (by decide) q_1 (fun _ h9 => h9) rfl dX8_chance_75 ?_
                refine lv_iload_n hx hb dX8_chance_78 rfl (lv_at hl 2 rfl) ?_
                obtain ⟨g_26, hf⟩ := gk_s hf
                refine va_iald hx hb hK hP 9 0 rfl rfl g_26 dX8_chance_79 ?_
                refine lv_icmp_eq (tgt := 87) hx hb dX8_chance_80 (by decide) (fun c_27 => ?_) (fun c_27 => ?_)
                · have hf := ite_t c_27 hf
                  refine lv_iconst (v := 0) hx hb dX8_chance_87 (by decide) ?_
                  refine lv_iadd hx hb dX8_chance_88 ?_
                  refine lv_istore (lv' := [(5, .int (v5_8 + 0)), (0, .ref m0), (1, .int a1), (2, .int a2), (3, .int a3), (4, .int a4), (6, .int v6_9)]) hx hb dX8_chance_89 hl (by decide) rfl (fun ls hl => ?_)
                  refine lv_iinc (v := (v6_9 + 1)) (lv' := [(6, .int (v6_9 + 1)), (5, .int (v5_8 + 0)), (0, .ref m0), (1, .int a1), (2, .int a2), (3, .int a3), (4, .int a4)]) hx hb dX8_chance_91 hl (k := 6) rfl rfl (by decide) rfl (fun ls hl => ?_)
                  refine lv_goto (tgt := 54) hx hb dX8_chance_94 (by decide) ?_
                  exact ih_54 (v5_8 + 0) (v6_9 + 1) m_clusters_18 m_dist_19 m_delays_20 m_fractions_21 m_head_22 m_hour_23 m_number_24 (hc_54 _ (Option.some.inj hf).symm) H locs _ hP hD hS (lv_sub hl [2, 3, 4, 5, 6, 1, 0] rfl)
                · have hf := ite_f c_27 hf
                  refine lv_iconst (v := 1) hx hb dX8_chance_83 (by decide) ?_
                  refine lv_goto (tgt := 88) hx hb dX8_chance_84 (by decide) ?_
                  refine lv_iadd hx hb dX8_chance_88 ?_
                  refine lv_istore (lv' := [(5, .int (v5_8 + 1)), (0, .ref m0), (1, .int a1), (2, .int a2), (3, .int a3), (4, .int a4), (6, .int v6_9)]) hx hb dX8_chance_89 hl (by decide) rfl (fun ls hl => ?_)
                  refine lv_iinc (v := (v6_9 + 1)) (lv' := [(6, .int (v6_9 + 1)), (5, .int (v5_8 + 1)), (0, .ref m0), (1, .int a1), (2, .int a2), (3, .int a3), (4, .int a4)]) hx hb dX8_chance_91 hl (k := 6) rfl rfl (by decide) rfl (fun ls hl => ?_)
                  refine lv_goto (tgt := 54) hx hb dX8_chance_94 (by decide) ?_
                  exact ih_54 (v5_8 + 1) (v6_9 + 1) m_clusters_18 m_dist_19 m_delays_20 m_fractions_21 m_head_22 m_hour_23 m_number_24 (hc_54 _ (Option.some.inj hf).symm) H locs _ hP hD hS (lv_sub hl [2, 3, 4, 5, 6, 1, 0] rfl)
          exact KL_54 _ 0 0 m_clusters m_dist m_delays m_fractions m_head m_hour m_number i_54 H locs _ hP hD hS (lv_sub hl [2, 3, 4, 5, 6, 1, 0] rfl)
        · have hf := ite_t c_45 hf
          refine lv_bipush (v := (-2)) hx hb dX8_chance_45 (by decide) ?_
          exact hret H locs ls 47 (-2) (m_clusters, m_dist, m_delays, m_fractions, m_head, m_hour, m_number) dX8_chance_47 (Option.some.inj hf) hP hD hS
      · have hf := ite_t c_46 hf
        refine lv_iconst (v := (-1)) hx hb dX8_chance_29 (by decide) ?_
        exact hret H locs ls 30 (-1) (m_clusters, m_dist, m_delays, m_fractions, m_head, m_hour, m_number) dX8_chance_30 (Option.some.inj hf) hP hD hS
abbrev rm_Mo_rise : Room := { frames := 4, cells := 0, slots := 0, locals := 95 }
theorem hd_Mo_rise : hdOK yX8_rise 1 := by decide +kernel
theorem in_X8_rise_X8 : ∀ w ∈ wsX80, w ∈ wsX8_rise := by decide +kernel
set_option maxRecDepth 100000 in
set_option maxHeartbeats 4000000 in
theorem c_Mo_rise (l : Launch) (E : En4) (m0 m1 m2 m3 m4 m5 m6 m7 m8 m9 m10 m11 : Nat) (sz : Nat) (m_length : Int32) (m_places : Int32) (m_most : Int32) (m_tenths : Int32) (m_changes : Int32) (m_readPlaces : Int32) (m_value : Int32) (m_ends : Int32) (m_clusters : Int32) (m_text : Nat → Int32) (m_now : Nat → Int32) (m_read : Nat → Int32) (m_was : Nat → Int32) (m_readRule : Nat → Int32) (m_dist : Nat → Int32) (m_delays : Nat → Int32) (m_fractions : Nat → Int32) (m_head : Nat → Int32) (m_hour : Nat → Int32) (m_number : Nat → Int32) (a1 : Int32)  (res : Int32 × Int32 × (Nat → Int32) × (Nat → Int32) × (Nat → Int32) × (Nat → Int32) × (Nat → Int32) × (Nat → Int32)) (hf : Mo_rise m_places m_most m_tenths m_clusters m_now m_dist m_delays m_fractions m_head m_hour m_number a1 = some res) : Met l yX8_rise wsX8_rise rm_Mo_rise (pcM [.ref m0, .int a1] E sz (w_Mo E m0 m1 m2 m3 m4 m5 m6 m7 m8 m9 m10 m11 m_length m_places m_most m_tenths m_changes m_readPlaces m_value m_ends m_clusters m_text m_now m_read m_was m_readRule m_dist m_delays m_fractions m_head m_hour m_number)) (QMi E sz (w_Mo E m0 m1 m2 m3 m4 m5 m6 m7 m8 m9 m10 m11 m_length m_places m_most m_tenths m_changes m_readPlaces m_value m_ends m_clusters m_text m_now m_read m_was m_readRule m_dist m_delays m_fractions m_head m_hour m_number) (fun (u : Int32 × (Nat → Int32) × (Nat → Int32) × (Nat → Int32) × (Nat → Int32) × (Nat → Int32) × (Nat → Int32)) => (w_Mo E m0 m1 m2 m3 m4 m5 m6 m7 m8 m9 m10 m11 m_length m_places m_most m_tenths m_changes m_readPlaces m_value m_ends u.1 m_text m_now m_read m_was m_readRule u.2.1 u.2.2.1 u.2.2.2.1 u.2.2.2.2.1 u.2.2.2.2.2.1 u.2.2.2.2.2.2)) res) 0 0 (va_A (w_Mo E m0 m1 m2 m3 m4 m5 m6 m7 m8 m9 m10 m11 m_length m_places m_most m_tenths m_changes m_readPlaces m_value m_ends m_clusters m_text m_now m_read m_was m_readRule m_dist m_delays m_fractions m_head m_hour m_number) sz) := by
  refine mk_Mi (cc := cX8_rise) (maxL := 3) (by decide) rfl (Nat.le_of_ble_eq_true rfl) ?_
  intro p e s m args below meth c Q A S hKN hA hret H locs ls hP hD hS hl
  obtain ⟨hx, hb, hml, hown, hts⟩ := S
  obtain ⟨hK, hN⟩ := hKN
  have hl : lv_has ls 3 [(0, .ref m0), (1, .int a1)] := hl
  have q_0 := hts (.fieldLink RX8 28 "DelayClustersModel" "delays" "[I") (by decide +kernel)
  have q_1 := hts (.fieldLink RX8 34 "DelayClustersModel" "head" "[I") (by decide +kernel)
  unfold Mo_rise at hf
  refine lv_aload_n hx hb dX8_rise_0 rfl (lv_at hl 0 rfl) ?_
  refine lv_iload_n hx hb dX8_rise_1 rfl (lv_at hl 1 rfl) ?_
  obtain ⟨r_2, h_1, hf⟩ := bd_s hf
  refine ca_V (As := [.int a1]) (rest := []) ⟨hx, hb, hml, hown, hts⟩ ⟨hK, hN⟩ hP (c_Mo_isPlace l E m0 m1 m2 m3 m4 m5 m6 m7 m8 m9 m10 m11 m_length m_places m_most m_tenths m_changes m_readPlaces m_value m_ends m_clusters m_text m_now m_read m_was m_readRule m_dist m_delays m_fractions m_head m_hour m_number a1 r_2 h_1) [0, 1, 2, 3, 4, 5, 6, 7, 8, 9, 10, 11] rfl 8 0 rfl rfl rfl gX8_rise_X8_isPlace rfl rfl rfl rfl hd_Mo_isPlace ⟨(Nat.le_of_ble_eq_true rfl), (Nat.le_of_ble_eq_true rfl)⟩ rfl hl.1 rfl (Nat.le_of_ble_eq_true rfl) dX8_rise_2 ⟨(Nat.zero_le _), (Nat.zero_le _)⟩ ?_
  refine lv_if_ne (tgt := 10) hx hb dX8_rise_5 (by decide) (fun c_31 => ?_) (fun c_31 => ?_)
  · have hf := ite_f c_31 hf
    refine lv_aload_n hx hb dX8_rise_10 rfl (lv_at hl 0 rfl) ?_
    obtain ⟨⟨m_clusters_4, m_dist_5, m_delays_6, m_fractions_7, m_head_8, m_hour_9, m_number_10⟩, h_3, hf⟩ := bd_s hf
    try dsimp only at hf
    refine ca_Mv (w2 := (w_Mo E m0 m1 m2 m3 m4 m5 m6 m7 m8 m9 m10 m11 m_length m_places m_most m_tenths m_changes m_readPlaces m_value m_ends m_clusters_4 m_text m_now m_read m_was m_readRule m_dist_5 m_delays_6 m_fractions_7 m_head_8 m_hour_9 m_number_10)) (As := []) (rest := []) ⟨hx, hb, hml, hown, hts⟩ ⟨hK, hN⟩ hP hD hS hA (c_Mo_settle l E m0 m1 m2 m3 m4 m5 m6 m7 m8 m9 m10 m11 H.size m_length m_places m_most m_tenths m_changes m_readPlaces m_value m_ends m_clusters m_text m_now m_read m_was m_readRule m_dist m_delays m_fractions m_head m_hour m_number (m_clusters_4, m_dist_5, m_delays_6, m_fractions_7, m_head_8, m_hour_9, m_number_10) h_3) [0, 1, 2, 3, 4, 5, 6, 7, 8, 9, 10, 11] [] [0, 1, 2, 3, 4, 5, 6, 7, 8, 9, 10, 11] rfl rfl rfl rfl (by decide) rfl rfl 8 0 rfl rfl rfl gX8_rise_X8_settle rfl rfl rfl rfl hd_Mo_settle ⟨(Nat.le_of_ble_eq_true rfl), (Nat.le_of_ble_eq_true rfl)⟩ rfl hl.1 rfl (Nat.le_of_ble_eq_true rfl) dX8_rise_11 ⟨(Nat.zero_le _), (Nat.zero_le _)⟩ (fun H locs hP hD hS => ?_)
    refine lv_iconst (v := 0) hx hb dX8_rise_14 (by decide) ?_
    refine lv_istore_n (lv' := [(2, .int 0), (0, .ref m0), (1, .int a1)]) hx hb dX8_rise_15 rfl hl (by decide) rfl (fun ls hl => ?_)
    obtain ⟨w_16, i_16, hf⟩ := bd_s hf
    have KE_16 : ∀ y_, Sum.inr y_ = w_16 → some y_ = some res := by intro y_ e_; subst e_; exact hf
    have KX_16 : ∀ (m_clusters_26 : Int32) (m_delays_27 : Nat → Int32) (m_head_28 : Nat → Int32) (m_hour_29 : Nat → Int32) (m_number_30 : Nat → Int32), Sum.inl (m_clusters_26, m_delays_27, m_head_28, m_hour_29, m_number_30) = w_16 → ∀ (H : Heap) (locs : List Loc) (ls : Array Slot), va_P E.1 vwCl (w_Mo E m0 m1 m2 m3 m4 m5 m6 m7 m8 m9 m10 m11 m_length m_places m_most m_tenths m_changes m_readPlaces m_value m_ends m_clusters_26 m_text m_now m_read m_was m_readRule m_dist_5 m_delays_27 m_fractions_7 m_head_28 m_hour_29 m_number_30) H → va_D A (w_Mo E m0 m1 m2 m3 m4 m5 m6 m7 m8 m9 m10 m11 m_length m_places m_most m_tenths m_changes m_readPlaces m_value m_ends m_clusters_26 m_text m_now m_read m_was m_readRule m_dist_5 m_delays_27 m_fractions_7 m_head_28 m_hour_29 m_number_30) → va_S A s.heap H locs → lv_has ls 3 [] → W p l e rm_Mo_rise s m args below meth c H locs 0 0 Q (F0 m 51 ls []) := by
      intro m_clusters_26 m_delays_27 m_head_28 m_hour_29 m_number_30 e_
      subst e_
      try dsimp only at hf
      intro H locs ls hP hD hS hl
      refine lv_bipush (v := (-4)) hx hb dX8_rise_51 (by decide) ?_
      exact hret H locs ls 53 (-4) (m_clusters_26, m_dist_5, m_delays_27, m_fractions_7, m_head_28, m_hour_29, m_number_30) dX8_rise_53 (Option.some.inj hf) hP hD hS
    have KL_16 : ∀ (n_ : Nat) (v2_11 : Int32) (m_clusters_12 : Int32) (m_delays_13 : Nat → Int32) (m_head_14 : Nat → Int32) (m_hour_15 : Nat → Int32) (m_number_16 : Nat → Int32), it (Mo_rise_L16 m_places a1 m_dist_5 m_fractions_7) n_ (v2_11, m_clusters_12, m_delays_13, m_head_14, m_hour_15, m_number_16) = some w_16 → ∀ (H : Heap) (locs : List Loc) (ls : Array Slot), va_P E.1 vwCl (w_Mo E m0 m1 m2 m3 m4 m5 m6 m7 m8 m9 m10 m11 m_length m_places m_most m_tenths m_changes m_readPlaces m_value m_ends m_clusters_12 m_text m_now m_read m_was m_readRule m_dist_5 m_delays_13 m_fractions_7 m_head_14 m_hour_15 m_number_16) H → va_D A (w_Mo E m0 m1 m2 m3 m4 m5 m6 m7 m8 m9 m10 m11 m_length m_places m_most m_tenths m_changes m_readPlaces m_value m_ends m_clusters_12 m_text m_now m_read m_was m_readRule m_dist_5 m_delays_13 m_fractions_7 m_head_14 m_hour_15 m_number_16) → va_S A s.heap H locs → lv_has ls 3 [(0, .ref m0), (1, .int a1), (2, .int v2_11)] → W p l e rm_Mo_rise s m args below meth c H locs 0 0 Q (F0 m 16 ls []) := by
      intro n_
      induction n_ with
      | zero => intro v2_11 m_clusters_12 m_delays_13 m_head_14 m_hour_15 m_number_16 hit; exact (it_z hit).elim
      | succ n_16 ih_16 =>
        intro v2_11 m_clusters_12 m_delays_13 m_head_14 m_hour_15 m_number_16 hit
        intro H locs ls hP hD hS hl
        obtain ⟨x_16, hf, hc_16, hq_16⟩ := it_s hit
        dsimp only [Mo_rise_L16] at hf
        refine lv_iload_n hx hb dX8_rise_16 rfl (lv_at hl 2 rfl) ?_
        refine lv_bipush (v := 30) hx hb dX8_rise_17 (by decide) ?_
        refine lv_icmp_gt (tgt := 51) hx hb dX8_rise_19 (by decide) (fun c_25 => ?_) (fun c_25 => ?_)
        · have hf := ite_t c_25 hf
          exact KX_16 m_clusters_12 m_delays_13 m_head_14 m_hour_15 m_number_16 (hq_16 _ (Option.some.inj hf).symm) H locs _ hP hD hS (lv_sub hl [] rfl)
        · have hf := ite_f c_25 hf
          refine lv_aload_n hx hb dX8_rise_22 rfl (lv_at hl 0 rfl) ?_
          refine va_get (D := E.1) (ci := 8) (v := .ref m7) (C := RX8) (T := TX8) (N := 20) hx hb hts in_X8_rise_X8 hown hK hP 0 rfl rfl 14 (by decide) q_0 (fun _ h9 => h9) rfl dX8_rise_23 ?_
          refine lv_iload_n hx hb dX8_rise_26 rfl (lv_at hl 1 rfl) ?_
          refine lv_iload_n hx hb dX8_rise_27 rfl (lv_at hl 2 rfl) ?_
          obtain ⟨g_17, hf⟩ := gk_s hf
          refine va_iast hx hb hK hP hD hS 7 0 rfl rfl g_17 dX8_rise_28 (fun H locs hP hD hS => ?_)
          have hP : va_P E.1 vwCl (w_Mo E m0 m1 m2 m3 m4 m5 m6 m7 m8 m9 m10 m11 m_length m_places m_most m_tenths m_changes m_readPlaces m_value m_ends m_clusters_12 m_text m_now m_read m_was m_readRule m_dist_5 (upd m_delays_13 a1.toNatClampNeg v2_11) m_fractions_7 m_head_14 m_hour_15 m_number_16) H := hP
          have hD : va_D A (w_Mo E m0 m1 m2 m3 m4 m5 m6 m7 m8 m9 m10 m11 m_length m_places m_most m_tenths m_changes m_readPlaces m_value m_ends m_clusters_12 m_text m_now m_read m_was m_readRule m_dist_5 (upd m_delays_13 a1.toNatClampNeg v2_11) m_fractions_7 m_head_14 m_hour_15 m_number_16) := hD
          refine lv_aload_n hx hb dX8_rise_29 rfl (lv_at hl 0 rfl) ?_
          obtain ⟨⟨m_clusters_19, m_head_20, m_hour_21, m_number_22⟩, h_18, hf⟩ := bd_s hf
          try dsimp only at hf
          refine ca_Mv (w2 := (w_Mo E m0 m1 m2 m3 m4 m5 m6 m7 m8 m9 m10 m11 m_length m_places m_most m_tenths m_changes m_readPlaces m_value m_ends m_clusters_19 m_text m_now m_read m_was m_readRule m_dist_5 (upd m_delays_13 a1.toNatClampNeg v2_11) m_fractions_7 m_head_20 m_hour_21 m_number_22)) (As := []) (rest := []) ⟨hx, hb, hml, hown, hts⟩ ⟨hK, hN⟩ hP hD hS hA (c_Mo_join l E m0 m1 m2 m3 m4 m5 m6 m7 m8 m9 m10 m11 H.size m_length m_places m_most m_tenths m_changes m_readPlaces m_value m_ends m_clusters_12 m_text m_now m_read m_was m_readRule m_dist_5 (upd m_delays_13 a1.toNatClampNeg v2_11) m_fractions_7 m_head_14 m_hour_15 m_number_16 (m_clusters_19, m_head_20, m_hour_21, m_number_22) h_18) [0, 1, 2, 3, 4, 5, 6, 7, 8, 9, 10, 11] [] [0, 1, 2, 3, 4, 5, 6, 7, 8, 9, 10, 11] rfl rfl rfl rfl (by decide) rfl rfl 8 0 rfl rfl rfl gX8_rise_X8_join rfl rfl rfl rfl hd_Mo_join ⟨(Nat.le_of_ble_eq_true rfl), (Nat.le_of_ble_eq_true rfl)⟩ rfl hl.1 rfl (Nat.le_of_ble_eq_true rfl) dX8_rise_30 ⟨(Nat.zero_le _), (Nat.zero_le _)⟩ (fun H locs hP hD hS => ?_)
          refine lv_aload_n hx hb dX8_rise_33 rfl (lv_at hl 0 rfl) ?_
          refine va_get (D := E.1) (ci := 8) (v := .ref m9) (C := RX8) (T := TX8) (N := 20) hx hb hts in_X8_rise_X8 hown hK hP 0 rfl rfl 16 (by decide) q_1 (fun _ h9 => h9) rfl dX8_rise_34 ?_
          refine lv_iload_n hx hb dX8_rise_37 rfl (lv_at hl 1 rfl) ?_
          obtain ⟨g_23, hf⟩ := gk_s hf
          refine va_iald hx hb hK hP 9 0 rfl rfl g_23 dX8_rise_38 ?_
          refine lv_iload_n hx hb dX8_rise_39 rfl (lv_at hl 1 rfl) ?_
          refine lv_icmp_ne (tgt := 45) hx hb dX8_rise_40 (by decide) (fun c_24 => ?_) (fun c_24 => ?_)
          · have hf := ite_f c_24 hf
            refine lv_iinc (v := (v2_11 + 1)) (lv' := [(2, .int (v2_11 + 1)), (0, .ref m0), (1, .int a1)]) hx hb dX8_rise_45 hl (k := 2) rfl rfl (by decide) rfl (fun ls hl => ?_)
            refine lv_goto (tgt := 16) hx hb dX8_rise_48 (by decide) ?_
            exact ih_16 (v2_11 + 1) m_clusters_19 (upd m_delays_13 a1.toNatClampNeg v2_11) m_head_20 m_hour_21 m_number_22 (hc_16 _ (Option.some.inj hf).symm) H locs _ hP hD hS (lv_sub hl [1, 2, 0] rfl)
          · have hf := ite_t c_24 hf
            refine lv_iload_n hx hb dX8_rise_43 rfl (lv_at hl 2 rfl) ?_
            have hf := KE_16 _ (hq_16 _ (Option.some.inj hf).symm)
            exact hret H locs ls 44 v2_11 (m_clusters_19, m_dist_5, (upd m_delays_13 a1.toNatClampNeg v2_11), m_fractions_7, m_head_20, m_hour_21, m_number_22) dX8_rise_44 (Option.some.inj hf) hP hD hS
    exact KL_16 _ 0 m_clusters_4 m_delays_6 m_head_8 m_hour_9 m_number_10 i_16 H locs _ hP hD hS (lv_sub hl [1, 2, 0] rfl)
  · have hf := ite_t c_31 hf
    refine lv_iconst (v := (-1)) hx hb dX8_rise_8 (by decide) ?_
    exact hret H locs ls 9 (-1) (m_clusters, m_dist, m_delays, m_fractions, m_head, m_hour, m_number) dX8_rise_9 (Option.some.inj hf) hP hD hS
abbrev rm_Mo_count : Room := { frames := 4, cells := 0, slots := 0, locals := 95 }
theorem hd_Mo_count : hdOK yX8_count 1 := by decide +kernel
theorem in_X8_count_X8 : ∀ w ∈ wsX80, w ∈ wsX8_count := by decide +kernel
set_option maxRecDepth 100000 in
set_option maxHeartbeats 4000000 in
theorem c_Mo_count (l : Launch) (E : En4) (m0 m1 m2 m3 m4 m5 m6 m7 m8 m9 m10 m11 : Nat) (sz : Nat) (m_length : Int32) (m_places : Int32) (m_most : Int32) (m_tenths : Int32) (m_changes : Int32) (m_readPlaces : Int32) (m_value : Int32) (m_ends : Int32) (m_clusters : Int32) (m_text : Nat → Int32) (m_now : Nat → Int32) (m_read : Nat → Int32) (m_was : Nat → Int32) (m_readRule : Nat → Int32) (m_dist : Nat → Int32) (m_delays : Nat → Int32) (m_fractions : Nat → Int32) (m_head : Nat → Int32) (m_hour : Nat → Int32) (m_number : Nat → Int32) (a1 : Int32)  (res : Int32 × Int32 × (Nat → Int32) × (Nat → Int32) × (Nat → Int32) × (Nat → Int32) × (Nat → Int32) × (Nat → Int32)) (hf : Mo_count m_length m_places m_most m_tenths m_changes m_clusters m_now m_dist m_delays m_fractions m_head m_hour m_number a1 = some res) : Met l yX8_count wsX8_count rm_Mo_count (pcM [.ref m0, .int a1] E sz (w_Mo E m0 m1 m2 m3 m4 m5 m6 m7 m8 m9 m10 m11 m_length m_places m_most m_tenths m_changes m_readPlaces m_value m_ends m_clusters m_text m_now m_read m_was m_readRule m_dist m_delays m_fractions m_head m_hour m_number)) (QMi E sz (w_Mo E m0 m1 m2 m3 m4 m5 m6 m7 m8 m9 m10 m11 m_length m_places m_most m_tenths m_changes m_readPlaces m_value m_ends m_clusters m_text m_now m_read m_was m_readRule m_dist m_delays m_fractions m_head m_hour m_number) (fun (u : Int32 × (Nat → Int32) × (Nat → Int32) × (Nat → Int32) × (Nat → Int32) × (Nat → Int32) × (Nat → Int32)) => (w_Mo E m0 m1 m2 m3 m4 m5 m6 m7 m8 m9 m10 m11 m_length m_places m_most m_tenths m_changes m_readPlaces m_value m_ends u.1 m_text m_now m_read m_was m_readRule u.2.1 u.2.2.1 u.2.2.2.1 u.2.2.2.2.1 u.2.2.2.2.2.1 u.2.2.2.2.2.2)) res) 0 0 (va_A (w_Mo E m0 m1 m2 m3 m4 m5 m6 m7 m8 m9 m10 m11 m_length m_places m_most m_tenths m_changes m_readPlaces m_value m_ends m_clusters m_text m_now m_read m_was m_readRule m_dist m_delays m_fractions m_head m_hour m_number) sz) := by
  refine mk_Mi (cc := cX8_count) (maxL := 4) (by decide) rfl (Nat.le_of_ble_eq_true rfl) ?_
  intro p e s m args below meth c Q A S hKN hA hret H locs ls hP hD hS hl
  obtain ⟨hx, hb, hml, hown, hts⟩ := S
  obtain ⟨hK, hN⟩ := hKN
  have hl : lv_has ls 4 [(0, .ref m0), (1, .int a1)] := hl
  have q_0 := hts (.fieldLink RX8 57 "DelayClustersModel" "places" "I") (by decide +kernel)
  have q_1 := hts (.fieldLink RX8 13 "DelayClustersModel" "now" "[I") (by decide +kernel)
  have q_2 := hts (.fieldLink RX8 130 "DelayClustersModel" "clusters" "I") (by decide +kernel)
  have q_3 := hts (.fieldLink RX8 60 "DelayClustersModel" "most" "I") (by decide +kernel)
  have q_4 := hts (.fieldLink RX8 63 "DelayClustersModel" "tenths" "I") (by decide +kernel)
  have q_5 := hts (.fieldLink RX8 66 "DelayClustersModel" "changes" "I") (by decide +kernel)
  have q_6 := hts (.fieldLink RX8 69 "DelayClustersModel" "length" "I") (by decide +kernel)
  unfold Mo_count at hf
  refine lv_aload_n hx hb dX8_count_0 rfl (lv_at hl 0 rfl) ?_
  obtain ⟨⟨m_clusters_2, m_dist_3, m_delays_4, m_fractions_5, m_head_6, m_hour_7, m_number_8⟩, h_1, hf⟩ := bd_s hf
  try dsimp only at hf
  refine ca_Mv (w2 := (w_Mo E m0 m1 m2 m3 m4 m5 m6 m7 m8 m9 m10 m11 m_length m_places m_most m_tenths m_changes m_readPlaces m_value m_ends m_clusters_2 m_text m_now m_read m_was m_readRule m_dist_3 m_delays_4 m_fractions_5 m_head_6 m_hour_7 m_number_8)) (As := []) (rest := []) ⟨hx, hb, hml, hown, hts⟩ ⟨hK, hN⟩ hP hD hS hA (c_Mo_settle l E m0 m1 m2 m3 m4 m5 m6 m7 m8 m9 m10 m11 H.size m_length m_places m_most m_tenths m_changes m_readPlaces m_value m_ends m_clusters m_text m_now m_read m_was m_readRule m_dist m_delays m_fractions m_head m_hour m_number (m_clusters_2, m_dist_3, m_delays_4, m_fractions_5, m_head_6, m_hour_7, m_number_8) h_1) [0, 1, 2, 3, 4, 5, 6, 7, 8, 9, 10, 11] [] [0, 1, 2, 3, 4, 5, 6, 7, 8, 9, 10, 11] rfl rfl rfl rfl (by decide) rfl rfl 8 0 rfl rfl rfl gX8_count_X8_settle rfl rfl rfl rfl hd_Mo_settle ⟨(Nat.le_of_ble_eq_true rfl), (Nat.le_of_ble_eq_true rfl)⟩ rfl hl.1 rfl (Nat.le_of_ble_eq_true rfl) dX8_count_1 ⟨(Nat.zero_le _), (Nat.zero_le _)⟩ (fun H locs hP hD hS => ?_)
  refine lv_iload_n hx hb dX8_count_4 rfl (lv_at hl 1 rfl) ?_
  by_cases c_9 : a1 = 0
  · have hf := ite_t c_9 hf
    refine lv_tableIn (off := 67) (tgt := 72) hx hb dX8_count_5 (by rw [c_9]; decide) (by rw [c_9]; decide) (by rw [c_9]; rfl) (by decide) ?_
    refine lv_aload_n hx hb dX8_count_72 rfl (lv_at hl 0 rfl) ?_
    refine va_get (D := E.1) (ci := 8) (v := .int m_places) (C := RX8) (T := TX8) (N := 20) hx hb hts in_X8_count_X8 hown hK hP 0 rfl rfl 2 (by decide) q_0 (fun _ h9 => h9) rfl dX8_count_73 ?_
    exact hret H locs ls 76 m_places (m_clusters_2, m_dist_3, m_delays_4, m_fractions_5, m_head_6, m_hour_7, m_number_8) dX8_count_76 (Option.some.inj hf) hP hD hS
  · have hf := ite_f c_9 hf
    by_cases c_12 : a1 = 1
    · have hf := ite_t c_12 hf
      refine lv_tableIn (off := 72) (tgt := 77) hx hb dX8_count_5 (by rw [c_12]; decide) (by rw [c_12]; decide) (by rw [c_12]; rfl) (by decide) ?_
      refine lv_aload_n hx hb dX8_count_77 rfl (lv_at hl 0 rfl) ?_
      refine va_get (D := E.1) (ci := 8) (v := .ref m2) (C := RX8) (T := TX8) (N := 20) hx hb hts in_X8_count_X8 hown hK hP 0 rfl rfl 5 (by decide) q_1 (fun _ h9 => h9) rfl dX8_count_78 ?_
      obtain ⟨r_11, h_10, hf⟩ := bd_s hf
      refine ca_S (As := [.ref m2]) (rest := []) ⟨hx, hb, hml, hown, hts⟩ ⟨hK, hN⟩ hP (c_Mo_linksOf l E m2 m_now r_11 h_10) [2] rfl gX8_count_X8_linksOf rfl rfl rfl hd_Mo_linksOf ⟨(Nat.le_of_ble_eq_true rfl), (Nat.le_of_ble_eq_true rfl)⟩ rfl hl.1 rfl (Nat.le_of_ble_eq_true rfl) dX8_count_81 ⟨(Nat.zero_le _), (Nat.zero_le _)⟩ ?_
      exact hret H locs ls 84 r_11 (m_clusters_2, m_dist_3, m_delays_4, m_fractions_5, m_head_6, m_hour_7, m_number_8) dX8_count_84 (Option.some.inj hf) hP hD hS
    · have hf := ite_f c_12 hf
      by_cases c_13 : a1 = 2
      · have hf := ite_t c_13 hf
        refine lv_tableIn (off := 80) (tgt := 85) hx hb dX8_count_5 (by rw [c_13]; decide) (by rw [c_13]; decide) (by rw [c_13]; rfl) (by decide) ?_
        refine lv_aload_n hx hb dX8_count_85 rfl (lv_at hl 0 rfl) ?_
        refine va_get (D := E.1) (ci := 8) (v := .int m_clusters_2) (C := RX8) (T := TX8) (N := 20) hx hb hts in_X8_count_X8 hown hK hP 0 rfl rfl 19 (by decide) q_2 (fun _ h9 => h9) rfl dX8_count_86 ?_
        exact hret H locs ls 89 m_clusters_2 (m_clusters_2, m_dist_3, m_delays_4, m_fractions_5, m_head_6, m_hour_7, m_number_8) dX8_count_89 (Option.some.inj hf) hP hD hS
      · have hf := ite_f c_13 hf
        by_cases c_16 : a1 = 3
        · have hf := ite_t c_16 hf
          refine lv_tableIn (off := 85) (tgt := 90) hx hb dX8_count_5 (by rw [c_16]; decide) (by rw [c_16]; decide) (by rw [c_16]; rfl) (by decide) ?_
          refine lv_aload_n hx hb dX8_count_90 rfl (lv_at hl 0 rfl) ?_
          refine lv_iconst (v := 2) hx hb dX8_count_91 (by decide) ?_
          obtain ⟨r_15, h_14, hf⟩ := bd_s hf
          refine ca_V (As := [.int 2]) (rest := []) ⟨hx, hb, hml, hown, hts⟩ ⟨hK, hN⟩ hP (c_Mo_links l E m0 m1 m2 m3 m4 m5 m6 m7 m8 m9 m10 m11 m_length m_places m_most m_tenths m_changes m_readPlaces m_value m_ends m_clusters_2 m_text m_now m_read m_was m_readRule m_dist_3 m_delays_4 m_fractions_5 m_head_6 m_hour_7 m_number_8 2 r_15 h_14) [0, 1, 2, 3, 4, 5, 6, 7, 8, 9, 10, 11] rfl 8 0 rfl rfl rfl gX8_count_X8_links rfl rfl rfl rfl hd_Mo_links ⟨(Nat.le_of_ble_eq_true rfl), (Nat.le_of_ble_eq_true rfl)⟩ rfl hl.1 rfl (Nat.le_of_ble_eq_true rfl) dX8_count_92 ⟨(Nat.zero_le _), (Nat.zero_le _)⟩ ?_
          exact hret H locs ls 95 r_15 (m_clusters_2, m_dist_3, m_delays_4, m_fractions_5, m_head_6, m_hour_7, m_number_8) dX8_count_95 (Option.some.inj hf) hP hD hS
        · have hf := ite_f c_16 hf
          by_cases c_19 : a1 = 4
          · have hf := ite_t c_19 hf
            refine lv_tableIn (off := 91) (tgt := 96) hx hb dX8_count_5 (by rw [c_19]; decide) (by rw [c_19]; decide) (by rw [c_19]; rfl) (by decide) ?_
            refine lv_aload_n hx hb dX8_count_96 rfl (lv_at hl 0 rfl) ?_
            refine lv_iconst (v := 1) hx hb dX8_count_97 (by decide) ?_
            obtain ⟨r_18, h_17, hf⟩ := bd_s hf
            refine ca_V (As := [.int 1]) (rest := []) ⟨hx, hb, hml, hown, hts⟩ ⟨hK, hN⟩ hP (c_Mo_links l E m0 m1 m2 m3 m4 m5 m6 m7 m8 m9 m10 m11 m_length m_places m_most m_tenths m_changes m_readPlaces m_value m_ends m_clusters_2 m_text m_now m_read m_was m_readRule m_dist_3 m_delays_4 m_fractions_5 m_head_6 m_hour_7 m_number_8 1 r_18 h_17) [0, 1, 2, 3, 4, 5, 6, 7, 8, 9, 10, 11] rfl 8 0 rfl rfl rfl gX8_count_X8_links rfl rfl rfl rfl hd_Mo_links ⟨(Nat.le_of_ble_eq_true rfl), (Nat.le_of_ble_eq_true rfl)⟩ rfl hl.1 rfl (Nat.le_of_ble_eq_true rfl) dX8_count_98 ⟨(Nat.zero_le _), (Nat.zero_le _)⟩ ?_
            exact hret H locs ls 101 r_18 (m_clusters_2, m_dist_3, m_delays_4, m_fractions_5, m_head_6, m_hour_7, m_number_8) dX8_count_101 (Option.some.inj hf) hP hD hS
          · have hf := ite_f c_19 hf
            by_cases c_22 : a1 = 5
            · have hf := ite_t c_22 hf
              refine lv_tableIn (off := 97) (tgt := 102) hx hb dX8_count_5 (by rw [c_22]; decide) (by rw [c_22]; decide) (by rw [c_22]; rfl) (by decide) ?_
              refine lv_aload_n hx hb dX8_count_102 rfl (lv_at hl 0 rfl) ?_
              refine lv_bipush (v := (-4)) hx hb dX8_count_103 (by decide) ?_
              obtain ⟨r_21, h_20, hf⟩ := bd_s hf
              refine ca_V (As := [.int (-4)]) (rest := []) ⟨hx, hb, hml, hown, hts⟩ ⟨hK, hN⟩ hP (c_Mo_wide l E m0 m1 m2 m3 m4 m5 m6 m7 m8 m9 m10 m11 m_length m_places m_most m_tenths m_changes m_readPlaces m_value m_ends m_clusters_2 m_text m_now m_read m_was m_readRule m_dist_3 m_delays_4 m_fractions_5 m_head_6 m_hour_7 m_number_8 (-4) r_21 h_20) [0, 1, 2, 3, 4, 5, 6, 7, 8, 9, 10, 11] rfl 8 0 rfl rfl rfl gX8_count_X8_wide rfl rfl rfl rfl hd_Mo_wide ⟨(Nat.le_of_ble_eq_true rfl), (Nat.le_of_ble_eq_true rfl)⟩ rfl hl.1 rfl (Nat.le_of_ble_eq_true rfl) dX8_count_105 ⟨(Nat.zero_le _), (Nat.zero_le _)⟩ ?_
              exact hret H locs ls 108 r_21 (m_clusters_2, m_dist_3, m_delays_4, m_fractions_5, m_head_6, m_hour_7, m_number_8) dX8_count_108 (Option.some.inj hf) hP hD hS
            · have hf := ite_f c_22 hf
              by_cases c_25 : a1 = 6
              · have hf := ite_t c_25 hf
                refine lv_tableIn (off := 104) (tgt := 109) hx hb dX8_count_5 (by rw [c_25]; decide) (by rw [c_25]; decide) (by rw [c_25]; rfl) (by decide) ?_
                refine lv_aload_n hx hb dX8_count_109 rfl (lv_at hl 0 rfl) ?_
                obtain ⟨r_24, h_23, hf⟩ := bd_s hf
                refine ca_V (As := []) (rest := []) ⟨hx, hb, hml, hown, hts⟩ ⟨hK, hN⟩ hP (c_Mo_lastHour l E m0 m1 m2 m3 m4 m5 m6 m7 m8 m9 m10 m11 m_length m_places m_most m_tenths m_changes m_readPlaces m_value m_ends m_clusters_2 m_text m_now m_read m_was m_readRule m_dist_3 m_delays_4 m_fractions_5 m_head_6 m_hour_7 m_number_8 r_24 h_23) [0, 1, 2, 3, 4, 5, 6, 7, 8, 9, 10, 11] rfl 8 0 rfl rfl rfl gX8_count_X8_lastHour rfl rfl rfl rfl hd_Mo_lastHour ⟨(Nat.le_of_ble_eq_true rfl), (Nat.le_of_ble_eq_true rfl)⟩ rfl hl.1 rfl (Nat.le_of_ble_eq_true rfl) dX8_count_110 ⟨(Nat.zero_le _), (Nat.zero_le _)⟩ ?_
                exact hret H locs ls 113 r_24 (m_clusters_2, m_dist_3, m_delays_4, m_fractions_5, m_head_6, m_hour_7, m_number_8) dX8_count_113 (Option.some.inj hf) hP hD hS
              · have hf := ite_f c_25 hf
                by_cases c_32 : a1 = 7
                · have hf := ite_t c_32 hf
                  refine lv_tableIn (off := 109) (tgt := 114) hx hb dX8_count_5 (by rw [c_32]; decide) (by rw [c_32]; decide) (by rw [c_32]; rfl) (by decide) ?_
                  refine lv_iconst (v := 0) hx hb dX8_count_114 (by decide) ?_
                  refine lv_istore_n (lv' := [(2, .int 0), (0, .ref m0), (1, .int a1)]) hx hb dX8_count_115 rfl hl (by decide) rfl (fun ls hl => ?_)
                  refine lv_iconst (v := 0) hx hb dX8_count_116 (by decide) ?_
                  refine lv_istore_n (lv' := [(3, .int 0), (2, .int 0), (0, .ref m0), (1, .int a1)]) hx hb dX8_count_117 rfl hl (by decide) rfl (fun ls hl => ?_)
                  obtain ⟨w_118, i_118, hf⟩ := bd_s hf
                  have KX_118 : ∀ (v2_31 : Int32), v2_31 = w_118 → ∀ (H : Heap) (locs : List Loc) (ls : Array Slot), va_P E.1 vwCl (w_Mo E m0 m1 m2 m3 m4 m5 m6 m7 m8 m9 m10 m11 m_length m_places m_most m_tenths m_changes m_readPlaces m_value m_ends m_clusters_2 m_text m_now m_read m_was m_readRule m_dist_3 m_delays_4 m_fractions_5 m_head_6 m_hour_7 m_number_8) H → va_D A (w_Mo E m0 m1 m2 m3 m4 m5 m6 m7 m8 m9 m10 m11 m_length m_places m_most m_tenths m_changes m_readPlaces m_value m_ends m_clusters_2 m_text m_now m_read m_was m_readRule m_dist_3 m_delays_4 m_fractions_5 m_head_6 m_hour_7 m_number_8) → va_S A s.heap H locs → lv_has ls 4 [(2, .int v2_31)] → W p l e rm_Mo_count s m args below meth c H locs 0 0 Q (F0 m 153 ls []) := by
                    intro v2_31 e_
                    subst e_
                    try dsimp only at hf
                    intro H locs ls hP hD hS hl
                    refine lv_iload_n hx hb dX8_count_153 rfl (lv_at hl 0 rfl) ?_
                    exact hret H locs ls 154 v2_31 (m_clusters_2, m_dist_3, m_delays_4, m_fractions_5, m_head_6, m_hour_7, m_number_8) dX8_count_154 (Option.some.inj hf) hP hD hS
                  have KL_118 : ∀ (n_ : Nat) (v2_26 : Int32) (v3_27 : Int32), it (Mo_count_L118 m_places m_now) n_ (v2_26, v3_27) = some w_118 → ∀ (H : Heap) (locs : List Loc) (ls : Array Slot), va_P E.1 vwCl (w_Mo E m0 m1 m2 m3 m4 m5 m6 m7 m8 m9 m10 m11 m_length m_places m_most m_tenths m_changes m_readPlaces m_value m_ends m_clusters_2 m_text m_now m_read m_was m_readRule m_dist_3 m_delays_4 m_fractions_5 m_head_6 m_hour_7 m_number_8) H → va_D A (w_Mo E m0 m1 m2 m3 m4 m5 m6 m7 m8 m9 m10 m11 m_length m_places m_most m_tenths m_changes m_readPlaces m_value m_ends m_clusters_2 m_text m_now m_read m_was m_readRule m_dist_3 m_delays_4 m_fractions_5 m_head_6 m_hour_7 m_number_8) → va_S A s.heap H locs → lv_has ls 4 [(0, .ref m0), (2, .int v2_26), (3, .int v3_27)] → W p l e rm_Mo_count s m args below meth c H locs 0 0 Q (F0 m 118 ls []) := by
                    intro n_
                    induction n_ with
                    | zero => intro v2_26 v3_27 hit; exact (it_z hit).elim
                    | succ n_118 ih_118 =>
                      intro v2_26 v3_27 hit
                      intro H locs ls hP hD hS hl
                      obtain ⟨x_118, hf, hc_118, hq_118⟩ := it_s hit
                      dsimp only [Mo_count_L118] at hf
                      refine lv_iload_n hx hb dX8_count_118 rfl (lv_at hl 2 rfl) ?_
                      refine lv_aload_n hx hb dX8_count_119 rfl (lv_at hl 0 rfl) ?_
                      refine va_get (D := E.1) (ci := 8) (v := .int m_places) (C := RX8) (T := TX8) (N := 20) hx hb hts in_X8_count_X8 hown hK hP 0 rfl rfl 2 (by decide) q_0 (fun _ h9 => h9) rfl dX8_count_120 ?_
                      refine lv_icmp_ge (tgt := 153) hx hb dX8_count_123 (by decide) (fun c_30 => ?_) (fun c_30 => ?_)
                      · have hf := ite_t c_30 hf
                        exact KX_118 v2_26 (hq_118 _ (Option.some.inj hf).symm) H locs _ hP hD hS (lv_sub hl [1] rfl)
                      · have hf := ite_f c_30 hf
                        refine lv_iload_n hx hb dX8_count_126 rfl (lv_at hl 1 rfl) ?_
                        refine lv_aload_n hx hb dX8_count_127 rfl (lv_at hl 0 rfl) ?_
                        refine va_get (D := E.1) (ci := 8) (v := .ref m2) (C := RX8) (T := TX8) (N := 20) hx hb hts in_X8_count_X8 hown hK hP 0 rfl rfl 5 (by decide) q_1 (fun _ h9 => h9) rfl dX8_count_128 ?_
                        refine lv_sipush (v := 256) hx hb dX8_count_131 (by decide) ?_
                        refine lv_iload_n hx hb dX8_count_134 rfl (lv_at hl 2 rfl) ?_
                        refine lv_iadd hx hb dX8_count_135 ?_
                        obtain ⟨g_28, hf⟩ := gk_s hf
                        refine va_iald hx hb hK hP 2 0 rfl rfl g_28 dX8_count_136 ?_
                        refine lv_if_le (tgt := 144) hx hb dX8_count_137 (by decide) (fun c_29 => ?_) (fun c_29 => ?_)
                        · have hf := ite_t c_29 hf
                          refine lv_iconst (v := 0) hx hb dX8_count_144 (by decide) ?_
                          refine lv_iadd hx hb dX8_count_145 ?_
                          refine lv_istore_n (lv' := [(2, .int (v2_26 + 0)), (0, .ref m0), (3, .int v3_27)]) hx hb dX8_count_146 rfl hl (by decide) rfl (fun ls hl => ?_)
                          refine lv_iinc (v := (v3_27 + 1)) (lv' := [(3, .int (v3_27 + 1)), (2, .int (v2_26 + 0)), (0, .ref m0)]) hx hb dX8_count_147 hl (k := 2) rfl rfl (by decide) rfl (fun ls hl => ?_)
                          refine lv_goto (tgt := 118) hx hb dX8_count_150 (by decide) ?_
                          exact ih_118 (v2_26 + 0) (v3_27 + 1) (hc_118 _ (Option.some.inj hf).symm) H locs _ hP hD hS (lv_sub hl [2, 1, 0] rfl)
                        · have hf := ite_f c_29 hf
                          refine lv_iconst (v := 1) hx hb dX8_count_140 (by decide) ?_
                          refine lv_goto (tgt := 145) hx hb dX8_count_141 (by decide) ?_
                          refine lv_iadd hx hb dX8_count_145 ?_
                          refine lv_istore_n (lv' := [(2, .int (v2_26 + 1)), (0, .ref m0), (3, .int v3_27)]) hx hb dX8_count_146 rfl hl (by decide) rfl (fun ls hl => ?_)
                          refine lv_iinc (v := (v3_27 + 1)) (lv' := [(3, .int (v3_27 + 1)), (2, .int (v2_26 + 1)), (0, .ref m0)]) hx hb dX8_count_147 hl (k := 2) rfl rfl (by decide) rfl (fun ls hl => ?_)
                          refine lv_goto (tgt := 118) hx hb dX8_count_150 (by decide) ?_
                          exact ih_118 (v2_26 + 1) (v3_27 + 1) (hc_118 _ (Option.some.inj hf).symm) H locs _ hP hD hS (lv_sub hl [2, 1, 0] rfl)
                  exact KL_118 _ 0 0 i_118 H locs _ hP hD hS (lv_sub hl [2, 1, 0] rfl)
                · have hf := ite_f c_32 hf
                  by_cases c_33 : a1 = 8
                  · have hf := ite_t c_33 hf
                    refine lv_tableIn (off := 150) (tgt := 155) hx hb dX8_count_5 (by rw [c_33]; decide) (by rw [c_33]; decide) (by rw [c_33]; rfl) (by decide) ?_
                    refine lv_aload_n hx hb dX8_count_155 rfl (lv_at hl 0 rfl) ?_
                    refine va_get (D := E.1) (ci := 8) (v := .ref m2) (C := RX8) (T := TX8) (N := 20) hx hb hts in_X8_count_X8 hown hK hP 0 rfl rfl 5 (by decide) q_1 (fun _ h9 => h9) rfl dX8_count_156 ?_
                    refine lv_sipush (v := 288) hx hb dX8_count_159 (by decide) ?_
                    refine va_iald hx hb hK hP 2 0 rfl rfl (ck_in (by decide)) dX8_count_162 ?_
                    exact hret H locs ls 163 (m_now (288 : Int32).toNatClampNeg) (m_clusters_2, m_dist_3, m_delays_4, m_fractions_5, m_head_6, m_hour_7, m_number_8) dX8_count_163 (Option.some.inj hf) hP hD hS
                  · have hf := ite_f c_33 hf
                    by_cases c_34 : a1 = 9
                    · have hf := ite_t c_34 hf
                      refine lv_tableIn (off := 159) (tgt := 164) hx hb dX8_count_5 (by rw [c_34]; decide) (by rw [c_34]; decide) (by rw [c_34]; rfl) (by decide) ?_
                      refine lv_aload_n hx hb dX8_count_164 rfl (lv_at hl 0 rfl) ?_
                      refine va_get (D := E.1) (ci := 8) (v := .int m_most) (C := RX8) (T := TX8) (N := 20) hx hb hts in_X8_count_X8 hown hK hP 0 rfl rfl 3 (by decide) q_3 (fun _ h9 => h9) rfl dX8_count_165 ?_
                      exact hret H locs ls 168 m_most (m_clusters_2, m_dist_3, m_delays_4, m_fractions_5, m_head_6, m_hour_7, m_number_8) dX8_count_168 (Option.some.inj hf) hP hD hS
                    · have hf := ite_f c_34 hf
                      by_cases c_35 : a1 = 10
                      · have hf := ite_t c_35 hf
                        refine lv_tableIn (off := 164) (tgt := 169) hx hb dX8_count_5 (by rw [c_35]; decide) (by rw [c_35]; decide) (by rw [c_35]; rfl) (by decide) ?_
                        refine lv_aload_n hx hb dX8_count_169 rfl (lv_at hl 0 rfl) ?_
                        refine va_get (D := E.1) (ci := 8) (v := .int m_tenths) (C := RX8) (T := TX8) (N := 20) hx hb hts in_X8_count_X8 hown hK hP 0 rfl rfl 4 (by decide) q_4 (fun _ h9 => h9) rfl dX8_count_170 ?_
                        exact hret H locs ls 173 m_tenths (m_clusters_2, m_dist_3, m_delays_4, m_fractions_5, m_head_6, m_hour_7, m_number_8) dX8_count_173 (Option.some.inj hf) hP hD hS
                      · have hf := ite_f c_35 hf
                        by_cases c_36 : a1 = 11
                        · have hf := ite_t c_36 hf
                          refine lv_tableIn (off := 169) (tgt := 174) hx hb dX8_count_5 (by rw [c_36]; decide) (by rw [c_36]; decide) (by rw [c_36]; rfl) (by decide) ?_
                          refine lv_aload_n hx hb dX8_count_174 rfl (lv_at hl 0 rfl) ?_
                          refine va_get (D := E.1) (ci := 8) (v := .int m_changes) (C := RX8) (T := TX8) (N := 20) hx hb hts in_X8_count_X8 hown hK hP 0 rfl rfl 8 (by decide) q_5 (fun _ h9 => h9) rfl dX8_count_175 ?_
                          exact hret H locs ls 178 m_changes (m_clusters_2, m_dist_3, m_delays_4, m_fractions_5, m_head_6, m_hour_7, m_number_8) dX8_count_178 (Option.some.inj hf) hP hD hS
                        · have hf := ite_f c_36 hf
                          by_cases c_37 : a1 = 12
                          · have hf := ite_t c_37 hf
                            refine lv_tableIn (off := 174) (tgt := 179) hx hb dX8_count_5 (by rw [c_37]; decide) (by rw [c_37]; decide) (by rw [c_37]; rfl) (by decide) ?_
                            refine lv_aload_n hx hb dX8_count_179 rfl (lv_at hl 0 rfl) ?_
                            refine va_get (D := E.1) (ci := 8) (v := .int m_length) (C := RX8) (T := TX8) (N := 20) hx hb hts in_X8_count_X8 hown hK hP 0 rfl rfl 0 (by decide) q_6 (fun _ h9 => h9) rfl dX8_count_180 ?_
                            exact hret H locs ls 183 m_length (m_clusters_2, m_dist_3, m_delays_4, m_fractions_5, m_head_6, m_hour_7, m_number_8) dX8_count_183 (Option.some.inj hf) hP hD hS
                          · have hf := ite_f c_37 hf
                            refine lv_tableOut (tgt := 184) hx hb dX8_count_5 (by have e_9 := lv_neT (a := 0) c_9 (by decide); have e_12 := lv_neT (a := 1) c_12 (by decide); have e_13 := lv_neT (a := 2) c_13 (by decide); have e_16 := lv_neT (a := 3) c_16 (by decide); have e_19 := lv_neT (a := 4) c_19 (by decide); have e_22 := lv_neT (a := 5) c_22 (by decide); have e_25 := lv_neT (a := 6) c_25 (by decide); have e_32 := lv_neT (a := 7) c_32 (by decide); have e_33 := lv_neT (a := 8) c_33 (by decide); have e_34 := lv_neT (a := 9) c_34 (by decide); have e_35 := lv_neT (a := 10) c_35 (by decide); have e_36 := lv_neT (a := 11) c_36 (by decide); have e_37 := lv_neT (a := 12) c_37 (by decide); omega) (by decide) ?_
                            refine lv_iconst (v := (-1)) hx hb dX8_count_184 (by decide) ?_
                            exact hret H locs ls 185 (-1) (m_clusters_2, m_dist_3, m_delays_4, m_fractions_5, m_head_6, m_hour_7, m_number_8) dX8_count_185 (Option.some.inj hf) hP hD hS
