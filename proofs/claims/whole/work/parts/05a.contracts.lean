abbrev rm_Le_isFull : Room := { frames := 0, cells := 0, slots := 0, locals := 0 }
theorem hd_Le_isFull : hdOK yX2_isFull 0 := by decide +kernel
theorem in_X2_isFull_X2 : ∀ w ∈ wsX20, w ∈ wsX2_isFull := by decide +kernel
set_option maxRecDepth 100000 in
set_option maxHeartbeats 4000000 in
theorem c_Le_isFull (l : Launch) (E : En4) (le0 le1 : Nat) (le_length : Int32) (le_signs : Nat → Int32)  (res : Int32) (hf : Le_isFull le_length = some res) : Met l yX2_isFull wsX2_isFull rm_Le_isFull (pcR [.ref le0] E (w_Le E le0 le1 le_length le_signs)) (vp_Si (fun r => r = res)) 0 0 (fun _ => False) := by
  refine mk_Rz (cc := cX2_isFull) (maxL := 1) (by decide) rfl (Nat.le_of_ble_eq_true rfl) ?_
  intro p e s m args below meth c Q S hKN hP hret ls hl
  obtain ⟨hx, hb, hml, hown, hts⟩ := S
  obtain ⟨hK, hN⟩ := hKN
  have hl : lv_has ls 1 [(0, .ref le0)] := hl
  have q_0 := hts (.fieldLink RX2 15 "DelayClusters$Letters" "length" "I") (by decide +kernel)
  have q_1 := hts (.fieldLink RX2 9 "DelayClusters$Letters" "signs" "[C") (by decide +kernel)
  unfold Le_isFull at hf
  refine lv_aload_n hx hb dX2_isFull_0 rfl (lv_at hl 0 rfl) ?_
  refine va_get (D := E.1) (ci := 2) (v := .int le_length) (C := RX2) (T := TX2) (N := 2) hx hb hts in_X2_isFull_X2 hown hK hP 0 rfl rfl 1 (by decide) q_0 (fun _ h9 => h9) rfl dX2_isFull_1 ?_
  refine lv_aload_n hx hb dX2_isFull_4 rfl (lv_at hl 0 rfl) ?_
  refine va_get (D := E.1) (ci := 2) (v := .ref le1) (C := RX2) (T := TX2) (N := 2) hx hb hts in_X2_isFull_X2 hown hK hP 0 rfl rfl 0 (by decide) q_1 (fun _ h9 => h9) rfl dX2_isFull_5 ?_
  refine va_alen hx hb hK hP 1 2 (v := 200) rfl rfl rfl dX2_isFull_8 ?_
  refine lv_icmp_lt (tgt := 16) hx hb dX2_isFull_9 (by decide) (fun c_1 => ?_) (fun c_1 => ?_)
  · have hf := ite_t c_1 hf
    refine lv_iconst (v := 0) hx hb dX2_isFull_16 (by decide) ?_
    exact hret ls 17 0 dX2_isFull_17 (by decide) (Option.some.inj hf)
  · have hf := ite_f c_1 hf
    refine lv_iconst (v := 1) hx hb dX2_isFull_12 (by decide) ?_
    refine lv_goto (tgt := 17) hx hb dX2_isFull_13 (by decide) ?_
    exact hret ls 17 1 dX2_isFull_17 (by decide) (Option.some.inj hf)
abbrev rm_Le_size : Room := { frames := 0, cells := 0, slots := 0, locals := 0 }
theorem hd_Le_size : hdOK yX2_size 0 := by decide +kernel
theorem in_X2_size_X2 : ∀ w ∈ wsX20, w ∈ wsX2_size := by decide +kernel
set_option maxRecDepth 100000 in
set_option maxHeartbeats 4000000 in
theorem c_Le_size (l : Launch) (E : En4) (le0 le1 : Nat) (le_length : Int32) (le_signs : Nat → Int32)  (res : Int32) (hf : Le_size le_length = some res) : Met l yX2_size wsX2_size rm_Le_size (pcR [.ref le0] E (w_Le E le0 le1 le_length le_signs)) (vp_Si (fun r => r = res)) 0 0 (fun _ => False) := by
  refine mk_Ri (cc := cX2_size) (maxL := 1) (by decide) rfl (Nat.le_of_ble_eq_true rfl) ?_
  intro p e s m args below meth c Q S hKN hP hret ls hl
  obtain ⟨hx, hb, hml, hown, hts⟩ := S
  obtain ⟨hK, hN⟩ := hKN
  have hl : lv_has ls 1 [(0, .ref le0)] := hl
  have q_0 := hts (.fieldLink RX2 15 "DelayClusters$Letters" "length" "I") (by decide +kernel)
  unfold Le_size at hf
  refine lv_aload_n hx hb dX2_size_0 rfl (lv_at hl 0 rfl) ?_
  refine va_get (D := E.1) (ci := 2) (v := .int le_length) (C := RX2) (T := TX2) (N := 2) hx hb hts in_X2_size_X2 hown hK hP 0 rfl rfl 1 (by decide) q_0 (fun _ h9 => h9) rfl dX2_size_1 ?_
  exact hret ls 4 le_length dX2_size_4 (Option.some.inj hf)
abbrev rm_Le_append : Room := { frames := 1, cells := 0, slots := 0, locals := 20 }
theorem hd_Le_append : hdOK yX2_append 1 := by decide +kernel
theorem in_X2_append_X2 : ∀ w ∈ wsX20, w ∈ wsX2_append := by decide +kernel
set_option maxRecDepth 100000 in
set_option maxHeartbeats 4000000 in
theorem c_Le_append (l : Launch) (E : En4) (le0 le1 : Nat) (sz : Nat) (le_length : Int32) (le_signs : Nat → Int32) (a1 : Int32)  (res : Int32 × (Nat → Int32)) (hf : Le_append le_length le_signs a1 = some res) : Met l yX2_append wsX2_append rm_Le_append (pcM [.ref le0, .int a1] E sz (w_Le E le0 le1 le_length le_signs)) (QMv E sz (w_Le E le0 le1 le_length le_signs) (fun (u : Int32 × (Nat → Int32)) => (w_Le E le0 le1 u.1 u.2)) res) 0 0 (va_A (w_Le E le0 le1 le_length le_signs) sz) := by
  refine mk_Mv (cc := cX2_append) (maxL := 2) (by decide) rfl (Nat.le_of_ble_eq_true rfl) ?_
  intro p e s m args below meth c Q A S hKN hA hret H locs ls hP hD hS hl
  obtain ⟨hx, hb, hml, hown, hts⟩ := S
  obtain ⟨hK, hN⟩ := hKN
  have hl : lv_has ls 2 [(0, .ref le0), (1, .int a1)] := hl
  have q_0 := hts (.fieldLink RX2 9 "DelayClusters$Letters" "signs" "[C") (by decide +kernel)
  have q_1 := hts (.fieldLink RX2 15 "DelayClusters$Letters" "length" "I") (by decide +kernel)
  unfold Le_append at hf
  refine lv_aload_n hx hb dX2_append_0 rfl (lv_at hl 0 rfl) ?_
  obtain ⟨r_2, h_1, hf⟩ := bd_s hf
  refine ca_V (As := []) (rest := []) ⟨hx, hb, hml, hown, hts⟩ ⟨hK, hN⟩ hP (c_Le_isFull l E le0 le1 le_length le_signs r_2 h_1) [0, 1] rfl 2 0 rfl rfl rfl gX2_append_X2_isFull rfl rfl rfl rfl hd_Le_isFull ⟨(Nat.le_of_ble_eq_true rfl), (Nat.le_of_ble_eq_true rfl)⟩ rfl hl.1 rfl (Nat.le_of_ble_eq_true rfl) dX2_append_1 ⟨(Nat.zero_le _), (Nat.zero_le _)⟩ ?_
  refine lv_if_ne (tgt := 28) hx hb dX2_append_4 (by decide) (fun c_4 => ?_) (fun c_4 => ?_)
  · have hf := ite_f c_4 hf
    exact hret H locs ls 28 (le_length, le_signs) dX2_append_28 (Option.some.inj hf) hP hD hS
  · have hf := ite_t c_4 hf
    refine lv_aload_n hx hb dX2_append_7 rfl (lv_at hl 0 rfl) ?_
    refine va_get (D := E.1) (ci := 2) (v := .ref le1) (C := RX2) (T := TX2) (N := 2) hx hb hts in_X2_append_X2 hown hK hP 0 rfl rfl 0 (by decide) q_0 (fun _ h9 => h9) rfl dX2_append_8 ?_
    refine lv_aload_n hx hb dX2_append_11 rfl (lv_at hl 0 rfl) ?_
    refine va_get (D := E.1) (ci := 2) (v := .int le_length) (C := RX2) (T := TX2) (N := 2) hx hb hts in_X2_append_X2 hown hK hP 0 rfl rfl 1 (by decide) q_1 (fun _ h9 => h9) rfl dX2_append_12 ?_
    refine lv_iload_n hx hb dX2_append_15 rfl (lv_at hl 1 rfl) ?_
    refine lv_i2c (v := ((a1 : Int32).toUInt32 % 65536).toInt32) hx hb dX2_append_16 rfl ?_
    obtain ⟨g_3, hf⟩ := gk_s hf
    refine va_cast hx hb hK hP hD hS 1 2 rfl rfl g_3 dX2_append_17 (fun H locs hP hD hS => ?_)
    have hP : va_P E.1 vwCl (w_Le E le0 le1 le_length (upd le_signs le_length.toNatClampNeg (vp_nar .char (((a1 : Int32).toUInt32 % 65536).toInt32)))) H := hP
    have hD : va_D A (w_Le E le0 le1 le_length (upd le_signs le_length.toNatClampNeg (vp_nar .char (((a1 : Int32).toUInt32 % 65536).toInt32)))) := hD
    refine lv_aload_n hx hb dX2_append_18 rfl (lv_at hl 0 rfl) ?_
    refine lv_dup hx hb dX2_append_19 rfl ?_
    refine va_get (D := E.1) (ci := 2) (v := .int le_length) (C := RX2) (T := TX2) (N := 2) hx hb hts in_X2_append_X2 hown hK hP 0 rfl rfl 1 (by decide) q_1 (fun _ h9 => h9) rfl dX2_append_20 ?_
    refine lv_iconst (v := 1) hx hb dX2_append_23 (by decide) ?_
    refine lv_iadd hx hb dX2_append_24 ?_
    refine va_put (D := E.1) (ci := 2) (v := .int (le_length + 1)) (ty := .int) (C := RX2) (T := TX2) (N := 2) hx hb hts in_X2_append_X2 tyX2 tyX2_ok nmX2 hown hK hP hD hS 0 rfl rfl 1 (by decide) q_1 (fun _ h9 => h9) rfl (by decide +kernel) rfl rfl (Nat.le_of_ble_eq_true rfl) dX2_append_25 (fun H locs hP hD hS => ?_)
    have hP : va_P E.1 vwCl (w_Le E le0 le1 (le_length + 1) (upd le_signs le_length.toNatClampNeg (vp_nar .char (((a1 : Int32).toUInt32 % 65536).toInt32)))) H := hP
    have hD : va_D A (w_Le E le0 le1 (le_length + 1) (upd le_signs le_length.toNatClampNeg (vp_nar .char (((a1 : Int32).toUInt32 % 65536).toInt32)))) := hD
    exact hret H locs ls 28 ((le_length + 1), (upd le_signs le_length.toNatClampNeg (vp_nar .char (((a1 : Int32).toUInt32 % 65536).toInt32)))) dX2_append_28 (Option.some.inj hf) hP hD hS
abbrev rm_Le_clear : Room := { frames := 0, cells := 0, slots := 0, locals := 0 }
theorem hd_Le_clear : hdOK yX2_clear 0 := by decide +kernel
theorem in_X2_clear_X2 : ∀ w ∈ wsX20, w ∈ wsX2_clear := by decide +kernel
set_option maxRecDepth 100000 in
set_option maxHeartbeats 4000000 in
theorem c_Le_clear (l : Launch) (E : En4) (le0 le1 : Nat) (sz : Nat) (le_length : Int32) (le_signs : Nat → Int32)  (res : Int32) (hf : Le_clear le_length = some res) : Met l yX2_clear wsX2_clear rm_Le_clear (pcM [.ref le0] E sz (w_Le E le0 le1 le_length le_signs)) (QMv E sz (w_Le E le0 le1 le_length le_signs) (fun (u : Int32) => (w_Le E le0 le1 u le_signs)) res) 0 0 (va_A (w_Le E le0 le1 le_length le_signs) sz) := by
  refine mk_Mv (cc := cX2_clear) (maxL := 1) (by decide) rfl (Nat.le_of_ble_eq_true rfl) ?_
  intro p e s m args below meth c Q A S hKN hA hret H locs ls hP hD hS hl
  obtain ⟨hx, hb, hml, hown, hts⟩ := S
  obtain ⟨hK, hN⟩ := hKN
  have hl : lv_has ls 1 [(0, .ref le0)] := hl
  have q_0 := hts (.fieldLink RX2 15 "DelayClusters$Letters" "length" "I") (by decide +kernel)
  unfold Le_clear at hf
  refine lv_aload_n hx hb dX2_clear_0 rfl (lv_at hl 0 rfl) ?_
  refine lv_iconst (v := 0) hx hb dX2_clear_1 (by decide) ?_
  refine va_put (D := E.1) (ci := 2) (v := .int 0) (ty := .int) (C := RX2) (T := TX2) (N := 2) hx hb hts in_X2_clear_X2 tyX2 tyX2_ok nmX2 hown hK hP hD hS 0 rfl rfl 1 (by decide) q_0 (fun _ h9 => h9) rfl (by decide +kernel) rfl rfl (Nat.le_of_ble_eq_true rfl) dX2_clear_2 (fun H locs hP hD hS => ?_)
  have hP : va_P E.1 vwCl (w_Le E le0 le1 0 le_signs) H := hP
  have hD : va_D A (w_Le E le0 le1 0 le_signs) := hD
  exact hret H locs ls 5 0 dX2_clear_5 (Option.some.inj hf) hP hD hS
abbrev rm_Dc_isWithin : Room := { frames := 0, cells := 0, slots := 0, locals := 0 }
theorem hd_Dc_isWithin : hdOK yX7_isWithin 3 := by decide +kernel
set_option maxRecDepth 100000 in
set_option maxHeartbeats 4000000 in
theorem c_Dc_isWithin (l : Launch) (E : En4) (a0 : Int32) (a1 : Int32) (a2 : Int32)  (res : Int32) (hf : Dc_isWithin a0 a1 a2 = some res) : Met l yX7_isWithin wsX7_isWithin rm_Dc_isWithin (pcR [.int a0, .int a1, .int a2] E (w_No E)) (vp_Si (fun r => r = res)) 0 0 (fun _ => False) := by
  refine mk_Rz (cc := cX7_isWithin) (maxL := 3) (by decide) rfl (Nat.le_of_ble_eq_true rfl) ?_
  intro p e s m args below meth c Q S hKN hP hret ls hl
  obtain ⟨hx, hb, hml, hown, hts⟩ := S
  obtain ⟨hK, hN⟩ := hKN
  have hl : lv_has ls 3 [(0, .int a0), (1, .int a1), (2, .int a2)] := hl
  unfold Dc_isWithin at hf
  refine lv_iload_n hx hb dX7_isWithin_0 rfl (lv_at hl 1 rfl) ?_
  refine lv_iload_n hx hb dX7_isWithin_1 rfl (lv_at hl 0 rfl) ?_
  refine lv_icmp_gt (tgt := 14) hx hb dX7_isWithin_2 (by decide) (fun c_2 => ?_) (fun c_2 => ?_)
  · have hf := ite_t c_2 hf
    refine lv_iconst (v := 0) hx hb dX7_isWithin_14 (by decide) ?_
    exact hret ls 15 0 dX7_isWithin_15 (by decide) (Option.some.inj hf)
  · have hf := ite_f c_2 hf
    refine lv_iload_n hx hb dX7_isWithin_5 rfl (lv_at hl 0 rfl) ?_
    refine lv_iload_n hx hb dX7_isWithin_6 rfl (lv_at hl 2 rfl) ?_
    refine lv_icmp_gt (tgt := 14) hx hb dX7_isWithin_7 (by decide) (fun c_1 => ?_) (fun c_1 => ?_)
    · have hf := ite_t c_1 hf
      refine lv_iconst (v := 0) hx hb dX7_isWithin_14 (by decide) ?_
      exact hret ls 15 0 dX7_isWithin_15 (by decide) (Option.some.inj hf)
    · have hf := ite_f c_1 hf
      refine lv_iconst (v := 1) hx hb dX7_isWithin_10 (by decide) ?_
      refine lv_goto (tgt := 15) hx hb dX7_isWithin_11 (by decide) ?_
      exact hret ls 15 1 dX7_isWithin_15 (by decide) (Option.some.inj hf)
abbrev rm_Le_at : Room := { frames := 1, cells := 0, slots := 0, locals := 22 }
theorem hd_Le_at : hdOK yX2_at 1 := by decide +kernel
theorem in_X2_at_X2 : ∀ w ∈ wsX20, w ∈ wsX2_at := by decide +kernel
set_option maxRecDepth 100000 in
set_option maxHeartbeats 4000000 in
theorem c_Le_at (l : Launch) (E : En4) (le0 le1 : Nat) (le_length : Int32) (le_signs : Nat → Int32) (a1 : Int32)  (res : Int32) (hf : Le_at le_length le_signs a1 = some res) : Met l yX2_at wsX2_at rm_Le_at (pcR [.ref le0, .int a1] E (w_Le E le0 le1 le_length le_signs)) (vp_Si (fun r => r = res)) 0 0 (fun _ => False) := by
  refine mk_Ri (cc := cX2_at) (maxL := 2) (by decide) rfl (Nat.le_of_ble_eq_true rfl) ?_
  intro p e s m args below meth c Q S hKN hP hret ls hl
  obtain ⟨hx, hb, hml, hown, hts⟩ := S
  obtain ⟨hK, hN⟩ := hKN
  have hl : lv_has ls 2 [(0, .ref le0), (1, .int a1)] := hl
  have q_0 := hts (.fieldLink RX2 15 "DelayClusters$Letters" "length" "I") (by decide +kernel)
  have q_1 := hts (.static yX7_isWithin) (by decide +kernel)
  have q_2 := hts (.initialized RX7) (by decide +kernel)
  have q_3 := hts (.fieldLink RX2 9 "DelayClusters$Letters" "signs" "[C") (by decide +kernel)
  unfold Le_at at hf
  refine lv_iload_n hx hb dX2_at_0 rfl (lv_at hl 1 rfl) ?_
  refine lv_iconst (v := 0) hx hb dX2_at_1 (by decide) ?_
  refine lv_aload_n hx hb dX2_at_2 rfl (lv_at hl 0 rfl) ?_
  refine va_get (D := E.1) (ci := 2) (v := .int le_length) (C := RX2) (T := TX2) (N := 2) hx hb hts in_X2_at_X2 hown hK hP 0 rfl rfl 1 (by decide) q_0 (fun _ h9 => h9) rfl dX2_at_3 ?_
  refine lv_iconst (v := 1) hx hb dX2_at_6 (by decide) ?_
  refine lv_isub hx hb dX2_at_7 ?_
  obtain ⟨r_2, h_1, hf⟩ := bd_s hf
  refine ca_N (host := RX7) (As := [.int a1, .int 0, .int (le_length - 1)]) (rest := []) ⟨hx, hb, hml, hown, hts⟩ ⟨hK, hN⟩ hP (c_Dc_isWithin l E   a1 0 (le_length - 1) r_2 h_1) [] rfl (by decide +kernel) gX2_at_X7_isWithin_n23 rfl rfl rfl q_1 q_2 hd_Dc_isWithin ⟨(Nat.le_of_ble_eq_true rfl), (Nat.le_of_ble_eq_true rfl)⟩ rfl hl.1 rfl (Nat.le_of_ble_eq_true rfl) dX2_at_8 ⟨(Nat.zero_le _), (Nat.zero_le _)⟩ ?_
  refine lv_if_eq (tgt := 23) hx hb dX2_at_11 (by decide) (fun c_4 => ?_) (fun c_4 => ?_)
  · have hf := ite_t c_4 hf
    refine lv_bipush (v := (-4)) hx hb dX2_at_23 (by decide) ?_
    exact hret ls 25 (-4) dX2_at_25 (Option.some.inj hf)
  · have hf := ite_f c_4 hf
    refine lv_aload_n hx hb dX2_at_14 rfl (lv_at hl 0 rfl) ?_
    refine va_get (D := E.1) (ci := 2) (v := .ref le1) (C := RX2) (T := TX2) (N := 2) hx hb hts in_X2_at_X2 hown hK hP 0 rfl rfl 0 (by decide) q_3 (fun _ h9 => h9) rfl dX2_at_15 ?_
    refine lv_iload_n hx hb dX2_at_18 rfl (lv_at hl 1 rfl) ?_
    obtain ⟨g_3, hf⟩ := gk_s hf
    refine va_cald hx hb hK hP 1 2 rfl rfl g_3 dX2_at_19 ?_
    refine lv_goto (tgt := 25) hx hb dX2_at_20 (by decide) ?_
    exact hret ls 25 (le_signs a1.toNatClampNeg) dX2_at_25 (Option.some.inj hf)
abbrev rm_Ja_fill : Room := { frames := 0, cells := 0, slots := 0, locals := 0 }
theorem hd_Ja_fill : hdOK yJ7_fill_53178 2 := by decide +kernel
set_option maxRecDepth 100000 in
set_option maxHeartbeats 4000000 in
theorem c_Ja_fill (l : Launch) (E : En4) (row0 : Nat) (sz : Nat) (row_f : Nat → Int32) (a1 : Int32)  (res : (Nat → Int32)) (hf : Ja_fill row_f a1 = some res) : Met l yJ7_fill_53178 wsJ7_fill_53178 rm_Ja_fill (pcM [.ref row0, .int a1] E sz (w_Fi E row0 row_f)) (QMv E sz (w_Fi E row0 row_f) (fun (u : (Nat → Int32)) => (w_Fi E row0 u)) res) 0 0 (va_A (w_Fi E row0 row_f) sz) := by
  refine mk_Mv (cc := cJ7_fill_53178) (maxL := 4) (by decide) rfl (Nat.le_of_ble_eq_true rfl) ?_
  intro p e s m args below meth c Q A S hKN hA hret H locs ls hP hD hS hl
  obtain ⟨hx, hb, hml, hown, hts⟩ := S
  obtain ⟨hK, hN⟩ := hKN
  have hl : lv_has ls 4 [(0, .ref row0), (1, .int a1)] := hl
  unfold Ja_fill at hf
  refine lv_iconst (v := 0) hx hb dJ7_fill_53178_0 (by decide) ?_
  refine lv_istore_n (lv' := [(2, .int 0), (0, .ref row0), (1, .int a1)]) hx hb dJ7_fill_53178_1 rfl hl (by decide) rfl (fun ls hl => ?_)
  refine lv_aload_n hx hb dJ7_fill_53178_2 rfl (lv_at hl 1 rfl) ?_
  refine va_alen hx hb hK hP 0 0 (v := 256) rfl rfl rfl dJ7_fill_53178_3 ?_
  refine lv_istore_n (lv' := [(3, .int 256), (2, .int 0), (0, .ref row0), (1, .int a1)]) hx hb dJ7_fill_53178_4 rfl hl (by decide) rfl (fun ls hl => ?_)
  obtain ⟨w_5, i_5, hf⟩ := bd_s hf
  have KX_5 : ∀ (row_f_5 : Nat → Int32), row_f_5 = w_5 → ∀ (H : Heap) (locs : List Loc) (ls : Array Slot), va_P E.1 vwCl (w_Fi E row0 row_f_5) H → va_D A (w_Fi E row0 row_f_5) → va_S A s.heap H locs → lv_has ls 4 [] → W p l e rm_Ja_fill s m args below meth c H locs 0 0 Q (F0 m 20 ls []) := by
    intro row_f_5 e_
    subst e_
    try dsimp only at hf
    intro H locs ls hP hD hS hl
    exact hret H locs ls 20 row_f_5 dJ7_fill_53178_20 (Option.some.inj hf) hP hD hS
  have KL_5 : ∀ (n_ : Nat) (v2_1 : Int32) (row_f_2 : Nat → Int32), it (Ja_fill_L5 a1) n_ (v2_1, row_f_2) = some w_5 → ∀ (H : Heap) (locs : List Loc) (ls : Array Slot), va_P E.1 vwCl (w_Fi E row0 row_f_2) H → va_D A (w_Fi E row0 row_f_2) → va_S A s.heap H locs → lv_has ls 4 [(0, .ref row0), (1, .int a1), (2, .int v2_1), (3, .int 256)] → W p l e rm_Ja_fill s m args below meth c H locs 0 0 Q (F0 m 5 ls []) := by
    intro n_
    induction n_ with
    | zero => intro v2_1 row_f_2 hit; exact (it_z hit).elim
    | succ n_5 ih_5 =>
      intro v2_1 row_f_2 hit
      intro H locs ls hP hD hS hl
      obtain ⟨x_5, hf, hc_5, hq_5⟩ := it_s hit
      dsimp only [Ja_fill_L5] at hf
      refine lv_iload_n hx hb dJ7_fill_53178_5 rfl (lv_at hl 2 rfl) ?_
      refine lv_iload_n hx hb dJ7_fill_53178_6 rfl (lv_at hl 3 rfl) ?_
      refine lv_icmp_ge (tgt := 20) hx hb dJ7_fill_53178_7 (by decide) (fun c_4 => ?_) (fun c_4 => ?_)
      · have hf := ite_t c_4 hf
        exact KX_5 row_f_2 (hq_5 _ (Option.some.inj hf).symm) H locs _ hP hD hS (lv_sub hl [] rfl)
      · have hf := ite_f c_4 hf
        refine lv_aload_n hx hb dJ7_fill_53178_10 rfl (lv_at hl 0 rfl) ?_
        refine lv_iload_n hx hb dJ7_fill_53178_11 rfl (lv_at hl 2 rfl) ?_
        refine lv_iload_n hx hb dJ7_fill_53178_12 rfl (lv_at hl 1 rfl) ?_
        obtain ⟨g_3, hf⟩ := gk_s hf
        refine va_iast hx hb hK hP hD hS 0 0 rfl rfl g_3 dJ7_fill_53178_13 (fun H locs hP hD hS => ?_)
        have hP : va_P E.1 vwCl (w_Fi E row0 (upd row_f_2 v2_1.toNatClampNeg a1)) H := hP
        have hD : va_D A (w_Fi E row0 (upd row_f_2 v2_1.toNatClampNeg a1)) := hD
        refine lv_iinc (v := (v2_1 + 1)) (lv' := [(2, .int (v2_1 + 1)), (0, .ref row0), (1, .int a1), (3, .int 256)]) hx hb dJ7_fill_53178_14 hl (k := 2) rfl rfl (by decide) rfl (fun ls hl => ?_)
        refine lv_goto (tgt := 5) hx hb dJ7_fill_53178_17 (by decide) ?_
        exact ih_5 (v2_1 + 1) (upd row_f_2 v2_1.toNatClampNeg a1) (hc_5 _ (Option.some.inj hf).symm) H locs _ hP hD hS (lv_sub hl [1, 2, 0, 3] rfl)
  exact KL_5 _ 0 row_f i_5 H locs _ hP hD hS (lv_sub hl [2, 3, 1, 0] rfl)
abbrev rm_Pl_untell : Room := { frames := 0, cells := 0, slots := 0, locals := 0 }
theorem hd_Pl_untell : hdOK yX5_untell 1 := by decide +kernel
theorem in_X5_untell_X5 : ∀ w ∈ wsX50, w ∈ wsX5_untell := by decide +kernel
set_option maxRecDepth 100000 in
set_option maxHeartbeats 4000000 in
theorem c_Pl_untell (l : Launch) (E : En4) (pl0 pl1 pl2 pl3 pl4 : Nat) (sz : Nat) (pl_places : Int32) (pl_links : Int32) (pl_mostDrawn : Int32) (pl_ofTen : Int32) (pl_z : Int32) (pl_lengths : Nat → Int32) (pl_told : Nat → Int32) (pl_delays : Nat → Int32) (pl_fractions : Nat → Int32) (a1 : Int32)  (res : (Nat → Int32) × (Nat → Int32) × (Nat → Int32)) (hf : Pl_untell pl_told pl_delays pl_fractions a1 = some res) : Met l yX5_untell wsX5_untell rm_Pl_untell (pcM [.ref pl0, .int a1] E sz (w_Pl E pl0 pl1 pl2 pl3 pl4 pl_places pl_links pl_mostDrawn pl_ofTen pl_z pl_lengths pl_told pl_delays pl_fractions)) (QMv E sz (w_Pl E pl0 pl1 pl2 pl3 pl4 pl_places pl_links pl_mostDrawn pl_ofTen pl_z pl_lengths pl_told pl_delays pl_fractions) (fun (u : (Nat → Int32) × (Nat → Int32) × (Nat → Int32)) => (w_Pl E pl0 pl1 pl2 pl3 pl4 pl_places pl_links pl_mostDrawn pl_ofTen pl_z pl_lengths u.1 u.2.1 u.2.2)) res) 0 0 (va_A (w_Pl E pl0 pl1 pl2 pl3 pl4 pl_places pl_links pl_mostDrawn pl_ofTen pl_z pl_lengths pl_told pl_delays pl_fractions) sz) := by
  refine mk_Mv (cc := cX5_untell) (maxL := 2) (by decide) rfl (Nat.le_of_ble_eq_true rfl) ?_
  intro p e s m args below meth c Q A S hKN hA hret H locs ls hP hD hS hl
  obtain ⟨hx, hb, hml, hown, hts⟩ := S
  obtain ⟨hK, hN⟩ := hKN
  have hl : lv_has ls 2 [(0, .ref pl0), (1, .int a1)] := hl
  have q_0 := hts (.fieldLink RX5 15 "DelayClusters$Plan" "told" "[Z") (by decide +kernel)
  have q_1 := hts (.fieldLink RX5 19 "DelayClusters$Plan" "delays" "[I") (by decide +kernel)
  have q_2 := hts (.fieldLink RX5 22 "DelayClusters$Plan" "fractions" "[I") (by decide +kernel)
  unfold Pl_untell at hf
  refine lv_aload_n hx hb dX5_untell_0 rfl (lv_at hl 0 rfl) ?_
  refine va_get (D := E.1) (ci := 5) (v := .ref pl2) (C := RX5) (T := TX5) (N := 9) hx hb hts in_X5_untell_X5 hown hK hP 0 rfl rfl 1 (by decide) q_0 (fun _ h9 => h9) rfl dX5_untell_1 ?_
  refine lv_iload_n hx hb dX5_untell_4 rfl (lv_at hl 1 rfl) ?_
  refine lv_iconst (v := 0) hx hb dX5_untell_5 (by decide) ?_
  obtain ⟨g_1, hf⟩ := gk_s hf
  refine va_zast hx hb hK hP hD hS 2 1 rfl rfl g_1 dX5_untell_6 (fun H locs hP hD hS => ?_)
  have hP : va_P E.1 vwCl (w_Pl E pl0 pl1 pl2 pl3 pl4 pl_places pl_links pl_mostDrawn pl_ofTen pl_z pl_lengths (upd pl_told a1.toNatClampNeg (vp_nar .boolean 0)) pl_delays pl_fractions) H := hP
  have hD : va_D A (w_Pl E pl0 pl1 pl2 pl3 pl4 pl_places pl_links pl_mostDrawn pl_ofTen pl_z pl_lengths (upd pl_told a1.toNatClampNeg (vp_nar .boolean 0)) pl_delays pl_fractions) := hD
  refine lv_aload_n hx hb dX5_untell_7 rfl (lv_at hl 0 rfl) ?_
  refine va_get (D := E.1) (ci := 5) (v := .ref pl3) (C := RX5) (T := TX5) (N := 9) hx hb hts in_X5_untell_X5 hown hK hP 0 rfl rfl 2 (by decide) q_1 (fun _ h9 => h9) rfl dX5_untell_8 ?_
  refine lv_iload_n hx hb dX5_untell_11 rfl (lv_at hl 1 rfl) ?_
  refine lv_iconst (v := 0) hx hb dX5_untell_12 (by decide) ?_
  obtain ⟨g_2, hf⟩ := gk_s hf
  refine va_iast hx hb hK hP hD hS 3 0 rfl rfl g_2 dX5_untell_13 (fun H locs hP hD hS => ?_)
  have hP : va_P E.1 vwCl (w_Pl E pl0 pl1 pl2 pl3 pl4 pl_places pl_links pl_mostDrawn pl_ofTen pl_z pl_lengths (upd pl_told a1.toNatClampNeg (vp_nar .boolean 0)) (upd pl_delays a1.toNatClampNeg 0) pl_fractions) H := hP
  have hD : va_D A (w_Pl E pl0 pl1 pl2 pl3 pl4 pl_places pl_links pl_mostDrawn pl_ofTen pl_z pl_lengths (upd pl_told a1.toNatClampNeg (vp_nar .boolean 0)) (upd pl_delays a1.toNatClampNeg 0) pl_fractions) := hD
  refine lv_aload_n hx hb dX5_untell_14 rfl (lv_at hl 0 rfl) ?_
  refine va_get (D := E.1) (ci := 5) (v := .ref pl4) (C := RX5) (T := TX5) (N := 9) hx hb hts in_X5_untell_X5 hown hK hP 0 rfl rfl 3 (by decide) q_2 (fun _ h9 => h9) rfl dX5_untell_15 ?_
  refine lv_iload_n hx hb dX5_untell_18 rfl (lv_at hl 1 rfl) ?_
  refine lv_iconst (v := 0) hx hb dX5_untell_19 (by decide) ?_
  obtain ⟨g_3, hf⟩ := gk_s hf
  refine va_iast hx hb hK hP hD hS 4 0 rfl rfl g_3 dX5_untell_20 (fun H locs hP hD hS => ?_)
  have hP : va_P E.1 vwCl (w_Pl E pl0 pl1 pl2 pl3 pl4 pl_places pl_links pl_mostDrawn pl_ofTen pl_z pl_lengths (upd pl_told a1.toNatClampNeg (vp_nar .boolean 0)) (upd pl_delays a1.toNatClampNeg 0) (upd pl_fractions a1.toNatClampNeg 0)) H := hP
  have hD : va_D A (w_Pl E pl0 pl1 pl2 pl3 pl4 pl_places pl_links pl_mostDrawn pl_ofTen pl_z pl_lengths (upd pl_told a1.toNatClampNeg (vp_nar .boolean 0)) (upd pl_delays a1.toNatClampNeg 0) (upd pl_fractions a1.toNatClampNeg 0)) := hD
  exact hret H locs ls 21 ((upd pl_told a1.toNatClampNeg (vp_nar .boolean 0)), (upd pl_delays a1.toNatClampNeg 0), (upd pl_fractions a1.toNatClampNeg 0)) dX5_untell_21 (Option.some.inj hf) hP hD hS
abbrev rm_Pl_clear : Room := { frames := 1, cells := 0, slots := 0, locals := 23 }
theorem hd_Pl_clear : hdOK yX5_clear 0 := by decide +kernel
theorem in_X5_clear_X5 : ∀ w ∈ wsX50, w ∈ wsX5_clear := by decide +kernel
set_option maxRecDepth 100000 in
set_option maxHeartbeats 4000000 in
theorem c_Pl_clear (l : Launch) (E : En4) (pl0 pl1 pl2 pl3 pl4 : Nat) (sz : Nat) (pl_places : Int32) (pl_links : Int32) (pl_mostDrawn : Int32) (pl_ofTen : Int32) (pl_z : Int32) (pl_lengths : Nat → Int32) (pl_told : Nat → Int32) (pl_delays : Nat → Int32) (pl_fractions : Nat → Int32)  (res : Int32 × Int32 × Int32 × Int32 × Int32 × (Nat → Int32) × (Nat → Int32) × (Nat → Int32) × (Nat → Int32)) (hf : Pl_clear pl_places pl_links pl_mostDrawn pl_ofTen pl_z pl_lengths pl_told pl_delays pl_fractions = some res) : Met l yX5_clear wsX5_clear rm_Pl_clear (pcM [.ref pl0] E sz (w_Pl E pl0 pl1 pl2 pl3 pl4 pl_places pl_links pl_mostDrawn pl_ofTen pl_z pl_lengths pl_told pl_delays pl_fractions)) (QMv E sz (w_Pl E pl0 pl1 pl2 pl3 pl4 pl_places pl_links pl_mostDrawn pl_ofTen pl_z pl_lengths pl_told pl_delays pl_fractions) (fun (u : Int32 × Int32 × Int32 × Int32 × Int32 × (Nat → Int32) × (Nat → Int32) × (Nat → Int32) × (Nat → Int32)) => (w_Pl E pl0 pl1 pl2 pl3 pl4 u.1 u.2.1 u.2.2.1 u.2.2.2.1 u.2.2.2.2.1 u.2.2.2.2.2.1 u.2.2.2.2.2.2.1 u.2.2.2.2.2.2.2.1 u.2.2.2.2.2.2.2.2)) res) 0 0 (va_A (w_Pl E pl0 pl1 pl2 pl3 pl4 pl_places pl_links pl_mostDrawn pl_ofTen pl_z pl_lengths pl_told pl_delays pl_fractions) sz) := by
  refine mk_Mv (cc := cX5_clear) (maxL := 2) (by decide) rfl (Nat.le_of_ble_eq_true rfl) ?_
  intro p e s m args below meth c Q A S hKN hA hret H locs ls hP hD hS hl
  obtain ⟨hx, hb, hml, hown, hts⟩ := S
  obtain ⟨hK, hN⟩ := hKN
  have hl : lv_has ls 2 [(0, .ref pl0)] := hl
  have q_0 := hts (.fieldLink RX5 9 "DelayClusters$Plan" "lengths" "[I") (by decide +kernel)
  have q_1 := hts (.fieldLink RX5 35 "DelayClusters$Plan" "places" "I") (by decide +kernel)
  have q_2 := hts (.fieldLink RX5 39 "DelayClusters$Plan" "links" "I") (by decide +kernel)
  have q_3 := hts (.fieldLink RX5 42 "DelayClusters$Plan" "mostDrawn" "I") (by decide +kernel)
  have q_4 := hts (.fieldLink RX5 45 "DelayClusters$Plan" "ofTen" "I") (by decide +kernel)
  have q_5 := hts (.fieldLink RX5 48 "DelayClusters$Plan" "z" "I") (by decide +kernel)
  unfold Pl_clear at hf
  refine lv_aload_n hx hb dX5_clear_0 rfl (lv_at hl 0 rfl) ?_
  refine va_get (D := E.1) (ci := 5) (v := .ref pl1) (C := RX5) (T := TX5) (N := 9) hx hb hts in_X5_clear_X5 hown hK hP 0 rfl rfl 0 (by decide) q_0 (fun _ h9 => h9) rfl dX5_clear_1 ?_
  refine lv_iconst (v := 0) hx hb dX5_clear_4 (by decide) ?_
  obtain ⟨pl_lengths_2, h_1, hf⟩ := bd_s hf
  try dsimp only at hf
  refine ca_Sv (w2 := (w_Pl E pl0 pl1 pl2 pl3 pl4 pl_places pl_links pl_mostDrawn pl_ofTen pl_z pl_lengths_2 pl_told pl_delays pl_fractions)) (As := [.ref pl1, .int 0]) (rest := []) ⟨hx, hb, hml, hown, hts⟩ ⟨hK, hN⟩ hP hD hS hA (c_Ja_fill l E pl1 H.size pl_lengths 0 pl_lengths_2 h_1) [1] [0, 2, 3, 4] [0, 4, 1, 2, 3] rfl rfl rfl rfl (by decide) rfl rfl gX5_clear_J7_fill_53178 rfl rfl rfl hd_Ja_fill ⟨(Nat.le_of_ble_eq_true rfl), (Nat.le_of_ble_eq_true rfl)⟩ rfl hl.1 rfl (Nat.le_of_ble_eq_true rfl) dX5_clear_5 ⟨(Nat.zero_le _), (Nat.zero_le _)⟩ (fun H locs hP hD hS => ?_)
  refine lv_iconst (v := 0) hx hb dX5_clear_8 (by decide) ?_
  refine lv_istore_n (lv' := [(1, .int 0), (0, .ref pl0)]) hx hb dX5_clear_9 rfl hl (by decide) rfl (fun ls hl => ?_)
  obtain ⟨w_10, i_10, hf⟩ := bd_s hf
  have KX_10 : ∀ (pl_told_12 : Nat → Int32) (pl_delays_13 : Nat → Int32) (pl_fractions_14 : Nat → Int32), (pl_told_12, pl_delays_13, pl_fractions_14) = w_10 → ∀ (H : Heap) (locs : List Loc) (ls : Array Slot), va_P E.1 vwCl (w_Pl E pl0 pl1 pl2 pl3 pl4 pl_places pl_links pl_mostDrawn pl_ofTen pl_z pl_lengths_2 pl_told_12 pl_delays_13 pl_fractions_14) H → va_D A (w_Pl E pl0 pl1 pl2 pl3 pl4 pl_places pl_links pl_mostDrawn pl_ofTen pl_z pl_lengths_2 pl_told_12 pl_delays_13 pl_fractions_14) → va_S A s.heap H locs → lv_has ls 2 [(0, .ref pl0)] → W p l e rm_Pl_clear s m args below meth c H locs 0 0 Q (F0 m 27 ls []) := by
    intro pl_told_12 pl_delays_13 pl_fractions_14 e_
    subst e_
    try dsimp only at hf
    intro H locs ls hP hD hS hl
    refine lv_aload_n hx hb dX5_clear_27 rfl (lv_at hl 0 rfl) ?_
    refine lv_iconst (v := 0) hx hb dX5_clear_28 (by decide) ?_
    refine va_put (D := E.1) (ci := 5) (v := .int 0) (ty := .int) (C := RX5) (T := TX5) (N := 9) hx hb hts in_X5_clear_X5 tyX5 tyX5_ok nmX5 hown hK hP hD hS 0 rfl rfl 4 (by decide) q_1 (fun _ h9 => h9) rfl (by decide +kernel) rfl rfl (Nat.le_of_ble_eq_true rfl) dX5_clear_29 (fun H locs hP hD hS => ?_)
    have hP : va_P E.1 vwCl (w_Pl E pl0 pl1 pl2 pl3 pl4 0 pl_links pl_mostDrawn pl_ofTen pl_z pl_lengths_2 pl_told_12 pl_delays_13 pl_fractions_14) H := hP
    have hD : va_D A (w_Pl E pl0 pl1 pl2 pl3 pl4 0 pl_links pl_mostDrawn pl_ofTen pl_z pl_lengths_2 pl_told_12 pl_delays_13 pl_fractions_14) := hD
    refine lv_aload_n hx hb dX5_clear_32 rfl (lv_at hl 0 rfl) ?_
    refine lv_iconst (v := 0) hx hb dX5_clear_33 (by decide) ?_
    refine va_put (D := E.1) (ci := 5) (v := .int 0) (ty := .int) (C := RX5) (T := TX5) (N := 9) hx hb hts in_X5_clear_X5 tyX5 tyX5_ok nmX5 hown hK hP hD hS 0 rfl rfl 5 (by decide) q_2 (fun _ h9 => h9) rfl (by decide +kernel) rfl rfl (Nat.le_of_ble_eq_true rfl) dX5_clear_34 (fun H locs hP hD hS => ?_)
    have hP : va_P E.1 vwCl (w_Pl E pl0 pl1 pl2 pl3 pl4 0 0 pl_mostDrawn pl_ofTen pl_z pl_lengths_2 pl_told_12 pl_delays_13 pl_fractions_14) H := hP
    have hD : va_D A (w_Pl E pl0 pl1 pl2 pl3 pl4 0 0 pl_mostDrawn pl_ofTen pl_z pl_lengths_2 pl_told_12 pl_delays_13 pl_fractions_14) := hD
    refine lv_aload_n hx hb dX5_clear_37 rfl (lv_at hl 0 rfl) ?_
    refine lv_bipush (v := 8) hx hb dX5_clear_38 (by decide) ?_
    refine va_put (D := E.1) (ci := 5) (v := .int 8) (ty := .int) (C := RX5) (T := TX5) (N := 9) hx hb hts in_X5_clear_X5 tyX5 tyX5_ok nmX5 hown hK hP hD hS 0 rfl rfl 6 (by decide) q_3 (fun _ h9 => h9) rfl (by decide +kernel) rfl rfl (Nat.le_of_ble_eq_true rfl) dX5_clear_40 (fun H locs hP hD hS => ?_)
    have hP : va_P E.1 vwCl (w_Pl E pl0 pl1 pl2 pl3 pl4 0 0 8 pl_ofTen pl_z pl_lengths_2 pl_told_12 pl_delays_13 pl_fractions_14) H := hP
    have hD : va_D A (w_Pl E pl0 pl1 pl2 pl3 pl4 0 0 8 pl_ofTen pl_z pl_lengths_2 pl_told_12 pl_delays_13 pl_fractions_14) := hD
    refine lv_aload_n hx hb dX5_clear_43 rfl (lv_at hl 0 rfl) ?_
    refine lv_bipush (v := 6) hx hb dX5_clear_44 (by decide) ?_
    refine va_put (D := E.1) (ci := 5) (v := .int 6) (ty := .int) (C := RX5) (T := TX5) (N := 9) hx hb hts in_X5_clear_X5 tyX5 tyX5_ok nmX5 hown hK hP hD hS 0 rfl rfl 7 (by decide) q_4 (fun _ h9 => h9) rfl (by decide +kernel) rfl rfl (Nat.le_of_ble_eq_true rfl) dX5_clear_46 (fun H locs hP hD hS => ?_)
    have hP : va_P E.1 vwCl (w_Pl E pl0 pl1 pl2 pl3 pl4 0 0 8 6 pl_z pl_lengths_2 pl_told_12 pl_delays_13 pl_fractions_14) H := hP
    have hD : va_D A (w_Pl E pl0 pl1 pl2 pl3 pl4 0 0 8 6 pl_z pl_lengths_2 pl_told_12 pl_delays_13 pl_fractions_14) := hD
    refine lv_aload_n hx hb dX5_clear_49 rfl (lv_at hl 0 rfl) ?_
    refine lv_iconst (v := 0) hx hb dX5_clear_50 (by decide) ?_
    refine va_put (D := E.1) (ci := 5) (v := .int 0) (ty := .int) (C := RX5) (T := TX5) (N := 9) hx hb hts in_X5_clear_X5 tyX5 tyX5_ok nmX5 hown hK hP hD hS 0 rfl rfl 8 (by decide) q_5 (fun _ h9 => h9) rfl (by decide +kernel) rfl rfl (Nat.le_of_ble_eq_true rfl) dX5_clear_51 (fun H locs hP hD hS => ?_)
    have hP : va_P E.1 vwCl (w_Pl E pl0 pl1 pl2 pl3 pl4 0 0 8 6 0 pl_lengths_2 pl_told_12 pl_delays_13 pl_fractions_14) H := hP
    have hD : va_D A (w_Pl E pl0 pl1 pl2 pl3 pl4 0 0 8 6 0 pl_lengths_2 pl_told_12 pl_delays_13 pl_fractions_14) := hD
    exact hret H locs ls 54 (0, 0, 8, 6, 0, pl_lengths_2, pl_told_12, pl_delays_13, pl_fractions_14) dX5_clear_54 (Option.some.inj hf) hP hD hS
  have KL_10 : ∀ (n_ : Nat) (v1_3 : Int32) (pl_told_4 : Nat → Int32) (pl_delays_5 : Nat → Int32) (pl_fractions_6 : Nat → Int32), it Pl_clear_L10 n_ (v1_3, pl_told_4, pl_delays_5, pl_fractions_6) = some w_10 → ∀ (H : Heap) (locs : List Loc) (ls : Array Slot), va_P E.1 vwCl (w_Pl E pl0 pl1 pl2 pl3 pl4 pl_places pl_links pl_mostDrawn pl_ofTen pl_z pl_lengths_2 pl_told_4 pl_delays_5 pl_fractions_6) H → va_D A (w_Pl E pl0 pl1 pl2 pl3 pl4 pl_places pl_links pl_mostDrawn pl_ofTen pl_z pl_lengths_2 pl_told_4 pl_delays_5 pl_fractions_6) → va_S A s.heap H locs → lv_has ls 2 [(0, .ref pl0), (1, .int v1_3)] → W p l e rm_Pl_clear s m args below meth c H locs 0 0 Q (F0 m 10 ls []) := by
    intro n_
    induction n_ with
    | zero => intro v1_3 pl_told_4 pl_delays_5 pl_fractions_6 hit; exact (it_z hit).elim
    | succ n_10 ih_10 =>
      intro v1_3 pl_told_4 pl_delays_5 pl_fractions_6 hit
      intro H locs ls hP hD hS hl
      obtain ⟨x_10, hf, hc_10, hq_10⟩ := it_s hit
      dsimp only [Pl_clear_L10] at hf
      refine lv_iload_n hx hb dX5_clear_10 rfl (lv_at hl 1 rfl) ?_
      refine lv_bipush (v := 16) hx hb dX5_clear_11 (by decide) ?_
      refine lv_icmp_ge (tgt := 27) hx hb dX5_clear_13 (by decide) (fun c_11 => ?_) (fun c_11 => ?_)
      · have hf := ite_t c_11 hf
        exact KX_10 pl_told_4 pl_delays_5 pl_fractions_6 (hq_10 _ (Option.some.inj hf).symm) H locs _ hP hD hS (lv_sub hl [0] rfl)
      · have hf := ite_f c_11 hf
        refine lv_aload_n hx hb dX5_clear_16 rfl (lv_at hl 0 rfl) ?_
        refine lv_iload_n hx hb dX5_clear_17 rfl (lv_at hl 1 rfl) ?_
        obtain ⟨⟨pl_told_8, pl_delays_9, pl_fractions_10⟩, h_7, hf⟩ := bd_s hf
        try dsimp only at hf
        refine ca_Mv (w2 := (w_Pl E pl0 pl1 pl2 pl3 pl4 pl_places pl_links pl_mostDrawn pl_ofTen pl_z pl_lengths_2 pl_told_8 pl_delays_9 pl_fractions_10)) (As := [.int v1_3]) (rest := []) ⟨hx, hb, hml, hown, hts⟩ ⟨hK, hN⟩ hP hD hS hA (c_Pl_untell l E pl0 pl1 pl2 pl3 pl4 H.size pl_places pl_links pl_mostDrawn pl_ofTen pl_z pl_lengths_2 pl_told_4 pl_delays_5 pl_fractions_6 v1_3 (pl_told_8, pl_delays_9, pl_fractions_10) h_7) [0, 1, 2, 3, 4] [] [0, 1, 2, 3, 4] rfl rfl rfl rfl (by decide) rfl rfl 5 0 rfl rfl rfl gX5_clear_X5_untell rfl rfl rfl rfl hd_Pl_untell ⟨(Nat.le_of_ble_eq_true rfl), (Nat.le_of_ble_eq_true rfl)⟩ rfl hl.1 rfl (Nat.le_of_ble_eq_true rfl) dX5_clear_18 ⟨(Nat.zero_le _), (Nat.zero_le _)⟩ (fun H locs hP hD hS => ?_)
        refine lv_iinc (v := (v1_3 + 1)) (lv' := [(1, .int (v1_3 + 1)), (0, .ref pl0)]) hx hb dX5_clear_21 hl (k := 1) rfl rfl (by decide) rfl (fun ls hl => ?_)
        refine lv_goto (tgt := 10) hx hb dX5_clear_24 (by decide) ?_
        exact ih_10 (v1_3 + 1) pl_told_8 pl_delays_9 pl_fractions_10 (hc_10 _ (Option.some.inj hf).symm) H locs _ hP hD hS (lv_sub hl [1, 0] rfl)
  exact KL_10 _ 0 pl_told pl_delays pl_fractions i_10 H locs _ hP hD hS (lv_sub hl [1, 0] rfl)
abbrev rm_Pl_copyFrom : Room := { frames := 1, cells := 0, slots := 0, locals := 48 }
theorem hd_Pl_copyFrom : hdOK yX5_copyFrom 1 := by decide +kernel
theorem in_X5_copyFrom_X5 : ∀ w ∈ wsX50, w ∈ wsX5_copyFrom := by decide +kernel
set_option maxRecDepth 100000 in
set_option maxHeartbeats 4000000 in
theorem c_Pl_copyFrom (l : Launch) (E : En4) (pl0 pl1 pl2 pl3 pl4 ot0 ot1 ot2 ot3 ot4 : Nat) (sz : Nat) (pl_places : Int32) (pl_links : Int32) (pl_mostDrawn : Int32) (pl_ofTen : Int32) (pl_z : Int32) (pl_lengths : Nat → Int32) (pl_told : Nat → Int32) (pl_delays : Nat → Int32) (pl_fractions : Nat → Int32) (ot_places : Int32) (ot_links : Int32) (ot_mostDrawn : Int32) (ot_ofTen : Int32) (ot_z : Int32) (ot_lengths : Nat → Int32) (ot_told : Nat → Int32) (ot_delays : Nat → Int32) (ot_fractions : Nat → Int32)  (res : Int32 × Int32 × Int32 × Int32 × Int32 × (Nat → Int32) × (Nat → Int32) × (Nat → Int32) × (Nat → Int32)) (hf : Pl_copyFrom pl_places pl_links pl_mostDrawn pl_ofTen pl_z pl_lengths pl_told pl_delays pl_fractions ot_places ot_links ot_mostDrawn ot_ofTen ot_z ot_lengths ot_told ot_delays ot_fractions = some res) : Met l yX5_copyFrom wsX5_copyFrom rm_Pl_copyFrom (pcM [.ref pl0, .ref ot0] E sz (w_P2 E pl0 pl1 pl2 pl3 pl4 ot0 ot1 ot2 ot3 ot4 pl_places pl_links pl_mostDrawn pl_ofTen pl_z pl_lengths pl_told pl_delays pl_fractions ot_places ot_links ot_mostDrawn ot_ofTen ot_z ot_lengths ot_told ot_delays ot_fractions)) (QMv E sz (w_P2 E pl0 pl1 pl2 pl3 pl4 ot0 ot1 ot2 ot3 ot4 pl_places pl_links pl_mostDrawn pl_ofTen pl_z pl_lengths pl_told pl_delays pl_fractions ot_places ot_links ot_mostDrawn ot_ofTen ot_z ot_lengths ot_told ot_delays ot_fractions) (fun (u : Int32 × Int32 × Int32 × Int32 × Int32 × (Nat → Int32) × (Nat → Int32) × (Nat → Int32) × (Nat → Int32)) => (w_P2 E pl0 pl1 pl2 pl3 pl4 ot0 ot1 ot2 ot3 ot4 u.1 u.2.1 u.2.2.1 u.2.2.2.1 u.2.2.2.2.1 u.2.2.2.2.2.1 u.2.2.2.2.2.2.1 u.2.2.2.2.2.2.2.1 u.2.2.2.2.2.2.2.2 ot_places ot_links ot_mostDrawn ot_ofTen ot_z ot_lengths ot_told ot_delays ot_fractions)) res) 0 0 (va_A (w_P2 E pl0 pl1 pl2 pl3 pl4 ot0 ot1 ot2 ot3 ot4 pl_places pl_links pl_mostDrawn pl_ofTen pl_z pl_lengths pl_told pl_delays pl_fractions ot_places ot_links ot_mostDrawn ot_ofTen ot_z ot_lengths ot_told ot_delays ot_fractions) sz) := by
  refine mk_Mv (cc := cX5_copyFrom) (maxL := 3) (by decide) rfl (Nat.le_of_ble_eq_true rfl) ?_
  intro p e s m args below meth c Q A S hKN hA hret H locs ls hP hD hS hl
  obtain ⟨hx, hb, hml, hown, hts⟩ := S
  obtain ⟨hK, hN⟩ := hKN
  have hl : lv_has ls 3 [(0, .ref pl0), (1, .ref ot0)] := hl
  have q_0 := hts (.fieldLink RX5 9 "DelayClusters$Plan" "lengths" "[I") (by decide +kernel)
  have q_1 := hts (.methodLink RX5 51 arraycopyName) (by decide +kernel)
  have q_2 := hts (.native arraycopyName) (by decide +kernel)
  have q_3 := hts (.static arraycopyName) (by decide +kernel)
  have q_4 := hts (.initialized "java/lang/System") (by decide +kernel)
  have q_5 := hts (.fieldLink RX5 15 "DelayClusters$Plan" "told" "[Z") (by decide +kernel)
  have q_6 := hts (.fieldLink RX5 19 "DelayClusters$Plan" "delays" "[I") (by decide +kernel)
  have q_7 := hts (.fieldLink RX5 22 "DelayClusters$Plan" "fractions" "[I") (by decide +kernel)
  have q_8 := hts (.fieldLink RX5 35 "DelayClusters$Plan" "places" "I") (by decide +kernel)
  have q_9 := hts (.fieldLink RX5 39 "DelayClusters$Plan" "links" "I") (by decide +kernel)
  have q_10 := hts (.fieldLink RX5 42 "DelayClusters$Plan" "mostDrawn" "I") (by decide +kernel)
  have q_11 := hts (.fieldLink RX5 45 "DelayClusters$Plan" "ofTen" "I") (by decide +kernel)
  have q_12 := hts (.fieldLink RX5 48 "DelayClusters$Plan" "z" "I") (by decide +kernel)
  unfold Pl_copyFrom at hf
  refine lv_aload_n hx hb dX5_copyFrom_0 rfl (lv_at hl 1 rfl) ?_
  refine va_get (D := E.1) (ci := 5) (v := .ref ot1) (C := RX5) (T := TX5) (N := 9) hx hb hts in_X5_copyFrom_X5 hown hK hP 5 rfl rfl 0 (by decide) q_0 (fun _ h9 => h9) rfl dX5_copyFrom_1 ?_
  refine lv_iconst (v := 0) hx hb dX5_copyFrom_4 (by decide) ?_
  refine lv_aload_n hx hb dX5_copyFrom_5 rfl (lv_at hl 0 rfl) ?_
  refine va_get (D := E.1) (ci := 5) (v := .ref pl1) (C := RX5) (T := TX5) (N := 9) hx hb hts in_X5_copyFrom_X5 hown hK hP 0 rfl rfl 0 (by decide) q_0 (fun _ h9 => h9) rfl dX5_copyFrom_6 ?_
  refine lv_iconst (v := 0) hx hb dX5_copyFrom_9 (by decide) ?_
  refine lv_aload_n hx hb dX5_copyFrom_10 rfl (lv_at hl 0 rfl) ?_
  refine va_get (D := E.1) (ci := 5) (v := .ref pl1) (C := RX5) (T := TX5) (N := 9) hx hb hts in_X5_copyFrom_X5 hown hK hP 0 rfl rfl 0 (by decide) q_0 (fun _ h9 => h9) rfl dX5_copyFrom_11 ?_
  refine va_alen hx hb hK hP 1 0 (v := 256) rfl rfl rfl dX5_copyFrom_14 ?_
  refine va_copyi (ty := .int) hx hb (by rw [hml]; exact hl.1.symm) hown q_1 q_2 q_3 q_4 hK hP hD hS 6 1 0 0 rfl rfl rfl rfl rfl (by decide) (by decide) (by decide) (by decide) (by decide) (fun _ _ => rfl) (Nat.le_of_ble_eq_true rfl) (Nat.le_of_ble_eq_true rfl) dX5_copyFrom_15 (fun H locs hP hD hS => ?_)
  have hP : va_P E.1 vwCl (w_P2 E pl0 pl1 pl2 pl3 pl4 ot0 ot1 ot2 ot3 ot4 pl_places pl_links pl_mostDrawn pl_ofTen pl_z (va_cpy ot_lengths pl_lengths (0 : Int32).toNatClampNeg (0 : Int32).toNatClampNeg (256 : Int32).toNatClampNeg) pl_told pl_delays pl_fractions ot_places ot_links ot_mostDrawn ot_ofTen ot_z ot_lengths ot_told ot_delays ot_fractions) H := hP
  have hD : va_D A (w_P2 E pl0 pl1 pl2 pl3 pl4 ot0 ot1 ot2 ot3 ot4 pl_places pl_links pl_mostDrawn pl_ofTen pl_z (va_cpy ot_lengths pl_lengths (0 : Int32).toNatClampNeg (0 : Int32).toNatClampNeg (256 : Int32).toNatClampNeg) pl_told pl_delays pl_fractions ot_places ot_links ot_mostDrawn ot_ofTen ot_z ot_lengths ot_told ot_delays ot_fractions) := hD
  refine lv_iconst (v := 0) hx hb dX5_copyFrom_18 (by decide) ?_
  refine lv_istore_n (lv' := [(2, .int 0), (0, .ref pl0), (1, .ref ot0)]) hx hb dX5_copyFrom_19 rfl hl (by decide) rfl (fun ls hl => ?_)
  obtain ⟨w_20, i_20, hf⟩ := bd_s hf
  have KX_20 : ∀ (pl_told_12 : Nat → Int32) (pl_delays_13 : Nat → Int32) (pl_fractions_14 : Nat → Int32), (pl_told_12, pl_delays_13, pl_fractions_14) = w_20 → ∀ (H : Heap) (locs : List Loc) (ls : Array Slot), va_P E.1 vwCl (w_P2 E pl0 pl1 pl2 pl3 pl4 ot0 ot1 ot2 ot3 ot4 pl_places pl_links pl_mostDrawn pl_ofTen pl_z (va_cpy ot_lengths pl_lengths (0 : Int32).toNatClampNeg (0 : Int32).toNatClampNeg (256 : Int32).toNatClampNeg) pl_told_12 pl_delays_13 pl_fractions_14 ot_places ot_links ot_mostDrawn ot_ofTen ot_z ot_lengths ot_told ot_delays ot_fractions) H → va_D A (w_P2 E pl0 pl1 pl2 pl3 pl4 ot0 ot1 ot2 ot3 ot4 pl_places pl_links pl_mostDrawn pl_ofTen pl_z (va_cpy ot_lengths pl_lengths (0 : Int32).toNatClampNeg (0 : Int32).toNatClampNeg (256 : Int32).toNatClampNeg) pl_told_12 pl_delays_13 pl_fractions_14 ot_places ot_links ot_mostDrawn ot_ofTen ot_z ot_lengths ot_told ot_delays ot_fractions) → va_S A s.heap H locs → lv_has ls 3 [(0, .ref pl0), (1, .ref ot0)] → W p l e rm_Pl_copyFrom s m args below meth c H locs 0 0 Q (F0 m 68 ls []) := by
    intro pl_told_12 pl_delays_13 pl_fractions_14 e_
    subst e_
    try dsimp only at hf
    intro H locs ls hP hD hS hl
    refine lv_aload_n hx hb dX5_copyFrom_68 rfl (lv_at hl 0 rfl) ?_
    refine lv_aload_n hx hb dX5_copyFrom_69 rfl (lv_at hl 1 rfl) ?_
    refine va_get (D := E.1) (ci := 5) (v := .int ot_places) (C := RX5) (T := TX5) (N := 9) hx hb hts in_X5_copyFrom_X5 hown hK hP 5 rfl rfl 4 (by decide) q_8 (fun _ h9 => h9) rfl dX5_copyFrom_70 ?_
    refine va_put (D := E.1) (ci := 5) (v := .int ot_places) (ty := .int) (C := RX5) (T := TX5) (N := 9) hx hb hts in_X5_copyFrom_X5 tyX5 tyX5_ok nmX5 hown hK hP hD hS 0 rfl rfl 4 (by decide) q_8 (fun _ h9 => h9) rfl (by decide +kernel) rfl rfl (Nat.le_of_ble_eq_true rfl) dX5_copyFrom_73 (fun H locs hP hD hS => ?_)
    have hP : va_P E.1 vwCl (w_P2 E pl0 pl1 pl2 pl3 pl4 ot0 ot1 ot2 ot3 ot4 ot_places pl_links pl_mostDrawn pl_ofTen pl_z (va_cpy ot_lengths pl_lengths (0 : Int32).toNatClampNeg (0 : Int32).toNatClampNeg (256 : Int32).toNatClampNeg) pl_told_12 pl_delays_13 pl_fractions_14 ot_places ot_links ot_mostDrawn ot_ofTen ot_z ot_lengths ot_told ot_delays ot_fractions) H := hP
    have hD : va_D A (w_P2 E pl0 pl1 pl2 pl3 pl4 ot0 ot1 ot2 ot3 ot4 ot_places pl_links pl_mostDrawn pl_ofTen pl_z (va_cpy ot_lengths pl_lengths (0 : Int32).toNatClampNeg (0 : Int32).toNatClampNeg (256 : Int32).toNatClampNeg) pl_told_12 pl_delays_13 pl_fractions_14 ot_places ot_links ot_mostDrawn ot_ofTen ot_z ot_lengths ot_told ot_delays ot_fractions) := hD
    refine lv_aload_n hx hb dX5_copyFrom_76 rfl (lv_at hl 0 rfl) ?_
    refine lv_aload_n hx hb dX5_copyFrom_77 rfl (lv_at hl 1 rfl) ?_
    refine va_get (D := E.1) (ci := 5) (v := .int ot_links) (C := RX5) (T := TX5) (N := 9) hx hb hts in_X5_copyFrom_X5 hown hK hP 5 rfl rfl 5 (by decide) q_9 (fun _ h9 => h9) rfl dX5_copyFrom_78 ?_
    refine va_put (D := E.1) (ci := 5) (v := .int ot_links) (ty := .int) (C := RX5) (T := TX5) (N := 9) hx hb hts in_X5_copyFrom_X5 tyX5 tyX5_ok nmX5 hown hK hP hD hS 0 rfl rfl 5 (by decide) q_9 (fun _ h9 => h9) rfl (by decide +kernel) rfl rfl (Nat.le_of_ble_eq_true rfl) dX5_copyFrom_81 (fun H locs hP hD hS => ?_)
    have hP : va_P E.1 vwCl (w_P2 E pl0 pl1 pl2 pl3 pl4 ot0 ot1 ot2 ot3 ot4 ot_places ot_links pl_mostDrawn pl_ofTen pl_z (va_cpy ot_lengths pl_lengths (0 : Int32).toNatClampNeg (0 : Int32).toNatClampNeg (256 : Int32).toNatClampNeg) pl_told_12 pl_delays_13 pl_fractions_14 ot_places ot_links ot_mostDrawn ot_ofTen ot_z ot_lengths ot_told ot_delays ot_fractions) H := hP
    have hD : va_D A (w_P2 E pl0 pl1 pl2 pl3 pl4 ot0 ot1 ot2 ot3 ot4 ot_places ot_links pl_mostDrawn pl_ofTen pl_z (va_cpy ot_lengths pl_lengths (0 : Int32).toNatClampNeg (0 : Int32).toNatClampNeg (256 : Int32).toNatClampNeg) pl_told_12 pl_delays_13 pl_fractions_14 ot_places ot_links ot_mostDrawn ot_ofTen ot_z ot_lengths ot_told ot_delays ot_fractions) := hD
    refine lv_aload_n hx hb dX5_copyFrom_84 rfl (lv_at hl 0 rfl) ?_
    refine lv_aload_n hx hb dX5_copyFrom_85 rfl (lv_at hl 1 rfl) ?_
    refine va_get (D := E.1) (ci := 5) (v := .int ot_mostDrawn) (C := RX5) (T := TX5) (N := 9) hx hb hts in_X5_copyFrom_X5 hown hK hP 5 rfl rfl 6 (by decide) q_10 (fun _ h9 => h9) rfl dX5_copyFrom_86 ?_
    refine va_put (D := E.1) (ci := 5) (v := .int ot_mostDrawn) (ty := .int) (C := RX5) (T := TX5) (N := 9) hx hb hts in_X5_copyFrom_X5 tyX5 tyX5_ok nmX5 hown hK hP hD hS 0 rfl rfl 6 (by decide) q_10 (fun _ h9 => h9) rfl (by decide +kernel) rfl rfl (Nat.le_of_ble_eq_true rfl) dX5_copyFrom_89 (fun H locs hP hD hS => ?_)
    have hP : va_P E.1 vwCl (w_P2 E pl0 pl1 pl2 pl3 pl4 ot0 ot1 ot2 ot3 ot4 ot_places ot_links ot_mostDrawn pl_ofTen pl_z (va_cpy ot_lengths pl_lengths (0 : Int32).toNatClampNeg (0 : Int32).toNatClampNeg (256 : Int32).toNatClampNeg) pl_told_12 pl_delays_13 pl_fractions_14 ot_places ot_links ot_mostDrawn ot_ofTen ot_z ot_lengths ot_told ot_delays ot_fractions) H := hP
    have hD : va_D A (w_P2 E pl0 pl1 pl2 pl3 pl4 ot0 ot1 ot2 ot3 ot4 ot_places ot_links ot_mostDrawn pl_ofTen pl_z (va_cpy ot_lengths pl_lengths (0 : Int32).toNatClampNeg (0 : Int32).toNatClampNeg (256 : Int32).toNatClampNeg) pl_told_12 pl_delays_13 pl_fractions_14 ot_places ot_links ot_mostDrawn ot_ofTen ot_z ot_lengths ot_told ot_delays ot_fractions) := hD
    refine lv_aload_n hx hb dX5_copyFrom_92 rfl (lv_at hl 0 rfl) ?_
    refine lv_aload_n hx hb dX5_copyFrom_93 rfl (lv_at hl 1 rfl) ?_
    refine va_get (D := E.1) (ci := 5) (v := .int ot_ofTen) (C := RX5) (T := TX5) (N := 9) hx hb hts in_X5_copyFrom_X5 hown hK hP 5 rfl rfl 7 (by decide) q_11 (fun _ h9 => h9) rfl dX5_copyFrom_94 ?_
    refine va_put (D := E.1) (ci := 5) (v := .int ot_ofTen) (ty := .int) (C := RX5) (T := TX5) (N := 9) hx hb hts in_X5_copyFrom_X5 tyX5 tyX5_ok nmX5 hown hK hP hD hS 0 rfl rfl 7 (by decide) q_11 (fun _ h9 => h9) rfl (by decide +kernel) rfl rfl (Nat.le_of_ble_eq_true rfl) dX5_copyFrom_97 (fun H locs hP hD hS => ?_)
    have hP : va_P E.1 vwCl (w_P2 E pl0 pl1 pl2 pl3 pl4 ot0 ot1 ot2 ot3 ot4 ot_places ot_links ot_mostDrawn ot_ofTen pl_z (va_cpy ot_lengths pl_lengths (0 : Int32).toNatClampNeg (0 : Int32).toNatClampNeg (256 : Int32).toNatClampNeg) pl_told_12 pl_delays_13 pl_fractions_14 ot_places ot_links ot_mostDrawn ot_ofTen ot_z ot_lengths ot_told ot_delays ot_fractions) H := hP
    have hD : va_D A (w_P2 E pl0 pl1 pl2 pl3 pl4 ot0 ot1 ot2 ot3 ot4 ot_places ot_links ot_mostDrawn ot_ofTen pl_z (va_cpy ot_lengths pl_lengths (0 : Int32).toNatClampNeg (0 : Int32).toNatClampNeg (256 : Int32).toNatClampNeg) pl_told_12 pl_delays_13 pl_fractions_14 ot_places ot_links ot_mostDrawn ot_ofTen ot_z ot_lengths ot_told ot_delays ot_fractions) := hD
    refine lv_aload_n hx hb dX5_copyFrom_100 rfl (lv_at hl 0 rfl) ?_
    refine lv_aload_n hx hb dX5_copyFrom_101 rfl (lv_at hl 1 rfl) ?_
    refine va_get (D := E.1) (ci := 5) (v := .int ot_z) (C := RX5) (T := TX5) (N := 9) hx hb hts in_X5_copyFrom_X5 hown hK hP 5 rfl rfl 8 (by decide) q_12 (fun _ h9 => h9) rfl dX5_copyFrom_102 ?_
    refine va_put (D := E.1) (ci := 5) (v := .int ot_z) (ty := .int) (C := RX5) (T := TX5) (N := 9) hx hb hts in_X5_copyFrom_X5 tyX5 tyX5_ok nmX5 hown hK hP hD hS 0 rfl rfl 8 (by decide) q_12 (fun _ h9 => h9) rfl (by decide +kernel) rfl rfl (Nat.le_of_ble_eq_true rfl) dX5_copyFrom_105 (fun H locs hP hD hS => ?_)
    have hP : va_P E.1 vwCl (w_P2 E pl0 pl1 pl2 pl3 pl4 ot0 ot1 ot2 ot3 ot4 ot_places ot_links ot_mostDrawn ot_ofTen ot_z (va_cpy ot_lengths pl_lengths (0 : Int32).toNatClampNeg (0 : Int32).toNatClampNeg (256 : Int32).toNatClampNeg) pl_told_12 pl_delays_13 pl_fractions_14 ot_places ot_links ot_mostDrawn ot_ofTen ot_z ot_lengths ot_told ot_delays ot_fractions) H := hP
    have hD : va_D A (w_P2 E pl0 pl1 pl2 pl3 pl4 ot0 ot1 ot2 ot3 ot4 ot_places ot_links ot_mostDrawn ot_ofTen ot_z (va_cpy ot_lengths pl_lengths (0 : Int32).toNatClampNeg (0 : Int32).toNatClampNeg (256 : Int32).toNatClampNeg) pl_told_12 pl_delays_13 pl_fractions_14 ot_places ot_links ot_mostDrawn ot_ofTen ot_z ot_lengths ot_told ot_delays ot_fractions) := hD
    exact hret H locs ls 108 (ot_places, ot_links, ot_mostDrawn, ot_ofTen, ot_z, (va_cpy ot_lengths pl_lengths (0 : Int32).toNatClampNeg (0 : Int32).toNatClampNeg (256 : Int32).toNatClampNeg), pl_told_12, pl_delays_13, pl_fractions_14) dX5_copyFrom_108 (Option.some.inj hf) hP hD hS
  have KL_20 : ∀ (n_ : Nat) (v2_1 : Int32) (pl_told_2 : Nat → Int32) (pl_delays_3 : Nat → Int32) (pl_fractions_4 : Nat → Int32), it (Pl_copyFrom_L20 ot_told ot_delays ot_fractions) n_ (v2_1, pl_told_2, pl_delays_3, pl_fractions_4) = some w_20 → ∀ (H : Heap) (locs : List Loc) (ls : Array Slot), va_P E.1 vwCl (w_P2 E pl0 pl1 pl2 pl3 pl4 ot0 ot1 ot2 ot3 ot4 pl_places pl_links pl_mostDrawn pl_ofTen pl_z (va_cpy ot_lengths pl_lengths (0 : Int32).toNatClampNeg (0 : Int32).toNatClampNeg (256 : Int32).toNatClampNeg) pl_told_2 pl_delays_3 pl_fractions_4 ot_places ot_links ot_mostDrawn ot_ofTen ot_z ot_lengths ot_told ot_delays ot_fractions) H → va_D A (w_P2 E pl0 pl1 pl2 pl3 pl4 ot0 ot1 ot2 ot3 ot4 pl_places pl_links pl_mostDrawn pl_ofTen pl_z (va_cpy ot_lengths pl_lengths (0 : Int32).toNatClampNeg (0 : Int32).toNatClampNeg (256 : Int32).toNatClampNeg) pl_told_2 pl_delays_3 pl_fractions_4 ot_places ot_links ot_mostDrawn ot_ofTen ot_z ot_lengths ot_told ot_delays ot_fractions) → va_S A s.heap H locs → lv_has ls 3 [(0, .ref pl0), (1, .ref ot0), (2, .int v2_1)] → W p l e rm_Pl_copyFrom s m args below meth c H locs 0 0 Q (F0 m 20 ls []) := by
    intro n_
    induction n_ with
    | zero => intro v2_1 pl_told_2 pl_delays_3 pl_fractions_4 hit; exact (it_z hit).elim
    | succ n_20 ih_20 =>
      intro v2_1 pl_told_2 pl_delays_3 pl_fractions_4 hit
      intro H locs ls hP hD hS hl
      obtain ⟨x_20, hf, hc_20, hq_20⟩ := it_s hit
      dsimp only [Pl_copyFrom_L20] at hf
      refine lv_iload_n hx hb dX5_copyFrom_20 rfl (lv_at hl 2 rfl) ?_
      refine lv_bipush (v := 16) hx hb dX5_copyFrom_21 (by decide) ?_
      refine lv_icmp_ge (tgt := 68) hx hb dX5_copyFrom_23 (by decide) (fun c_11 => ?_) (fun c_11 => ?_)
      · have hf := ite_t c_11 hf
        exact KX_20 pl_told_2 pl_delays_3 pl_fractions_4 (hq_20 _ (Option.some.inj hf).symm) H locs _ hP hD hS (lv_sub hl [0, 1] rfl)
      · have hf := ite_f c_11 hf
        refine lv_aload_n hx hb dX5_copyFrom_26 rfl (lv_at hl 0 rfl) ?_
        refine va_get (D := E.1) (ci := 5) (v := .ref pl2) (C := RX5) (T := TX5) (N := 9) hx hb hts in_X5_copyFrom_X5 hown hK hP 0 rfl rfl 1 (by decide) q_5 (fun _ h9 => h9) rfl dX5_copyFrom_27 ?_
        refine lv_iload_n hx hb dX5_copyFrom_30 rfl (lv_at hl 2 rfl) ?_
        refine lv_aload_n hx hb dX5_copyFrom_31 rfl (lv_at hl 1 rfl) ?_
        refine va_get (D := E.1) (ci := 5) (v := .ref ot2) (C := RX5) (T := TX5) (N := 9) hx hb hts in_X5_copyFrom_X5 hown hK hP 5 rfl rfl 1 (by decide) q_5 (fun _ h9 => h9) rfl dX5_copyFrom_32 ?_
        refine lv_iload_n hx hb dX5_copyFrom_35 rfl (lv_at hl 2 rfl) ?_
        obtain ⟨g_5, hf⟩ := gk_s hf
        refine va_zald hx hb hK hP 7 1 rfl rfl g_5 dX5_copyFrom_36 ?_
        obtain ⟨g_6, hf⟩ := gk_s hf
        refine va_zast hx hb hK hP hD hS 2 1 rfl rfl g_6 dX5_copyFrom_37 (fun H locs hP hD hS => ?_)
        have hP : va_P E.1 vwCl (w_P2 E pl0 pl1 pl2 pl3 pl4 ot0 ot1 ot2 ot3 ot4 pl_places pl_links pl_mostDrawn pl_ofTen pl_z (va_cpy ot_lengths pl_lengths (0 : Int32).toNatClampNeg (0 : Int32).toNatClampNeg (256 : Int32).toNatClampNeg) (upd pl_told_2 v2_1.toNatClampNeg (vp_nar .boolean (ot_told v2_1.toNatClampNeg))) pl_delays_3 pl_fractions_4 ot_places ot_links ot_mostDrawn ot_ofTen ot_z ot_lengths ot_told ot_delays ot_fractions) H := hP
        have hD : va_D A (w_P2 E pl0 pl1 pl2 pl3 pl4 ot0 ot1 ot2 ot3 ot4 pl_places pl_links pl_mostDrawn pl_ofTen pl_z (va_cpy ot_lengths pl_lengths (0 : Int32).toNatClampNeg (0 : Int32).toNatClampNeg (256 : Int32).toNatClampNeg) (upd pl_told_2 v2_1.toNatClampNeg (vp_nar .boolean (ot_told v2_1.toNatClampNeg))) pl_delays_3 pl_fractions_4 ot_places ot_links ot_mostDrawn ot_ofTen ot_z ot_lengths ot_told ot_delays ot_fractions) := hD
        refine lv_aload_n hx hb dX5_copyFrom_38 rfl (lv_at hl 0 rfl) ?_
        refine va_get (D := E.1) (ci := 5) (v := .ref pl3) (C := RX5) (T := TX5) (N := 9) hx hb hts in_X5_copyFrom_X5 hown hK hP 0 rfl rfl 2 (by decide) q_6 (fun _ h9 => h9) rfl dX5_copyFrom_39 ?_
        refine lv_iload_n hx hb dX5_copyFrom_42 rfl (lv_at hl 2 rfl) ?_
        refine lv_aload_n hx hb dX5_copyFrom_43 rfl (lv_at hl 1 rfl) ?_
        refine va_get (D := E.1) (ci := 5) (v := .ref ot3) (C := RX5) (T := TX5) (N := 9) hx hb hts in_X5_copyFrom_X5 hown hK hP 5 rfl rfl 2 (by decide) q_6 (fun _ h9 => h9) rfl dX5_copyFrom_44 ?_
        refine lv_iload_n hx hb dX5_copyFrom_47 rfl (lv_at hl 2 rfl) ?_
        obtain ⟨g_7, hf⟩ := gk_s hf
        refine va_iald hx hb hK hP 8 0 rfl rfl g_7 dX5_copyFrom_48 ?_
        obtain ⟨g_8, hf⟩ := gk_s hf
        refine va_iast hx hb hK hP hD hS 3 0 rfl rfl g_8 dX5_copyFrom_49 (fun H locs hP hD hS => ?_)
        have hP : va_P E.1 vwCl (w_P2 E pl0 pl1 pl2 pl3 pl4 ot0 ot1 ot2 ot3 ot4 pl_places pl_links pl_mostDrawn pl_ofTen pl_z (va_cpy ot_lengths pl_lengths (0 : Int32).toNatClampNeg (0 : Int32).toNatClampNeg (256 : Int32).toNatClampNeg) (upd pl_told_2 v2_1.toNatClampNeg (vp_nar .boolean (ot_told v2_1.toNatClampNeg))) (upd pl_delays_3 v2_1.toNatClampNeg (ot_delays v2_1.toNatClampNeg)) pl_fractions_4 ot_places ot_links ot_mostDrawn ot_ofTen ot_z ot_lengths ot_told ot_delays ot_fractions) H := hP
        have hD : va_D A (w_P2 E pl0 pl1 pl2 pl3 pl4 ot0 ot1 ot2 ot3 ot4 pl_places pl_links pl_mostDrawn pl_ofTen pl_z (va_cpy ot_lengths pl_lengths (0 : Int32).toNatClampNeg (0 : Int32).toNatClampNeg (256 : Int32).toNatClampNeg) (upd pl_told_2 v2_1.toNatClampNeg (vp_nar .boolean (ot_told v2_1.toNatClampNeg))) (upd pl_delays_3 v2_1.toNatClampNeg (ot_delays v2_1.toNatClampNeg)) pl_fractions_4 ot_places ot_links ot_mostDrawn ot_ofTen ot_z ot_lengths ot_told ot_delays ot_fractions) := hD
        refine lv_aload_n hx hb dX5_copyFrom_50 rfl (lv_at hl 0 rfl) ?_
        refine va_get (D := E.1) (ci := 5) (v := .ref pl4) (C := RX5) (T := TX5) (N := 9) hx hb hts in_X5_copyFrom_X5 hown hK hP 0 rfl rfl 3 (by decide) q_7 (fun _ h9 => h9) rfl dX5_copyFrom_51 ?_
        refine lv_iload_n hx hb dX5_copyFrom_54 rfl (lv_at hl 2 rfl) ?_
        refine lv_aload_n hx hb dX5_copyFrom_55 rfl (lv_at hl 1 rfl) ?_
        refine va_get (D := E.1) (ci := 5) (v := .ref ot4) (C := RX5) (T := TX5) (N := 9) hx hb hts in_X5_copyFrom_X5 hown hK hP 5 rfl rfl 3 (by decide) q_7 (fun _ h9 => h9) rfl dX5_copyFrom_56 ?_
        refine lv_iload_n hx hb dX5_copyFrom_59 rfl (lv_at hl 2 rfl) ?_
        obtain ⟨g_9, hf⟩ := gk_s hf
        refine va_iald hx hb hK hP 9 0 rfl rfl g_9 dX5_copyFrom_60 ?_
        obtain ⟨g_10, hf⟩ := gk_s hf
        refine va_iast hx hb hK hP hD hS 4 0 rfl rfl g_10 dX5_copyFrom_61 (fun H locs hP hD hS => ?_)
        have hP : va_P E.1 vwCl (w_P2 E pl0 pl1 pl2 pl3 pl4 ot0 ot1 ot2 ot3 ot4 pl_places pl_links pl_mostDrawn pl_ofTen pl_z (va_cpy ot_lengths pl_lengths (0 : Int32).toNatClampNeg (0 : Int32).toNatClampNeg (256 : Int32).toNatClampNeg) (upd pl_told_2 v2_1.toNatClampNeg (vp_nar .boolean (ot_told v2_1.toNatClampNeg))) (upd pl_delays_3 v2_1.toNatClampNeg (ot_delays v2_1.toNatClampNeg)) (upd pl_fractions_4 v2_1.toNatClampNeg (ot_fractions v2_1.toNatClampNeg)) ot_places ot_links ot_mostDrawn ot_ofTen ot_z ot_lengths ot_told ot_delays ot_fractions) H := hP
        have hD : va_D A (w_P2 E pl0 pl1 pl2 pl3 pl4 ot0 ot1 ot2 ot3 ot4 pl_places pl_links pl_mostDrawn pl_ofTen pl_z (va_cpy ot_lengths pl_lengths (0 : Int32).toNatClampNeg (0 : Int32).toNatClampNeg (256 : Int32).toNatClampNeg) (upd pl_told_2 v2_1.toNatClampNeg (vp_nar .boolean (ot_told v2_1.toNatClampNeg))) (upd pl_delays_3 v2_1.toNatClampNeg (ot_delays v2_1.toNatClampNeg)) (upd pl_fractions_4 v2_1.toNatClampNeg (ot_fractions v2_1.toNatClampNeg)) ot_places ot_links ot_mostDrawn ot_ofTen ot_z ot_lengths ot_told ot_delays ot_fractions) := hD
        refine lv_iinc (v := (v2_1 + 1)) (lv' := [(2, .int (v2_1 + 1)), (0, .ref pl0), (1, .ref ot0)]) hx hb dX5_copyFrom_62 hl (k := 2) rfl rfl (by decide) rfl (fun ls hl => ?_)
        refine lv_goto (tgt := 20) hx hb dX5_copyFrom_65 (by decide) ?_
        exact ih_20 (v2_1 + 1) (upd pl_told_2 v2_1.toNatClampNeg (vp_nar .boolean (ot_told v2_1.toNatClampNeg))) (upd pl_delays_3 v2_1.toNatClampNeg (ot_delays v2_1.toNatClampNeg)) (upd pl_fractions_4 v2_1.toNatClampNeg (ot_fractions v2_1.toNatClampNeg)) (hc_20 _ (Option.some.inj hf).symm) H locs _ hP hD hS (lv_sub hl [1, 2, 0] rfl)
  exact KL_20 _ 0 pl_told pl_delays pl_fractions i_20 H locs _ hP hD hS (lv_sub hl [1, 2, 0] rfl)
abbrev rm_Pl_places : Room := { frames := 0, cells := 0, slots := 0, locals := 0 }
theorem hd_Pl_places : hdOK yX5_places 0 := by decide +kernel
theorem in_X5_places_X5 : ∀ w ∈ wsX50, w ∈ wsX5_places := by decide +kernel
set_option maxRecDepth 100000 in
set_option maxHeartbeats 4000000 in
theorem c_Pl_places (l : Launch) (E : En4) (pl0 pl1 pl2 pl3 pl4 : Nat) (pl_places : Int32) (pl_links : Int32) (pl_mostDrawn : Int32) (pl_ofTen : Int32) (pl_z : Int32) (pl_lengths : Nat → Int32) (pl_told : Nat → Int32) (pl_delays : Nat → Int32) (pl_fractions : Nat → Int32)  (res : Int32) (hf : Pl_places pl_places = some res) : Met l yX5_places wsX5_places rm_Pl_places (pcR [.ref pl0] E (w_Pl E pl0 pl1 pl2 pl3 pl4 pl_places pl_links pl_mostDrawn pl_ofTen pl_z pl_lengths pl_told pl_delays pl_fractions)) (vp_Si (fun r => r = res)) 0 0 (fun _ => False) := by
  refine mk_Ri (cc := cX5_places) (maxL := 1) (by decide) rfl (Nat.le_of_ble_eq_true rfl) ?_
  intro p e s m args below meth c Q S hKN hP hret ls hl
  obtain ⟨hx, hb, hml, hown, hts⟩ := S
  obtain ⟨hK, hN⟩ := hKN
  have hl : lv_has ls 1 [(0, .ref pl0)] := hl
  have q_0 := hts (.fieldLink RX5 35 "DelayClusters$Plan" "places" "I") (by decide +kernel)
  unfold Pl_places at hf
  refine lv_aload_n hx hb dX5_places_0 rfl (lv_at hl 0 rfl) ?_
  refine va_get (D := E.1) (ci := 5) (v := .int pl_places) (C := RX5) (T := TX5) (N := 9) hx hb hts in_X5_places_X5 hown hK hP 0 rfl rfl 4 (by decide) q_0 (fun _ h9 => h9) rfl dX5_places_1 ?_
  exact hret ls 4 pl_places dX5_places_4 (Option.some.inj hf)
abbrev rm_Pl_links : Room := { frames := 0, cells := 0, slots := 0, locals := 0 }
theorem hd_Pl_links : hdOK yX5_links 0 := by decide +kernel
theorem in_X5_links_X5 : ∀ w ∈ wsX50, w ∈ wsX5_links := by decide +kernel
set_option maxRecDepth 100000 in
set_option maxHeartbeats 4000000 in
theorem c_Pl_links (l : Launch) (E : En4) (pl0 pl1 pl2 pl3 pl4 : Nat) (pl_places : Int32) (pl_links : Int32) (pl_mostDrawn : Int32) (pl_ofTen : Int32) (pl_z : Int32) (pl_lengths : Nat → Int32) (pl_told : Nat → Int32) (pl_delays : Nat → Int32) (pl_fractions : Nat → Int32)  (res : Int32) (hf : Pl_links pl_links = some res) : Met l yX5_links wsX5_links rm_Pl_links (pcR [.ref pl0] E (w_Pl E pl0 pl1 pl2 pl3 pl4 pl_places pl_links pl_mostDrawn pl_ofTen pl_z pl_lengths pl_told pl_delays pl_fractions)) (vp_Si (fun r => r = res)) 0 0 (fun _ => False) := by
  refine mk_Ri (cc := cX5_links) (maxL := 1) (by decide) rfl (Nat.le_of_ble_eq_true rfl) ?_
  intro p e s m args below meth c Q S hKN hP hret ls hl
  obtain ⟨hx, hb, hml, hown, hts⟩ := S
  obtain ⟨hK, hN⟩ := hKN
  have hl : lv_has ls 1 [(0, .ref pl0)] := hl
  have q_0 := hts (.fieldLink RX5 39 "DelayClusters$Plan" "links" "I") (by decide +kernel)
  unfold Pl_links at hf
  refine lv_aload_n hx hb dX5_links_0 rfl (lv_at hl 0 rfl) ?_
  refine va_get (D := E.1) (ci := 5) (v := .int pl_links) (C := RX5) (T := TX5) (N := 9) hx hb hts in_X5_links_X5 hown hK hP 0 rfl rfl 5 (by decide) q_0 (fun _ h9 => h9) rfl dX5_links_1 ?_
  exact hret ls 4 pl_links dX5_links_4 (Option.some.inj hf)
abbrev rm_Pl_mostDrawn : Room := { frames := 0, cells := 0, slots := 0, locals := 0 }
theorem hd_Pl_mostDrawn : hdOK yX5_mostDrawn 0 := by decide +kernel
theorem in_X5_mostDrawn_X5 : ∀ w ∈ wsX50, w ∈ wsX5_mostDrawn := by decide +kernel
set_option maxRecDepth 100000 in
set_option maxHeartbeats 4000000 in
theorem c_Pl_mostDrawn (l : Launch) (E : En4) (pl0 pl1 pl2 pl3 pl4 : Nat) (pl_places : Int32) (pl_links : Int32) (pl_mostDrawn : Int32) (pl_ofTen : Int32) (pl_z : Int32) (pl_lengths : Nat → Int32) (pl_told : Nat → Int32) (pl_delays : Nat → Int32) (pl_fractions : Nat → Int32)  (res : Int32) (hf : Pl_mostDrawn pl_mostDrawn = some res) : Met l yX5_mostDrawn wsX5_mostDrawn rm_Pl_mostDrawn (pcR [.ref pl0] E (w_Pl E pl0 pl1 pl2 pl3 pl4 pl_places pl_links pl_mostDrawn pl_ofTen pl_z pl_lengths pl_told pl_delays pl_fractions)) (vp_Si (fun r => r = res)) 0 0 (fun _ => False) := by
  refine mk_Ri (cc := cX5_mostDrawn) (maxL := 1) (by decide) rfl (Nat.le_of_ble_eq_true rfl) ?_
  intro p e s m args below meth c Q S hKN hP hret ls hl
  obtain ⟨hx, hb, hml, hown, hts⟩ := S
  obtain ⟨hK, hN⟩ := hKN
  have hl : lv_has ls 1 [(0, .ref pl0)] := hl
  have q_0 := hts (.fieldLink RX5 42 "DelayClusters$Plan" "mostDrawn" "I") (by decide +kernel)
  unfold Pl_mostDrawn at hf
  refine lv_aload_n hx hb dX5_mostDrawn_0 rfl (lv_at hl 0 rfl) ?_
  refine va_get (D := E.1) (ci := 5) (v := .int pl_mostDrawn) (C := RX5) (T := TX5) (N := 9) hx hb hts in_X5_mostDrawn_X5 hown hK hP 0 rfl rfl 6 (by decide) q_0 (fun _ h9 => h9) rfl dX5_mostDrawn_1 ?_
  exact hret ls 4 pl_mostDrawn dX5_mostDrawn_4 (Option.some.inj hf)
abbrev rm_Pl_ofTen : Room := { frames := 0, cells := 0, slots := 0, locals := 0 }
theorem hd_Pl_ofTen : hdOK yX5_ofTen 0 := by decide +kernel
theorem in_X5_ofTen_X5 : ∀ w ∈ wsX50, w ∈ wsX5_ofTen := by decide +kernel
set_option maxRecDepth 100000 in
set_option maxHeartbeats 4000000 in
theorem c_Pl_ofTen (l : Launch) (E : En4) (pl0 pl1 pl2 pl3 pl4 : Nat) (pl_places : Int32) (pl_links : Int32) (pl_mostDrawn : Int32) (pl_ofTen : Int32) (pl_z : Int32) (pl_lengths : Nat → Int32) (pl_told : Nat → Int32) (pl_delays : Nat → Int32) (pl_fractions : Nat → Int32)  (res : Int32) (hf : Pl_ofTen pl_ofTen = some res) : Met l yX5_ofTen wsX5_ofTen rm_Pl_ofTen (pcR [.ref pl0] E (w_Pl E pl0 pl1 pl2 pl3 pl4 pl_places pl_links pl_mostDrawn pl_ofTen pl_z pl_lengths pl_told pl_delays pl_fractions)) (vp_Si (fun r => r = res)) 0 0 (fun _ => False) := by
  refine mk_Ri (cc := cX5_ofTen) (maxL := 1) (by decide) rfl (Nat.le_of_ble_eq_true rfl) ?_
  intro p e s m args below meth c Q S hKN hP hret ls hl
  obtain ⟨hx, hb, hml, hown, hts⟩ := S
  obtain ⟨hK, hN⟩ := hKN
  have hl : lv_has ls 1 [(0, .ref pl0)] := hl
  have q_0 := hts (.fieldLink RX5 45 "DelayClusters$Plan" "ofTen" "I") (by decide +kernel)
  unfold Pl_ofTen at hf
  refine lv_aload_n hx hb dX5_ofTen_0 rfl (lv_at hl 0 rfl) ?_
  refine va_get (D := E.1) (ci := 5) (v := .int pl_ofTen) (C := RX5) (T := TX5) (N := 9) hx hb hts in_X5_ofTen_X5 hown hK hP 0 rfl rfl 7 (by decide) q_0 (fun _ h9 => h9) rfl dX5_ofTen_1 ?_
  exact hret ls 4 pl_ofTen dX5_ofTen_4 (Option.some.inj hf)
abbrev rm_Pl_z : Room := { frames := 0, cells := 0, slots := 0, locals := 0 }
theorem hd_Pl_z : hdOK yX5_z 0 := by decide +kernel
theorem in_X5_z_X5 : ∀ w ∈ wsX50, w ∈ wsX5_z := by decide +kernel
set_option maxRecDepth 100000 in
set_option maxHeartbeats 4000000 in
theorem c_Pl_z (l : Launch) (E : En4) (pl0 pl1 pl2 pl3 pl4 : Nat) (pl_places : Int32) (pl_links : Int32) (pl_mostDrawn : Int32) (pl_ofTen : Int32) (pl_z : Int32) (pl_lengths : Nat → Int32) (pl_told : Nat → Int32) (pl_delays : Nat → Int32) (pl_fractions : Nat → Int32)  (res : Int32) (hf : Pl_z pl_z = some res) : Met l yX5_z wsX5_z rm_Pl_z (pcR [.ref pl0] E (w_Pl E pl0 pl1 pl2 pl3 pl4 pl_places pl_links pl_mostDrawn pl_ofTen pl_z pl_lengths pl_told pl_delays pl_fractions)) (vp_Si (fun r => r = res)) 0 0 (fun _ => False) := by
  refine mk_Ri (cc := cX5_z) (maxL := 1) (by decide) rfl (Nat.le_of_ble_eq_true rfl) ?_
  intro p e s m args below meth c Q S hKN hP hret ls hl
  obtain ⟨hx, hb, hml, hown, hts⟩ := S
  obtain ⟨hK, hN⟩ := hKN
  have hl : lv_has ls 1 [(0, .ref pl0)] := hl
  have q_0 := hts (.fieldLink RX5 48 "DelayClusters$Plan" "z" "I") (by decide +kernel)
  unfold Pl_z at hf
  refine lv_aload_n hx hb dX5_z_0 rfl (lv_at hl 0 rfl) ?_
  refine va_get (D := E.1) (ci := 5) (v := .int pl_z) (C := RX5) (T := TX5) (N := 9) hx hb hts in_X5_z_X5 hown hK hP 0 rfl rfl 8 (by decide) q_0 (fun _ h9 => h9) rfl dX5_z_1 ?_
  exact hret ls 4 pl_z dX5_z_4 (Option.some.inj hf)
abbrev rm_Pl_setPlaces : Room := { frames := 0, cells := 0, slots := 0, locals := 0 }
theorem hd_Pl_setPlaces : hdOK yX5_setPlaces 1 := by decide +kernel
theorem in_X5_setPlaces_X5 : ∀ w ∈ wsX50, w ∈ wsX5_setPlaces := by decide +kernel
set_option maxRecDepth 100000 in
set_option maxHeartbeats 4000000 in
theorem c_Pl_setPlaces (l : Launch) (E : En4) (pl0 pl1 pl2 pl3 pl4 : Nat) (sz : Nat) (pl_places : Int32) (pl_links : Int32) (pl_mostDrawn : Int32) (pl_ofTen : Int32) (pl_z : Int32) (pl_lengths : Nat → Int32) (pl_told : Nat → Int32) (pl_delays : Nat → Int32) (pl_fractions : Nat → Int32) (a1 : Int32)  (res : Int32) (hf : Pl_setPlaces pl_places a1 = some res) : Met l yX5_setPlaces wsX5_setPlaces rm_Pl_setPlaces (pcM [.ref pl0, .int a1] E sz (w_Pl E pl0 pl1 pl2 pl3 pl4 pl_places pl_links pl_mostDrawn pl_ofTen pl_z pl_lengths pl_told pl_delays pl_fractions)) (QMv E sz (w_Pl E pl0 pl1 pl2 pl3 pl4 pl_places pl_links pl_mostDrawn pl_ofTen pl_z pl_lengths pl_told pl_delays pl_fractions) (fun (u : Int32) => (w_Pl E pl0 pl1 pl2 pl3 pl4 u pl_links pl_mostDrawn pl_ofTen pl_z pl_lengths pl_told pl_delays pl_fractions)) res) 0 0 (va_A (w_Pl E pl0 pl1 pl2 pl3 pl4 pl_places pl_links pl_mostDrawn pl_ofTen pl_z pl_lengths pl_told pl_delays pl_fractions) sz) := by
  refine mk_Mv (cc := cX5_setPlaces) (maxL := 2) (by decide) rfl (Nat.le_of_ble_eq_true rfl) ?_
  intro p e s m args below meth c Q A S hKN hA hret H locs ls hP hD hS hl
  obtain ⟨hx, hb, hml, hown, hts⟩ := S
  obtain ⟨hK, hN⟩ := hKN
  have hl : lv_has ls 2 [(0, .ref pl0), (1, .int a1)] := hl
  have q_0 := hts (.fieldLink RX5 35 "DelayClusters$Plan" "places" "I") (by decide +kernel)
  unfold Pl_setPlaces at hf
  refine lv_aload_n hx hb dX5_setPlaces_0 rfl (lv_at hl 0 rfl) ?_
  refine lv_iload_n hx hb dX5_setPlaces_1 rfl (lv_at hl 1 rfl) ?_
  refine va_put (D := E.1) (ci := 5) (v := .int a1) (ty := .int) (C := RX5) (T := TX5) (N := 9) hx hb hts in_X5_setPlaces_X5 tyX5 tyX5_ok nmX5 hown hK hP hD hS 0 rfl rfl 4 (by decide) q_0 (fun _ h9 => h9) rfl (by decide +kernel) rfl rfl (Nat.le_of_ble_eq_true rfl) dX5_setPlaces_2 (fun H locs hP hD hS => ?_)
  have hP : va_P E.1 vwCl (w_Pl E pl0 pl1 pl2 pl3 pl4 a1 pl_links pl_mostDrawn pl_ofTen pl_z pl_lengths pl_told pl_delays pl_fractions) H := hP
  have hD : va_D A (w_Pl E pl0 pl1 pl2 pl3 pl4 a1 pl_links pl_mostDrawn pl_ofTen pl_z pl_lengths pl_told pl_delays pl_fractions) := hD
  exact hret H locs ls 5 a1 dX5_setPlaces_5 (Option.some.inj hf) hP hD hS
abbrev rm_Pl_setDrawing : Room := { frames := 0, cells := 0, slots := 0, locals := 0 }
theorem hd_Pl_setDrawing : hdOK yX5_setDrawing 2 := by decide +kernel
theorem in_X5_setDrawing_X5 : ∀ w ∈ wsX50, w ∈ wsX5_setDrawing := by decide +kernel
set_option maxRecDepth 100000 in
set_option maxHeartbeats 4000000 in
theorem c_Pl_setDrawing (l : Launch) (E : En4) (pl0 pl1 pl2 pl3 pl4 : Nat) (sz : Nat) (pl_places : Int32) (pl_links : Int32) (pl_mostDrawn : Int32) (pl_ofTen : Int32) (pl_z : Int32) (pl_lengths : Nat → Int32) (pl_told : Nat → Int32) (pl_delays : Nat → Int32) (pl_fractions : Nat → Int32) (a1 : Int32) (a2 : Int32)  (res : Int32 × Int32) (hf : Pl_setDrawing pl_mostDrawn pl_ofTen a1 a2 = some res) : Met l yX5_setDrawing wsX5_setDrawing rm_Pl_setDrawing (pcM [.ref pl0, .int a1, .int a2] E sz (w_Pl E pl0 pl1 pl2 pl3 pl4 pl_places pl_links pl_mostDrawn pl_ofTen pl_z pl_lengths pl_told pl_delays pl_fractions)) (QMv E sz (w_Pl E pl0 pl1 pl2 pl3 pl4 pl_places pl_links pl_mostDrawn pl_ofTen pl_z pl_lengths pl_told pl_delays pl_fractions) (fun (u : Int32 × Int32) => (w_Pl E pl0 pl1 pl2 pl3 pl4 pl_places pl_links u.1 u.2 pl_z pl_lengths pl_told pl_delays pl_fractions)) res) 0 0 (va_A (w_Pl E pl0 pl1 pl2 pl3 pl4 pl_places pl_links pl_mostDrawn pl_ofTen pl_z pl_lengths pl_told pl_delays pl_fractions) sz) := by
  refine mk_Mv (cc := cX5_setDrawing) (maxL := 3) (by decide) rfl (Nat.le_of_ble_eq_true rfl) ?_
  intro p e s m args below meth c Q A S hKN hA hret H locs ls hP hD hS hl
  obtain ⟨hx, hb, hml, hown, hts⟩ := S
  obtain ⟨hK, hN⟩ := hKN
  have hl : lv_has ls 3 [(0, .ref pl0), (1, .int a1), (2, .int a2)] := hl
  have q_0 := hts (.fieldLink RX5 42 "DelayClusters$Plan" "mostDrawn" "I") (by decide +kernel)
  have q_1 := hts (.fieldLink RX5 45 "DelayClusters$Plan" "ofTen" "I") (by decide +kernel)
  unfold Pl_setDrawing at hf
  refine lv_aload_n hx hb dX5_setDrawing_0 rfl (lv_at hl 0 rfl) ?_
  refine lv_iload_n hx hb dX5_setDrawing_1 rfl (lv_at hl 1 rfl) ?_
  refine va_put (D := E.1) (ci := 5) (v := .int a1) (ty := .int) (C := RX5) (T := TX5) (N := 9) hx hb hts in_X5_setDrawing_X5 tyX5 tyX5_ok nmX5 hown hK hP hD hS 0 rfl rfl 6 (by decide) q_0 (fun _ h9 => h9) rfl (by decide +kernel) rfl rfl (Nat.le_of_ble_eq_true rfl) dX5_setDrawing_2 (fun H locs hP hD hS => ?_)
  have hP : va_P E.1 vwCl (w_Pl E pl0 pl1 pl2 pl3 pl4 pl_places pl_links a1 pl_ofTen pl_z pl_lengths pl_told pl_delays pl_fractions) H := hP
  have hD : va_D A (w_Pl E pl0 pl1 pl2 pl3 pl4 pl_places pl_links a1 pl_ofTen pl_z pl_lengths pl_told pl_delays pl_fractions) := hD
  refine lv_aload_n hx hb dX5_setDrawing_5 rfl (lv_at hl 0 rfl) ?_
  refine lv_iload_n hx hb dX5_setDrawing_6 rfl (lv_at hl 2 rfl) ?_
  refine va_put (D := E.1) (ci := 5) (v := .int a2) (ty := .int) (C := RX5) (T := TX5) (N := 9) hx hb hts in_X5_setDrawing_X5 tyX5 tyX5_ok nmX5 hown hK hP hD hS 0 rfl rfl 7 (by decide) q_1 (fun _ h9 => h9) rfl (by decide +kernel) rfl rfl (Nat.le_of_ble_eq_true rfl) dX5_setDrawing_7 (fun H locs hP hD hS => ?_)
  have hP : va_P E.1 vwCl (w_Pl E pl0 pl1 pl2 pl3 pl4 pl_places pl_links a1 a2 pl_z pl_lengths pl_told pl_delays pl_fractions) H := hP
  have hD : va_D A (w_Pl E pl0 pl1 pl2 pl3 pl4 pl_places pl_links a1 a2 pl_z pl_lengths pl_told pl_delays pl_fractions) := hD
  exact hret H locs ls 10 (a1, a2) dX5_setDrawing_10 (Option.some.inj hf) hP hD hS
abbrev rm_Pl_setZ : Room := { frames := 0, cells := 0, slots := 0, locals := 0 }
theorem hd_Pl_setZ : hdOK yX5_setZ 1 := by decide +kernel
theorem in_X5_setZ_X5 : ∀ w ∈ wsX50, w ∈ wsX5_setZ := by decide +kernel
set_option maxRecDepth 100000 in
set_option maxHeartbeats 4000000 in
theorem c_Pl_setZ (l : Launch) (E : En4) (pl0 pl1 pl2 pl3 pl4 : Nat) (sz : Nat) (pl_places : Int32) (pl_links : Int32) (pl_mostDrawn : Int32) (pl_ofTen : Int32) (pl_z : Int32) (pl_lengths : Nat → Int32) (pl_told : Nat → Int32) (pl_delays : Nat → Int32) (pl_fractions : Nat → Int32) (a1 : Int32)  (res : Int32) (hf : Pl_setZ pl_z a1 = some res) : Met l yX5_setZ wsX5_setZ rm_Pl_setZ (pcM [.ref pl0, .int a1] E sz (w_Pl E pl0 pl1 pl2 pl3 pl4 pl_places pl_links pl_mostDrawn pl_ofTen pl_z pl_lengths pl_told pl_delays pl_fractions)) (QMv E sz (w_Pl E pl0 pl1 pl2 pl3 pl4 pl_places pl_links pl_mostDrawn pl_ofTen pl_z pl_lengths pl_told pl_delays pl_fractions) (fun (u : Int32) => (w_Pl E pl0 pl1 pl2 pl3 pl4 pl_places pl_links pl_mostDrawn pl_ofTen u pl_lengths pl_told pl_delays pl_fractions)) res) 0 0 (va_A (w_Pl E pl0 pl1 pl2 pl3 pl4 pl_places pl_links pl_mostDrawn pl_ofTen pl_z pl_lengths pl_told pl_delays pl_fractions) sz) := by
  refine mk_Mv (cc := cX5_setZ) (maxL := 2) (by decide) rfl (Nat.le_of_ble_eq_true rfl) ?_
  intro p e s m args below meth c Q A S hKN hA hret H locs ls hP hD hS hl
  obtain ⟨hx, hb, hml, hown, hts⟩ := S
  obtain ⟨hK, hN⟩ := hKN
  have hl : lv_has ls 2 [(0, .ref pl0), (1, .int a1)] := hl
  have q_0 := hts (.fieldLink RX5 48 "DelayClusters$Plan" "z" "I") (by decide +kernel)
  unfold Pl_setZ at hf
  refine lv_aload_n hx hb dX5_setZ_0 rfl (lv_at hl 0 rfl) ?_
  refine lv_iload_n hx hb dX5_setZ_1 rfl (lv_at hl 1 rfl) ?_
  refine va_put (D := E.1) (ci := 5) (v := .int a1) (ty := .int) (C := RX5) (T := TX5) (N := 9) hx hb hts in_X5_setZ_X5 tyX5 tyX5_ok nmX5 hown hK hP hD hS 0 rfl rfl 8 (by decide) q_0 (fun _ h9 => h9) rfl (by decide +kernel) rfl rfl (Nat.le_of_ble_eq_true rfl) dX5_setZ_2 (fun H locs hP hD hS => ?_)
  have hP : va_P E.1 vwCl (w_Pl E pl0 pl1 pl2 pl3 pl4 pl_places pl_links pl_mostDrawn pl_ofTen a1 pl_lengths pl_told pl_delays pl_fractions) H := hP
  have hD : va_D A (w_Pl E pl0 pl1 pl2 pl3 pl4 pl_places pl_links pl_mostDrawn pl_ofTen a1 pl_lengths pl_told pl_delays pl_fractions) := hD
  exact hret H locs ls 5 a1 dX5_setZ_5 (Option.some.inj hf) hP hD hS
abbrev rm_Pl_isPlace : Room := { frames := 0, cells := 0, slots := 0, locals := 0 }
theorem hd_Pl_isPlace : hdOK yX5_isPlace 1 := by decide +kernel
theorem in_X5_isPlace_X5 : ∀ w ∈ wsX50, w ∈ wsX5_isPlace := by decide +kernel
set_option maxRecDepth 100000 in
set_option maxHeartbeats 4000000 in
theorem c_Pl_isPlace (l : Launch) (E : En4) (pl0 pl1 pl2 pl3 pl4 : Nat) (pl_places : Int32) (pl_links : Int32) (pl_mostDrawn : Int32) (pl_ofTen : Int32) (pl_z : Int32) (pl_lengths : Nat → Int32) (pl_told : Nat → Int32) (pl_delays : Nat → Int32) (pl_fractions : Nat → Int32) (a1 : Int32)  (res : Int32) (hf : Pl_isPlace pl_places a1 = some res) : Met l yX5_isPlace wsX5_isPlace rm_Pl_isPlace (pcR [.ref pl0, .int a1] E (w_Pl E pl0 pl1 pl2 pl3 pl4 pl_places pl_links pl_mostDrawn pl_ofTen pl_z pl_lengths pl_told pl_delays pl_fractions)) (vp_Si (fun r => r = res)) 0 0 (fun _ => False) := by
  refine mk_Rz (cc := cX5_isPlace) (maxL := 2) (by decide) rfl (Nat.le_of_ble_eq_true rfl) ?_
  intro p e s m args below meth c Q S hKN hP hret ls hl
  obtain ⟨hx, hb, hml, hown, hts⟩ := S
  obtain ⟨hK, hN⟩ := hKN
  have hl : lv_has ls 2 [(0, .ref pl0), (1, .int a1)] := hl
  have q_0 := hts (.fieldLink RX5 35 "DelayClusters$Plan" "places" "I") (by decide +kernel)
  unfold Pl_isPlace at hf
  refine lv_iconst (v := 0) hx hb dX5_isPlace_0 (by decide) ?_
  refine lv_iload_n hx hb dX5_isPlace_1 rfl (lv_at hl 1 rfl) ?_
  refine lv_icmp_gt (tgt := 17) hx hb dX5_isPlace_2 (by decide) (fun c_2 => ?_) (fun c_2 => ?_)
  · have hf := ite_t c_2 hf
    refine lv_iconst (v := 0) hx hb dX5_isPlace_17 (by decide) ?_
    exact hret ls 18 0 dX5_isPlace_18 (by decide) (Option.some.inj hf)
  · have hf := ite_f c_2 hf
    refine lv_iload_n hx hb dX5_isPlace_5 rfl (lv_at hl 1 rfl) ?_
    refine lv_aload_n hx hb dX5_isPlace_6 rfl (lv_at hl 0 rfl) ?_
    refine va_get (D := E.1) (ci := 5) (v := .int pl_places) (C := RX5) (T := TX5) (N := 9) hx hb hts in_X5_isPlace_X5 hown hK hP 0 rfl rfl 4 (by decide) q_0 (fun _ h9 => h9) rfl dX5_isPlace_7 ?_
    refine lv_icmp_ge (tgt := 17) hx hb dX5_isPlace_10 (by decide) (fun c_1 => ?_) (fun c_1 => ?_)
    · have hf := ite_t c_1 hf
      refine lv_iconst (v := 0) hx hb dX5_isPlace_17 (by decide) ?_
      exact hret ls 18 0 dX5_isPlace_18 (by decide) (Option.some.inj hf)
    · have hf := ite_f c_1 hf
      refine lv_iconst (v := 1) hx hb dX5_isPlace_13 (by decide) ?_
      refine lv_goto (tgt := 18) hx hb dX5_isPlace_14 (by decide) ?_
      exact hret ls 18 1 dX5_isPlace_18 (by decide) (Option.some.inj hf)
abbrev rm_Pl_isPair : Room := { frames := 1, cells := 0, slots := 0, locals := 21 }
theorem hd_Pl_isPair : hdOK yX5_isPair 2 := by decide +kernel
set_option maxRecDepth 100000 in
set_option maxHeartbeats 4000000 in
theorem c_Pl_isPair (l : Launch) (E : En4) (pl0 pl1 pl2 pl3 pl4 : Nat) (pl_places : Int32) (pl_links : Int32) (pl_mostDrawn : Int32) (pl_ofTen : Int32) (pl_z : Int32) (pl_lengths : Nat → Int32) (pl_told : Nat → Int32) (pl_delays : Nat → Int32) (pl_fractions : Nat → Int32) (a1 : Int32) (a2 : Int32)  (res : Int32) (hf : Pl_isPair pl_places a1 a2 = some res) : Met l yX5_isPair wsX5_isPair rm_Pl_isPair (pcR [.ref pl0, .int a1, .int a2] E (w_Pl E pl0 pl1 pl2 pl3 pl4 pl_places pl_links pl_mostDrawn pl_ofTen pl_z pl_lengths pl_told pl_delays pl_fractions)) (vp_Si (fun r => r = res)) 0 0 (fun _ => False) := by
  refine mk_Rz (cc := cX5_isPair) (maxL := 3) (by decide) rfl (Nat.le_of_ble_eq_true rfl) ?_
  intro p e s m args below meth c Q S hKN hP hret ls hl
  obtain ⟨hx, hb, hml, hown, hts⟩ := S
  obtain ⟨hK, hN⟩ := hKN
  have hl : lv_has ls 3 [(0, .ref pl0), (1, .int a1), (2, .int a2)] := hl
  unfold Pl_isPair at hf
  refine lv_aload_n hx hb dX5_isPair_0 rfl (lv_at hl 0 rfl) ?_
  refine lv_iload_n hx hb dX5_isPair_1 rfl (lv_at hl 1 rfl) ?_
  obtain ⟨r_2, h_1, hf⟩ := bd_s hf
  refine ca_V (As := [.int a1]) (rest := []) ⟨hx, hb, hml, hown, hts⟩ ⟨hK, hN⟩ hP (c_Pl_isPlace l E pl0 pl1 pl2 pl3 pl4 pl_places pl_links pl_mostDrawn pl_ofTen pl_z pl_lengths pl_told pl_delays pl_fractions a1 r_2 h_1) [0, 1, 2, 3, 4] rfl 5 0 rfl rfl rfl gX5_isPair_X5_isPlace rfl rfl rfl rfl hd_Pl_isPlace ⟨(Nat.le_of_ble_eq_true rfl), (Nat.le_of_ble_eq_true rfl)⟩ rfl hl.1 rfl (Nat.le_of_ble_eq_true rfl) dX5_isPair_2 ⟨(Nat.zero_le _), (Nat.zero_le _)⟩ ?_
  refine lv_if_eq (tgt := 25) hx hb dX5_isPair_5 (by decide) (fun c_7 => ?_) (fun c_7 => ?_)
  · have hf := ite_t c_7 hf
    refine lv_iconst (v := 0) hx hb dX5_isPair_25 (by decide) ?_
    exact hret ls 26 0 dX5_isPair_26 (by decide) (Option.some.inj hf)
  · have hf := ite_f c_7 hf
    refine lv_aload_n hx hb dX5_isPair_8 rfl (lv_at hl 0 rfl) ?_
    refine lv_iload_n hx hb dX5_isPair_9 rfl (lv_at hl 2 rfl) ?_
    obtain ⟨r_4, h_3, hf⟩ := bd_s hf
    refine ca_V (As := [.int a2]) (rest := []) ⟨hx, hb, hml, hown, hts⟩ ⟨hK, hN⟩ hP (c_Pl_isPlace l E pl0 pl1 pl2 pl3 pl4 pl_places pl_links pl_mostDrawn pl_ofTen pl_z pl_lengths pl_told pl_delays pl_fractions a2 r_4 h_3) [0, 1, 2, 3, 4] rfl 5 0 rfl rfl rfl gX5_isPair_X5_isPlace rfl rfl rfl rfl hd_Pl_isPlace ⟨(Nat.le_of_ble_eq_true rfl), (Nat.le_of_ble_eq_true rfl)⟩ rfl hl.1 rfl (Nat.le_of_ble_eq_true rfl) dX5_isPair_10 ⟨(Nat.zero_le _), (Nat.zero_le _)⟩ ?_
    refine lv_if_eq (tgt := 25) hx hb dX5_isPair_13 (by decide) (fun c_6 => ?_) (fun c_6 => ?_)
    · have hf := ite_t c_6 hf
      refine lv_iconst (v := 0) hx hb dX5_isPair_25 (by decide) ?_
      exact hret ls 26 0 dX5_isPair_26 (by decide) (Option.some.inj hf)
    · have hf := ite_f c_6 hf
      refine lv_iload_n hx hb dX5_isPair_16 rfl (lv_at hl 1 rfl) ?_
      refine lv_iload_n hx hb dX5_isPair_17 rfl (lv_at hl 2 rfl) ?_
      refine lv_icmp_eq (tgt := 25) hx hb dX5_isPair_18 (by decide) (fun c_5 => ?_) (fun c_5 => ?_)
      · have hf := ite_t c_5 hf
        refine lv_iconst (v := 0) hx hb dX5_isPair_25 (by decide) ?_
        exact hret ls 26 0 dX5_isPair_26 (by decide) (Option.some.inj hf)
      · have hf := ite_f c_5 hf
        refine lv_iconst (v := 1) hx hb dX5_isPair_21 (by decide) ?_
        refine lv_goto (tgt := 26) hx hb dX5_isPair_22 (by decide) ?_
        exact hret ls 26 1 dX5_isPair_26 (by decide) (Option.some.inj hf)
abbrev rm_Pl_lengthOf : Room := { frames := 0, cells := 0, slots := 0, locals := 0 }
theorem hd_Pl_lengthOf : hdOK yX5_lengthOf 2 := by decide +kernel
theorem in_X5_lengthOf_X5 : ∀ w ∈ wsX50, w ∈ wsX5_lengthOf := by decide +kernel
set_option maxRecDepth 100000 in
set_option maxHeartbeats 4000000 in
theorem c_Pl_lengthOf (l : Launch) (E : En4) (pl0 pl1 pl2 pl3 pl4 : Nat) (pl_places : Int32) (pl_links : Int32) (pl_mostDrawn : Int32) (pl_ofTen : Int32) (pl_z : Int32) (pl_lengths : Nat → Int32) (pl_told : Nat → Int32) (pl_delays : Nat → Int32) (pl_fractions : Nat → Int32) (a1 : Int32) (a2 : Int32)  (res : Int32) (hf : Pl_lengthOf pl_lengths a1 a2 = some res) : Met l yX5_lengthOf wsX5_lengthOf rm_Pl_lengthOf (pcR [.ref pl0, .int a1, .int a2] E (w_Pl E pl0 pl1 pl2 pl3 pl4 pl_places pl_links pl_mostDrawn pl_ofTen pl_z pl_lengths pl_told pl_delays pl_fractions)) (vp_Si (fun r => r = res)) 0 0 (fun _ => False) := by
  refine mk_Ri (cc := cX5_lengthOf) (maxL := 3) (by decide) rfl (Nat.le_of_ble_eq_true rfl) ?_
  intro p e s m args below meth c Q S hKN hP hret ls hl
  obtain ⟨hx, hb, hml, hown, hts⟩ := S
  obtain ⟨hK, hN⟩ := hKN
  have hl : lv_has ls 3 [(0, .ref pl0), (1, .int a1), (2, .int a2)] := hl
  have q_0 := hts (.fieldLink RX5 9 "DelayClusters$Plan" "lengths" "[I") (by decide +kernel)
  unfold Pl_lengthOf at hf
  refine lv_aload_n hx hb dX5_lengthOf_0 rfl (lv_at hl 0 rfl) ?_
  refine va_get (D := E.1) (ci := 5) (v := .ref pl1) (C := RX5) (T := TX5) (N := 9) hx hb hts in_X5_lengthOf_X5 hown hK hP 0 rfl rfl 0 (by decide) q_0 (fun _ h9 => h9) rfl dX5_lengthOf_1 ?_
  refine lv_iload_n hx hb dX5_lengthOf_4 rfl (lv_at hl 1 rfl) ?_
  refine lv_bipush (v := 16) hx hb dX5_lengthOf_5 (by decide) ?_
  refine lv_imul hx hb dX5_lengthOf_7 ?_
  refine lv_iload_n hx hb dX5_lengthOf_8 rfl (lv_at hl 2 rfl) ?_
  refine lv_iadd hx hb dX5_lengthOf_9 ?_
  obtain ⟨g_1, hf⟩ := gk_s hf
  refine va_iald hx hb hK hP 1 0 rfl rfl g_1 dX5_lengthOf_10 ?_
  exact hret ls 11 (pl_lengths ((a1 * 16) + a2).toNatClampNeg) dX5_lengthOf_11 (Option.some.inj hf)
abbrev rm_Pl_setLength : Room := { frames := 1, cells := 0, slots := 0, locals := 22 }
theorem hd_Pl_setLength : hdOK yX5_setLength 3 := by decide +kernel
theorem in_X5_setLength_X5 : ∀ w ∈ wsX50, w ∈ wsX5_setLength := by decide +kernel
set_option maxRecDepth 100000 in
set_option maxHeartbeats 4000000 in
theorem c_Pl_setLength (l : Launch) (E : En4) (pl0 pl1 pl2 pl3 pl4 : Nat) (sz : Nat) (pl_places : Int32) (pl_links : Int32) (pl_mostDrawn : Int32) (pl_ofTen : Int32) (pl_z : Int32) (pl_lengths : Nat → Int32) (pl_told : Nat → Int32) (pl_delays : Nat → Int32) (pl_fractions : Nat → Int32) (a1 : Int32) (a2 : Int32) (a3 : Int32)  (res : Int32 × (Nat → Int32)) (hf : Pl_setLength pl_links pl_lengths a1 a2 a3 = some res) : Met l yX5_setLength wsX5_setLength rm_Pl_setLength (pcM [.ref pl0, .int a1, .int a2, .int a3] E sz (w_Pl E pl0 pl1 pl2 pl3 pl4 pl_places pl_links pl_mostDrawn pl_ofTen pl_z pl_lengths pl_told pl_delays pl_fractions)) (QMv E sz (w_Pl E pl0 pl1 pl2 pl3 pl4 pl_places pl_links pl_mostDrawn pl_ofTen pl_z pl_lengths pl_told pl_delays pl_fractions) (fun (u : Int32 × (Nat → Int32)) => (w_Pl E pl0 pl1 pl2 pl3 pl4 pl_places u.1 pl_mostDrawn pl_ofTen pl_z u.2 pl_told pl_delays pl_fractions)) res) 0 0 (va_A (w_Pl E pl0 pl1 pl2 pl3 pl4 pl_places pl_links pl_mostDrawn pl_ofTen pl_z pl_lengths pl_told pl_delays pl_fractions) sz) := by
  refine mk_Mv (cc := cX5_setLength) (maxL := 4) (by decide) rfl (Nat.le_of_ble_eq_true rfl) ?_
  intro p e s m args below meth c Q A S hKN hA hret H locs ls hP hD hS hl
  obtain ⟨hx, hb, hml, hown, hts⟩ := S
  obtain ⟨hK, hN⟩ := hKN
  have hl : lv_has ls 4 [(0, .ref pl0), (1, .int a1), (2, .int a2), (3, .int a3)] := hl
  have q_0 := hts (.fieldLink RX5 39 "DelayClusters$Plan" "links" "I") (by decide +kernel)
  have q_1 := hts (.fieldLink RX5 9 "DelayClusters$Plan" "lengths" "[I") (by decide +kernel)
  unfold Pl_setLength at hf
  refine lv_aload_n hx hb dX5_setLength_0 rfl (lv_at hl 0 rfl) ?_
  refine lv_iload_n hx hb dX5_setLength_1 rfl (lv_at hl 1 rfl) ?_
  refine lv_iload_n hx hb dX5_setLength_2 rfl (lv_at hl 2 rfl) ?_
  obtain ⟨r_2, h_1, hf⟩ := bd_s hf
  refine ca_V (As := [.int a1, .int a2]) (rest := []) ⟨hx, hb, hml, hown, hts⟩ ⟨hK, hN⟩ hP (c_Pl_lengthOf l E pl0 pl1 pl2 pl3 pl4 pl_places pl_links pl_mostDrawn pl_ofTen pl_z pl_lengths pl_told pl_delays pl_fractions a1 a2 r_2 h_1) [0, 1, 2, 3, 4] rfl 5 0 rfl rfl rfl gX5_setLength_X5_lengthOf rfl rfl rfl rfl hd_Pl_lengthOf ⟨(Nat.le_of_ble_eq_true rfl), (Nat.le_of_ble_eq_true rfl)⟩ rfl hl.1 rfl (Nat.le_of_ble_eq_true rfl) dX5_setLength_3 ⟨(Nat.zero_le _), (Nat.zero_le _)⟩ ?_
  obtain ⟨j_6, b_6, hf⟩ := bd_s hf
  have KJ_6 : ∀ (pl_links_4 : Int32), pl_links_4 = j_6 → ∀ (H : Heap) (locs : List Loc) (ls : Array Slot), va_P E.1 vwCl (w_Pl E pl0 pl1 pl2 pl3 pl4 pl_places pl_links_4 pl_mostDrawn pl_ofTen pl_z pl_lengths pl_told pl_delays pl_fractions) H → va_D A (w_Pl E pl0 pl1 pl2 pl3 pl4 pl_places pl_links_4 pl_mostDrawn pl_ofTen pl_z pl_lengths pl_told pl_delays pl_fractions) → va_S A s.heap H locs → lv_has ls 4 [(0, .ref pl0), (1, .int a1), (2, .int a2), (3, .int a3)] → W p l e rm_Pl_setLength s m args below meth c H locs 0 0 Q (F0 m 19 ls []) := by
    intro pl_links_4 e_
    subst e_
    try dsimp only at hf
    intro H locs ls hP hD hS hl
    refine lv_iload_n hx hb dX5_setLength_19 rfl (lv_at hl 3 rfl) ?_
    obtain ⟨j_20, b_20, hf⟩ := bd_s hf
    have KJ_20 : ∀ (pl_links_6 : Int32), pl_links_6 = j_20 → ∀ (H : Heap) (locs : List Loc) (ls : Array Slot), va_P E.1 vwCl (w_Pl E pl0 pl1 pl2 pl3 pl4 pl_places pl_links_6 pl_mostDrawn pl_ofTen pl_z pl_lengths pl_told pl_delays pl_fractions) H → va_D A (w_Pl E pl0 pl1 pl2 pl3 pl4 pl_places pl_links_6 pl_mostDrawn pl_ofTen pl_z pl_lengths pl_told pl_delays pl_fractions) → va_S A s.heap H locs → lv_has ls 4 [(0, .ref pl0), (1, .int a1), (2, .int a2), (3, .int a3)] → W p l e rm_Pl_setLength s m args below meth c H locs 0 0 Q (F0 m 33 ls []) := by
      intro pl_links_6 e_
      subst e_
      try dsimp only at hf
      intro H locs ls hP hD hS hl
      refine lv_aload_n hx hb dX5_setLength_33 rfl (lv_at hl 0 rfl) ?_
      refine va_get (D := E.1) (ci := 5) (v := .ref pl1) (C := RX5) (T := TX5) (N := 9) hx hb hts in_X5_setLength_X5 hown hK hP 0 rfl rfl 0 (by decide) q_1 (fun _ h9 => h9) rfl dX5_setLength_34 ?_
      refine lv_iload_n hx hb dX5_setLength_37 rfl (lv_at hl 1 rfl) ?_
      refine lv_bipush (v := 16) hx hb dX5_setLength_38 (by decide) ?_
      refine lv_imul hx hb dX5_setLength_40 ?_
      refine lv_iload_n hx hb dX5_setLength_41 rfl (lv_at hl 2 rfl) ?_
      refine lv_iadd hx hb dX5_setLength_42 ?_
      refine lv_iload_n hx hb dX5_setLength_43 rfl (lv_at hl 3 rfl) ?_
      obtain ⟨g_7, hf⟩ := gk_s hf
      refine va_iast hx hb hK hP hD hS 1 0 rfl rfl g_7 dX5_setLength_44 (fun H locs hP hD hS => ?_)
      have hP : va_P E.1 vwCl (w_Pl E pl0 pl1 pl2 pl3 pl4 pl_places pl_links_6 pl_mostDrawn pl_ofTen pl_z (upd pl_lengths ((a1 * 16) + a2).toNatClampNeg a3) pl_told pl_delays pl_fractions) H := hP
      have hD : va_D A (w_Pl E pl0 pl1 pl2 pl3 pl4 pl_places pl_links_6 pl_mostDrawn pl_ofTen pl_z (upd pl_lengths ((a1 * 16) + a2).toNatClampNeg a3) pl_told pl_delays pl_fractions) := hD
      refine lv_aload_n hx hb dX5_setLength_45 rfl (lv_at hl 0 rfl) ?_
      refine va_get (D := E.1) (ci := 5) (v := .ref pl1) (C := RX5) (T := TX5) (N := 9) hx hb hts in_X5_setLength_X5 hown hK hP 0 rfl rfl 0 (by decide) q_1 (fun _ h9 => h9) rfl dX5_setLength_46 ?_
      refine lv_iload_n hx hb dX5_setLength_49 rfl (lv_at hl 2 rfl) ?_
      refine lv_bipush (v := 16) hx hb dX5_setLength_50 (by decide) ?_
      refine lv_imul hx hb dX5_setLength_52 ?_
      refine lv_iload_n hx hb dX5_setLength_53 rfl (lv_at hl 1 rfl) ?_
      refine lv_iadd hx hb dX5_setLength_54 ?_
      refine lv_iload_n hx hb dX5_setLength_55 rfl (lv_at hl 3 rfl) ?_
      obtain ⟨g_8, hf⟩ := gk_s hf
      refine va_iast hx hb hK hP hD hS 1 0 rfl rfl g_8 dX5_setLength_56 (fun H locs hP hD hS => ?_)
      have hP : va_P E.1 vwCl (w_Pl E pl0 pl1 pl2 pl3 pl4 pl_places pl_links_6 pl_mostDrawn pl_ofTen pl_z (upd (upd pl_lengths ((a1 * 16) + a2).toNatClampNeg a3) ((a2 * 16) + a1).toNatClampNeg a3) pl_told pl_delays pl_fractions) H := hP
      have hD : va_D A (w_Pl E pl0 pl1 pl2 pl3 pl4 pl_places pl_links_6 pl_mostDrawn pl_ofTen pl_z (upd (upd pl_lengths ((a1 * 16) + a2).toNatClampNeg a3) ((a2 * 16) + a1).toNatClampNeg a3) pl_told pl_delays pl_fractions) := hD
      exact hret H locs ls 57 (pl_links_6, (upd (upd pl_lengths ((a1 * 16) + a2).toNatClampNeg a3) ((a2 * 16) + a1).toNatClampNeg a3)) dX5_setLength_57 (Option.some.inj hf) hP hD hS
    have hf := b_20
    refine lv_if_eq (tgt := 33) hx hb dX5_setLength_20 (by decide) (fun c_5 => ?_) (fun c_5 => ?_)
    · have hf := ite_t c_5 hf
      exact KJ_20 pl_links_4 (Option.some.inj hf) H locs _ hP hD hS (lv_sub hl [0, 1, 2, 3] rfl)
    · have hf := ite_f c_5 hf
      refine lv_aload_n hx hb dX5_setLength_23 rfl (lv_at hl 0 rfl) ?_
      refine lv_dup hx hb dX5_setLength_24 rfl ?_
      refine va_get (D := E.1) (ci := 5) (v := .int pl_links_4) (C := RX5) (T := TX5) (N := 9) hx hb hts in_X5_setLength_X5 hown hK hP 0 rfl rfl 5 (by decide) q_0 (fun _ h9 => h9) rfl dX5_setLength_25 ?_
      refine lv_iconst (v := 1) hx hb dX5_setLength_28 (by decide) ?_
      refine lv_iadd hx hb dX5_setLength_29 ?_
      refine va_put (D := E.1) (ci := 5) (v := .int (pl_links_4 + 1)) (ty := .int) (C := RX5) (T := TX5) (N := 9) hx hb hts in_X5_setLength_X5 tyX5 tyX5_ok nmX5 hown hK hP hD hS 0 rfl rfl 5 (by decide) q_0 (fun _ h9 => h9) rfl (by decide +kernel) rfl rfl (Nat.le_of_ble_eq_true rfl) dX5_setLength_30 (fun H locs hP hD hS => ?_)
      have hP : va_P E.1 vwCl (w_Pl E pl0 pl1 pl2 pl3 pl4 pl_places (pl_links_4 + 1) pl_mostDrawn pl_ofTen pl_z pl_lengths pl_told pl_delays pl_fractions) H := hP
      have hD : va_D A (w_Pl E pl0 pl1 pl2 pl3 pl4 pl_places (pl_links_4 + 1) pl_mostDrawn pl_ofTen pl_z pl_lengths pl_told pl_delays pl_fractions) := hD
      exact KJ_20 (pl_links_4 + 1) (Option.some.inj hf) H locs _ hP hD hS (lv_sub hl [0, 1, 2, 3] rfl)
  have hf := b_6
  refine lv_if_eq (tgt := 19) hx hb dX5_setLength_6 (by decide) (fun c_3 => ?_) (fun c_3 => ?_)
  · have hf := ite_t c_3 hf
    exact KJ_6 pl_links (Option.some.inj hf) H locs _ hP hD hS (lv_sub hl [0, 1, 2, 3] rfl)
  · have hf := ite_f c_3 hf
    refine lv_aload_n hx hb dX5_setLength_9 rfl (lv_at hl 0 rfl) ?_
    refine lv_dup hx hb dX5_setLength_10 rfl ?_
    refine va_get (D := E.1) (ci := 5) (v := .int pl_links) (C := RX5) (T := TX5) (N := 9) hx hb hts in_X5_setLength_X5 hown hK hP 0 rfl rfl 5 (by decide) q_0 (fun _ h9 => h9) rfl dX5_setLength_11 ?_
    refine lv_iconst (v := 1) hx hb dX5_setLength_14 (by decide) ?_
    refine lv_isub hx hb dX5_setLength_15 ?_
    refine va_put (D := E.1) (ci := 5) (v := .int (pl_links - 1)) (ty := .int) (C := RX5) (T := TX5) (N := 9) hx hb hts in_X5_setLength_X5 tyX5 tyX5_ok nmX5 hown hK hP hD hS 0 rfl rfl 5 (by decide) q_0 (fun _ h9 => h9) rfl (by decide +kernel) rfl rfl (Nat.le_of_ble_eq_true rfl) dX5_setLength_16 (fun H locs hP hD hS => ?_)
    have hP : va_P E.1 vwCl (w_Pl E pl0 pl1 pl2 pl3 pl4 pl_places (pl_links - 1) pl_mostDrawn pl_ofTen pl_z pl_lengths pl_told pl_delays pl_fractions) H := hP
    have hD : va_D A (w_Pl E pl0 pl1 pl2 pl3 pl4 pl_places (pl_links - 1) pl_mostDrawn pl_ofTen pl_z pl_lengths pl_told pl_delays pl_fractions) := hD
    exact KJ_6 (pl_links - 1) (Option.some.inj hf) H locs _ hP hD hS (lv_sub hl [0, 1, 2, 3] rfl)
abbrev rm_Pl_linksAt : Room := { frames := 1, cells := 0, slots := 0, locals := 22 }
theorem hd_Pl_linksAt : hdOK yX5_linksAt 1 := by decide +kernel
theorem in_X5_linksAt_X5 : ∀ w ∈ wsX50, w ∈ wsX5_linksAt := by decide +kernel
set_option maxRecDepth 100000 in
set_option maxHeartbeats 4000000 in
theorem c_Pl_linksAt (l : Launch) (E : En4) (pl0 pl1 pl2 pl3 pl4 : Nat) (pl_places : Int32) (pl_links : Int32) (pl_mostDrawn : Int32) (pl_ofTen : Int32) (pl_z : Int32) (pl_lengths : Nat → Int32) (pl_told : Nat → Int32) (pl_delays : Nat → Int32) (pl_fractions : Nat → Int32) (a1 : Int32)  (res : Int32) (hf : Pl_linksAt pl_places pl_lengths a1 = some res) : Met l yX5_linksAt wsX5_linksAt rm_Pl_linksAt (pcR [.ref pl0, .int a1] E (w_Pl E pl0 pl1 pl2 pl3 pl4 pl_places pl_links pl_mostDrawn pl_ofTen pl_z pl_lengths pl_told pl_delays pl_fractions)) (vp_Si (fun r => r = res)) 0 0 (fun _ => False) := by
  refine mk_Ri (cc := cX5_linksAt) (maxL := 4) (by decide) rfl (Nat.le_of_ble_eq_true rfl) ?_
  intro p e s m args below meth c Q S hKN hP hret ls hl
  obtain ⟨hx, hb, hml, hown, hts⟩ := S
  obtain ⟨hK, hN⟩ := hKN
  have hl : lv_has ls 4 [(0, .ref pl0), (1, .int a1)] := hl
  have q_0 := hts (.fieldLink RX5 35 "DelayClusters$Plan" "places" "I") (by decide +kernel)
  unfold Pl_linksAt at hf
  refine lv_iconst (v := 0) hx hb dX5_linksAt_0 (by decide) ?_
  refine lv_istore_n (lv' := [(2, .int 0), (0, .ref pl0), (1, .int a1)]) hx hb dX5_linksAt_1 rfl hl (by decide) rfl (fun ls hl => ?_)
  refine lv_iconst (v := 0) hx hb dX5_linksAt_2 (by decide) ?_
  refine lv_istore_n (lv' := [(3, .int 0), (2, .int 0), (0, .ref pl0), (1, .int a1)]) hx hb dX5_linksAt_3 rfl hl (by decide) rfl (fun ls hl => ?_)
  obtain ⟨w_4, i_4, hf⟩ := bd_s hf
  have KX_4 : ∀ (v2_7 : Int32), v2_7 = w_4 → ∀ (ls : Array Slot), lv_has ls 4 [(2, .int v2_7)] → W p l e rm_Pl_linksAt s m args below meth c s.heap [] 0 0 Q (F0 m 30 ls []) := by
    intro v2_7 e_
    subst e_
    try dsimp only at hf
    intro ls hl
    refine lv_iload_n hx hb dX5_linksAt_30 rfl (lv_at hl 0 rfl) ?_
    exact hret ls 31 v2_7 dX5_linksAt_31 (Option.some.inj hf)
  have KL_4 : ∀ (n_ : Nat) (v2_1 : Int32) (v3_2 : Int32), it (Pl_linksAt_L4 pl_places pl_lengths a1) n_ (v2_1, v3_2) = some w_4 → ∀ (ls : Array Slot), lv_has ls 4 [(0, .ref pl0), (1, .int a1), (2, .int v2_1), (3, .int v3_2)] → W p l e rm_Pl_linksAt s m args below meth c s.heap [] 0 0 Q (F0 m 4 ls []) := by
    intro n_
    induction n_ with
    | zero => intro v2_1 v3_2 hit; exact (it_z hit).elim
    | succ n_4 ih_4 =>
      intro v2_1 v3_2 hit
      intro ls hl
      obtain ⟨x_4, hf, hc_4, hq_4⟩ := it_s hit
      dsimp only [Pl_linksAt_L4] at hf
      refine lv_iload_n hx hb dX5_linksAt_4 rfl (lv_at hl 3 rfl) ?_
      refine lv_aload_n hx hb dX5_linksAt_5 rfl (lv_at hl 0 rfl) ?_
      refine va_get (D := E.1) (ci := 5) (v := .int pl_places) (C := RX5) (T := TX5) (N := 9) hx hb hts in_X5_linksAt_X5 hown hK hP 0 rfl rfl 4 (by decide) q_0 (fun _ h9 => h9) rfl dX5_linksAt_6 ?_
      refine lv_icmp_ge (tgt := 30) hx hb dX5_linksAt_9 (by decide) (fun c_6 => ?_) (fun c_6 => ?_)
      · have hf := ite_t c_6 hf
        exact KX_4 v2_1 (hq_4 _ (Option.some.inj hf).symm) _ (lv_sub hl [2] rfl)
      · have hf := ite_f c_6 hf
        refine lv_aload_n hx hb dX5_linksAt_12 rfl (lv_at hl 0 rfl) ?_
        refine lv_iload_n hx hb dX5_linksAt_13 rfl (lv_at hl 1 rfl) ?_
        refine lv_iload_n hx hb dX5_linksAt_14 rfl (lv_at hl 3 rfl) ?_
        obtain ⟨r_4, h_3, hf⟩ := bd_s hf
        refine ca_V (As := [.int a1, .int v3_2]) (rest := []) ⟨hx, hb, hml, hown, hts⟩ ⟨hK, hN⟩ hP (c_Pl_lengthOf l E pl0 pl1 pl2 pl3 pl4 pl_places pl_links pl_mostDrawn pl_ofTen pl_z pl_lengths pl_told pl_delays pl_fractions a1 v3_2 r_4 h_3) [0, 1, 2, 3, 4] rfl 5 0 rfl rfl rfl gX5_linksAt_X5_lengthOf rfl rfl rfl rfl hd_Pl_lengthOf ⟨(Nat.le_of_ble_eq_true rfl), (Nat.le_of_ble_eq_true rfl)⟩ rfl hl.1 rfl (Nat.le_of_ble_eq_true rfl) dX5_linksAt_15 ⟨(Nat.zero_le _), (Nat.zero_le _)⟩ ?_
        refine lv_if_eq (tgt := 24) hx hb dX5_linksAt_18 (by decide) (fun c_5 => ?_) (fun c_5 => ?_)
        · have hf := ite_t c_5 hf
          refine lv_iinc (v := (v3_2 + 1)) (lv' := [(3, .int (v3_2 + 1)), (0, .ref pl0), (1, .int a1), (2, .int v2_1)]) hx hb dX5_linksAt_24 hl (k := 3) rfl rfl (by decide) rfl (fun ls hl => ?_)
          refine lv_goto (tgt := 4) hx hb dX5_linksAt_27 (by decide) ?_
          exact ih_4 v2_1 (v3_2 + 1) (hc_4 _ (Option.some.inj hf).symm) _ (lv_sub hl [1, 2, 3, 0] rfl)
        · have hf := ite_f c_5 hf
          refine lv_iinc (v := (v2_1 + 1)) (lv' := [(2, .int (v2_1 + 1)), (0, .ref pl0), (1, .int a1), (3, .int v3_2)]) hx hb dX5_linksAt_21 hl (k := 2) rfl rfl (by decide) rfl (fun ls hl => ?_)
          refine lv_iinc (v := (v3_2 + 1)) (lv' := [(3, .int (v3_2 + 1)), (2, .int (v2_1 + 1)), (0, .ref pl0), (1, .int a1)]) hx hb dX5_linksAt_24 hl (k := 3) rfl rfl (by decide) rfl (fun ls hl => ?_)
          refine lv_goto (tgt := 4) hx hb dX5_linksAt_27 (by decide) ?_
          exact ih_4 (v2_1 + 1) (v3_2 + 1) (hc_4 _ (Option.some.inj hf).symm) _ (lv_sub hl [2, 3, 1, 0] rfl)
  exact KL_4 _ 0 0 i_4 _ (lv_sub hl [2, 3, 1, 0] rfl)
abbrev rm_Pl_isTold : Room := { frames := 0, cells := 0, slots := 0, locals := 0 }
theorem hd_Pl_isTold : hdOK yX5_isTold 1 := by decide +kernel
theorem in_X5_isTold_X5 : ∀ w ∈ wsX50, w ∈ wsX5_isTold := by decide +kernel
set_option maxRecDepth 100000 in
set_option maxHeartbeats 4000000 in
theorem c_Pl_isTold (l : Launch) (E : En4) (pl0 pl1 pl2 pl3 pl4 : Nat) (pl_places : Int32) (pl_links : Int32) (pl_mostDrawn : Int32) (pl_ofTen : Int32) (pl_z : Int32) (pl_lengths : Nat → Int32) (pl_told : Nat → Int32) (pl_delays : Nat → Int32) (pl_fractions : Nat → Int32) (a1 : Int32)  (res : Int32) (hf : Pl_isTold pl_told a1 = some res) : Met l yX5_isTold wsX5_isTold rm_Pl_isTold (pcR [.ref pl0, .int a1] E (w_Pl E pl0 pl1 pl2 pl3 pl4 pl_places pl_links pl_mostDrawn pl_ofTen pl_z pl_lengths pl_told pl_delays pl_fractions)) (vp_Si (fun r => r = res)) 0 0 (fun _ => False) := by
  refine mk_Rz (cc := cX5_isTold) (maxL := 2) (by decide) rfl (Nat.le_of_ble_eq_true rfl) ?_
  intro p e s m args below meth c Q S hKN hP hret ls hl
  obtain ⟨hx, hb, hml, hown, hts⟩ := S
  obtain ⟨hK, hN⟩ := hKN
  have hl : lv_has ls 2 [(0, .ref pl0), (1, .int a1)] := hl
  have q_0 := hts (.fieldLink RX5 15 "DelayClusters$Plan" "told" "[Z") (by decide +kernel)
  unfold Pl_isTold at hf
  refine lv_aload_n hx hb dX5_isTold_0 rfl (lv_at hl 0 rfl) ?_
  refine va_get (D := E.1) (ci := 5) (v := .ref pl2) (C := RX5) (T := TX5) (N := 9) hx hb hts in_X5_isTold_X5 hown hK hP 0 rfl rfl 1 (by decide) q_0 (fun _ h9 => h9) rfl dX5_isTold_1 ?_
  refine lv_iload_n hx hb dX5_isTold_4 rfl (lv_at hl 1 rfl) ?_
  obtain ⟨g_1, hf⟩ := gk_s hf
  refine va_zald hx hb hK hP 2 1 rfl rfl g_1 dX5_isTold_5 ?_
  obtain ⟨g_2, hf⟩ := gb_s hf
  exact hret ls 6 (pl_told a1.toNatClampNeg) dX5_isTold_6 g_2 (Option.some.inj hf)
abbrev rm_Pl_tell : Room := { frames := 0, cells := 0, slots := 0, locals := 0 }
theorem hd_Pl_tell : hdOK yX5_tell 3 := by decide +kernel
theorem in_X5_tell_X5 : ∀ w ∈ wsX50, w ∈ wsX5_tell := by decide +kernel
set_option maxRecDepth 100000 in
set_option maxHeartbeats 4000000 in
theorem c_Pl_tell (l : Launch) (E : En4) (pl0 pl1 pl2 pl3 pl4 : Nat) (sz : Nat) (pl_places : Int32) (pl_links : Int32) (pl_mostDrawn : Int32) (pl_ofTen : Int32) (pl_z : Int32) (pl_lengths : Nat → Int32) (pl_told : Nat → Int32) (pl_delays : Nat → Int32) (pl_fractions : Nat → Int32) (a1 : Int32) (a2 : Int32) (a3 : Int32)  (res : (Nat → Int32) × (Nat → Int32) × (Nat → Int32)) (hf : Pl_tell pl_told pl_delays pl_fractions a1 a2 a3 = some res) : Met l yX5_tell wsX5_tell rm_Pl_tell (pcM [.ref pl0, .int a1, .int a2, .int a3] E sz (w_Pl E pl0 pl1 pl2 pl3 pl4 pl_places pl_links pl_mostDrawn pl_ofTen pl_z pl_lengths pl_told pl_delays pl_fractions)) (QMv E sz (w_Pl E pl0 pl1 pl2 pl3 pl4 pl_places pl_links pl_mostDrawn pl_ofTen pl_z pl_lengths pl_told pl_delays pl_fractions) (fun (u : (Nat → Int32) × (Nat → Int32) × (Nat → Int32)) => (w_Pl E pl0 pl1 pl2 pl3 pl4 pl_places pl_links pl_mostDrawn pl_ofTen pl_z pl_lengths u.1 u.2.1 u.2.2)) res) 0 0 (va_A (w_Pl E pl0 pl1 pl2 pl3 pl4 pl_places pl_links pl_mostDrawn pl_ofTen pl_z pl_lengths pl_told pl_delays pl_fractions) sz) := by
  refine mk_Mv (cc := cX5_tell) (maxL := 4) (by decide) rfl (Nat.le_of_ble_eq_true rfl) ?_
  intro p e s m args below meth c Q A S hKN hA hret H locs ls hP hD hS hl
  obtain ⟨hx, hb, hml, hown, hts⟩ := S
  obtain ⟨hK, hN⟩ := hKN
  have hl : lv_has ls 4 [(0, .ref pl0), (1, .int a1), (2, .int a2), (3, .int a3)] := hl
  have q_0 := hts (.fieldLink RX5 15 "DelayClusters$Plan" "told" "[Z") (by decide +kernel)
  have q_1 := hts (.fieldLink RX5 19 "DelayClusters$Plan" "delays" "[I") (by decide +kernel)
  have q_2 := hts (.fieldLink RX5 22 "DelayClusters$Plan" "fractions" "[I") (by decide +kernel)
  unfold Pl_tell at hf
  refine lv_aload_n hx hb dX5_tell_0 rfl (lv_at hl 0 rfl) ?_
  refine va_get (D := E.1) (ci := 5) (v := .ref pl2) (C := RX5) (T := TX5) (N := 9) hx hb hts in_X5_tell_X5 hown hK hP 0 rfl rfl 1 (by decide) q_0 (fun _ h9 => h9) rfl dX5_tell_1 ?_
  refine lv_iload_n hx hb dX5_tell_4 rfl (lv_at hl 1 rfl) ?_
  refine lv_iconst (v := 1) hx hb dX5_tell_5 (by decide) ?_
  obtain ⟨g_1, hf⟩ := gk_s hf
  refine va_zast hx hb hK hP hD hS 2 1 rfl rfl g_1 dX5_tell_6 (fun H locs hP hD hS => ?_)
  have hP : va_P E.1 vwCl (w_Pl E pl0 pl1 pl2 pl3 pl4 pl_places pl_links pl_mostDrawn pl_ofTen pl_z pl_lengths (upd pl_told a1.toNatClampNeg (vp_nar .boolean 1)) pl_delays pl_fractions) H := hP
  have hD : va_D A (w_Pl E pl0 pl1 pl2 pl3 pl4 pl_places pl_links pl_mostDrawn pl_ofTen pl_z pl_lengths (upd pl_told a1.toNatClampNeg (vp_nar .boolean 1)) pl_delays pl_fractions) := hD
  refine lv_aload_n hx hb dX5_tell_7 rfl (lv_at hl 0 rfl) ?_
  refine va_get (D := E.1) (ci := 5) (v := .ref pl3) (C := RX5) (T := TX5) (N := 9) hx hb hts in_X5_tell_X5 hown hK hP 0 rfl rfl 2 (by decide) q_1 (fun _ h9 => h9) rfl dX5_tell_8 ?_
  refine lv_iload_n hx hb dX5_tell_11 rfl (lv_at hl 1 rfl) ?_
  refine lv_iload_n hx hb dX5_tell_12 rfl (lv_at hl 2 rfl) ?_
  obtain ⟨g_2, hf⟩ := gk_s hf
  refine va_iast hx hb hK hP hD hS 3 0 rfl rfl g_2 dX5_tell_13 (fun H locs hP hD hS => ?_)
  have hP : va_P E.1 vwCl (w_Pl E pl0 pl1 pl2 pl3 pl4 pl_places pl_links pl_mostDrawn pl_ofTen pl_z pl_lengths (upd pl_told a1.toNatClampNeg (vp_nar .boolean 1)) (upd pl_delays a1.toNatClampNeg a2) pl_fractions) H := hP
  have hD : va_D A (w_Pl E pl0 pl1 pl2 pl3 pl4 pl_places pl_links pl_mostDrawn pl_ofTen pl_z pl_lengths (upd pl_told a1.toNatClampNeg (vp_nar .boolean 1)) (upd pl_delays a1.toNatClampNeg a2) pl_fractions) := hD
  refine lv_aload_n hx hb dX5_tell_14 rfl (lv_at hl 0 rfl) ?_
  refine va_get (D := E.1) (ci := 5) (v := .ref pl4) (C := RX5) (T := TX5) (N := 9) hx hb hts in_X5_tell_X5 hown hK hP 0 rfl rfl 3 (by decide) q_2 (fun _ h9 => h9) rfl dX5_tell_15 ?_
  refine lv_iload_n hx hb dX5_tell_18 rfl (lv_at hl 1 rfl) ?_
  refine lv_iload_n hx hb dX5_tell_19 rfl (lv_at hl 3 rfl) ?_
  obtain ⟨g_3, hf⟩ := gk_s hf
  refine va_iast hx hb hK hP hD hS 4 0 rfl rfl g_3 dX5_tell_20 (fun H locs hP hD hS => ?_)
  have hP : va_P E.1 vwCl (w_Pl E pl0 pl1 pl2 pl3 pl4 pl_places pl_links pl_mostDrawn pl_ofTen pl_z pl_lengths (upd pl_told a1.toNatClampNeg (vp_nar .boolean 1)) (upd pl_delays a1.toNatClampNeg a2) (upd pl_fractions a1.toNatClampNeg a3)) H := hP
  have hD : va_D A (w_Pl E pl0 pl1 pl2 pl3 pl4 pl_places pl_links pl_mostDrawn pl_ofTen pl_z pl_lengths (upd pl_told a1.toNatClampNeg (vp_nar .boolean 1)) (upd pl_delays a1.toNatClampNeg a2) (upd pl_fractions a1.toNatClampNeg a3)) := hD
  exact hret H locs ls 21 ((upd pl_told a1.toNatClampNeg (vp_nar .boolean 1)), (upd pl_delays a1.toNatClampNeg a2), (upd pl_fractions a1.toNatClampNeg a3)) dX5_tell_21 (Option.some.inj hf) hP hD hS
abbrev rm_Pl_toldDelays : Room := { frames := 0, cells := 0, slots := 0, locals := 0 }
theorem hd_Pl_toldDelays : hdOK yX5_toldDelays 0 := by decide +kernel
theorem in_X5_toldDelays_X5 : ∀ w ∈ wsX50, w ∈ wsX5_toldDelays := by decide +kernel
set_option maxRecDepth 100000 in
set_option maxHeartbeats 4000000 in
theorem c_Pl_toldDelays (l : Launch) (E : En4) (pl0 pl1 pl2 pl3 pl4 : Nat) (pl_places : Int32) (pl_links : Int32) (pl_mostDrawn : Int32) (pl_ofTen : Int32) (pl_z : Int32) (pl_lengths : Nat → Int32) (pl_told : Nat → Int32) (pl_delays : Nat → Int32) (pl_fractions : Nat → Int32)  (res : Int32) (hf : Pl_toldDelays pl_places pl_told = some res) : Met l yX5_toldDelays wsX5_toldDelays rm_Pl_toldDelays (pcR [.ref pl0] E (w_Pl E pl0 pl1 pl2 pl3 pl4 pl_places pl_links pl_mostDrawn pl_ofTen pl_z pl_lengths pl_told pl_delays pl_fractions)) (vp_Si (fun r => r = res)) 0 0 (fun _ => False) := by
  refine mk_Ri (cc := cX5_toldDelays) (maxL := 3) (by decide) rfl (Nat.le_of_ble_eq_true rfl) ?_
  intro p e s m args below meth c Q S hKN hP hret ls hl
  obtain ⟨hx, hb, hml, hown, hts⟩ := S
  obtain ⟨hK, hN⟩ := hKN
  have hl : lv_has ls 3 [(0, .ref pl0)] := hl
  have q_0 := hts (.fieldLink RX5 35 "DelayClusters$Plan" "places" "I") (by decide +kernel)
  have q_1 := hts (.fieldLink RX5 15 "DelayClusters$Plan" "told" "[Z") (by decide +kernel)
  unfold Pl_toldDelays at hf
  refine lv_iconst (v := 0) hx hb dX5_toldDelays_0 (by decide) ?_
  refine lv_istore_n (lv' := [(1, .int 0), (0, .ref pl0)]) hx hb dX5_toldDelays_1 rfl hl (by decide) rfl (fun ls hl => ?_)
  refine lv_iconst (v := 0) hx hb dX5_toldDelays_2 (by decide) ?_
  refine lv_istore_n (lv' := [(2, .int 0), (1, .int 0), (0, .ref pl0)]) hx hb dX5_toldDelays_3 rfl hl (by decide) rfl (fun ls hl => ?_)
  obtain ⟨w_4, i_4, hf⟩ := bd_s hf
  have KX_4 : ∀ (v1_6 : Int32), v1_6 = w_4 → ∀ (ls : Array Slot), lv_has ls 3 [(1, .int v1_6)] → W p l e rm_Pl_toldDelays s m args below meth c s.heap [] 0 0 Q (F0 m 30 ls []) := by
    intro v1_6 e_
    subst e_
    try dsimp only at hf
    intro ls hl
    refine lv_iload_n hx hb dX5_toldDelays_30 rfl (lv_at hl 0 rfl) ?_
    exact hret ls 31 v1_6 dX5_toldDelays_31 (Option.some.inj hf)
  have KL_4 : ∀ (n_ : Nat) (v1_1 : Int32) (v2_2 : Int32), it (Pl_toldDelays_L4 pl_places pl_told) n_ (v1_1, v2_2) = some w_4 → ∀ (ls : Array Slot), lv_has ls 3 [(0, .ref pl0), (1, .int v1_1), (2, .int v2_2)] → W p l e rm_Pl_toldDelays s m args below meth c s.heap [] 0 0 Q (F0 m 4 ls []) := by
    intro n_
    induction n_ with
    | zero => intro v1_1 v2_2 hit; exact (it_z hit).elim
    | succ n_4 ih_4 =>
      intro v1_1 v2_2 hit
      intro ls hl
      obtain ⟨x_4, hf, hc_4, hq_4⟩ := it_s hit
      dsimp only [Pl_toldDelays_L4] at hf
      refine lv_iload_n hx hb dX5_toldDelays_4 rfl (lv_at hl 2 rfl) ?_
      refine lv_aload_n hx hb dX5_toldDelays_5 rfl (lv_at hl 0 rfl) ?_
      refine va_get (D := E.1) (ci := 5) (v := .int pl_places) (C := RX5) (T := TX5) (N := 9) hx hb hts in_X5_toldDelays_X5 hown hK hP 0 rfl rfl 4 (by decide) q_0 (fun _ h9 => h9) rfl dX5_toldDelays_6 ?_
      refine lv_icmp_ge (tgt := 30) hx hb dX5_toldDelays_9 (by decide) (fun c_5 => ?_) (fun c_5 => ?_)
      · have hf := ite_t c_5 hf
        exact KX_4 v1_1 (hq_4 _ (Option.some.inj hf).symm) _ (lv_sub hl [1] rfl)
      · have hf := ite_f c_5 hf
        refine lv_aload_n hx hb dX5_toldDelays_12 rfl (lv_at hl 0 rfl) ?_
        refine va_get (D := E.1) (ci := 5) (v := .ref pl2) (C := RX5) (T := TX5) (N := 9) hx hb hts in_X5_toldDelays_X5 hown hK hP 0 rfl rfl 1 (by decide) q_1 (fun _ h9 => h9) rfl dX5_toldDelays_13 ?_
        refine lv_iload_n hx hb dX5_toldDelays_16 rfl (lv_at hl 2 rfl) ?_
        obtain ⟨g_3, hf⟩ := gk_s hf
        refine va_zald hx hb hK hP 2 1 rfl rfl g_3 dX5_toldDelays_17 ?_
        refine lv_if_eq (tgt := 24) hx hb dX5_toldDelays_18 (by decide) (fun c_4 => ?_) (fun c_4 => ?_)
        · have hf := ite_t c_4 hf
          refine lv_iinc (v := (v2_2 + 1)) (lv' := [(2, .int (v2_2 + 1)), (0, .ref pl0), (1, .int v1_1)]) hx hb dX5_toldDelays_24 hl (k := 2) rfl rfl (by decide) rfl (fun ls hl => ?_)
          refine lv_goto (tgt := 4) hx hb dX5_toldDelays_27 (by decide) ?_
          exact ih_4 v1_1 (v2_2 + 1) (hc_4 _ (Option.some.inj hf).symm) _ (lv_sub hl [1, 2, 0] rfl)
        · have hf := ite_f c_4 hf
          refine lv_iinc (v := (v1_1 + 1)) (lv' := [(1, .int (v1_1 + 1)), (0, .ref pl0), (2, .int v2_2)]) hx hb dX5_toldDelays_21 hl (k := 1) rfl rfl (by decide) rfl (fun ls hl => ?_)
          refine lv_iinc (v := (v2_2 + 1)) (lv' := [(2, .int (v2_2 + 1)), (1, .int (v1_1 + 1)), (0, .ref pl0)]) hx hb dX5_toldDelays_24 hl (k := 2) rfl rfl (by decide) rfl (fun ls hl => ?_)
          refine lv_goto (tgt := 4) hx hb dX5_toldDelays_27 (by decide) ?_
          exact ih_4 (v1_1 + 1) (v2_2 + 1) (hc_4 _ (Option.some.inj hf).symm) _ (lv_sub hl [2, 1, 0] rfl)
  exact KL_4 _ 0 0 i_4 _ (lv_sub hl [2, 1, 0] rfl)
abbrev rm_Pl_drawnNumber : Room := { frames := 0, cells := 0, slots := 0, locals := 0 }
theorem hd_Pl_drawnNumber : hdOK yX5_drawnNumber 3 := by decide +kernel
set_option maxRecDepth 100000 in
set_option maxHeartbeats 4000000 in
theorem c_Pl_drawnNumber (l : Launch) (E : En4) (a0 : Int32) (a1 : Int32) (a2 : Int32)  (res : Int32) (hf : Pl_drawnNumber a0 a1 a2 = some res) : Met l yX5_drawnNumber wsX5_drawnNumber rm_Pl_drawnNumber (pcR [.int a0, .int a1, .int a2] E (w_No E)) (vp_Si (fun r => r = res)) 0 0 (fun _ => False) := by
  refine mk_Ri (cc := cX5_drawnNumber) (maxL := 5) (by decide) rfl (Nat.le_of_ble_eq_true rfl) ?_
  intro p e s m args below meth c Q S hKN hP hret ls hl
  obtain ⟨hx, hb, hml, hown, hts⟩ := S
  obtain ⟨hK, hN⟩ := hKN
  have hl : lv_has ls 5 [(0, .int a0), (1, .int a1), (2, .int a2)] := hl
  have q_0 := hts (.constantLong RX5 72 (7919)) (by decide +kernel)
  have q_1 := hts (.constantLong RX5 74 (6151)) (by decide +kernel)
  have q_2 := hts (.constantLong RX5 76 (3571)) (by decide +kernel)
  have q_3 := hts (.constantLong RX5 78 (65521)) (by decide +kernel)
  unfold Pl_drawnNumber at hf
  refine lv_ldc2 (v := 7919) hx hb hown q_0 dX5_drawnNumber_0 ?_
  refine lv_iload_n hx hb dX5_drawnNumber_3 rfl (lv_at hl 0 rfl) ?_
  refine lv_i2l (v := (a0 : Int32).toInt64) hx hb dX5_drawnNumber_4 rfl ?_
  refine lv_lmul hx hb dX5_drawnNumber_5 ?_
  refine lv_ldc2 (v := 6151) hx hb hown q_1 dX5_drawnNumber_6 ?_
  refine lv_iload_n hx hb dX5_drawnNumber_9 rfl (lv_at hl 1 rfl) ?_
  refine lv_i2l (v := (a1 : Int32).toInt64) hx hb dX5_drawnNumber_10 rfl ?_
  refine lv_lmul hx hb dX5_drawnNumber_11 ?_
  refine lv_ladd hx hb dX5_drawnNumber_12 ?_
  refine lv_ldc2 (v := 3571) hx hb hown q_2 dX5_drawnNumber_13 ?_
  refine lv_iload_n hx hb dX5_drawnNumber_16 rfl (lv_at hl 2 rfl) ?_
  refine lv_i2l (v := (a2 : Int32).toInt64) hx hb dX5_drawnNumber_17 rfl ?_
  refine lv_lmul hx hb dX5_drawnNumber_18 ?_
  refine lv_ladd hx hb dX5_drawnNumber_19 ?_
  refine lv_lconst (v := 1) hx hb dX5_drawnNumber_20 (by decide) ?_
  refine lv_ladd hx hb dX5_drawnNumber_21 ?_
  refine lv_lstore_n (lv' := [(3, .long ((((7919 * ((a0 : Int32).toInt64)) + (6151 * ((a1 : Int32).toInt64))) + (3571 * ((a2 : Int32).toInt64))) + 1)), (0, .int a0), (1, .int a1), (2, .int a2)]) hx hb dX5_drawnNumber_22 rfl hl (by decide) rfl (fun ls hl => ?_)
  refine lv_lload_n hx hb dX5_drawnNumber_23 rfl (lv_at hl 0 rfl) ?_
  refine lv_lload_n hx hb dX5_drawnNumber_24 rfl (lv_at hl 0 rfl) ?_
  refine lv_lmul hx hb dX5_drawnNumber_25 ?_
  refine lv_ldc2 (v := 65521) hx hb hown q_3 dX5_drawnNumber_26 ?_
  refine lv_lrem hx hb dX5_drawnNumber_29 (by decide) ?_
  refine lv_l2i (v := (((((((7919 * ((a0 : Int32).toInt64)) + (6151 * ((a1 : Int32).toInt64))) + (3571 * ((a2 : Int32).toInt64))) + 1) * ((((7919 * ((a0 : Int32).toInt64)) + (6151 * ((a1 : Int32).toInt64))) + (3571 * ((a2 : Int32).toInt64))) + 1)) - (((((7919 * ((a0 : Int32).toInt64)) + (6151 * ((a1 : Int32).toInt64))) + (3571 * ((a2 : Int32).toInt64))) + 1) * ((((7919 * ((a0 : Int32).toInt64)) + (6151 * ((a1 : Int32).toInt64))) + (3571 * ((a2 : Int32).toInt64))) + 1)) / 65521 * 65521) : Int64).toInt32) hx hb dX5_drawnNumber_30 rfl ?_
  exact hret ls 31 ((((((((7919 * ((a0 : Int32).toInt64)) + (6151 * ((a1 : Int32).toInt64))) + (3571 * ((a2 : Int32).toInt64))) + 1) * ((((7919 * ((a0 : Int32).toInt64)) + (6151 * ((a1 : Int32).toInt64))) + (3571 * ((a2 : Int32).toInt64))) + 1)) - (((((7919 * ((a0 : Int32).toInt64)) + (6151 * ((a1 : Int32).toInt64))) + (3571 * ((a2 : Int32).toInt64))) + 1) * ((((7919 * ((a0 : Int32).toInt64)) + (6151 * ((a1 : Int32).toInt64))) + (3571 * ((a2 : Int32).toInt64))) + 1)) / 65521 * 65521) : Int64).toInt32) dX5_drawnNumber_31 (Option.some.inj hf)
abbrev rm_Pl_drawnDelay : Room := { frames := 1, cells := 0, slots := 0, locals := 24 }
theorem hd_Pl_drawnDelay : hdOK yX5_drawnDelay 2 := by decide +kernel
theorem in_X5_drawnDelay_X5 : ∀ w ∈ wsX50, w ∈ wsX5_drawnDelay := by decide +kernel
set_option maxRecDepth 100000 in
set_option maxHeartbeats 4000000 in
theorem c_Pl_drawnDelay (l : Launch) (E : En4) (pl0 pl1 pl2 pl3 pl4 : Nat) (pl_places : Int32) (pl_links : Int32) (pl_mostDrawn : Int32) (pl_ofTen : Int32) (pl_z : Int32) (pl_lengths : Nat → Int32) (pl_told : Nat → Int32) (pl_delays : Nat → Int32) (pl_fractions : Nat → Int32) (a1 : Int32) (a2 : Int32)  (res : Int32) (hf : Pl_drawnDelay pl_mostDrawn pl_ofTen a1 a2 = some res) : Met l yX5_drawnDelay wsX5_drawnDelay rm_Pl_drawnDelay (pcR [.ref pl0, .int a1, .int a2] E (w_Pl E pl0 pl1 pl2 pl3 pl4 pl_places pl_links pl_mostDrawn pl_ofTen pl_z pl_lengths pl_told pl_delays pl_fractions)) (vp_Si (fun r => r = res)) 0 0 (fun _ => False) := by
  refine mk_Ri (cc := cX5_drawnDelay) (maxL := 4) (by decide) rfl (Nat.le_of_ble_eq_true rfl) ?_
  intro p e s m args below meth c Q S hKN hP hret ls hl
  obtain ⟨hx, hb, hml, hown, hts⟩ := S
  obtain ⟨hK, hN⟩ := hKN
  have hl : lv_has ls 4 [(0, .ref pl0), (1, .int a1), (2, .int a2)] := hl
  have q_0 := hts (.fieldLink RX5 42 "DelayClusters$Plan" "mostDrawn" "I") (by decide +kernel)
  have q_1 := hts (.fieldLink RX5 45 "DelayClusters$Plan" "ofTen" "I") (by decide +kernel)
  unfold Pl_drawnDelay at hf
  refine lv_iconst (v := 0) hx hb dX5_drawnDelay_0 (by decide) ?_
  refine lv_istore_n (lv' := [(3, .int 0), (0, .ref pl0), (1, .int a1), (2, .int a2)]) hx hb dX5_drawnDelay_1 rfl hl (by decide) rfl (fun ls hl => ?_)
  obtain ⟨w_2, i_2, hf⟩ := bd_s hf
  have KE_2 : ∀ y_, Sum.inr y_ = w_2 → some y_ = some res := by intro y_ e_; subst e_; exact hf
  have KX_2 : Sum.inl () = w_2 → ∀ (ls : Array Slot), lv_has ls 4 [(0, .ref pl0)] → W p l e rm_Pl_drawnDelay s m args below meth c s.heap [] 0 0 Q (F0 m 34 ls []) := by
    intro e_
    subst e_
    try dsimp only at hf
    intro ls hl
    refine lv_aload_n hx hb dX5_drawnDelay_34 rfl (lv_at hl 0 rfl) ?_
    refine va_get (D := E.1) (ci := 5) (v := .int pl_mostDrawn) (C := RX5) (T := TX5) (N := 9) hx hb hts in_X5_drawnDelay_X5 hown hK hP 0 rfl rfl 6 (by decide) q_0 (fun _ h9 => h9) rfl dX5_drawnDelay_35 ?_
    exact hret ls 38 pl_mostDrawn dX5_drawnDelay_38 (Option.some.inj hf)
  have KL_2 : ∀ (n_ : Nat) (v3_1 : Int32), it (Pl_drawnDelay_L2 pl_mostDrawn pl_ofTen a1 a2) n_ v3_1 = some w_2 → ∀ (ls : Array Slot), lv_has ls 4 [(0, .ref pl0), (1, .int a1), (2, .int a2), (3, .int v3_1)] → W p l e rm_Pl_drawnDelay s m args below meth c s.heap [] 0 0 Q (F0 m 2 ls []) := by
    intro n_
    induction n_ with
    | zero => intro v3_1 hit; exact (it_z hit).elim
    | succ n_2 ih_2 =>
      intro v3_1 hit
      intro ls hl
      obtain ⟨x_2, hf, hc_2, hq_2⟩ := it_s hit
      dsimp only [Pl_drawnDelay_L2] at hf
      refine lv_iload_n hx hb dX5_drawnDelay_2 rfl (lv_at hl 3 rfl) ?_
      refine lv_aload_n hx hb dX5_drawnDelay_3 rfl (lv_at hl 0 rfl) ?_
      refine va_get (D := E.1) (ci := 5) (v := .int pl_mostDrawn) (C := RX5) (T := TX5) (N := 9) hx hb hts in_X5_drawnDelay_X5 hown hK hP 0 rfl rfl 6 (by decide) q_0 (fun _ h9 => h9) rfl dX5_drawnDelay_4 ?_
      refine lv_icmp_ge (tgt := 34) hx hb dX5_drawnDelay_7 (by decide) (fun c_5 => ?_) (fun c_5 => ?_)
      · have hf := ite_t c_5 hf
        exact KX_2 (hq_2 _ (Option.some.inj hf).symm) _ (lv_sub hl [0] rfl)
      · have hf := ite_f c_5 hf
        refine lv_iload_n hx hb dX5_drawnDelay_10 rfl (lv_at hl 1 rfl) ?_
        refine lv_iload_n hx hb dX5_drawnDelay_11 rfl (lv_at hl 2 rfl) ?_
        refine lv_iload_n hx hb dX5_drawnDelay_12 rfl (lv_at hl 3 rfl) ?_
        obtain ⟨r_3, h_2, hf⟩ := bd_s hf
        refine ca_S (As := [.int a1, .int a2, .int v3_1]) (rest := []) ⟨hx, hb, hml, hown, hts⟩ ⟨hK, hN⟩ hP (c_Pl_drawnNumber l E   a1 a2 v3_1 r_3 h_2) [] rfl gX5_drawnDelay_X5_drawnNumber rfl rfl rfl hd_Pl_drawnNumber ⟨(Nat.le_of_ble_eq_true rfl), (Nat.le_of_ble_eq_true rfl)⟩ rfl hl.1 rfl (Nat.le_of_ble_eq_true rfl) dX5_drawnDelay_13 ⟨(Nat.zero_le _), (Nat.zero_le _)⟩ ?_
        refine lv_bipush (v := 10) hx hb dX5_drawnDelay_16 (by decide) ?_
        refine lv_irem hx hb dX5_drawnDelay_18 (by decide) ?_
        refine lv_aload_n hx hb dX5_drawnDelay_19 rfl (lv_at hl 0 rfl) ?_
        refine va_get (D := E.1) (ci := 5) (v := .int pl_ofTen) (C := RX5) (T := TX5) (N := 9) hx hb hts in_X5_drawnDelay_X5 hown hK hP 0 rfl rfl 7 (by decide) q_1 (fun _ h9 => h9) rfl dX5_drawnDelay_20 ?_
        refine lv_icmp_lt (tgt := 28) hx hb dX5_drawnDelay_23 (by decide) (fun c_4 => ?_) (fun c_4 => ?_)
        · have hf := ite_t c_4 hf
          refine lv_iinc (v := (v3_1 + 1)) (lv' := [(3, .int (v3_1 + 1)), (0, .ref pl0), (1, .int a1), (2, .int a2)]) hx hb dX5_drawnDelay_28 hl (k := 3) rfl rfl (by decide) rfl (fun ls hl => ?_)
          refine lv_goto (tgt := 2) hx hb dX5_drawnDelay_31 (by decide) ?_
          exact ih_2 (v3_1 + 1) (hc_2 _ (Option.some.inj hf).symm) _ (lv_sub hl [1, 2, 3, 0] rfl)
        · have hf := ite_f c_4 hf
          refine lv_iload_n hx hb dX5_drawnDelay_26 rfl (lv_at hl 3 rfl) ?_
          have hf := KE_2 _ (hq_2 _ (Option.some.inj hf).symm)
          exact hret ls 27 v3_1 dX5_drawnDelay_27 (Option.some.inj hf)
  exact KL_2 _ 0 i_2 _ (lv_sub hl [1, 2, 3, 0] rfl)
abbrev rm_Pl_delayBy : Room := { frames := 2, cells := 0, slots := 0, locals := 47 }
theorem hd_Pl_delayBy : hdOK yX5_delayBy 2 := by decide +kernel
theorem in_X5_delayBy_X5 : ∀ w ∈ wsX50, w ∈ wsX5_delayBy := by decide +kernel
set_option maxRecDepth 100000 in
set_option maxHeartbeats 4000000 in
theorem c_Pl_delayBy (l : Launch) (E : En4) (pl0 pl1 pl2 pl3 pl4 : Nat) (pl_places : Int32) (pl_links : Int32) (pl_mostDrawn : Int32) (pl_ofTen : Int32) (pl_z : Int32) (pl_lengths : Nat → Int32) (pl_told : Nat → Int32) (pl_delays : Nat → Int32) (pl_fractions : Nat → Int32) (a1 : Int32) (a2 : Int32)  (res : Int32) (hf : Pl_delayBy pl_mostDrawn pl_ofTen pl_told pl_delays a1 a2 = some res) : Met l yX5_delayBy wsX5_delayBy rm_Pl_delayBy (pcR [.ref pl0, .int a1, .int a2] E (w_Pl E pl0 pl1 pl2 pl3 pl4 pl_places pl_links pl_mostDrawn pl_ofTen pl_z pl_lengths pl_told pl_delays pl_fractions)) (vp_Si (fun r => r = res)) 0 0 (fun _ => False) := by
  refine mk_Ri (cc := cX5_delayBy) (maxL := 3) (by decide) rfl (Nat.le_of_ble_eq_true rfl) ?_
  intro p e s m args below meth c Q S hKN hP hret ls hl
  obtain ⟨hx, hb, hml, hown, hts⟩ := S
  obtain ⟨hK, hN⟩ := hKN
  have hl : lv_has ls 3 [(0, .ref pl0), (1, .int a1), (2, .int a2)] := hl
  have q_0 := hts (.fieldLink RX5 15 "DelayClusters$Plan" "told" "[Z") (by decide +kernel)
  have q_1 := hts (.fieldLink RX5 19 "DelayClusters$Plan" "delays" "[I") (by decide +kernel)
  unfold Pl_delayBy at hf
  refine lv_aload_n hx hb dX5_delayBy_0 rfl (lv_at hl 0 rfl) ?_
  refine va_get (D := E.1) (ci := 5) (v := .ref pl2) (C := RX5) (T := TX5) (N := 9) hx hb hts in_X5_delayBy_X5 hown hK hP 0 rfl rfl 1 (by decide) q_0 (fun _ h9 => h9) rfl dX5_delayBy_1 ?_
  refine lv_iload_n hx hb dX5_delayBy_4 rfl (lv_at hl 2 rfl) ?_
  obtain ⟨g_1, hf⟩ := gk_s hf
  refine va_zald hx hb hK hP 2 1 rfl rfl g_1 dX5_delayBy_5 ?_
  refine lv_if_eq (tgt := 18) hx hb dX5_delayBy_6 (by decide) (fun c_5 => ?_) (fun c_5 => ?_)
  · have hf := ite_t c_5 hf
    refine lv_aload_n hx hb dX5_delayBy_18 rfl (lv_at hl 0 rfl) ?_
    refine lv_iload_n hx hb dX5_delayBy_19 rfl (lv_at hl 1 rfl) ?_
    refine lv_iload_n hx hb dX5_delayBy_20 rfl (lv_at hl 2 rfl) ?_
    obtain ⟨r_3, h_2, hf⟩ := bd_s hf
    refine ca_V (As := [.int a1, .int a2]) (rest := []) ⟨hx, hb, hml, hown, hts⟩ ⟨hK, hN⟩ hP (c_Pl_drawnDelay l E pl0 pl1 pl2 pl3 pl4 pl_places pl_links pl_mostDrawn pl_ofTen pl_z pl_lengths pl_told pl_delays pl_fractions a1 a2 r_3 h_2) [0, 1, 2, 3, 4] rfl 5 0 rfl rfl rfl gX5_delayBy_X5_drawnDelay rfl rfl rfl rfl hd_Pl_drawnDelay ⟨(Nat.le_of_ble_eq_true rfl), (Nat.le_of_ble_eq_true rfl)⟩ rfl hl.1 rfl (Nat.le_of_ble_eq_true rfl) dX5_delayBy_21 ⟨(Nat.zero_le _), (Nat.zero_le _)⟩ ?_
    exact hret ls 24 r_3 dX5_delayBy_24 (Option.some.inj hf)
  · have hf := ite_f c_5 hf
    refine lv_aload_n hx hb dX5_delayBy_9 rfl (lv_at hl 0 rfl) ?_
    refine va_get (D := E.1) (ci := 5) (v := .ref pl3) (C := RX5) (T := TX5) (N := 9) hx hb hts in_X5_delayBy_X5 hown hK hP 0 rfl rfl 2 (by decide) q_1 (fun _ h9 => h9) rfl dX5_delayBy_10 ?_
    refine lv_iload_n hx hb dX5_delayBy_13 rfl (lv_at hl 2 rfl) ?_
    obtain ⟨g_4, hf⟩ := gk_s hf
    refine va_iald hx hb hK hP 3 0 rfl rfl g_4 dX5_delayBy_14 ?_
    refine lv_goto (tgt := 24) hx hb dX5_delayBy_15 (by decide) ?_
    exact hret ls 24 (pl_delays a2.toNatClampNeg) dX5_delayBy_24 (Option.some.inj hf)
abbrev rm_Pl_fractionBy : Room := { frames := 1, cells := 0, slots := 0, locals := 24 }
theorem hd_Pl_fractionBy : hdOK yX5_fractionBy 2 := by decide +kernel
theorem in_X5_fractionBy_X5 : ∀ w ∈ wsX50, w ∈ wsX5_fractionBy := by decide +kernel
set_option maxRecDepth 100000 in
set_option maxHeartbeats 4000000 in
theorem c_Pl_fractionBy (l : Launch) (E : En4) (pl0 pl1 pl2 pl3 pl4 : Nat) (pl_places : Int32) (pl_links : Int32) (pl_mostDrawn : Int32) (pl_ofTen : Int32) (pl_z : Int32) (pl_lengths : Nat → Int32) (pl_told : Nat → Int32) (pl_delays : Nat → Int32) (pl_fractions : Nat → Int32) (a1 : Int32) (a2 : Int32)  (res : Int32) (hf : Pl_fractionBy pl_told pl_fractions a1 a2 = some res) : Met l yX5_fractionBy wsX5_fractionBy rm_Pl_fractionBy (pcR [.ref pl0, .int a1, .int a2] E (w_Pl E pl0 pl1 pl2 pl3 pl4 pl_places pl_links pl_mostDrawn pl_ofTen pl_z pl_lengths pl_told pl_delays pl_fractions)) (vp_Si (fun r => r = res)) 0 0 (fun _ => False) := by
  refine mk_Ri (cc := cX5_fractionBy) (maxL := 3) (by decide) rfl (Nat.le_of_ble_eq_true rfl) ?_
  intro p e s m args below meth c Q S hKN hP hret ls hl
  obtain ⟨hx, hb, hml, hown, hts⟩ := S
  obtain ⟨hK, hN⟩ := hKN
  have hl : lv_has ls 3 [(0, .ref pl0), (1, .int a1), (2, .int a2)] := hl
  have q_0 := hts (.fieldLink RX5 15 "DelayClusters$Plan" "told" "[Z") (by decide +kernel)
  have q_1 := hts (.fieldLink RX5 22 "DelayClusters$Plan" "fractions" "[I") (by decide +kernel)
  unfold Pl_fractionBy at hf
  refine lv_aload_n hx hb dX5_fractionBy_0 rfl (lv_at hl 0 rfl) ?_
  refine va_get (D := E.1) (ci := 5) (v := .ref pl2) (C := RX5) (T := TX5) (N := 9) hx hb hts in_X5_fractionBy_X5 hown hK hP 0 rfl rfl 1 (by decide) q_0 (fun _ h9 => h9) rfl dX5_fractionBy_1 ?_
  refine lv_iload_n hx hb dX5_fractionBy_4 rfl (lv_at hl 2 rfl) ?_
  obtain ⟨g_1, hf⟩ := gk_s hf
  refine va_zald hx hb hK hP 2 1 rfl rfl g_1 dX5_fractionBy_5 ?_
  refine lv_if_eq (tgt := 18) hx hb dX5_fractionBy_6 (by decide) (fun c_5 => ?_) (fun c_5 => ?_)
  · have hf := ite_t c_5 hf
    refine lv_iload_n hx hb dX5_fractionBy_18 rfl (lv_at hl 1 rfl) ?_
    refine lv_iload_n hx hb dX5_fractionBy_19 rfl (lv_at hl 2 rfl) ?_
    refine lv_bipush (v := 99) hx hb dX5_fractionBy_20 (by decide) ?_
    obtain ⟨r_3, h_2, hf⟩ := bd_s hf
    refine ca_S (As := [.int a1, .int a2, .int 99]) (rest := []) ⟨hx, hb, hml, hown, hts⟩ ⟨hK, hN⟩ hP (c_Pl_drawnNumber l E   a1 a2 99 r_3 h_2) [] rfl gX5_fractionBy_X5_drawnNumber rfl rfl rfl hd_Pl_drawnNumber ⟨(Nat.le_of_ble_eq_true rfl), (Nat.le_of_ble_eq_true rfl)⟩ rfl hl.1 rfl (Nat.le_of_ble_eq_true rfl) dX5_fractionBy_22 ⟨(Nat.zero_le _), (Nat.zero_le _)⟩ ?_
    refine lv_sipush (v := 1000) hx hb dX5_fractionBy_25 (by decide) ?_
    refine lv_irem hx hb dX5_fractionBy_28 (by decide) ?_
    exact hret ls 29 (r_3 - r_3 / 1000 * 1000) dX5_fractionBy_29 (Option.some.inj hf)
  · have hf := ite_f c_5 hf
    refine lv_aload_n hx hb dX5_fractionBy_9 rfl (lv_at hl 0 rfl) ?_
    refine va_get (D := E.1) (ci := 5) (v := .ref pl4) (C := RX5) (T := TX5) (N := 9) hx hb hts in_X5_fractionBy_X5 hown hK hP 0 rfl rfl 3 (by decide) q_1 (fun _ h9 => h9) rfl dX5_fractionBy_10 ?_
    refine lv_iload_n hx hb dX5_fractionBy_13 rfl (lv_at hl 2 rfl) ?_
    obtain ⟨g_4, hf⟩ := gk_s hf
    refine va_iald hx hb hK hP 4 0 rfl rfl g_4 dX5_fractionBy_14 ?_
    refine lv_goto (tgt := 29) hx hb dX5_fractionBy_15 (by decide) ?_
    exact hret ls 29 (pl_fractions a2.toNatClampNeg) dX5_fractionBy_29 (Option.some.inj hf)
abbrev rm_Pa_between : Room := { frames := 0, cells := 0, slots := 0, locals := 0 }
theorem hd_Pa_between : hdOK yX4_between 2 := by decide +kernel
theorem in_X4_between_X4 : ∀ w ∈ wsX40, w ∈ wsX4_between := by decide +kernel
set_option maxRecDepth 100000 in
set_option maxHeartbeats 4000000 in
theorem c_Pa_between (l : Launch) (E : En4) (pa0 pa1 : Nat) (pa_sums : Nat → Int32) (a1 : Int32) (a2 : Int32)  (res : Int32) (hf : Pa_between pa_sums a1 a2 = some res) : Met l yX4_between wsX4_between rm_Pa_between (pcR [.ref pa0, .int a1, .int a2] E (w_Pa E pa0 pa1 pa_sums)) (vp_Si (fun r => r = res)) 0 0 (fun _ => False) := by
  refine mk_Ri (cc := cX4_between) (maxL := 3) (by decide) rfl (Nat.le_of_ble_eq_true rfl) ?_
  intro p e s m args below meth c Q S hKN hP hret ls hl
  obtain ⟨hx, hb, hml, hown, hts⟩ := S
  obtain ⟨hK, hN⟩ := hKN
  have hl : lv_has ls 3 [(0, .ref pa0), (1, .int a1), (2, .int a2)] := hl
  have q_0 := hts (.fieldLink RX4 9 "DelayClusters$Paths" "sums" "[I") (by decide +kernel)
  unfold Pa_between at hf
  refine lv_aload_n hx hb dX4_between_0 rfl (lv_at hl 0 rfl) ?_
  refine va_get (D := E.1) (ci := 4) (v := .ref pa1) (C := RX4) (T := TX4) (N := 1) hx hb hts in_X4_between_X4 hown hK hP 0 rfl rfl 0 (by decide) q_0 (fun _ h9 => h9) rfl dX4_between_1 ?_
  refine lv_iload_n hx hb dX4_between_4 rfl (lv_at hl 1 rfl) ?_
  refine lv_bipush (v := 16) hx hb dX4_between_5 (by decide) ?_
  refine lv_imul hx hb dX4_between_7 ?_
  refine lv_iload_n hx hb dX4_between_8 rfl (lv_at hl 2 rfl) ?_
  refine lv_iadd hx hb dX4_between_9 ?_
  obtain ⟨g_1, hf⟩ := gk_s hf
  refine va_iald hx hb hK hP 1 0 rfl rfl g_1 dX4_between_10 ?_
  exact hret ls 11 (pa_sums ((a1 * 16) + a2).toNatClampNeg) dX4_between_11 (Option.some.inj hf)
abbrev rm_Pa_areJoined : Room := { frames := 1, cells := 0, slots := 0, locals := 22 }
theorem hd_Pa_areJoined : hdOK yX4_areJoined 2 := by decide +kernel
set_option maxRecDepth 100000 in
set_option maxHeartbeats 4000000 in
theorem c_Pa_areJoined (l : Launch) (E : En4) (pa0 pa1 : Nat) (pa_sums : Nat → Int32) (a1 : Int32) (a2 : Int32)  (res : Int32) (hf : Pa_areJoined pa_sums a1 a2 = some res) : Met l yX4_areJoined wsX4_areJoined rm_Pa_areJoined (pcR [.ref pa0, .int a1, .int a2] E (w_Pa E pa0 pa1 pa_sums)) (vp_Si (fun r => r = res)) 0 0 (fun _ => False) := by
  refine mk_Rz (cc := cX4_areJoined) (maxL := 3) (by decide) rfl (Nat.le_of_ble_eq_true rfl) ?_
  intro p e s m args below meth c Q S hKN hP hret ls hl
  obtain ⟨hx, hb, hml, hown, hts⟩ := S
  obtain ⟨hK, hN⟩ := hKN
  have hl : lv_has ls 3 [(0, .ref pa0), (1, .int a1), (2, .int a2)] := hl
  have q_0 := hts (.constant RX4 25 (1000000)) (by decide +kernel)
  unfold Pa_areJoined at hf
  refine lv_aload_n hx hb dX4_areJoined_0 rfl (lv_at hl 0 rfl) ?_
  refine lv_iload_n hx hb dX4_areJoined_1 rfl (lv_at hl 1 rfl) ?_
  refine lv_iload_n hx hb dX4_areJoined_2 rfl (lv_at hl 2 rfl) ?_
  obtain ⟨r_2, h_1, hf⟩ := bd_s hf
  refine ca_V (As := [.int a1, .int a2]) (rest := []) ⟨hx, hb, hml, hown, hts⟩ ⟨hK, hN⟩ hP (c_Pa_between l E pa0 pa1 pa_sums a1 a2 r_2 h_1) [0, 1] rfl 4 0 rfl rfl rfl gX4_areJoined_X4_between rfl rfl rfl rfl hd_Pa_between ⟨(Nat.le_of_ble_eq_true rfl), (Nat.le_of_ble_eq_true rfl)⟩ rfl hl.1 rfl (Nat.le_of_ble_eq_true rfl) dX4_areJoined_3 ⟨(Nat.zero_le _), (Nat.zero_le _)⟩ ?_
  refine lv_ldc (v := 1000000) hx hb hown q_0 dX4_areJoined_6 ?_
  refine lv_icmp_ge (tgt := 15) hx hb dX4_areJoined_8 (by decide) (fun c_3 => ?_) (fun c_3 => ?_)
  · have hf := ite_t c_3 hf
    refine lv_iconst (v := 0) hx hb dX4_areJoined_15 (by decide) ?_
    exact hret ls 16 0 dX4_areJoined_16 (by decide) (Option.some.inj hf)
  · have hf := ite_f c_3 hf
    refine lv_iconst (v := 1) hx hb dX4_areJoined_11 (by decide) ?_
    refine lv_goto (tgt := 16) hx hb dX4_areJoined_12 (by decide) ?_
    exact hret ls 16 1 dX4_areJoined_16 (by decide) (Option.some.inj hf)
abbrev rm_Pa_shortenFrom : Room := { frames := 1, cells := 0, slots := 0, locals := 22 }
theorem hd_Pa_shortenFrom : hdOK yX4_shortenFrom 3 := by decide +kernel
theorem in_X4_shortenFrom_X4 : ∀ w ∈ wsX40, w ∈ wsX4_shortenFrom := by decide +kernel
set_option maxRecDepth 100000 in
set_option maxHeartbeats 4000000 in
theorem c_Pa_shortenFrom (l : Launch) (E : En4) (pa0 pa1 : Nat) (sz : Nat) (pa_sums : Nat → Int32) (a1 : Int32) (a2 : Int32) (a3 : Int32)  (res : (Nat → Int32)) (hf : Pa_shortenFrom pa_sums a1 a2 a3 = some res) : Met l yX4_shortenFrom wsX4_shortenFrom rm_Pa_shortenFrom (pcM [.ref pa0, .int a1, .int a2, .int a3] E sz (w_Pa E pa0 pa1 pa_sums)) (QMv E sz (w_Pa E pa0 pa1 pa_sums) (fun (u : (Nat → Int32)) => (w_Pa E pa0 pa1 u)) res) 0 0 (va_A (w_Pa E pa0 pa1 pa_sums) sz) := by
  refine mk_Mv (cc := cX4_shortenFrom) (maxL := 6) (by decide) rfl (Nat.le_of_ble_eq_true rfl) ?_
  intro p e s m args below meth c Q A S hKN hA hret H locs ls hP hD hS hl
  obtain ⟨hx, hb, hml, hown, hts⟩ := S
  obtain ⟨hK, hN⟩ := hKN
  have hl : lv_has ls 6 [(0, .ref pa0), (1, .int a1), (2, .int a2), (3, .int a3)] := hl
  have q_0 := hts (.fieldLink RX4 9 "DelayClusters$Paths" "sums" "[I") (by decide +kernel)
  unfold Pa_shortenFrom at hf
  refine lv_iconst (v := 0) hx hb dX4_shortenFrom_0 (by decide) ?_
  refine lv_istore (lv' := [(4, .int 0), (0, .ref pa0), (1, .int a1), (2, .int a2), (3, .int a3)]) hx hb dX4_shortenFrom_1 hl (by decide) rfl (fun ls hl => ?_)
  obtain ⟨w_3, i_3, hf⟩ := bd_s hf
  have KX_3 : ∀ (pa_sums_12 : Nat → Int32), pa_sums_12 = w_3 → ∀ (H : Heap) (locs : List Loc) (ls : Array Slot), va_P E.1 vwCl (w_Pa E pa0 pa1 pa_sums_12) H → va_D A (w_Pa E pa0 pa1 pa_sums_12) → va_S A s.heap H locs → lv_has ls 6 [] → W p l e rm_Pa_shortenFrom s m args below meth c H locs 0 0 Q (F0 m 57 ls []) := by
    intro pa_sums_12 e_
    subst e_
    try dsimp only at hf
    intro H locs ls hP hD hS hl
    exact hret H locs ls 57 pa_sums_12 dX4_shortenFrom_57 (Option.some.inj hf) hP hD hS
  have KL_3 : ∀ (n_ : Nat) (v4_1 : Int32) (pa_sums_2 : Nat → Int32), it (Pa_shortenFrom_L3 a1 a2 a3) n_ (v4_1, pa_sums_2) = some w_3 → ∀ (H : Heap) (locs : List Loc) (ls : Array Slot), va_P E.1 vwCl (w_Pa E pa0 pa1 pa_sums_2) H → va_D A (w_Pa E pa0 pa1 pa_sums_2) → va_S A s.heap H locs → lv_has ls 6 [(0, .ref pa0), (1, .int a1), (2, .int a2), (3, .int a3), (4, .int v4_1)] → W p l e rm_Pa_shortenFrom s m args below meth c H locs 0 0 Q (F0 m 3 ls []) := by
    intro n_
    induction n_ with
    | zero => intro v4_1 pa_sums_2 hit; exact (it_z hit).elim
    | succ n_3 ih_3 =>
      intro v4_1 pa_sums_2 hit
      intro H locs ls hP hD hS hl
      obtain ⟨x_3, hf, hc_3, hq_3⟩ := it_s hit
      dsimp only [Pa_shortenFrom_L3] at hf
      refine lv_iload hx hb dX4_shortenFrom_3 (lv_at hl 4 rfl) ?_
      refine lv_iload_n hx hb dX4_shortenFrom_5 rfl (lv_at hl 3 rfl) ?_
      refine lv_icmp_ge (tgt := 57) hx hb dX4_shortenFrom_6 (by decide) (fun c_11 => ?_) (fun c_11 => ?_)
      · have hf := ite_t c_11 hf
        exact KX_3 pa_sums_2 (hq_3 _ (Option.some.inj hf).symm) H locs _ hP hD hS (lv_sub hl [] rfl)
      · have hf := ite_f c_11 hf
        refine lv_aload_n hx hb dX4_shortenFrom_9 rfl (lv_at hl 0 rfl) ?_
        refine lv_iload_n hx hb dX4_shortenFrom_10 rfl (lv_at hl 1 rfl) ?_
        refine lv_iload_n hx hb dX4_shortenFrom_11 rfl (lv_at hl 2 rfl) ?_
        obtain ⟨r_4, h_3, hf⟩ := bd_s hf
        refine ca_V (As := [.int a1, .int a2]) (rest := []) ⟨hx, hb, hml, hown, hts⟩ ⟨hK, hN⟩ hP (c_Pa_between l E pa0 pa1 pa_sums_2 a1 a2 r_4 h_3) [0, 1] rfl 4 0 rfl rfl rfl gX4_shortenFrom_X4_between rfl rfl rfl rfl hd_Pa_between ⟨(Nat.le_of_ble_eq_true rfl), (Nat.le_of_ble_eq_true rfl)⟩ rfl hl.1 rfl (Nat.le_of_ble_eq_true rfl) dX4_shortenFrom_12 ⟨(Nat.zero_le _), (Nat.zero_le _)⟩ ?_
        refine lv_aload_n hx hb dX4_shortenFrom_15 rfl (lv_at hl 0 rfl) ?_
        refine lv_iload_n hx hb dX4_shortenFrom_16 rfl (lv_at hl 2 rfl) ?_
        refine lv_iload hx hb dX4_shortenFrom_17 (lv_at hl 4 rfl) ?_
        obtain ⟨r_6, h_5, hf⟩ := bd_s hf
        refine ca_V (As := [.int a2, .int v4_1]) (rest := [.int r_4]) ⟨hx, hb, hml, hown, hts⟩ ⟨hK, hN⟩ hP (c_Pa_between l E pa0 pa1 pa_sums_2 a2 v4_1 r_6 h_5) [0, 1] rfl 4 0 rfl rfl rfl gX4_shortenFrom_X4_between rfl rfl rfl rfl hd_Pa_between ⟨(Nat.le_of_ble_eq_true rfl), (Nat.le_of_ble_eq_true rfl)⟩ rfl hl.1 rfl (Nat.le_of_ble_eq_true rfl) dX4_shortenFrom_19 ⟨(Nat.zero_le _), (Nat.zero_le _)⟩ ?_
        refine lv_iadd hx hb dX4_shortenFrom_22 ?_
        refine lv_istore (lv' := [(5, .int (r_4 + r_6)), (0, .ref pa0), (1, .int a1), (2, .int a2), (3, .int a3), (4, .int v4_1)]) hx hb dX4_shortenFrom_23 hl (by decide) rfl (fun ls hl => ?_)
        refine lv_iload hx hb dX4_shortenFrom_25 (lv_at hl 0 rfl) ?_
        refine lv_aload_n hx hb dX4_shortenFrom_27 rfl (lv_at hl 1 rfl) ?_
        refine lv_iload_n hx hb dX4_shortenFrom_28 rfl (lv_at hl 2 rfl) ?_
        refine lv_iload hx hb dX4_shortenFrom_29 (lv_at hl 5 rfl) ?_
        obtain ⟨r_8, h_7, hf⟩ := bd_s hf
        refine ca_V (As := [.int a1, .int v4_1]) (rest := [.int (r_4 + r_6)]) ⟨hx, hb, hml, hown, hts⟩ ⟨hK, hN⟩ hP (c_Pa_between l E pa0 pa1 pa_sums_2 a1 v4_1 r_8 h_7) [0, 1] rfl 4 0 rfl rfl rfl gX4_shortenFrom_X4_between rfl rfl rfl rfl hd_Pa_between ⟨(Nat.le_of_ble_eq_true rfl), (Nat.le_of_ble_eq_true rfl)⟩ rfl hl.1 rfl (Nat.le_of_ble_eq_true rfl) dX4_shortenFrom_31 ⟨(Nat.zero_le _), (Nat.zero_le _)⟩ ?_
        refine lv_icmp_ge (tgt := 51) hx hb dX4_shortenFrom_34 (by decide) (fun c_10 => ?_) (fun c_10 => ?_)
        · have hf := ite_t c_10 hf
          refine lv_iinc (v := (v4_1 + 1)) (lv' := [(4, .int (v4_1 + 1)), (5, .int (r_4 + r_6)), (0, .ref pa0), (1, .int a1), (2, .int a2), (3, .int a3)]) hx hb dX4_shortenFrom_51 hl (k := 5) rfl rfl (by decide) rfl (fun ls hl => ?_)
          refine lv_goto (tgt := 3) hx hb dX4_shortenFrom_54 (by decide) ?_
          exact ih_3 (v4_1 + 1) pa_sums_2 (hc_3 _ (Option.some.inj hf).symm) H locs _ hP hD hS (lv_sub hl [2, 3, 4, 5, 0] rfl)
        · have hf := ite_f c_10 hf
          refine lv_aload_n hx hb dX4_shortenFrom_37 rfl (lv_at hl 1 rfl) ?_
          refine va_get (D := E.1) (ci := 4) (v := .ref pa1) (C := RX4) (T := TX4) (N := 1) hx hb hts in_X4_shortenFrom_X4 hown hK hP 0 rfl rfl 0 (by decide) q_0 (fun _ h9 => h9) rfl dX4_shortenFrom_38 ?_
          refine lv_iload_n hx hb dX4_shortenFrom_41 rfl (lv_at hl 2 rfl) ?_
          refine lv_bipush (v := 16) hx hb dX4_shortenFrom_42 (by decide) ?_
          refine lv_imul hx hb dX4_shortenFrom_44 ?_
          refine lv_iload hx hb dX4_shortenFrom_45 (lv_at hl 5 rfl) ?_
          refine lv_iadd hx hb dX4_shortenFrom_47 ?_
          refine lv_iload hx hb dX4_shortenFrom_48 (lv_at hl 0 rfl) ?_
          obtain ⟨g_9, hf⟩ := gk_s hf
          refine va_iast hx hb hK hP hD hS 1 0 rfl rfl g_9 dX4_shortenFrom_50 (fun H locs hP hD hS => ?_)
          have hP : va_P E.1 vwCl (w_Pa E pa0 pa1 (upd pa_sums_2 ((a1 * 16) + v4_1).toNatClampNeg (r_4 + r_6))) H := hP
          have hD : va_D A (w_Pa E pa0 pa1 (upd pa_sums_2 ((a1 * 16) + v4_1).toNatClampNeg (r_4 + r_6))) := hD
          refine lv_iinc (v := (v4_1 + 1)) (lv' := [(4, .int (v4_1 + 1)), (5, .int (r_4 + r_6)), (0, .ref pa0), (1, .int a1), (2, .int a2), (3, .int a3)]) hx hb dX4_shortenFrom_51 hl (k := 5) rfl rfl (by decide) rfl (fun ls hl => ?_)
          refine lv_goto (tgt := 3) hx hb dX4_shortenFrom_54 (by decide) ?_
          exact ih_3 (v4_1 + 1) (upd pa_sums_2 ((a1 * 16) + v4_1).toNatClampNeg (r_4 + r_6)) (hc_3 _ (Option.some.inj hf).symm) H locs _ hP hD hS (lv_sub hl [2, 3, 4, 5, 0] rfl)
  exact KL_3 _ 0 pa_sums i_3 H locs _ hP hD hS (lv_sub hl [1, 2, 3, 4, 0] rfl)
abbrev rm_Pa_measure : Room := { frames := 2, cells := 0, slots := 0, locals := 47 }
theorem hd_Pa_measure : hdOK yX4_measure 1 := by decide +kernel
theorem in_X4_measure_X4 : ∀ w ∈ wsX40, w ∈ wsX4_measure := by decide +kernel
set_option maxRecDepth 100000 in
set_option maxHeartbeats 4000000 in
theorem c_Pa_measure (l : Launch) (E : En4) (pa0 pa1 pl0 pl1 pl2 pl3 pl4 : Nat) (sz : Nat) (pa_sums : Nat → Int32) (pl_places : Int32) (pl_links : Int32) (pl_mostDrawn : Int32) (pl_ofTen : Int32) (pl_z : Int32) (pl_lengths : Nat → Int32) (pl_told : Nat → Int32) (pl_delays : Nat → Int32) (pl_fractions : Nat → Int32)  (res : (Nat → Int32)) (hf : Pa_measure pa_sums pl_places pl_lengths = some res) : Met l yX4_measure wsX4_measure rm_Pa_measure (pcM [.ref pa0, .ref pl0] E sz (w_PP E pa0 pa1 pl0 pl1 pl2 pl3 pl4 pa_sums pl_places pl_links pl_mostDrawn pl_ofTen pl_z pl_lengths pl_told pl_delays pl_fractions)) (QMv E sz (w_PP E pa0 pa1 pl0 pl1 pl2 pl3 pl4 pa_sums pl_places pl_links pl_mostDrawn pl_ofTen pl_z pl_lengths pl_told pl_delays pl_fractions) (fun (u : (Nat → Int32)) => (w_PP E pa0 pa1 pl0 pl1 pl2 pl3 pl4 u pl_places pl_links pl_mostDrawn pl_ofTen pl_z pl_lengths pl_told pl_delays pl_fractions)) res) 0 0 (va_A (w_PP E pa0 pa1 pl0 pl1 pl2 pl3 pl4 pa_sums pl_places pl_links pl_mostDrawn pl_ofTen pl_z pl_lengths pl_told pl_delays pl_fractions) sz) := by
  refine mk_Mv (cc := cX4_measure) (maxL := 6) (by decide) rfl (Nat.le_of_ble_eq_true rfl) ?_
  intro p e s m args below meth c Q A S hKN hA hret H locs ls hP hD hS hl
  obtain ⟨hx, hb, hml, hown, hts⟩ := S
  obtain ⟨hK, hN⟩ := hKN
  have hl : lv_has ls 6 [(0, .ref pa0), (1, .ref pl0)] := hl
  have q_0 := hts (.fieldLink RX4 9 "DelayClusters$Paths" "sums" "[I") (by decide +kernel)
  have q_1 := hts (.constant RX4 25 (1000000)) (by decide +kernel)
  unfold Pa_measure at hf
  refine lv_aload_n hx hb dX4_measure_0 rfl (lv_at hl 1 rfl) ?_
  obtain ⟨r_2, h_1, hf⟩ := bd_s hf
  refine ca_V (As := []) (rest := []) ⟨hx, hb, hml, hown, hts⟩ ⟨hK, hN⟩ hP (c_Pl_places l E pl0 pl1 pl2 pl3 pl4 pl_places pl_links pl_mostDrawn pl_ofTen pl_z pl_lengths pl_told pl_delays pl_fractions r_2 h_1) [2, 3, 4, 5, 6] rfl 5 2 rfl rfl rfl gX4_measure_X5_places rfl rfl rfl rfl hd_Pl_places ⟨(Nat.le_of_ble_eq_true rfl), (Nat.le_of_ble_eq_true rfl)⟩ rfl hl.1 rfl (Nat.le_of_ble_eq_true rfl) dX4_measure_1 ⟨(Nat.zero_le _), (Nat.zero_le _)⟩ ?_
  refine lv_istore_n (lv' := [(2, .int r_2), (0, .ref pa0), (1, .ref pl0)]) hx hb dX4_measure_4 rfl hl (by decide) rfl (fun ls hl => ?_)
  refine lv_iconst (v := 0) hx hb dX4_measure_5 (by decide) ?_
  refine lv_istore_n (lv' := [(3, .int 0), (2, .int r_2), (0, .ref pa0), (1, .ref pl0)]) hx hb dX4_measure_6 rfl hl (by decide) rfl (fun ls hl => ?_)
  obtain ⟨w_7, i_7, hf⟩ := bd_s hf
  have KX_7 : ∀ (pa_sums_17 : Nat → Int32), pa_sums_17 = w_7 → ∀ (H : Heap) (locs : List Loc) (ls : Array Slot), va_P E.1 vwCl (w_PP E pa0 pa1 pl0 pl1 pl2 pl3 pl4 pa_sums_17 pl_places pl_links pl_mostDrawn pl_ofTen pl_z pl_lengths pl_told pl_delays pl_fractions) H → va_D A (w_PP E pa0 pa1 pl0 pl1 pl2 pl3 pl4 pa_sums_17 pl_places pl_links pl_mostDrawn pl_ofTen pl_z pl_lengths pl_told pl_delays pl_fractions) → va_S A s.heap H locs → lv_has ls 6 [(0, .ref pa0), (2, .int r_2)] → W p l e rm_Pa_measure s m args below meth c H locs 0 0 Q (F0 m 76 ls []) := by
    intro pa_sums_17 e_
    subst e_
    try dsimp only at hf
    intro H locs ls hP hD hS hl
    refine lv_iconst (v := 0) hx hb dX4_measure_76 (by decide) ?_
    refine lv_istore_n (lv' := [(3, .int 0), (0, .ref pa0), (2, .int r_2)]) hx hb dX4_measure_77 rfl hl (by decide) rfl (fun ls hl => ?_)
    obtain ⟨w_78, i_78, hf⟩ := bd_s hf
    have KX_78 : ∀ (pa_sums_30 : Nat → Int32), pa_sums_30 = w_78 → ∀ (H : Heap) (locs : List Loc) (ls : Array Slot), va_P E.1 vwCl (w_PP E pa0 pa1 pl0 pl1 pl2 pl3 pl4 pa_sums_30 pl_places pl_links pl_mostDrawn pl_ofTen pl_z pl_lengths pl_told pl_delays pl_fractions) H → va_D A (w_PP E pa0 pa1 pl0 pl1 pl2 pl3 pl4 pa_sums_30 pl_places pl_links pl_mostDrawn pl_ofTen pl_z pl_lengths pl_told pl_delays pl_fractions) → va_S A s.heap H locs → lv_has ls 6 [] → W p l e rm_Pa_measure s m args below meth c H locs 0 0 Q (F0 m 122 ls []) := by
      intro pa_sums_30 e_
      subst e_
      try dsimp only at hf
      intro H locs ls hP hD hS hl
      exact hret H locs ls 122 pa_sums_30 dX4_measure_122 (Option.some.inj hf) hP hD hS
    have KL_78 : ∀ (n_ : Nat) (v3_18 : Int32) (pa_sums_19 : Nat → Int32), it (Pa_measure_L78 r_2) n_ (v3_18, pa_sums_19) = some w_78 → ∀ (H : Heap) (locs : List Loc) (ls : Array Slot), va_P E.1 vwCl (w_PP E pa0 pa1 pl0 pl1 pl2 pl3 pl4 pa_sums_19 pl_places pl_links pl_mostDrawn pl_ofTen pl_z pl_lengths pl_told pl_delays pl_fractions) H → va_D A (w_PP E pa0 pa1 pl0 pl1 pl2 pl3 pl4 pa_sums_19 pl_places pl_links pl_mostDrawn pl_ofTen pl_z pl_lengths pl_told pl_delays pl_fractions) → va_S A s.heap H locs → lv_has ls 6 [(0, .ref pa0), (2, .int r_2), (3, .int v3_18)] → W p l e rm_Pa_measure s m args below meth c H locs 0 0 Q (F0 m 78 ls []) := by
      intro n_
      induction n_ with
      | zero => intro v3_18 pa_sums_19 hit; exact (it_z hit).elim
      | succ n_78 ih_78 =>
        intro v3_18 pa_sums_19 hit
        intro H locs ls hP hD hS hl
        obtain ⟨x_78, hf, hc_78, hq_78⟩ := it_s hit
        dsimp only [Pa_measure_L78] at hf
        refine lv_iload_n hx hb dX4_measure_78 rfl (lv_at hl 2 rfl) ?_
        refine lv_iload_n hx hb dX4_measure_79 rfl (lv_at hl 1 rfl) ?_
        refine lv_icmp_ge (tgt := 122) hx hb dX4_measure_80 (by decide) (fun c_29 => ?_) (fun c_29 => ?_)
        · have hf := ite_t c_29 hf
          exact KX_78 pa_sums_19 (hq_78 _ (Option.some.inj hf).symm) H locs _ hP hD hS (lv_sub hl [] rfl)
        · have hf := ite_f c_29 hf
          refine lv_iconst (v := 0) hx hb dX4_measure_83 (by decide) ?_
          refine lv_istore (lv' := [(4, .int 0), (0, .ref pa0), (2, .int r_2), (3, .int v3_18)]) hx hb dX4_measure_84 hl (by decide) rfl (fun ls hl => ?_)
          obtain ⟨w_86, i_86, hf⟩ := bd_s hf
          have KX_86 : ∀ (pa_sums_28 : Nat → Int32), pa_sums_28 = w_86 → ∀ (H : Heap) (locs : List Loc) (ls : Array Slot), va_P E.1 vwCl (w_PP E pa0 pa1 pl0 pl1 pl2 pl3 pl4 pa_sums_28 pl_places pl_links pl_mostDrawn pl_ofTen pl_z pl_lengths pl_told pl_delays pl_fractions) H → va_D A (w_PP E pa0 pa1 pl0 pl1 pl2 pl3 pl4 pa_sums_28 pl_places pl_links pl_mostDrawn pl_ofTen pl_z pl_lengths pl_told pl_delays pl_fractions) → va_S A s.heap H locs → lv_has ls 6 [(0, .ref pa0), (2, .int r_2), (3, .int v3_18)] → W p l e rm_Pa_measure s m args below meth c H locs 0 0 Q (F0 m 116 ls []) := by
            intro pa_sums_28 e_
            subst e_
            try dsimp only at hf
            intro H locs ls hP hD hS hl
            refine lv_iinc (v := (v3_18 + 1)) (lv' := [(3, .int (v3_18 + 1)), (0, .ref pa0), (2, .int r_2)]) hx hb dX4_measure_116 hl (k := 2) rfl rfl (by decide) rfl (fun ls hl => ?_)
            refine lv_goto (tgt := 78) hx hb dX4_measure_119 (by decide) ?_
            exact ih_78 (v3_18 + 1) pa_sums_28 (hc_78 _ (Option.some.inj hf).symm) H locs _ hP hD hS (lv_sub hl [1, 2, 0] rfl)
          have KL_86 : ∀ (n_ : Nat) (v4_20 : Int32) (pa_sums_21 : Nat → Int32), it (Pa_measure_L86 r_2 v3_18) n_ (v4_20, pa_sums_21) = some w_86 → ∀ (H : Heap) (locs : List Loc) (ls : Array Slot), va_P E.1 vwCl (w_PP E pa0 pa1 pl0 pl1 pl2 pl3 pl4 pa_sums_21 pl_places pl_links pl_mostDrawn pl_ofTen pl_z pl_lengths pl_told pl_delays pl_fractions) H → va_D A (w_PP E pa0 pa1 pl0 pl1 pl2 pl3 pl4 pa_sums_21 pl_places pl_links pl_mostDrawn pl_ofTen pl_z pl_lengths pl_told pl_delays pl_fractions) → va_S A s.heap H locs → lv_has ls 6 [(0, .ref pa0), (2, .int r_2), (3, .int v3_18), (4, .int v4_20)] → W p l e rm_Pa_measure s m args below meth c H locs 0 0 Q (F0 m 86 ls []) := by
            intro n_
            induction n_ with
            | zero => intro v4_20 pa_sums_21 hit; exact (it_z hit).elim
            | succ n_86 ih_86 =>
              intro v4_20 pa_sums_21 hit
              intro H locs ls hP hD hS hl
              obtain ⟨x_86, hf, hc_86, hq_86⟩ := it_s hit
              dsimp only [Pa_measure_L86] at hf
              refine lv_iload hx hb dX4_measure_86 (lv_at hl 3 rfl) ?_
              refine lv_iload_n hx hb dX4_measure_88 rfl (lv_at hl 1 rfl) ?_
              refine lv_icmp_ge (tgt := 116) hx hb dX4_measure_89 (by decide) (fun c_27 => ?_) (fun c_27 => ?_)
              · have hf := ite_t c_27 hf
                exact KX_86 pa_sums_21 (hq_86 _ (Option.some.inj hf).symm) H locs _ hP hD hS (lv_sub hl [0, 1, 2] rfl)
              · have hf := ite_f c_27 hf
                refine lv_aload_n hx hb dX4_measure_92 rfl (lv_at hl 0 rfl) ?_
                refine lv_iload hx hb dX4_measure_93 (lv_at hl 3 rfl) ?_
                refine lv_iload_n hx hb dX4_measure_95 rfl (lv_at hl 2 rfl) ?_
                obtain ⟨r_23, h_22, hf⟩ := bd_s hf
                refine ca_V (As := [.int v4_20, .int v3_18]) (rest := []) ⟨hx, hb, hml, hown, hts⟩ ⟨hK, hN⟩ hP (c_Pa_areJoined l E pa0 pa1 pa_sums_21 v4_20 v3_18 r_23 h_22) [0, 1] rfl 4 0 rfl rfl rfl gX4_measure_X4_areJoined rfl rfl rfl rfl hd_Pa_areJoined ⟨(Nat.le_of_ble_eq_true rfl), (Nat.le_of_ble_eq_true rfl)⟩ rfl hl.1 rfl (Nat.le_of_ble_eq_true rfl) dX4_measure_96 ⟨(Nat.zero_le _), (Nat.zero_le _)⟩ ?_
                refine lv_if_eq (tgt := 110) hx hb dX4_measure_99 (by decide) (fun c_26 => ?_) (fun c_26 => ?_)
                · have hf := ite_t c_26 hf
                  refine lv_iinc (v := (v4_20 + 1)) (lv' := [(4, .int (v4_20 + 1)), (0, .ref pa0), (2, .int r_2), (3, .int v3_18)]) hx hb dX4_measure_110 hl (k := 3) rfl rfl (by decide) rfl (fun ls hl => ?_)
                  refine lv_goto (tgt := 86) hx hb dX4_measure_113 (by decide) ?_
                  exact ih_86 (v4_20 + 1) pa_sums_21 (hc_86 _ (Option.some.inj hf).symm) H locs _ hP hD hS (lv_sub hl [1, 2, 3, 0] rfl)
                · have hf := ite_f c_26 hf
                  refine lv_aload_n hx hb dX4_measure_102 rfl (lv_at hl 0 rfl) ?_
                  refine lv_iload hx hb dX4_measure_103 (lv_at hl 3 rfl) ?_
                  refine lv_iload_n hx hb dX4_measure_105 rfl (lv_at hl 2 rfl) ?_
                  refine lv_iload_n hx hb dX4_measure_106 rfl (lv_at hl 1 rfl) ?_
                  obtain ⟨pa_sums_25, h_24, hf⟩ := bd_s hf
                  try dsimp only at hf
                  refine ca_Mv (w2 := (w_PP E pa0 pa1 pl0 pl1 pl2 pl3 pl4 pa_sums_25 pl_places pl_links pl_mostDrawn pl_ofTen pl_z pl_lengths pl_told pl_delays pl_fractions)) (As := [.int v4_20, .int v3_18, .int r_2]) (rest := []) ⟨hx, hb, hml, hown, hts⟩ ⟨hK, hN⟩ hP hD hS hA (c_Pa_shortenFrom l E pa0 pa1 H.size pa_sums_21 v4_20 v3_18 r_2 pa_sums_25 h_24) [0, 1] [2, 3, 4, 5, 6] [5, 6, 0, 1, 2, 3, 4] rfl rfl rfl rfl (by decide) rfl rfl 4 0 rfl rfl rfl gX4_measure_X4_shortenFrom rfl rfl rfl rfl hd_Pa_shortenFrom ⟨(Nat.le_of_ble_eq_true rfl), (Nat.le_of_ble_eq_true rfl)⟩ rfl hl.1 rfl (Nat.le_of_ble_eq_true rfl) dX4_measure_107 ⟨(Nat.zero_le _), (Nat.zero_le _)⟩ (fun H locs hP hD hS => ?_)
                  refine lv_iinc (v := (v4_20 + 1)) (lv' := [(4, .int (v4_20 + 1)), (0, .ref pa0), (2, .int r_2), (3, .int v3_18)]) hx hb dX4_measure_110 hl (k := 3) rfl rfl (by decide) rfl (fun ls hl => ?_)
                  refine lv_goto (tgt := 86) hx hb dX4_measure_113 (by decide) ?_
                  exact ih_86 (v4_20 + 1) pa_sums_25 (hc_86 _ (Option.some.inj hf).symm) H locs _ hP hD hS (lv_sub hl [1, 2, 3, 0] rfl)
          exact KL_86 _ 0 pa_sums_19 i_86 H locs _ hP hD hS (lv_sub hl [1, 2, 3, 0] rfl)
    exact KL_78 _ 0 pa_sums_17 i_78 H locs _ hP hD hS (lv_sub hl [1, 2, 0] rfl)
  have KL_7 : ∀ (n_ : Nat) (v3_3 : Int32) (pa_sums_4 : Nat → Int32), it (Pa_measure_L7 pl_lengths r_2) n_ (v3_3, pa_sums_4) = some w_7 → ∀ (H : Heap) (locs : List Loc) (ls : Array Slot), va_P E.1 vwCl (w_PP E pa0 pa1 pl0 pl1 pl2 pl3 pl4 pa_sums_4 pl_places pl_links pl_mostDrawn pl_ofTen pl_z pl_lengths pl_told pl_delays pl_fractions) H → va_D A (w_PP E pa0 pa1 pl0 pl1 pl2 pl3 pl4 pa_sums_4 pl_places pl_links pl_mostDrawn pl_ofTen pl_z pl_lengths pl_told pl_delays pl_fractions) → va_S A s.heap H locs → lv_has ls 6 [(0, .ref pa0), (1, .ref pl0), (2, .int r_2), (3, .int v3_3)] → W p l e rm_Pa_measure s m args below meth c H locs 0 0 Q (F0 m 7 ls []) := by
    intro n_
    induction n_ with
    | zero => intro v3_3 pa_sums_4 hit; exact (it_z hit).elim
    | succ n_7 ih_7 =>
      intro v3_3 pa_sums_4 hit
      intro H locs ls hP hD hS hl
      obtain ⟨x_7, hf, hc_7, hq_7⟩ := it_s hit
      dsimp only [Pa_measure_L7] at hf
      refine lv_iload_n hx hb dX4_measure_7 rfl (lv_at hl 3 rfl) ?_
      refine lv_iload_n hx hb dX4_measure_8 rfl (lv_at hl 2 rfl) ?_
      refine lv_icmp_ge (tgt := 76) hx hb dX4_measure_9 (by decide) (fun c_16 => ?_) (fun c_16 => ?_)
      · have hf := ite_t c_16 hf
        exact KX_7 pa_sums_4 (hq_7 _ (Option.some.inj hf).symm) H locs _ hP hD hS (lv_sub hl [0, 2] rfl)
      · have hf := ite_f c_16 hf
        refine lv_iconst (v := 0) hx hb dX4_measure_12 (by decide) ?_
        refine lv_istore (lv' := [(4, .int 0), (0, .ref pa0), (1, .ref pl0), (2, .int r_2), (3, .int v3_3)]) hx hb dX4_measure_13 hl (by decide) rfl (fun ls hl => ?_)
        obtain ⟨w_15, i_15, hf⟩ := bd_s hf
        have KX_15 : ∀ (pa_sums_15 : Nat → Int32), pa_sums_15 = w_15 → ∀ (H : Heap) (locs : List Loc) (ls : Array Slot), va_P E.1 vwCl (w_PP E pa0 pa1 pl0 pl1 pl2 pl3 pl4 pa_sums_15 pl_places pl_links pl_mostDrawn pl_ofTen pl_z pl_lengths pl_told pl_delays pl_fractions) H → va_D A (w_PP E pa0 pa1 pl0 pl1 pl2 pl3 pl4 pa_sums_15 pl_places pl_links pl_mostDrawn pl_ofTen pl_z pl_lengths pl_told pl_delays pl_fractions) → va_S A s.heap H locs → lv_has ls 6 [(0, .ref pa0), (1, .ref pl0), (2, .int r_2), (3, .int v3_3)] → W p l e rm_Pa_measure s m args below meth c H locs 0 0 Q (F0 m 70 ls []) := by
          intro pa_sums_15 e_
          subst e_
          try dsimp only at hf
          intro H locs ls hP hD hS hl
          refine lv_iinc (v := (v3_3 + 1)) (lv' := [(3, .int (v3_3 + 1)), (0, .ref pa0), (1, .ref pl0), (2, .int r_2)]) hx hb dX4_measure_70 hl (k := 3) rfl rfl (by decide) rfl (fun ls hl => ?_)
          refine lv_goto (tgt := 7) hx hb dX4_measure_73 (by decide) ?_
          exact ih_7 (v3_3 + 1) pa_sums_15 (hc_7 _ (Option.some.inj hf).symm) H locs _ hP hD hS (lv_sub hl [1, 2, 3, 0] rfl)
        have KL_15 : ∀ (n_ : Nat) (v4_5 : Int32) (pa_sums_6 : Nat → Int32), it (Pa_measure_L15 pl_lengths r_2 v3_3) n_ (v4_5, pa_sums_6) = some w_15 → ∀ (H : Heap) (locs : List Loc) (ls : Array Slot), va_P E.1 vwCl (w_PP E pa0 pa1 pl0 pl1 pl2 pl3 pl4 pa_sums_6 pl_places pl_links pl_mostDrawn pl_ofTen pl_z pl_lengths pl_told pl_delays pl_fractions) H → va_D A (w_PP E pa0 pa1 pl0 pl1 pl2 pl3 pl4 pa_sums_6 pl_places pl_links pl_mostDrawn pl_ofTen pl_z pl_lengths pl_told pl_delays pl_fractions) → va_S A s.heap H locs → lv_has ls 6 [(0, .ref pa0), (1, .ref pl0), (2, .int r_2), (3, .int v3_3), (4, .int v4_5)] → W p l e rm_Pa_measure s m args below meth c H locs 0 0 Q (F0 m 15 ls []) := by
          intro n_
          induction n_ with
          | zero => intro v4_5 pa_sums_6 hit; exact (it_z hit).elim
          | succ n_15 ih_15 =>
            intro v4_5 pa_sums_6 hit
            intro H locs ls hP hD hS hl
            obtain ⟨x_15, hf, hc_15, hq_15⟩ := it_s hit
            dsimp only [Pa_measure_L15] at hf
            refine lv_iload hx hb dX4_measure_15 (lv_at hl 4 rfl) ?_
            refine lv_iload_n hx hb dX4_measure_17 rfl (lv_at hl 2 rfl) ?_
            refine lv_icmp_ge (tgt := 70) hx hb dX4_measure_18 (by decide) (fun c_14 => ?_) (fun c_14 => ?_)
            · have hf := ite_t c_14 hf
              exact KX_15 pa_sums_6 (hq_15 _ (Option.some.inj hf).symm) H locs _ hP hD hS (lv_sub hl [0, 1, 2, 3] rfl)
            · have hf := ite_f c_14 hf
              refine lv_aload_n hx hb dX4_measure_21 rfl (lv_at hl 1 rfl) ?_
              refine lv_iload_n hx hb dX4_measure_22 rfl (lv_at hl 3 rfl) ?_
              refine lv_iload hx hb dX4_measure_23 (lv_at hl 4 rfl) ?_
              obtain ⟨r_8, h_7, hf⟩ := bd_s hf
              refine ca_V (As := [.int v3_3, .int v4_5]) (rest := []) ⟨hx, hb, hml, hown, hts⟩ ⟨hK, hN⟩ hP (c_Pl_lengthOf l E pl0 pl1 pl2 pl3 pl4 pl_places pl_links pl_mostDrawn pl_ofTen pl_z pl_lengths pl_told pl_delays pl_fractions v3_3 v4_5 r_8 h_7) [2, 3, 4, 5, 6] rfl 5 2 rfl rfl rfl gX4_measure_X5_lengthOf rfl rfl rfl rfl hd_Pl_lengthOf ⟨(Nat.le_of_ble_eq_true rfl), (Nat.le_of_ble_eq_true rfl)⟩ rfl hl.1 rfl (Nat.le_of_ble_eq_true rfl) dX4_measure_25 ⟨(Nat.zero_le _), (Nat.zero_le _)⟩ ?_
              refine lv_istore (lv' := [(5, .int r_8), (0, .ref pa0), (1, .ref pl0), (2, .int r_2), (3, .int v3_3), (4, .int v4_5)]) hx hb dX4_measure_28 hl (by decide) rfl (fun ls hl => ?_)
              refine lv_aload_n hx hb dX4_measure_30 rfl (lv_at hl 1 rfl) ?_
              refine va_get (D := E.1) (ci := 4) (v := .ref pa1) (C := RX4) (T := TX4) (N := 1) hx hb hts in_X4_measure_X4 hown hK hP 0 rfl rfl 0 (by decide) q_0 (fun _ h9 => h9) rfl dX4_measure_31 ?_
              refine lv_iload_n hx hb dX4_measure_34 rfl (lv_at hl 4 rfl) ?_
              refine lv_bipush (v := 16) hx hb dX4_measure_35 (by decide) ?_
              refine lv_imul hx hb dX4_measure_37 ?_
              refine lv_iload hx hb dX4_measure_38 (lv_at hl 5 rfl) ?_
              refine lv_iadd hx hb dX4_measure_40 ?_
              refine lv_iload_n hx hb dX4_measure_41 rfl (lv_at hl 4 rfl) ?_
              refine lv_iload hx hb dX4_measure_42 (lv_at hl 5 rfl) ?_
              refine lv_icmp_ne (tgt := 51) hx hb dX4_measure_44 (by decide) (fun c_13 => ?_) (fun c_13 => ?_)
              · have hf := ite_f c_13 hf
                refine lv_iload hx hb dX4_measure_51 (lv_at hl 0 rfl) ?_
                refine lv_if_ne (tgt := 61) hx hb dX4_measure_53 (by decide) (fun c_11 => ?_) (fun c_11 => ?_)
                · have hf := ite_f c_11 hf
                  refine lv_iload hx hb dX4_measure_61 (lv_at hl 0 rfl) ?_
                  obtain ⟨g_9, hf⟩ := gk_s hf
                  refine va_iast hx hb hK hP hD hS 1 0 rfl rfl g_9 dX4_measure_63 (fun H locs hP hD hS => ?_)
                  have hP : va_P E.1 vwCl (w_PP E pa0 pa1 pl0 pl1 pl2 pl3 pl4 (upd pa_sums_6 ((v3_3 * 16) + v4_5).toNatClampNeg r_8) pl_places pl_links pl_mostDrawn pl_ofTen pl_z pl_lengths pl_told pl_delays pl_fractions) H := hP
                  have hD : va_D A (w_PP E pa0 pa1 pl0 pl1 pl2 pl3 pl4 (upd pa_sums_6 ((v3_3 * 16) + v4_5).toNatClampNeg r_8) pl_places pl_links pl_mostDrawn pl_ofTen pl_z pl_lengths pl_told pl_delays pl_fractions) := hD
                  refine lv_iinc (v := (v4_5 + 1)) (lv' := [(4, .int (v4_5 + 1)), (5, .int r_8), (0, .ref pa0), (1, .ref pl0), (2, .int r_2), (3, .int v3_3)]) hx hb dX4_measure_64 hl (k := 5) rfl rfl (by decide) rfl (fun ls hl => ?_)
                  refine lv_goto (tgt := 15) hx hb dX4_measure_67 (by decide) ?_
                  exact ih_15 (v4_5 + 1) (upd pa_sums_6 ((v3_3 * 16) + v4_5).toNatClampNeg r_8) (hc_15 _ (Option.some.inj hf).symm) H locs _ hP hD hS (lv_sub hl [2, 3, 4, 5, 0] rfl)
                · have hf := ite_t c_11 hf
                  refine lv_ldc (v := 1000000) hx hb hown q_1 dX4_measure_56 ?_
                  refine lv_goto (tgt := 63) hx hb dX4_measure_58 (by decide) ?_
                  obtain ⟨g_10, hf⟩ := gk_s hf
                  refine va_iast hx hb hK hP hD hS 1 0 rfl rfl g_10 dX4_measure_63 (fun H locs hP hD hS => ?_)
                  have hP : va_P E.1 vwCl (w_PP E pa0 pa1 pl0 pl1 pl2 pl3 pl4 (upd pa_sums_6 ((v3_3 * 16) + v4_5).toNatClampNeg 1000000) pl_places pl_links pl_mostDrawn pl_ofTen pl_z pl_lengths pl_told pl_delays pl_fractions) H := hP
                  have hD : va_D A (w_PP E pa0 pa1 pl0 pl1 pl2 pl3 pl4 (upd pa_sums_6 ((v3_3 * 16) + v4_5).toNatClampNeg 1000000) pl_places pl_links pl_mostDrawn pl_ofTen pl_z pl_lengths pl_told pl_delays pl_fractions) := hD
                  refine lv_iinc (v := (v4_5 + 1)) (lv' := [(4, .int (v4_5 + 1)), (5, .int r_8), (0, .ref pa0), (1, .ref pl0), (2, .int r_2), (3, .int v3_3)]) hx hb dX4_measure_64 hl (k := 5) rfl rfl (by decide) rfl (fun ls hl => ?_)
                  refine lv_goto (tgt := 15) hx hb dX4_measure_67 (by decide) ?_
                  exact ih_15 (v4_5 + 1) (upd pa_sums_6 ((v3_3 * 16) + v4_5).toNatClampNeg 1000000) (hc_15 _ (Option.some.inj hf).symm) H locs _ hP hD hS (lv_sub hl [2, 3, 4, 5, 0] rfl)
              · have hf := ite_t c_13 hf
                refine lv_iconst (v := 0) hx hb dX4_measure_47 (by decide) ?_
                refine lv_goto (tgt := 63) hx hb dX4_measure_48 (by decide) ?_
                obtain ⟨g_12, hf⟩ := gk_s hf
                refine va_iast hx hb hK hP hD hS 1 0 rfl rfl g_12 dX4_measure_63 (fun H locs hP hD hS => ?_)
                have hP : va_P E.1 vwCl (w_PP E pa0 pa1 pl0 pl1 pl2 pl3 pl4 (upd pa_sums_6 ((v3_3 * 16) + v4_5).toNatClampNeg 0) pl_places pl_links pl_mostDrawn pl_ofTen pl_z pl_lengths pl_told pl_delays pl_fractions) H := hP
                have hD : va_D A (w_PP E pa0 pa1 pl0 pl1 pl2 pl3 pl4 (upd pa_sums_6 ((v3_3 * 16) + v4_5).toNatClampNeg 0) pl_places pl_links pl_mostDrawn pl_ofTen pl_z pl_lengths pl_told pl_delays pl_fractions) := hD
                refine lv_iinc (v := (v4_5 + 1)) (lv' := [(4, .int (v4_5 + 1)), (5, .int r_8), (0, .ref pa0), (1, .ref pl0), (2, .int r_2), (3, .int v3_3)]) hx hb dX4_measure_64 hl (k := 5) rfl rfl (by decide) rfl (fun ls hl => ?_)
                refine lv_goto (tgt := 15) hx hb dX4_measure_67 (by decide) ?_
                exact ih_15 (v4_5 + 1) (upd pa_sums_6 ((v3_3 * 16) + v4_5).toNatClampNeg 0) (hc_15 _ (Option.some.inj hf).symm) H locs _ hP hD hS (lv_sub hl [2, 3, 4, 5, 0] rfl)
        exact KL_15 _ 0 pa_sums_4 i_15 H locs _ hP hD hS (lv_sub hl [1, 2, 3, 4, 0] rfl)
  exact KL_7 _ 0 pa_sums i_7 H locs _ hP hD hS (lv_sub hl [2, 3, 1, 0] rfl)
abbrev rm_Ji_bitCount : Room := { frames := 0, cells := 0, slots := 0, locals := 0 }
theorem hd_Ji_bitCount : hdOK yJ6_bitCount_0f7a4 1 := by decide +kernel
set_option maxRecDepth 100000 in
set_option maxHeartbeats 4000000 in
theorem c_Ji_bitCount (l : Launch) (E : En4) (a0 : Int32)  (res : Int32) (hf : Ji_bitCount a0 = some res) : Met l yJ6_bitCount_0f7a4 wsJ6_bitCount_0f7a4 rm_Ji_bitCount (pcR [.int a0] E (w_No E)) (vp_Si (fun r => r = res)) 0 0 (fun _ => False) := by
  refine mk_Ri (cc := cJ6_bitCount_0f7a4) (maxL := 1) (by decide) rfl (Nat.le_of_ble_eq_true rfl) ?_
  intro p e s m args below meth c Q S hKN hP hret ls hl
  obtain ⟨hx, hb, hml, hown, hts⟩ := S
  obtain ⟨hK, hN⟩ := hKN
  have hl : lv_has ls 1 [(0, .int a0)] := hl
  have q_0 := hts (.constant RJ6 265 (1431655765)) (by decide +kernel)
  have q_1 := hts (.constant RJ6 266 (858993459)) (by decide +kernel)
  have q_2 := hts (.constant RJ6 267 (252645135)) (by decide +kernel)
  unfold Ji_bitCount at hf
  refine lv_iload_n hx hb dJ6_bitCount_0f7a4_0 rfl (lv_at hl 0 rfl) ?_
  refine lv_iload_n hx hb dJ6_bitCount_0f7a4_1 rfl (lv_at hl 0 rfl) ?_
  refine lv_iconst (v := 1) hx hb dJ6_bitCount_0f7a4_2 (by decide) ?_
  refine lv_iushr (v := ((a0 : Int32).toUInt32 >>> ((1 : Int32).toUInt32 &&& Int32.toUInt32 31)).toInt32) hx hb dJ6_bitCount_0f7a4_3 rfl ?_
  refine lv_ldcw (v := 1431655765) hx hb hown q_0 dJ6_bitCount_0f7a4_4 ?_
  refine lv_iand hx hb dJ6_bitCount_0f7a4_7 ?_
  refine lv_isub hx hb dJ6_bitCount_0f7a4_8 ?_
  refine lv_istore_n (lv' := [(0, .int (a0 - ((((a0 : Int32).toUInt32 >>> ((1 : Int32).toUInt32 &&& Int32.toUInt32 31)).toInt32) &&& 1431655765)))]) hx hb dJ6_bitCount_0f7a4_9 rfl hl (by decide) rfl (fun ls hl => ?_)
  refine lv_iload_n hx hb dJ6_bitCount_0f7a4_10 rfl (lv_at hl 0 rfl) ?_
  refine lv_ldcw (v := 858993459) hx hb hown q_1 dJ6_bitCount_0f7a4_11 ?_
  refine lv_iand hx hb dJ6_bitCount_0f7a4_14 ?_
  refine lv_iload_n hx hb dJ6_bitCount_0f7a4_15 rfl (lv_at hl 0 rfl) ?_
  refine lv_iconst (v := 2) hx hb dJ6_bitCount_0f7a4_16 (by decide) ?_
  refine lv_iushr (v := (((a0 - ((((a0 : Int32).toUInt32 >>> ((1 : Int32).toUInt32 &&& Int32.toUInt32 31)).toInt32) &&& 1431655765)) : Int32).toUInt32 >>> ((2 : Int32).toUInt32 &&& Int32.toUInt32 31)).toInt32) hx hb dJ6_bitCount_0f7a4_17 rfl ?_
  refine lv_ldcw (v := 858993459) hx hb hown q_1 dJ6_bitCount_0f7a4_18 ?_
  refine lv_iand hx hb dJ6_bitCount_0f7a4_21 ?_
  refine lv_iadd hx hb dJ6_bitCount_0f7a4_22 ?_
  refine lv_istore_n (lv' := [(0, .int (((a0 - ((((a0 : Int32).toUInt32 >>> ((1 : Int32).toUInt32 &&& Int32.toUInt32 31)).toInt32) &&& 1431655765)) &&& 858993459) + (((((a0 - ((((a0 : Int32).toUInt32 >>> ((1 : Int32).toUInt32 &&& Int32.toUInt32 31)).toInt32) &&& 1431655765)) : Int32).toUInt32 >>> ((2 : Int32).toUInt32 &&& Int32.toUInt32 31)).toInt32) &&& 858993459)))]) hx hb dJ6_bitCount_0f7a4_23 rfl hl (by decide) rfl (fun ls hl => ?_)
  refine lv_iload_n hx hb dJ6_bitCount_0f7a4_24 rfl (lv_at hl 0 rfl) ?_
  refine lv_iload_n hx hb dJ6_bitCount_0f7a4_25 rfl (lv_at hl 0 rfl) ?_
  refine lv_iconst (v := 4) hx hb dJ6_bitCount_0f7a4_26 (by decide) ?_
  refine lv_iushr (v := (((((a0 - ((((a0 : Int32).toUInt32 >>> ((1 : Int32).toUInt32 &&& Int32.toUInt32 31)).toInt32) &&& 1431655765)) &&& 858993459) + (((((a0 - ((((a0 : Int32).toUInt32 >>> ((1 : Int32).toUInt32 &&& Int32.toUInt32 31)).toInt32) &&& 1431655765)) : Int32).toUInt32 >>> ((2 : Int32).toUInt32 &&& Int32.toUInt32 31)).toInt32) &&& 858993459)) : Int32).toUInt32 >>> ((4 : Int32).toUInt32 &&& Int32.toUInt32 31)).toInt32) hx hb dJ6_bitCount_0f7a4_27 rfl ?_
  refine lv_iadd hx hb dJ6_bitCount_0f7a4_28 ?_
  refine lv_ldcw (v := 252645135) hx hb hown q_2 dJ6_bitCount_0f7a4_29 ?_
  refine lv_iand hx hb dJ6_bitCount_0f7a4_32 ?_
  refine lv_istore_n (lv' := [(0, .int (((((a0 - ((((a0 : Int32).toUInt32 >>> ((1 : Int32).toUInt32 &&& Int32.toUInt32 31)).toInt32) &&& 1431655765)) &&& 858993459) + (((((a0 - ((((a0 : Int32).toUInt32 >>> ((1 : Int32).toUInt32 &&& Int32.toUInt32 31)).toInt32) &&& 1431655765)) : Int32).toUInt32 >>> ((2 : Int32).toUInt32 &&& Int32.toUInt32 31)).toInt32) &&& 858993459)) + ((((((a0 - ((((a0 : Int32).toUInt32 >>> ((1 : Int32).toUInt32 &&& Int32.toUInt32 31)).toInt32) &&& 1431655765)) &&& 858993459) + (((((a0 - ((((a0 : Int32).toUInt32 >>> ((1 : Int32).toUInt32 &&& Int32.toUInt32 31)).toInt32) &&& 1431655765)) : Int32).toUInt32 >>> ((2 : Int32).toUInt32 &&& Int32.toUInt32 31)).toInt32) &&& 858993459)) : Int32).toUInt32 >>> ((4 : Int32).toUInt32 &&& Int32.toUInt32 31)).toInt32)) &&& 252645135))]) hx hb dJ6_bitCount_0f7a4_33 rfl hl (by decide) rfl (fun ls hl => ?_)
  refine lv_iload_n hx hb dJ6_bitCount_0f7a4_34 rfl (lv_at hl 0 rfl) ?_
  refine lv_iload_n hx hb dJ6_bitCount_0f7a4_35 rfl (lv_at hl 0 rfl) ?_
  refine lv_bipush (v := 8) hx hb dJ6_bitCount_0f7a4_36 (by decide) ?_
  refine lv_iushr (v := (((((((a0 - ((((a0 : Int32).toUInt32 >>> ((1 : Int32).toUInt32 &&& Int32.toUInt32 31)).toInt32) &&& 1431655765)) &&& 858993459) + (((((a0 - ((((a0 : Int32).toUInt32 >>> ((1 : Int32).toUInt32 &&& Int32.toUInt32 31)).toInt32) &&& 1431655765)) : Int32).toUInt32 >>> ((2 : Int32).toUInt32 &&& Int32.toUInt32 31)).toInt32) &&& 858993459)) + ((((((a0 - ((((a0 : Int32).toUInt32 >>> ((1 : Int32).toUInt32 &&& Int32.toUInt32 31)).toInt32) &&& 1431655765)) &&& 858993459) + (((((a0 - ((((a0 : Int32).toUInt32 >>> ((1 : Int32).toUInt32 &&& Int32.toUInt32 31)).toInt32) &&& 1431655765)) : Int32).toUInt32 >>> ((2 : Int32).toUInt32 &&& Int32.toUInt32 31)).toInt32) &&& 858993459)) : Int32).toUInt32 >>> ((4 : Int32).toUInt32 &&& Int32.toUInt32 31)).toInt32)) &&& 252645135) : Int32).toUInt32 >>> ((8 : Int32).toUInt32 &&& Int32.toUInt32 31)).toInt32) hx hb dJ6_bitCount_0f7a4_38 rfl ?_
  refine lv_iadd hx hb dJ6_bitCount_0f7a4_39 ?_
  refine lv_istore_n (lv' := [(0, .int ((((((a0 - ((((a0 : Int32).toUInt32 >>> ((1 : Int32).toUInt32 &&& Int32.toUInt32 31)).toInt32) &&& 1431655765)) &&& 858993459) + (((((a0 - ((((a0 : Int32).toUInt32 >>> ((1 : Int32).toUInt32 &&& Int32.toUInt32 31)).toInt32) &&& 1431655765)) : Int32).toUInt32 >>> ((2 : Int32).toUInt32 &&& Int32.toUInt32 31)).toInt32) &&& 858993459)) + ((((((a0 - ((((a0 : Int32).toUInt32 >>> ((1 : Int32).toUInt32 &&& Int32.toUInt32 31)).toInt32) &&& 1431655765)) &&& 858993459) + (((((a0 - ((((a0 : Int32).toUInt32 >>> ((1 : Int32).toUInt32 &&& Int32.toUInt32 31)).toInt32) &&& 1431655765)) : Int32).toUInt32 >>> ((2 : Int32).toUInt32 &&& Int32.toUInt32 31)).toInt32) &&& 858993459)) : Int32).toUInt32 >>> ((4 : Int32).toUInt32 &&& Int32.toUInt32 31)).toInt32)) &&& 252645135) + ((((((((a0 - ((((a0 : Int32).toUInt32 >>> ((1 : Int32).toUInt32 &&& Int32.toUInt32 31)).toInt32) &&& 1431655765)) &&& 858993459) + (((((a0 - ((((a0 : Int32).toUInt32 >>> ((1 : Int32).toUInt32 &&& Int32.toUInt32 31)).toInt32) &&& 1431655765)) : Int32).toUInt32 >>> ((2 : Int32).toUInt32 &&& Int32.toUInt32 31)).toInt32) &&& 858993459)) + ((((((a0 - ((((a0 : Int32).toUInt32 >>> ((1 : Int32).toUInt32 &&& Int32.toUInt32 31)).toInt32) &&& 1431655765)) &&& 858993459) + (((((a0 - ((((a0 : Int32).toUInt32 >>> ((1 : Int32).toUInt32 &&& Int32.toUInt32 31)).toInt32) &&& 1431655765)) : Int32).toUInt32 >>> ((2 : Int32).toUInt32 &&& Int32.toUInt32 31)).toInt32) &&& 858993459)) : Int32).toUInt32 >>> ((4 : Int32).toUInt32 &&& Int32.toUInt32 31)).toInt32)) &&& 252645135) : Int32).toUInt32 >>> ((8 : Int32).toUInt32 &&& Int32.toUInt32 31)).toInt32)))]) hx hb dJ6_bitCount_0f7a4_40 rfl hl (by decide) rfl (fun ls hl => ?_)
  refine lv_iload_n hx hb dJ6_bitCount_0f7a4_41 rfl (lv_at hl 0 rfl) ?_
  refine lv_iload_n hx hb dJ6_bitCount_0f7a4_42 rfl (lv_at hl 0 rfl) ?_
  refine lv_bipush (v := 16) hx hb dJ6_bitCount_0f7a4_43 (by decide) ?_
  refine lv_iushr (v := ((((((((a0 - ((((a0 : Int32).toUInt32 >>> ((1 : Int32).toUInt32 &&& Int32.toUInt32 31)).toInt32) &&& 1431655765)) &&& 858993459) + (((((a0 - ((((a0 : Int32).toUInt32 >>> ((1 : Int32).toUInt32 &&& Int32.toUInt32 31)).toInt32) &&& 1431655765)) : Int32).toUInt32 >>> ((2 : Int32).toUInt32 &&& Int32.toUInt32 31)).toInt32) &&& 858993459)) + ((((((a0 - ((((a0 : Int32).toUInt32 >>> ((1 : Int32).toUInt32 &&& Int32.toUInt32 31)).toInt32) &&& 1431655765)) &&& 858993459) + (((((a0 - ((((a0 : Int32).toUInt32 >>> ((1 : Int32).toUInt32 &&& Int32.toUInt32 31)).toInt32) &&& 1431655765)) : Int32).toUInt32 >>> ((2 : Int32).toUInt32 &&& Int32.toUInt32 31)).toInt32) &&& 858993459)) : Int32).toUInt32 >>> ((4 : Int32).toUInt32 &&& Int32.toUInt32 31)).toInt32)) &&& 252645135) + ((((((((a0 - ((((a0 : Int32).toUInt32 >>> ((1 : Int32).toUInt32 &&& Int32.toUInt32 31)).toInt32) &&& 1431655765)) &&& 858993459) + (((((a0 - ((((a0 : Int32).toUInt32 >>> ((1 : Int32).toUInt32 &&& Int32.toUInt32 31)).toInt32) &&& 1431655765)) : Int32).toUInt32 >>> ((2 : Int32).toUInt32 &&& Int32.toUInt32 31)).toInt32) &&& 858993459)) + ((((((a0 - ((((a0 : Int32).toUInt32 >>> ((1 : Int32).toUInt32 &&& Int32.toUInt32 31)).toInt32) &&& 1431655765)) &&& 858993459) + (((((a0 - ((((a0 : Int32).toUInt32 >>> ((1 : Int32).toUInt32 &&& Int32.toUInt32 31)).toInt32) &&& 1431655765)) : Int32).toUInt32 >>> ((2 : Int32).toUInt32 &&& Int32.toUInt32 31)).toInt32) &&& 858993459)) : Int32).toUInt32 >>> ((4 : Int32).toUInt32 &&& Int32.toUInt32 31)).toInt32)) &&& 252645135) : Int32).toUInt32 >>> ((8 : Int32).toUInt32 &&& Int32.toUInt32 31)).toInt32)) : Int32).toUInt32 >>> ((16 : Int32).toUInt32 &&& Int32.toUInt32 31)).toInt32) hx hb dJ6_bitCount_0f7a4_45 rfl ?_
  refine lv_iadd hx hb dJ6_bitCount_0f7a4_46 ?_
  refine lv_istore_n (lv' := [(0, .int (((((((a0 - ((((a0 : Int32).toUInt32 >>> ((1 : Int32).toUInt32 &&& Int32.toUInt32 31)).toInt32) &&& 1431655765)) &&& 858993459) + (((((a0 - ((((a0 : Int32).toUInt32 >>> ((1 : Int32).toUInt32 &&& Int32.toUInt32 31)).toInt32) &&& 1431655765)) : Int32).toUInt32 >>> ((2 : Int32).toUInt32 &&& Int32.toUInt32 31)).toInt32) &&& 858993459)) + ((((((a0 - ((((a0 : Int32).toUInt32 >>> ((1 : Int32).toUInt32 &&& Int32.toUInt32 31)).toInt32) &&& 1431655765)) &&& 858993459) + (((((a0 - ((((a0 : Int32).toUInt32 >>> ((1 : Int32).toUInt32 &&& Int32.toUInt32 31)).toInt32) &&& 1431655765)) : Int32).toUInt32 >>> ((2 : Int32).toUInt32 &&& Int32.toUInt32 31)).toInt32) &&& 858993459)) : Int32).toUInt32 >>> ((4 : Int32).toUInt32 &&& Int32.toUInt32 31)).toInt32)) &&& 252645135) + ((((((((a0 - ((((a0 : Int32).toUInt32 >>> ((1 : Int32).toUInt32 &&& Int32.toUInt32 31)).toInt32) &&& 1431655765)) &&& 858993459) + (((((a0 - ((((a0 : Int32).toUInt32 >>> ((1 : Int32).toUInt32 &&& Int32.toUInt32 31)).toInt32) &&& 1431655765)) : Int32).toUInt32 >>> ((2 : Int32).toUInt32 &&& Int32.toUInt32 31)).toInt32) &&& 858993459)) + ((((((a0 - ((((a0 : Int32).toUInt32 >>> ((1 : Int32).toUInt32 &&& Int32.toUInt32 31)).toInt32) &&& 1431655765)) &&& 858993459) + (((((a0 - ((((a0 : Int32).toUInt32 >>> ((1 : Int32).toUInt32 &&& Int32.toUInt32 31)).toInt32) &&& 1431655765)) : Int32).toUInt32 >>> ((2 : Int32).toUInt32 &&& Int32.toUInt32 31)).toInt32) &&& 858993459)) : Int32).toUInt32 >>> ((4 : Int32).toUInt32 &&& Int32.toUInt32 31)).toInt32)) &&& 252645135) : Int32).toUInt32 >>> ((8 : Int32).toUInt32 &&& Int32.toUInt32 31)).toInt32)) + (((((((((a0 - ((((a0 : Int32).toUInt32 >>> ((1 : Int32).toUInt32 &&& Int32.toUInt32 31)).toInt32) &&& 1431655765)) &&& 858993459) + (((((a0 - ((((a0 : Int32).toUInt32 >>> ((1 : Int32).toUInt32 &&& Int32.toUInt32 31)).toInt32) &&& 1431655765)) : Int32).toUInt32 >>> ((2 : Int32).toUInt32 &&& Int32.toUInt32 31)).toInt32) &&& 858993459)) + ((((((a0 - ((((a0 : Int32).toUInt32 >>> ((1 : Int32).toUInt32 &&& Int32.toUInt32 31)).toInt32) &&& 1431655765)) &&& 858993459) + (((((a0 - ((((a0 : Int32).toUInt32 >>> ((1 : Int32).toUInt32 &&& Int32.toUInt32 31)).toInt32) &&& 1431655765)) : Int32).toUInt32 >>> ((2 : Int32).toUInt32 &&& Int32.toUInt32 31)).toInt32) &&& 858993459)) : Int32).toUInt32 >>> ((4 : Int32).toUInt32 &&& Int32.toUInt32 31)).toInt32)) &&& 252645135) + ((((((((a0 - ((((a0 : Int32).toUInt32 >>> ((1 : Int32).toUInt32 &&& Int32.toUInt32 31)).toInt32) &&& 1431655765)) &&& 858993459) + (((((a0 - ((((a0 : Int32).toUInt32 >>> ((1 : Int32).toUInt32 &&& Int32.toUInt32 31)).toInt32) &&& 1431655765)) : Int32).toUInt32 >>> ((2 : Int32).toUInt32 &&& Int32.toUInt32 31)).toInt32) &&& 858993459)) + ((((((a0 - ((((a0 : Int32).toUInt32 >>> ((1 : Int32).toUInt32 &&& Int32.toUInt32 31)).toInt32) &&& 1431655765)) &&& 858993459) + (((((a0 - ((((a0 : Int32).toUInt32 >>> ((1 : Int32).toUInt32 &&& Int32.toUInt32 31)).toInt32) &&& 1431655765)) : Int32).toUInt32 >>> ((2 : Int32).toUInt32 &&& Int32.toUInt32 31)).toInt32) &&& 858993459)) : Int32).toUInt32 >>> ((4 : Int32).toUInt32 &&& Int32.toUInt32 31)).toInt32)) &&& 252645135) : Int32).toUInt32 >>> ((8 : Int32).toUInt32 &&& Int32.toUInt32 31)).toInt32)) : Int32).toUInt32 >>> ((16 : Int32).toUInt32 &&& Int32.toUInt32 31)).toInt32)))]) hx hb dJ6_bitCount_0f7a4_47 rfl hl (by decide) rfl (fun ls hl => ?_)
  refine lv_iload_n hx hb dJ6_bitCount_0f7a4_48 rfl (lv_at hl 0 rfl) ?_
  refine lv_bipush (v := 63) hx hb dJ6_bitCount_0f7a4_49 (by decide) ?_
  refine lv_iand hx hb dJ6_bitCount_0f7a4_51 ?_
  exact hret ls 52 ((((((((a0 - ((((a0 : Int32).toUInt32 >>> ((1 : Int32).toUInt32 &&& Int32.toUInt32 31)).toInt32) &&& 1431655765)) &&& 858993459) + (((((a0 - ((((a0 : Int32).toUInt32 >>> ((1 : Int32).toUInt32 &&& Int32.toUInt32 31)).toInt32) &&& 1431655765)) : Int32).toUInt32 >>> ((2 : Int32).toUInt32 &&& Int32.toUInt32 31)).toInt32) &&& 858993459)) + ((((((a0 - ((((a0 : Int32).toUInt32 >>> ((1 : Int32).toUInt32 &&& Int32.toUInt32 31)).toInt32) &&& 1431655765)) &&& 858993459) + (((((a0 - ((((a0 : Int32).toUInt32 >>> ((1 : Int32).toUInt32 &&& Int32.toUInt32 31)).toInt32) &&& 1431655765)) : Int32).toUInt32 >>> ((2 : Int32).toUInt32 &&& Int32.toUInt32 31)).toInt32) &&& 858993459)) : Int32).toUInt32 >>> ((4 : Int32).toUInt32 &&& Int32.toUInt32 31)).toInt32)) &&& 252645135) + ((((((((a0 - ((((a0 : Int32).toUInt32 >>> ((1 : Int32).toUInt32 &&& Int32.toUInt32 31)).toInt32) &&& 1431655765)) &&& 858993459) + (((((a0 - ((((a0 : Int32).toUInt32 >>> ((1 : Int32).toUInt32 &&& Int32.toUInt32 31)).toInt32) &&& 1431655765)) : Int32).toUInt32 >>> ((2 : Int32).toUInt32 &&& Int32.toUInt32 31)).toInt32) &&& 858993459)) + ((((((a0 - ((((a0 : Int32).toUInt32 >>> ((1 : Int32).toUInt32 &&& Int32.toUInt32 31)).toInt32) &&& 1431655765)) &&& 858993459) + (((((a0 - ((((a0 : Int32).toUInt32 >>> ((1 : Int32).toUInt32 &&& Int32.toUInt32 31)).toInt32) &&& 1431655765)) : Int32).toUInt32 >>> ((2 : Int32).toUInt32 &&& Int32.toUInt32 31)).toInt32) &&& 858993459)) : Int32).toUInt32 >>> ((4 : Int32).toUInt32 &&& Int32.toUInt32 31)).toInt32)) &&& 252645135) : Int32).toUInt32 >>> ((8 : Int32).toUInt32 &&& Int32.toUInt32 31)).toInt32)) + (((((((((a0 - ((((a0 : Int32).toUInt32 >>> ((1 : Int32).toUInt32 &&& Int32.toUInt32 31)).toInt32) &&& 1431655765)) &&& 858993459) + (((((a0 - ((((a0 : Int32).toUInt32 >>> ((1 : Int32).toUInt32 &&& Int32.toUInt32 31)).toInt32) &&& 1431655765)) : Int32).toUInt32 >>> ((2 : Int32).toUInt32 &&& Int32.toUInt32 31)).toInt32) &&& 858993459)) + ((((((a0 - ((((a0 : Int32).toUInt32 >>> ((1 : Int32).toUInt32 &&& Int32.toUInt32 31)).toInt32) &&& 1431655765)) &&& 858993459) + (((((a0 - ((((a0 : Int32).toUInt32 >>> ((1 : Int32).toUInt32 &&& Int32.toUInt32 31)).toInt32) &&& 1431655765)) : Int32).toUInt32 >>> ((2 : Int32).toUInt32 &&& Int32.toUInt32 31)).toInt32) &&& 858993459)) : Int32).toUInt32 >>> ((4 : Int32).toUInt32 &&& Int32.toUInt32 31)).toInt32)) &&& 252645135) + ((((((((a0 - ((((a0 : Int32).toUInt32 >>> ((1 : Int32).toUInt32 &&& Int32.toUInt32 31)).toInt32) &&& 1431655765)) &&& 858993459) + (((((a0 - ((((a0 : Int32).toUInt32 >>> ((1 : Int32).toUInt32 &&& Int32.toUInt32 31)).toInt32) &&& 1431655765)) : Int32).toUInt32 >>> ((2 : Int32).toUInt32 &&& Int32.toUInt32 31)).toInt32) &&& 858993459)) + ((((((a0 - ((((a0 : Int32).toUInt32 >>> ((1 : Int32).toUInt32 &&& Int32.toUInt32 31)).toInt32) &&& 1431655765)) &&& 858993459) + (((((a0 - ((((a0 : Int32).toUInt32 >>> ((1 : Int32).toUInt32 &&& Int32.toUInt32 31)).toInt32) &&& 1431655765)) : Int32).toUInt32 >>> ((2 : Int32).toUInt32 &&& Int32.toUInt32 31)).toInt32) &&& 858993459)) : Int32).toUInt32 >>> ((4 : Int32).toUInt32 &&& Int32.toUInt32 31)).toInt32)) &&& 252645135) : Int32).toUInt32 >>> ((8 : Int32).toUInt32 &&& Int32.toUInt32 31)).toInt32)) : Int32).toUInt32 >>> ((16 : Int32).toUInt32 &&& Int32.toUInt32 31)).toInt32)) &&& 63) dJ6_bitCount_0f7a4_52 (Option.some.inj hf)
