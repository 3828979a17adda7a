abbrev rk_Ch : Room := { frames := 1, cells := 0, slots := 0, locals := 12 }
theorem hk_Ch : hdOK yX0_init 0 := by decide +kernel
set_option maxRecDepth 100000 in
set_option maxHeartbeats 4000000 in
theorem k_Ch (l : Launch) (E : En4) (h0 : Nat) (sz : Nat) : Met l yX0_init wsX0_init rk_Ch (pcM [.ref h0] E sz [(h0, .inr (0, [.int 0, .int 0, .int 0, .int 0, .int 0, .int 0, .int 0, .int 0]))]) (QK E sz [(h0, .inr (0, [.int 0, .int 0, .int 0, .int 0, .int 0, .int 0, .int 0, .int 0]))] (fun (u : Unit) => [(h0, .inr (0, [.int 0, .int 0, .int 0, .int 0, .int 0, .int 0, .int 0, .int 0]))]) (fun _ => True)) 0 0 (va_A [(h0, .inr (0, [.int 0, .int 0, .int 0, .int 0, .int 0, .int 0, .int 0, .int 0]))] sz) := by
  refine mk_K (cc := cX0_init) (maxL := 1) (by decide) rfl (Nat.le_of_ble_eq_true rfl) rfl ?_
  intro p e s m args below meth c Q A S hin hKN hA hret H locs ls hP hD hS hl
  obtain ⟨hx, hb, hml, hown, hts⟩ := S
  obtain ⟨hK, hN⟩ := hKN
  have hl : lv_has ls 1 [(0, .ref h0)] := hl
  have q_0 := hts (.methodLink RX0 1 objectInit) (by decide +kernel)
  have q_1 := hts (.instanceMethod objectInit) (by decide +kernel)
  have q_2 := hts (.code objectInit ⟨#[0xb1]⟩ 1 none) (by decide +kernel)
  refine lv_aload_n hx hb dX0_init_0 rfl (lv_at hl 0 rfl) ?_
  refine W.objInit hx hb hown q_0 q_1 q_2 rfl (by rw [hml]; exact hl.1) rfl dX0_init_1 (Nat.le_of_ble_eq_true rfl) (Nat.le_of_ble_eq_true rfl) ?_
  refine W.eq (g2 := F0 m 4 ls []) rfl ?_
  exact hret H locs ls 4 () dX0_init_4 trivial hP hD hS
abbrev rk_Le : Room := { frames := 1, cells := 1, slots := 200, locals := 12 }
theorem hk_Le : hdOK yX2_init 0 := by decide +kernel
theorem in_X2_init_X2 : ∀ w ∈ wsX20, w ∈ wsX2_init := by decide +kernel
set_option maxRecDepth 100000 in
set_option maxHeartbeats 4000000 in
theorem k_Le (l : Launch) (E : En4) (h0 : Nat) (sz : Nat) : Met l yX2_init wsX2_init rk_Le (pcM [.ref h0] E sz [(h0, .inr (2, [.null, .int 0]))]) (QK E sz [(h0, .inr (2, [.null, .int 0]))] (fun (u : Nat) => [(h0, .inr (2, [.ref u, .int 0])), (u, .inl (E.2.2.2.1, 200, .inl (fun _ => 0)))]) (fun _ => True)) 1 200 (va_A [(h0, .inr (2, [.null, .int 0]))] sz) := by
  refine mk_K (cc := cX2_init) (maxL := 1) (by decide) rfl (Nat.le_of_ble_eq_true rfl) rfl ?_
  intro p e s m args below meth c Q A S hin hKN hA hret H locs ls hP hD hS hl
  obtain ⟨hx, hb, hml, hown, hts⟩ := S
  obtain ⟨hK, hN⟩ := hKN
  have hl : lv_has ls 1 [(0, .ref h0)] := hl
  have q_0 := hts (.methodLink RX2 3 objectInit) (by decide +kernel)
  have q_1 := hts (.instanceMethod objectInit) (by decide +kernel)
  have q_2 := hts (.code objectInit ⟨#[0xb1]⟩ 1 none) (by decide +kernel)
  have q_3 := hts (.arrayClass .char) (by decide +kernel)
  have q_4 := hts (.fieldLink RX2 9 "DelayClusters$Letters" "signs" "[C") (by decide +kernel)
  refine lv_aload_n hx hb dX2_init_0 rfl (lv_at hl 0 rfl) ?_
  refine W.objInit hx hb hown q_0 q_1 q_2 rfl (by rw [hml]; exact hl.1) rfl dX2_init_1 (Nat.le_of_ble_eq_true rfl) (Nat.le_of_ble_eq_true rfl) ?_
  refine W.eq (g2 := F0 m 4 ls []) rfl ?_
  refine lv_aload_n hx hb dX2_init_4 rfl (lv_at hl 0 rfl) ?_
  refine lv_sipush (v := 200) hx hb dX2_init_5 (by decide) ?_
  refine va_newa (atype := .char) (ty := .char) (N' := 200) (a0 := (200, .inl (fun _ => 0))) hx hb q_3 rfl hK hP hD hS hA (fun _ => rfl) (by decide) (by decide) (Nat.le_of_ble_eq_true rfl) (Nat.le_of_ble_eq_true rfl) (Nat.le_of_ble_eq_true rfl) dX2_init_8 (fun le1 cA H hK2 hP hD hS => ?_)
  obtain rfl := ar_C hK2
  have hP : va_P E.1 vwCl [(h0, .inr (2, [.null, .int 0])), (le1, .inl (E.2.2.2.1, 200, .inl (fun _ => 0)))] H := hP
  have hD : va_D A [(h0, .inr (2, [.null, .int 0])), (le1, .inl (E.2.2.2.1, 200, .inl (fun _ => 0)))] := hD
  refine W.widen (k := 1) (n := 200) (Nat.le_of_ble_eq_true rfl) (Nat.le_of_ble_eq_true rfl) ?_
  refine va_putF (D := E.1) (ci := 2) (v := .ref le1) (ty := .array .char) (C := RX2) (T := TX2) (N := 2) hx hb hts in_X2_init_X2 tyX2 tyX2_ok nmX2 hown hK hP hD hS 0 rfl rfl 0 (by decide) q_4 (fun _ h9 => h9) rfl hin rfl (by decide +kernel) rfl rfl (Nat.le_of_ble_eq_true rfl) dX2_init_10 (fun H locs hP hD hS => ?_)
  have hP : va_P E.1 vwCl [(h0, .inr (2, [.ref le1, .int 0])), (le1, .inl (E.2.2.2.1, 200, .inl (fun _ => 0)))] H := hP
  have hD : va_D A [(h0, .inr (2, [.ref le1, .int 0])), (le1, .inl (E.2.2.2.1, 200, .inl (fun _ => 0)))] := hD
  exact hret H locs ls 13 le1 dX2_init_13 trivial hP hD hS
abbrev rk_Pl : Room := { frames := 1, cells := 4, slots := 304, locals := 12 }
theorem hk_Pl : hdOK yX5_init 0 := by decide +kernel
theorem in_X5_init_X5 : ∀ w ∈ wsX50, w ∈ wsX5_init := by decide +kernel
set_option maxRecDepth 100000 in
set_option maxHeartbeats 4000000 in
theorem k_Pl (l : Launch) (E : En4) (h0 : Nat) (sz : Nat) : Met l yX5_init wsX5_init rk_Pl (pcM [.ref h0] E sz [(h0, .inr (5, [.null, .null, .null, .null, .int 0, .int 0, .int 0, .int 0, .int 0]))]) (QK E sz [(h0, .inr (5, [.null, .null, .null, .null, .int 0, .int 0, .int 0, .int 0, .int 0]))] (fun (u : Nat × Nat × Nat × Nat) => [(h0, .inr (5, [.ref u.1, .ref u.2.1, .ref u.2.2.1, .ref u.2.2.2, .int 0, .int 0, .int 0, .int 0, .int 0])), (u.1, .inl (E.2.1, 256, .inl (fun _ => 0))), (u.2.1, .inl (E.2.2.1, 16, .inl (fun _ => 0))), (u.2.2.1, .inl (E.2.1, 16, .inl (fun _ => 0))), (u.2.2.2, .inl (E.2.1, 16, .inl (fun _ => 0)))]) (fun _ => True)) 4 304 (va_A [(h0, .inr (5, [.null, .null, .null, .null, .int 0, .int 0, .int 0, .int 0, .int 0]))] sz) := by
  refine mk_K (cc := cX5_init) (maxL := 1) (by decide) rfl (Nat.le_of_ble_eq_true rfl) rfl ?_
  intro p e s m args below meth c Q A S hin hKN hA hret H locs ls hP hD hS hl
  obtain ⟨hx, hb, hml, hown, hts⟩ := S
  obtain ⟨hK, hN⟩ := hKN
  have hl : lv_has ls 1 [(0, .ref h0)] := hl
  have q_0 := hts (.methodLink RX5 3 objectInit) (by decide +kernel)
  have q_1 := hts (.instanceMethod objectInit) (by decide +kernel)
  have q_2 := hts (.code objectInit ⟨#[0xb1]⟩ 1 none) (by decide +kernel)
  have q_3 := hts (.arrayClass .int) (by decide +kernel)
  have q_4 := hts (.fieldLink RX5 9 "DelayClusters$Plan" "lengths" "[I") (by decide +kernel)
  have q_5 := hts (.arrayClass .boolean) (by decide +kernel)
  have q_6 := hts (.fieldLink RX5 15 "DelayClusters$Plan" "told" "[Z") (by decide +kernel)
  have q_7 := hts (.fieldLink RX5 19 "DelayClusters$Plan" "delays" "[I") (by decide +kernel)
  have q_8 := hts (.fieldLink RX5 22 "DelayClusters$Plan" "fractions" "[I") (by decide +kernel)
  refine lv_aload_n hx hb dX5_init_0 rfl (lv_at hl 0 rfl) ?_
  refine W.objInit hx hb hown q_0 q_1 q_2 rfl (by rw [hml]; exact hl.1) rfl dX5_init_1 (Nat.le_of_ble_eq_true rfl) (Nat.le_of_ble_eq_true rfl) ?_
  refine W.eq (g2 := F0 m 4 ls []) rfl ?_
  refine lv_aload_n hx hb dX5_init_4 rfl (lv_at hl 0 rfl) ?_
  refine lv_sipush (v := 256) hx hb dX5_init_5 (by decide) ?_
  refine va_newa (atype := .int) (ty := .int) (N' := 256) (a0 := (256, .inl (fun _ => 0))) hx hb q_3 rfl hK hP hD hS hA (fun _ => rfl) (by decide) (by decide) (Nat.le_of_ble_eq_true rfl) (Nat.le_of_ble_eq_true rfl) (Nat.le_of_ble_eq_true rfl) dX5_init_8 (fun pl1 cA H hK2 hP hD hS => ?_)
  obtain rfl := ar_I hK2
  have hP : va_P E.1 vwCl [(h0, .inr (5, [.null, .null, .null, .null, .int 0, .int 0, .int 0, .int 0, .int 0])), (pl1, .inl (E.2.1, 256, .inl (fun _ => 0)))] H := hP
  have hD : va_D A [(h0, .inr (5, [.null, .null, .null, .null, .int 0, .int 0, .int 0, .int 0, .int 0])), (pl1, .inl (E.2.1, 256, .inl (fun _ => 0)))] := hD
  refine W.widen (k := 1) (n := 256) (Nat.le_of_ble_eq_true rfl) (Nat.le_of_ble_eq_true rfl) ?_
  refine va_putF (D := E.1) (ci := 5) (v := .ref pl1) (ty := .array .int) (C := RX5) (T := TX5) (N := 9) hx hb hts in_X5_init_X5 tyX5 tyX5_ok nmX5 hown hK hP hD hS 0 rfl rfl 0 (by decide) q_4 (fun _ h9 => h9) rfl hin rfl (by decide +kernel) rfl rfl (Nat.le_of_ble_eq_true rfl) dX5_init_10 (fun H locs hP hD hS => ?_)
  have hP : va_P E.1 vwCl [(h0, .inr (5, [.ref pl1, .null, .null, .null, .int 0, .int 0, .int 0, .int 0, .int 0])), (pl1, .inl (E.2.1, 256, .inl (fun _ => 0)))] H := hP
  have hD : va_D A [(h0, .inr (5, [.ref pl1, .null, .null, .null, .int 0, .int 0, .int 0, .int 0, .int 0])), (pl1, .inl (E.2.1, 256, .inl (fun _ => 0)))] := hD
  refine lv_aload_n hx hb dX5_init_13 rfl (lv_at hl 0 rfl) ?_
  refine lv_bipush (v := 16) hx hb dX5_init_14 (by decide) ?_
  refine va_newa (atype := .boolean) (ty := .boolean) (N' := 16) (a0 := (16, .inl (fun _ => 0))) hx hb q_5 rfl hK hP hD hS hA (fun _ => rfl) (by decide) (by decide) (Nat.le_of_ble_eq_true rfl) (Nat.le_of_ble_eq_true rfl) (Nat.le_of_ble_eq_true rfl) dX5_init_16 (fun pl2 cA H hK2 hP hD hS => ?_)
  obtain rfl := ar_Z hK2
  have hP : va_P E.1 vwCl [(h0, .inr (5, [.ref pl1, .null, .null, .null, .int 0, .int 0, .int 0, .int 0, .int 0])), (pl1, .inl (E.2.1, 256, .inl (fun _ => 0))), (pl2, .inl (E.2.2.1, 16, .inl (fun _ => 0)))] H := hP
  have hD : va_D A [(h0, .inr (5, [.ref pl1, .null, .null, .null, .int 0, .int 0, .int 0, .int 0, .int 0])), (pl1, .inl (E.2.1, 256, .inl (fun _ => 0))), (pl2, .inl (E.2.2.1, 16, .inl (fun _ => 0)))] := hD
  refine W.widen (k := 2) (n := 272) (Nat.le_of_ble_eq_true rfl) (Nat.le_of_ble_eq_true rfl) ?_
  refine va_putF (D := E.1) (ci := 5) (v := .ref pl2) (ty := .array .boolean) (C := RX5) (T := TX5) (N := 9) hx hb hts in_X5_init_X5 tyX5 tyX5_ok nmX5 hown hK hP hD hS 0 rfl rfl 1 (by decide) q_6 (fun _ h9 => h9) rfl hin rfl (by decide +kernel) rfl rfl (Nat.le_of_ble_eq_true rfl) dX5_init_18 (fun H locs hP hD hS => ?_)
  have hP : va_P E.1 vwCl [(h0, .inr (5, [.ref pl1, .ref pl2, .null, .null, .int 0, .int 0, .int 0, .int 0, .int 0])), (pl1, .inl (E.2.1, 256, .inl (fun _ => 0))), (pl2, .inl (E.2.2.1, 16, .inl (fun _ => 0)))] H := hP
  have hD : va_D A [(h0, .inr (5, [.ref pl1, .ref pl2, .null, .null, .int 0, .int 0, .int 0, .int 0, .int 0])), (pl1, .inl (E.2.1, 256, .inl (fun _ => 0))), (pl2, .inl (E.2.2.1, 16, .inl (fun _ => 0)))] := hD
  refine lv_aload_n hx hb dX5_init_21 rfl (lv_at hl 0 rfl) ?_
  refine lv_bipush (v := 16) hx hb dX5_init_22 (by decide) ?_
  refine va_newa (atype := .int) (ty := .int) (N' := 16) (a0 := (16, .inl (fun _ => 0))) hx hb q_3 rfl hK hP hD hS hA (fun _ => rfl) (by decide) (by decide) (Nat.le_of_ble_eq_true rfl) (Nat.le_of_ble_eq_true rfl) (Nat.le_of_ble_eq_true rfl) dX5_init_24 (fun pl3 cA H hK2 hP hD hS => ?_)
  obtain rfl := ar_I hK2
  have hP : va_P E.1 vwCl [(h0, .inr (5, [.ref pl1, .ref pl2, .null, .null, .int 0, .int 0, .int 0, .int 0, .int 0])), (pl1, .inl (E.2.1, 256, .inl (fun _ => 0))), (pl2, .inl (E.2.2.1, 16, .inl (fun _ => 0))), (pl3, .inl (E.2.1, 16, .inl (fun _ => 0)))] H := hP
  have hD : va_D A [(h0, .inr (5, [.ref pl1, .ref pl2, .null, .null, .int 0, .int 0, .int 0, .int 0, .int 0])), (pl1, .inl (E.2.1, 256, .inl (fun _ => 0))), (pl2, .inl (E.2.2.1, 16, .inl (fun _ => 0))), (pl3, .inl (E.2.1, 16, .inl (fun _ => 0)))] := hD
  refine W.widen (k := 3) (n := 288) (Nat.le_of_ble_eq_true rfl) (Nat.le_of_ble_eq_true rfl) ?_
  refine va_putF (D := E.1) (ci := 5) (v := .ref pl3) (ty := .array .int) (C := RX5) (T := TX5) (N := 9) hx hb hts in_X5_init_X5 tyX5 tyX5_ok nmX5 hown hK hP hD hS 0 rfl rfl 2 (by decide) q_7 (fun _ h9 => h9) rfl hin rfl (by decide +kernel) rfl rfl (Nat.le_of_ble_eq_true rfl) dX5_init_26 (fun H locs hP hD hS => ?_)
  have hP : va_P E.1 vwCl [(h0, .inr (5, [.ref pl1, .ref pl2, .ref pl3, .null, .int 0, .int 0, .int 0, .int 0, .int 0])), (pl1, .inl (E.2.1, 256, .inl (fun _ => 0))), (pl2, .inl (E.2.2.1, 16, .inl (fun _ => 0))), (pl3, .inl (E.2.1, 16, .inl (fun _ => 0)))] H := hP
  have hD : va_D A [(h0, .inr (5, [.ref pl1, .ref pl2, .ref pl3, .null, .int 0, .int 0, .int 0, .int 0, .int 0])), (pl1, .inl (E.2.1, 256, .inl (fun _ => 0))), (pl2, .inl (E.2.2.1, 16, .inl (fun _ => 0))), (pl3, .inl (E.2.1, 16, .inl (fun _ => 0)))] := hD
  refine lv_aload_n hx hb dX5_init_29 rfl (lv_at hl 0 rfl) ?_
  refine lv_bipush (v := 16) hx hb dX5_init_30 (by decide) ?_
  refine va_newa (atype := .int) (ty := .int) (N' := 16) (a0 := (16, .inl (fun _ => 0))) hx hb q_3 rfl hK hP hD hS hA (fun _ => rfl) (by decide) (by decide) (Nat.le_of_ble_eq_true rfl) (Nat.le_of_ble_eq_true rfl) (Nat.le_of_ble_eq_true rfl) dX5_init_32 (fun pl4 cA H hK2 hP hD hS => ?_)
  obtain rfl := ar_I hK2
  have hP : va_P E.1 vwCl [(h0, .inr (5, [.ref pl1, .ref pl2, .ref pl3, .null, .int 0, .int 0, .int 0, .int 0, .int 0])), (pl1, .inl (E.2.1, 256, .inl (fun _ => 0))), (pl2, .inl (E.2.2.1, 16, .inl (fun _ => 0))), (pl3, .inl (E.2.1, 16, .inl (fun _ => 0))), (pl4, .inl (E.2.1, 16, .inl (fun _ => 0)))] H := hP
  have hD : va_D A [(h0, .inr (5, [.ref pl1, .ref pl2, .ref pl3, .null, .int 0, .int 0, .int 0, .int 0, .int 0])), (pl1, .inl (E.2.1, 256, .inl (fun _ => 0))), (pl2, .inl (E.2.2.1, 16, .inl (fun _ => 0))), (pl3, .inl (E.2.1, 16, .inl (fun _ => 0))), (pl4, .inl (E.2.1, 16, .inl (fun _ => 0)))] := hD
  refine W.widen (k := 4) (n := 304) (Nat.le_of_ble_eq_true rfl) (Nat.le_of_ble_eq_true rfl) ?_
  refine va_putF (D := E.1) (ci := 5) (v := .ref pl4) (ty := .array .int) (C := RX5) (T := TX5) (N := 9) hx hb hts in_X5_init_X5 tyX5 tyX5_ok nmX5 hown hK hP hD hS 0 rfl rfl 3 (by decide) q_8 (fun _ h9 => h9) rfl hin rfl (by decide +kernel) rfl rfl (Nat.le_of_ble_eq_true rfl) dX5_init_34 (fun H locs hP hD hS => ?_)
  have hP : va_P E.1 vwCl [(h0, .inr (5, [.ref pl1, .ref pl2, .ref pl3, .ref pl4, .int 0, .int 0, .int 0, .int 0, .int 0])), (pl1, .inl (E.2.1, 256, .inl (fun _ => 0))), (pl2, .inl (E.2.2.1, 16, .inl (fun _ => 0))), (pl3, .inl (E.2.1, 16, .inl (fun _ => 0))), (pl4, .inl (E.2.1, 16, .inl (fun _ => 0)))] H := hP
  have hD : va_D A [(h0, .inr (5, [.ref pl1, .ref pl2, .ref pl3, .ref pl4, .int 0, .int 0, .int 0, .int 0, .int 0])), (pl1, .inl (E.2.1, 256, .inl (fun _ => 0))), (pl2, .inl (E.2.2.1, 16, .inl (fun _ => 0))), (pl3, .inl (E.2.1, 16, .inl (fun _ => 0))), (pl4, .inl (E.2.1, 16, .inl (fun _ => 0)))] := hD
  exact hret H locs ls 37 (pl1, pl2, pl3, pl4) dX5_init_37 trivial hP hD hS
abbrev rk_Pa : Room := { frames := 1, cells := 1, slots := 256, locals := 12 }
theorem hk_Pa : hdOK yX4_init 0 := by decide +kernel
theorem in_X4_init_X4 : ∀ w ∈ wsX40, w ∈ wsX4_init := by decide +kernel
set_option maxRecDepth 100000 in
set_option maxHeartbeats 4000000 in
theorem k_Pa (l : Launch) (E : En4) (h0 : Nat) (sz : Nat) : Met l yX4_init wsX4_init rk_Pa (pcM [.ref h0] E sz [(h0, .inr (4, [.null]))]) (QK E sz [(h0, .inr (4, [.null]))] (fun (u : Nat) => [(h0, .inr (4, [.ref u])), (u, .inl (E.2.1, 256, .inl (fun _ => 0)))]) (fun _ => True)) 1 256 (va_A [(h0, .inr (4, [.null]))] sz) := by
  refine mk_K (cc := cX4_init) (maxL := 1) (by decide) rfl (Nat.le_of_ble_eq_true rfl) rfl ?_
  intro p e s m args below meth c Q A S hin hKN hA hret H locs ls hP hD hS hl
  obtain ⟨hx, hb, hml, hown, hts⟩ := S
  obtain ⟨hK, hN⟩ := hKN
  have hl : lv_has ls 1 [(0, .ref h0)] := hl
  have q_0 := hts (.methodLink RX4 3 objectInit) (by decide +kernel)
  have q_1 := hts (.instanceMethod objectInit) (by decide +kernel)
  have q_2 := hts (.code objectInit ⟨#[0xb1]⟩ 1 none) (by decide +kernel)
  have q_3 := hts (.arrayClass .int) (by decide +kernel)
  have q_4 := hts (.fieldLink RX4 9 "DelayClusters$Paths" "sums" "[I") (by decide +kernel)
  refine lv_aload_n hx hb dX4_init_0 rfl (lv_at hl 0 rfl) ?_
  refine W.objInit hx hb hown q_0 q_1 q_2 rfl (by rw [hml]; exact hl.1) rfl dX4_init_1 (Nat.le_of_ble_eq_true rfl) (Nat.le_of_ble_eq_true rfl) ?_
  refine W.eq (g2 := F0 m 4 ls []) rfl ?_
  refine lv_aload_n hx hb dX4_init_4 rfl (lv_at hl 0 rfl) ?_
  refine lv_sipush (v := 256) hx hb dX4_init_5 (by decide) ?_
  refine va_newa (atype := .int) (ty := .int) (N' := 256) (a0 := (256, .inl (fun _ => 0))) hx hb q_3 rfl hK hP hD hS hA (fun _ => rfl) (by decide) (by decide) (Nat.le_of_ble_eq_true rfl) (Nat.le_of_ble_eq_true rfl) (Nat.le_of_ble_eq_true rfl) dX4_init_8 (fun pa1 cA H hK2 hP hD hS => ?_)
  obtain rfl := ar_I hK2
  have hP : va_P E.1 vwCl [(h0, .inr (4, [.null])), (pa1, .inl (E.2.1, 256, .inl (fun _ => 0)))] H := hP
  have hD : va_D A [(h0, .inr (4, [.null])), (pa1, .inl (E.2.1, 256, .inl (fun _ => 0)))] := hD
  refine W.widen (k := 1) (n := 256) (Nat.le_of_ble_eq_true rfl) (Nat.le_of_ble_eq_true rfl) ?_
  refine va_putF (D := E.1) (ci := 4) (v := .ref pa1) (ty := .array .int) (C := RX4) (T := TX4) (N := 1) hx hb hts in_X4_init_X4 tyX4 tyX4_ok nmX4 hown hK hP hD hS 0 rfl rfl 0 (by decide) q_4 (fun _ h9 => h9) rfl hin rfl (by decide +kernel) rfl rfl (Nat.le_of_ble_eq_true rfl) dX4_init_10 (fun H locs hP hD hS => ?_)
  have hP : va_P E.1 vwCl [(h0, .inr (4, [.ref pa1])), (pa1, .inl (E.2.1, 256, .inl (fun _ => 0)))] H := hP
  have hD : va_D A [(h0, .inr (4, [.ref pa1])), (pa1, .inl (E.2.1, 256, .inl (fun _ => 0)))] := hD
  exact hret H locs ls 13 pa1 dX4_init_13 trivial hP hD hS
abbrev rk_Cl : Room := { frames := 1, cells := 3, slots := 48, locals := 12 }
theorem hk_Cl : hdOK yX1_init 2 := by decide +kernel
theorem in_X1_init_X1 : ∀ w ∈ wsX10, w ∈ wsX1_init := by decide +kernel
set_option maxRecDepth 100000 in
set_option maxHeartbeats 4000000 in
theorem k_Cl (l : Launch) (E : En4) (h0 pl0 pa0 : Nat) (sz : Nat) : Met l yX1_init wsX1_init rk_Cl (pcM [.ref h0, .ref pl0, .ref pa0] E sz [(h0, .inr (1, [.null, .null, .null, .null, .null, .int 0]))]) (QK E sz [(h0, .inr (1, [.null, .null, .null, .null, .null, .int 0]))] (fun (u : Nat × Nat × Nat) => [(h0, .inr (1, [.ref pl0, .ref pa0, .ref u.1, .ref u.2.1, .ref u.2.2, .int 0])), (u.1, .inl (E.2.1, 16, .inl (fun _ => 0))), (u.2.1, .inl (E.2.1, 16, .inl (fun _ => 0))), (u.2.2, .inl (E.2.1, 16, .inl (fun _ => 0)))]) (fun _ => True)) 3 48 (va_A [(h0, .inr (1, [.null, .null, .null, .null, .null, .int 0]))] sz) := by
  refine mk_K (cc := cX1_init) (maxL := 3) (by decide) rfl (Nat.le_of_ble_eq_true rfl) rfl ?_
  intro p e s m args below meth c Q A S hin hKN hA hret H locs ls hP hD hS hl
  obtain ⟨hx, hb, hml, hown, hts⟩ := S
  obtain ⟨hK, hN⟩ := hKN
  have hl : lv_has ls 3 [(0, .ref h0), (1, .ref pl0), (2, .ref pa0)] := hl
  have q_0 := hts (.methodLink RX1 3 objectInit) (by decide +kernel)
  have q_1 := hts (.instanceMethod objectInit) (by decide +kernel)
  have q_2 := hts (.code objectInit ⟨#[0xb1]⟩ 1 none) (by decide +kernel)
  have q_3 := hts (.arrayClass .int) (by decide +kernel)
  have q_4 := hts (.fieldLink RX1 9 "DelayClusters$Clustering" "delays" "[I") (by decide +kernel)
  have q_5 := hts (.fieldLink RX1 15 "DelayClusters$Clustering" "fractions" "[I") (by decide +kernel)
  have q_6 := hts (.fieldLink RX1 18 "DelayClusters$Clustering" "heads" "[I") (by decide +kernel)
  have q_7 := hts (.fieldLink RX1 21 "DelayClusters$Clustering" "plan" "LDelayClusters$Plan;") (by decide +kernel)
  have q_8 := hts (.fieldLink RX1 25 "DelayClusters$Clustering" "paths" "LDelayClusters$Paths;") (by decide +kernel)
  refine lv_aload_n hx hb dX1_init_0 rfl (lv_at hl 0 rfl) ?_
  refine W.objInit hx hb hown q_0 q_1 q_2 rfl (by rw [hml]; exact hl.1) rfl dX1_init_1 (Nat.le_of_ble_eq_true rfl) (Nat.le_of_ble_eq_true rfl) ?_
  refine W.eq (g2 := F0 m 4 ls []) rfl ?_
  refine lv_aload_n hx hb dX1_init_4 rfl (lv_at hl 0 rfl) ?_
  refine lv_bipush (v := 16) hx hb dX1_init_5 (by decide) ?_
  refine va_newa (atype := .int) (ty := .int) (N' := 16) (a0 := (16, .inl (fun _ => 0))) hx hb q_3 rfl hK hP hD hS hA (fun _ => rfl) (by decide) (by decide) (Nat.le_of_ble_eq_true rfl) (Nat.le_of_ble_eq_true rfl) (Nat.le_of_ble_eq_true rfl) dX1_init_7 (fun cl1 cA H hK2 hP hD hS => ?_)
  obtain rfl := ar_I hK2
  have hP : va_P E.1 vwCl [(h0, .inr (1, [.null, .null, .null, .null, .null, .int 0])), (cl1, .inl (E.2.1, 16, .inl (fun _ => 0)))] H := hP
  have hD : va_D A [(h0, .inr (1, [.null, .null, .null, .null, .null, .int 0])), (cl1, .inl (E.2.1, 16, .inl (fun _ => 0)))] := hD
  refine W.widen (k := 1) (n := 16) (Nat.le_of_ble_eq_true rfl) (Nat.le_of_ble_eq_true rfl) ?_
  refine va_putF (D := E.1) (ci := 1) (v := .ref cl1) (ty := .array .int) (C := RX1) (T := TX1) (N := 6) hx hb hts in_X1_init_X1 tyX1 tyX1_ok nmX1 hown hK hP hD hS 0 rfl rfl 2 (by decide) q_4 (fun _ h9 => h9) rfl hin rfl (by decide +kernel) rfl rfl (Nat.le_of_ble_eq_true rfl) dX1_init_9 (fun H locs hP hD hS => ?_)
  have hP : va_P E.1 vwCl [(h0, .inr (1, [.null, .null, .ref cl1, .null, .null, .int 0])), (cl1, .inl (E.2.1, 16, .inl (fun _ => 0)))] H := hP
  have hD : va_D A [(h0, .inr (1, [.null, .null, .ref cl1, .null, .null, .int 0])), (cl1, .inl (E.2.1, 16, .inl (fun _ => 0)))] := hD
  refine lv_aload_n hx hb dX1_init_12 rfl (lv_at hl 0 rfl) ?_
  refine lv_bipush (v := 16) hx hb dX1_init_13 (by decide) ?_
  refine va_newa (atype := .int) (ty := .int) (N' := 16) (a0 := (16, .inl (fun _ => 0))) hx hb q_3 rfl hK hP hD hS hA (fun _ => rfl) (by decide) (by decide) (Nat.le_of_ble_eq_true rfl) (Nat.le_of_ble_eq_true rfl) (Nat.le_of_ble_eq_true rfl) dX1_init_15 (fun cl2 cA H hK2 hP hD hS => ?_)
  obtain rfl := ar_I hK2
  have hP : va_P E.1 vwCl [(h0, .inr (1, [.null, .null, .ref cl1, .null, .null, .int 0])), (cl1, .inl (E.2.1, 16, .inl (fun _ => 0))), (cl2, .inl (E.2.1, 16, .inl (fun _ => 0)))] H := hP
  have hD : va_D A [(h0, .inr (1, [.null, .null, .ref cl1, .null, .null, .int 0])), (cl1, .inl (E.2.1, 16, .inl (fun _ => 0))), (cl2, .inl (E.2.1, 16, .inl (fun _ => 0)))] := hD
  refine W.widen (k := 2) (n := 32) (Nat.le_of_ble_eq_true rfl) (Nat.le_of_ble_eq_true rfl) ?_
  refine va_putF (D := E.1) (ci := 1) (v := .ref cl2) (ty := .array .int) (C := RX1) (T := TX1) (N := 6) hx hb hts in_X1_init_X1 tyX1 tyX1_ok nmX1 hown hK hP hD hS 0 rfl rfl 3 (by decide) q_5 (fun _ h9 => h9) rfl hin rfl (by decide +kernel) rfl rfl (Nat.le_of_ble_eq_true rfl) dX1_init_17 (fun H locs hP hD hS => ?_)
  have hP : va_P E.1 vwCl [(h0, .inr (1, [.null, .null, .ref cl1, .ref cl2, .null, .int 0])), (cl1, .inl (E.2.1, 16, .inl (fun _ => 0))), (cl2, .inl (E.2.1, 16, .inl (fun _ => 0)))] H := hP
  have hD : va_D A [(h0, .inr (1, [.null, .null, .ref cl1, .ref cl2, .null, .int 0])), (cl1, .inl (E.2.1, 16, .inl (fun _ => 0))), (cl2, .inl (E.2.1, 16, .inl (fun _ => 0)))] := hD
  refine lv_aload_n hx hb dX1_init_20 rfl (lv_at hl 0 rfl) ?_
  refine lv_bipush (v := 16) hx hb dX1_init_21 (by decide) ?_
  refine va_newa (atype := .int) (ty := .int) (N' := 16) (a0 := (16, .inl (fun _ => 0))) hx hb q_3 rfl hK hP hD hS hA (fun _ => rfl) (by decide) (by decide) (Nat.le_of_ble_eq_true rfl) (Nat.le_of_ble_eq_true rfl) (Nat.le_of_ble_eq_true rfl) dX1_init_23 (fun cl3 cA H hK2 hP hD hS => ?_)
  obtain rfl := ar_I hK2
  have hP : va_P E.1 vwCl [(h0, .inr (1, [.null, .null, .ref cl1, .ref cl2, .null, .int 0])), (cl1, .inl (E.2.1, 16, .inl (fun _ => 0))), (cl2, .inl (E.2.1, 16, .inl (fun _ => 0))), (cl3, .inl (E.2.1, 16, .inl (fun _ => 0)))] H := hP
  have hD : va_D A [(h0, .inr (1, [.null, .null, .ref cl1, .ref cl2, .null, .int 0])), (cl1, .inl (E.2.1, 16, .inl (fun _ => 0))), (cl2, .inl (E.2.1, 16, .inl (fun _ => 0))), (cl3, .inl (E.2.1, 16, .inl (fun _ => 0)))] := hD
  refine W.widen (k := 3) (n := 48) (Nat.le_of_ble_eq_true rfl) (Nat.le_of_ble_eq_true rfl) ?_
  refine va_putF (D := E.1) (ci := 1) (v := .ref cl3) (ty := .array .int) (C := RX1) (T := TX1) (N := 6) hx hb hts in_X1_init_X1 tyX1 tyX1_ok nmX1 hown hK hP hD hS 0 rfl rfl 4 (by decide) q_6 (fun _ h9 => h9) rfl hin rfl (by decide +kernel) rfl rfl (Nat.le_of_ble_eq_true rfl) dX1_init_25 (fun H locs hP hD hS => ?_)
  have hP : va_P E.1 vwCl [(h0, .inr (1, [.null, .null, .ref cl1, .ref cl2, .ref cl3, .int 0])), (cl1, .inl (E.2.1, 16, .inl (fun _ => 0))), (cl2, .inl (E.2.1, 16, .inl (fun _ => 0))), (cl3, .inl (E.2.1, 16, .inl (fun _ => 0)))] H := hP
  have hD : va_D A [(h0, .inr (1, [.null, .null, .ref cl1, .ref cl2, .ref cl3, .int 0])), (cl1, .inl (E.2.1, 16, .inl (fun _ => 0))), (cl2, .inl (E.2.1, 16, .inl (fun _ => 0))), (cl3, .inl (E.2.1, 16, .inl (fun _ => 0)))] := hD
  refine lv_aload_n hx hb dX1_init_28 rfl (lv_at hl 0 rfl) ?_
  refine lv_aload_n hx hb dX1_init_29 rfl (lv_at hl 1 rfl) ?_
  refine va_putF (D := E.1) (ci := 1) (v := .ref pl0) (ty := .object "DelayClusters$Plan") (C := RX1) (T := TX1) (N := 6) hx hb hts in_X1_init_X1 tyX1 tyX1_ok nmX1 hown hK hP hD hS 0 rfl rfl 0 (by decide) q_7 (fun _ h9 => h9) rfl hin rfl (by decide +kernel) rfl rfl (Nat.le_of_ble_eq_true rfl) dX1_init_30 (fun H locs hP hD hS => ?_)
  have hP : va_P E.1 vwCl [(h0, .inr (1, [.ref pl0, .null, .ref cl1, .ref cl2, .ref cl3, .int 0])), (cl1, .inl (E.2.1, 16, .inl (fun _ => 0))), (cl2, .inl (E.2.1, 16, .inl (fun _ => 0))), (cl3, .inl (E.2.1, 16, .inl (fun _ => 0)))] H := hP
  have hD : va_D A [(h0, .inr (1, [.ref pl0, .null, .ref cl1, .ref cl2, .ref cl3, .int 0])), (cl1, .inl (E.2.1, 16, .inl (fun _ => 0))), (cl2, .inl (E.2.1, 16, .inl (fun _ => 0))), (cl3, .inl (E.2.1, 16, .inl (fun _ => 0)))] := hD
  refine lv_aload_n hx hb dX1_init_33 rfl (lv_at hl 0 rfl) ?_
  refine lv_aload_n hx hb dX1_init_34 rfl (lv_at hl 2 rfl) ?_
  refine va_putF (D := E.1) (ci := 1) (v := .ref pa0) (ty := .object "DelayClusters$Paths") (C := RX1) (T := TX1) (N := 6) hx hb hts in_X1_init_X1 tyX1 tyX1_ok nmX1 hown hK hP hD hS 0 rfl rfl 1 (by decide) q_8 (fun _ h9 => h9) rfl hin rfl (by decide +kernel) rfl rfl (Nat.le_of_ble_eq_true rfl) dX1_init_35 (fun H locs hP hD hS => ?_)
  have hP : va_P E.1 vwCl [(h0, .inr (1, [.ref pl0, .ref pa0, .ref cl1, .ref cl2, .ref cl3, .int 0])), (cl1, .inl (E.2.1, 16, .inl (fun _ => 0))), (cl2, .inl (E.2.1, 16, .inl (fun _ => 0))), (cl3, .inl (E.2.1, 16, .inl (fun _ => 0)))] H := hP
  have hD : va_D A [(h0, .inr (1, [.ref pl0, .ref pa0, .ref cl1, .ref cl2, .ref cl3, .int 0])), (cl1, .inl (E.2.1, 16, .inl (fun _ => 0))), (cl2, .inl (E.2.1, 16, .inl (fun _ => 0))), (cl3, .inl (E.2.1, 16, .inl (fun _ => 0)))] := hD
  exact hret H locs ls 38 (cl1, cl2, cl3) dX1_init_38 trivial hP hD hS
abbrev rk_Rd : Room := { frames := 2, cells := 6, slots := 316, locals := 32 }
theorem hk_Rd : hdOK yX6_init 0 := by decide +kernel
theorem in_X6_init_X5 : ∀ w ∈ wsX50, w ∈ wsX6_init := by decide +kernel
theorem in_X6_init_X6 : ∀ w ∈ wsX60, w ∈ wsX6_init := by decide +kernel
set_option maxRecDepth 100000 in
set_option maxHeartbeats 4000000 in
theorem k_Rd (l : Launch) (E : En4) (h0 : Nat) (sz : Nat) : Met l yX6_init wsX6_init rk_Rd (pcM [.ref h0] E sz [(h0, .inr (6, [.null, .null]))]) (QK E sz [(h0, .inr (6, [.null, .null]))] (fun (u : Nat × Nat × Nat × Nat × Nat × Nat) => [(h0, .inr (6, [.ref u.1, .ref u.2.2.2.2.2])), (u.2.2.2.2.2, .inl (E.2.1, 3, .inl (fun _ => 0))), (u.1, .inr (5, [.ref u.2.1, .ref u.2.2.1, .ref u.2.2.2.1, .ref u.2.2.2.2.1, .int 0, .int 0, .int 0, .int 0, .int 0])), (u.2.1, .inl (E.2.1, 256, .inl (fun _ => 0))), (u.2.2.1, .inl (E.2.2.1, 16, .inl (fun _ => 0))), (u.2.2.2.1, .inl (E.2.1, 16, .inl (fun _ => 0))), (u.2.2.2.2.1, .inl (E.2.1, 16, .inl (fun _ => 0)))]) (fun _ => True)) 6 316 (va_A [(h0, .inr (6, [.null, .null]))] sz) := by
  refine mk_K (cc := cX6_init) (maxL := 1) (by decide) rfl (Nat.le_of_ble_eq_true rfl) rfl ?_
  intro p e s m args below meth c Q A S hin hKN hA hret H locs ls hP hD hS hl
  obtain ⟨hx, hb, hml, hown, hts⟩ := S
  obtain ⟨hK, hN⟩ := hKN
  have hl : lv_has ls 1 [(0, .ref h0)] := hl
  have q_0 := hts (.methodLink RX6 3 objectInit) (by decide +kernel)
  have q_1 := hts (.instanceMethod objectInit) (by decide +kernel)
  have q_2 := hts (.code objectInit ⟨#[0xb1]⟩ 1 none) (by decide +kernel)
  have q_3 := hts (.classLink RX6 9 RX5) (by decide +kernel)
  have q_4 := hts (.instantiable RX5 9) (by decide +kernel)
  have q_5 := hts (.initialized RX5) (by decide +kernel)
  have q_6 := hts (.instanceMethod yX5_init) (by decide +kernel)
  have q_7 := hts (.fieldLink RX6 12 "DelayClusters$Reader" "draft" "LDelayClusters$Plan;") (by decide +kernel)
  have q_8 := hts (.arrayClass .int) (by decide +kernel)
  have q_9 := hts (.fieldLink RX6 18 "DelayClusters$Reader" "numbers" "[I") (by decide +kernel)
  refine lv_aload_n hx hb dX6_init_0 rfl (lv_at hl 0 rfl) ?_
  refine W.objInit hx hb hown q_0 q_1 q_2 rfl (by rw [hml]; exact hl.1) rfl dX6_init_1 (Nat.le_of_ble_eq_true rfl) (Nat.le_of_ble_eq_true rfl) ?_
  refine W.eq (g2 := F0 m 4 ls []) rfl ?_
  refine lv_aload_n hx hb dX6_init_4 rfl (lv_at hl 0 rfl) ?_
  refine va_new (ci := 5) (fs := [.null, .null, .null, .null, .int 0, .int 0, .int 0, .int 0, .int 0]) (C := RX5) (T := TX5) (N := 9) hx hb hts in_X6_init_X5 tyX5 tyX5_ok hown q_3 q_4 q_5 hK hP hD hS hA rfl (by decide +kernel) (Nat.le_of_ble_eq_true rfl) (Nat.le_of_ble_eq_true rfl) dX6_init_5 (fun dr0 H hP hD hS => ?_)
  have hP : va_P E.1 vwCl [(h0, .inr (6, [.null, .null])), (dr0, .inr (5, [.null, .null, .null, .null, .int 0, .int 0, .int 0, .int 0, .int 0]))] H := hP
  have hD : va_D A [(h0, .inr (6, [.null, .null])), (dr0, .inr (5, [.null, .null, .null, .null, .int 0, .int 0, .int 0, .int 0, .int 0]))] := hD
  refine W.widen (k := 1) (n := 9) (Nat.le_of_ble_eq_true rfl) (Nat.le_of_ble_eq_true rfl) ?_
  refine lv_dup hx hb dX6_init_8 rfl ?_
  refine ca_KN (host := RX7) (As := []) (rest := [.ref dr0, .ref h0]) ⟨hx, hb, hml, hown, hts⟩ ⟨hK, hN⟩ hP hD hS hA (k_Pl l E dr0 H.size) [1] [0] rfl rfl rfl rfl (by decide) (by decide +kernel) gX6_init_X5_init_n11 rfl rfl rfl rfl q_6 q_5 hk_Pl ⟨(Nat.le_of_ble_eq_true rfl), (Nat.le_of_ble_eq_true rfl)⟩ rfl hl.1 rfl (Nat.le_of_ble_eq_true rfl) dX6_init_9 ⟨(Nat.le_of_ble_eq_true rfl), (Nat.le_of_ble_eq_true rfl)⟩ (fun u H locs _ hP hD hS => ?_)
  obtain ⟨dr1, dr2, dr3, dr4⟩ := u
  have hP : va_P E.1 vwCl [(h0, .inr (6, [.null, .null])), (dr0, .inr (5, [.ref dr1, .ref dr2, .ref dr3, .ref dr4, .int 0, .int 0, .int 0, .int 0, .int 0])), (dr1, .inl (E.2.1, 256, .inl (fun _ => 0))), (dr2, .inl (E.2.2.1, 16, .inl (fun _ => 0))), (dr3, .inl (E.2.1, 16, .inl (fun _ => 0))), (dr4, .inl (E.2.1, 16, .inl (fun _ => 0)))] H := hP
  have hD : va_D A [(h0, .inr (6, [.null, .null])), (dr0, .inr (5, [.ref dr1, .ref dr2, .ref dr3, .ref dr4, .int 0, .int 0, .int 0, .int 0, .int 0])), (dr1, .inl (E.2.1, 256, .inl (fun _ => 0))), (dr2, .inl (E.2.2.1, 16, .inl (fun _ => 0))), (dr3, .inl (E.2.1, 16, .inl (fun _ => 0))), (dr4, .inl (E.2.1, 16, .inl (fun _ => 0)))] := hD
  refine W.widen (k := 5) (n := 313) (Nat.le_of_ble_eq_true rfl) (Nat.le_of_ble_eq_true rfl) ?_
  refine va_putF (D := E.1) (ci := 6) (v := .ref dr0) (ty := .object "DelayClusters$Plan") (C := RX6) (T := TX6) (N := 2) hx hb hts in_X6_init_X6 tyX6 tyX6_ok nmX6 hown hK hP hD hS 0 rfl rfl 0 (by decide) q_7 (fun _ h9 => h9) rfl hin rfl (by decide +kernel) rfl rfl (Nat.le_of_ble_eq_true rfl) dX6_init_12 (fun H locs hP hD hS => ?_)
  have hP : va_P E.1 vwCl [(h0, .inr (6, [.ref dr0, .null])), (dr0, .inr (5, [.ref dr1, .ref dr2, .ref dr3, .ref dr4, .int 0, .int 0, .int 0, .int 0, .int 0])), (dr1, .inl (E.2.1, 256, .inl (fun _ => 0))), (dr2, .inl (E.2.2.1, 16, .inl (fun _ => 0))), (dr3, .inl (E.2.1, 16, .inl (fun _ => 0))), (dr4, .inl (E.2.1, 16, .inl (fun _ => 0)))] H := hP
  have hD : va_D A [(h0, .inr (6, [.ref dr0, .null])), (dr0, .inr (5, [.ref dr1, .ref dr2, .ref dr3, .ref dr4, .int 0, .int 0, .int 0, .int 0, .int 0])), (dr1, .inl (E.2.1, 256, .inl (fun _ => 0))), (dr2, .inl (E.2.2.1, 16, .inl (fun _ => 0))), (dr3, .inl (E.2.1, 16, .inl (fun _ => 0))), (dr4, .inl (E.2.1, 16, .inl (fun _ => 0)))] := hD
  refine lv_aload_n hx hb dX6_init_15 rfl (lv_at hl 0 rfl) ?_
  refine lv_iconst (v := 3) hx hb dX6_init_16 (by decide) ?_
  refine va_newa (atype := .int) (ty := .int) (N' := 3) (a0 := (3, .inl (fun _ => 0))) hx hb q_8 rfl hK hP hD hS hA (fun _ => rfl) (by decide) (by decide) (Nat.le_of_ble_eq_true rfl) (Nat.le_of_ble_eq_true rfl) (Nat.le_of_ble_eq_true rfl) dX6_init_17 (fun rd1 cA H hK2 hP hD hS => ?_)
  obtain rfl := ar_I hK2
  have hP : va_P E.1 vwCl [(h0, .inr (6, [.ref dr0, .null])), (dr0, .inr (5, [.ref dr1, .ref dr2, .ref dr3, .ref dr4, .int 0, .int 0, .int 0, .int 0, .int 0])), (dr1, .inl (E.2.1, 256, .inl (fun _ => 0))), (dr2, .inl (E.2.2.1, 16, .inl (fun _ => 0))), (dr3, .inl (E.2.1, 16, .inl (fun _ => 0))), (dr4, .inl (E.2.1, 16, .inl (fun _ => 0))), (rd1, .inl (E.2.1, 3, .inl (fun _ => 0)))] H := hP
  have hD : va_D A [(h0, .inr (6, [.ref dr0, .null])), (dr0, .inr (5, [.ref dr1, .ref dr2, .ref dr3, .ref dr4, .int 0, .int 0, .int 0, .int 0, .int 0])), (dr1, .inl (E.2.1, 256, .inl (fun _ => 0))), (dr2, .inl (E.2.2.1, 16, .inl (fun _ => 0))), (dr3, .inl (E.2.1, 16, .inl (fun _ => 0))), (dr4, .inl (E.2.1, 16, .inl (fun _ => 0))), (rd1, .inl (E.2.1, 3, .inl (fun _ => 0)))] := hD
  refine W.widen (k := 6) (n := 316) (Nat.le_of_ble_eq_true rfl) (Nat.le_of_ble_eq_true rfl) ?_
  refine va_putF (D := E.1) (ci := 6) (v := .ref rd1) (ty := .array .int) (C := RX6) (T := TX6) (N := 2) hx hb hts in_X6_init_X6 tyX6 tyX6_ok nmX6 hown hK hP hD hS 0 rfl rfl 1 (by decide) q_9 (fun _ h9 => h9) rfl hin rfl (by decide +kernel) rfl rfl (Nat.le_of_ble_eq_true rfl) dX6_init_19 (fun H locs hP hD hS => ?_)
  have hP : va_P E.1 vwCl [(h0, .inr (6, [.ref dr0, .ref rd1])), (dr0, .inr (5, [.ref dr1, .ref dr2, .ref dr3, .ref dr4, .int 0, .int 0, .int 0, .int 0, .int 0])), (dr1, .inl (E.2.1, 256, .inl (fun _ => 0))), (dr2, .inl (E.2.2.1, 16, .inl (fun _ => 0))), (dr3, .inl (E.2.1, 16, .inl (fun _ => 0))), (dr4, .inl (E.2.1, 16, .inl (fun _ => 0))), (rd1, .inl (E.2.1, 3, .inl (fun _ => 0)))] H := hP
  have hD : va_D A [(h0, .inr (6, [.ref dr0, .ref rd1])), (dr0, .inr (5, [.ref dr1, .ref dr2, .ref dr3, .ref dr4, .int 0, .int 0, .int 0, .int 0, .int 0])), (dr1, .inl (E.2.1, 256, .inl (fun _ => 0))), (dr2, .inl (E.2.2.1, 16, .inl (fun _ => 0))), (dr3, .inl (E.2.1, 16, .inl (fun _ => 0))), (dr4, .inl (E.2.1, 16, .inl (fun _ => 0))), (rd1, .inl (E.2.1, 3, .inl (fun _ => 0)))] := hD
  have hP := hP.sub (ws' := [(h0, .inr (6, [.ref dr0, .ref rd1])), (rd1, .inl (E.2.1, 3, .inl (fun _ => 0))), (dr0, .inr (5, [.ref dr1, .ref dr2, .ref dr3, .ref dr4, .int 0, .int 0, .int 0, .int 0, .int 0])), (dr1, .inl (E.2.1, 256, .inl (fun _ => 0))), (dr2, .inl (E.2.2.1, 16, .inl (fun _ => 0))), (dr3, .inl (E.2.1, 16, .inl (fun _ => 0))), (dr4, .inl (E.2.1, 16, .inl (fun _ => 0)))]) [0, 6, 1, 2, 3, 4, 5] rfl
  have hD := hD.sub (ws' := [(h0, .inr (6, [.ref dr0, .ref rd1])), (rd1, .inl (E.2.1, 3, .inl (fun _ => 0))), (dr0, .inr (5, [.ref dr1, .ref dr2, .ref dr3, .ref dr4, .int 0, .int 0, .int 0, .int 0, .int 0])), (dr1, .inl (E.2.1, 256, .inl (fun _ => 0))), (dr2, .inl (E.2.2.1, 16, .inl (fun _ => 0))), (dr3, .inl (E.2.1, 16, .inl (fun _ => 0))), (dr4, .inl (E.2.1, 16, .inl (fun _ => 0)))]) [0, 6, 1, 2, 3, 4, 5] rfl rfl
  exact hret H locs ls 22 (dr0, dr1, dr2, dr3, dr4, rd1) dX6_init_22 trivial hP hD hS
abbrev rk_Pt : Room := { frames := 2, cells := 5, slots := 36, locals := 32 }
theorem hk_Pt : hdOK yX3_init 0 := by decide +kernel
theorem in_X3_init_X3 : ∀ w ∈ wsX30, w ∈ wsX3_init := by decide +kernel
theorem in_X3_init_X0 : ∀ w ∈ wsX00, w ∈ wsX3_init := by decide +kernel
set_option maxRecDepth 100000 in
set_option maxHeartbeats 4000000 in
theorem k_Pt (l : Launch) (E : En4) (h0 : Nat) (sz : Nat) : Met l yX3_init wsX3_init rk_Pt (pcM [.ref h0] E sz [(h0, .inr (3, [.null, .int 0, .int 0]))]) (QK E sz [(h0, .inr (3, [.null, .int 0, .int 0]))] (fun (u : Nat × Nat × Nat × Nat × Nat) => [(h0, .inr (3, [.ref u.1, .int 0, .int 0])), (u.1, .inl (E.2.2.2.2, 4, .inr (.inr (.inr (.inr (fun k => if k = 0 then some u.2.1 else if k = 1 then some u.2.2.1 else if k = 2 then some u.2.2.2.1 else some u.2.2.2.2)))))), (u.2.1, .inr (0, [.int 0, .int 0, .int 0, .int 0, .int 0, .int 0, .int 0, .int 0])), (u.2.2.1, .inr (0, [.int 0, .int 0, .int 0, .int 0, .int 0, .int 0, .int 0, .int 0])), (u.2.2.2.1, .inr (0, [.int 0, .int 0, .int 0, .int 0, .int 0, .int 0, .int 0, .int 0])), (u.2.2.2.2, .inr (0, [.int 0, .int 0, .int 0, .int 0, .int 0, .int 0, .int 0, .int 0]))]) (fun _ => True)) 5 36 (va_A [(h0, .inr (3, [.null, .int 0, .int 0]))] sz) := by
  refine mk_K (cc := cX3_init) (maxL := 2) (by decide) rfl (Nat.le_of_ble_eq_true rfl) rfl ?_
  intro p e s m args below meth c Q A S hin hKN hA hret H locs ls hP hD hS hl
  obtain ⟨hx, hb, hml, hown, hts⟩ := S
  obtain ⟨hK, hN⟩ := hKN
  have hl : lv_has ls 2 [(0, .ref h0)] := hl
  have q_0 := hts (.methodLink RX3 3 objectInit) (by decide +kernel)
  have q_1 := hts (.instanceMethod objectInit) (by decide +kernel)
  have q_2 := hts (.code objectInit ⟨#[0xb1]⟩ 1 none) (by decide +kernel)
  have q_3 := hts (.classLink RX3 9 RX0) (by decide +kernel)
  have q_4 := hts (.fieldLink RX3 11 "DelayClusters$Past" "changes" "[LDelayClusters$Change;") (by decide +kernel)
  have q_5 := hts (.instantiable RX0 8) (by decide +kernel)
  have q_6 := hts (.initialized RX0) (by decide +kernel)
  have q_7 := hts (.instanceMethod yX0_init) (by decide +kernel)
  refine lv_aload_n hx hb dX3_init_0 rfl (lv_at hl 0 rfl) ?_
  refine W.objInit hx hb hown q_0 q_1 q_2 rfl (by rw [hml]; exact hl.1) rfl dX3_init_1 (Nat.le_of_ble_eq_true rfl) (Nat.le_of_ble_eq_true rfl) ?_
  refine W.eq (g2 := F0 m 4 ls []) rfl ?_
  refine lv_aload_n hx hb dX3_init_4 rfl (lv_at hl 0 rfl) ?_
  refine lv_iconst (v := 4) hx hb dX3_init_5 (by decide) ?_
  refine va_newq (N' := 4) hx hb hown q_3 hN.2 hK hP hD hS hA (by decide) (by decide) (Nat.le_of_ble_eq_true rfl) (Nat.le_of_ble_eq_true rfl) (Nat.le_of_ble_eq_true rfl) dX3_init_6 (fun pt1 cA H hK2 hP hD hS => ?_)
  obtain rfl := ar_Q hK2
  have hP : va_P E.1 vwCl [(h0, .inr (3, [.null, .int 0, .int 0])), (pt1, .inl (E.2.2.2.2, 4, .inr (.inr (.inr (.inr (fun _ => none))))))] H := hP
  have hD : va_D A [(h0, .inr (3, [.null, .int 0, .int 0])), (pt1, .inl (E.2.2.2.2, 4, .inr (.inr (.inr (.inr (fun _ => none))))))] := hD
  refine W.widen (k := 1) (n := 4) (Nat.le_of_ble_eq_true rfl) (Nat.le_of_ble_eq_true rfl) ?_
  refine va_putF (D := E.1) (ci := 3) (v := .ref pt1) (ty := .array (.object "DelayClusters$Change")) (C := RX3) (T := TX3) (N := 3) hx hb hts in_X3_init_X3 tyX3 tyX3_ok nmX3 hown hK hP hD hS 0 rfl rfl 0 (by decide) q_4 (fun _ h9 => h9) rfl hin rfl (by decide +kernel) rfl rfl (Nat.le_of_ble_eq_true rfl) dX3_init_9 (fun H locs hP hD hS => ?_)
  have hP : va_P E.1 vwCl [(h0, .inr (3, [.ref pt1, .int 0, .int 0])), (pt1, .inl (E.2.2.2.2, 4, .inr (.inr (.inr (.inr (fun _ => none))))))] H := hP
  have hD : va_D A [(h0, .inr (3, [.ref pt1, .int 0, .int 0])), (pt1, .inl (E.2.2.2.2, 4, .inr (.inr (.inr (.inr (fun _ => none))))))] := hD
  refine lv_iconst (v := 0) hx hb dX3_init_12 (by decide) ?_
  refine lv_istore_n (lv' := [(1, .int 0), (0, .ref h0)]) hx hb dX3_init_13 rfl hl (by decide) rfl (fun ls hl => ?_)
  refine lv_iload_n hx hb dX3_init_14 rfl (lv_at hl 0 rfl) ?_
  refine lv_iconst (v := 4) hx hb dX3_init_15 (by decide) ?_
  refine lv_icmp_ge (tgt := 38) hx hb dX3_init_16 (by decide) (fun c_ => absurd c_ (by decide)) (fun _ => ?_)
  refine lv_aload_n hx hb dX3_init_19 rfl (lv_at hl 1 rfl) ?_
  refine va_get (D := E.1) (ci := 3) (v := .ref pt1) (C := RX3) (T := TX3) (N := 3) hx hb hts in_X3_init_X3 hown hK hP 0 rfl rfl 0 (by decide) q_4 (fun _ h9 => h9) rfl dX3_init_20 ?_
  refine lv_iload_n hx hb dX3_init_23 rfl (lv_at hl 0 rfl) ?_
  refine va_new (ci := 0) (fs := [.int 0, .int 0, .int 0, .int 0, .int 0, .int 0, .int 0, .int 0]) (C := RX0) (T := TX0) (N := 8) hx hb hts in_X3_init_X0 tyX0 tyX0_ok hown q_3 q_5 q_6 hK hP hD hS hA rfl (by decide +kernel) (Nat.le_of_ble_eq_true rfl) (Nat.le_of_ble_eq_true rfl) dX3_init_24 (fun ca0 H hP hD hS => ?_)
  have hP : va_P E.1 vwCl [(h0, .inr (3, [.ref pt1, .int 0, .int 0])), (pt1, .inl (E.2.2.2.2, 4, .inr (.inr (.inr (.inr (fun _ => none)))))), (ca0, .inr (0, [.int 0, .int 0, .int 0, .int 0, .int 0, .int 0, .int 0, .int 0]))] H := hP
  have hD : va_D A [(h0, .inr (3, [.ref pt1, .int 0, .int 0])), (pt1, .inl (E.2.2.2.2, 4, .inr (.inr (.inr (.inr (fun _ => none)))))), (ca0, .inr (0, [.int 0, .int 0, .int 0, .int 0, .int 0, .int 0, .int 0, .int 0]))] := hD
  refine W.widen (k := 2) (n := 12) (Nat.le_of_ble_eq_true rfl) (Nat.le_of_ble_eq_true rfl) ?_
  refine lv_dup hx hb dX3_init_27 rfl ?_
  refine ca_KN (host := RX7) (As := []) (rest := [.ref ca0, .int 0, .ref pt1]) ⟨hx, hb, hml, hown, hts⟩ ⟨hK, hN⟩ hP hD hS hA (k_Ch l E ca0 H.size) [2] [0, 1] rfl rfl rfl rfl (by decide) (by decide +kernel) gX3_init_X0_init_n17 rfl rfl rfl rfl q_7 q_6 hk_Ch ⟨(Nat.le_of_ble_eq_true rfl), (Nat.le_of_ble_eq_true rfl)⟩ rfl hl.1 rfl (Nat.le_of_ble_eq_true rfl) dX3_init_28 ⟨(Nat.le_of_ble_eq_true rfl), (Nat.le_of_ble_eq_true rfl)⟩ (fun u H locs _ hP hD hS => ?_)
  have hP : va_P E.1 vwCl [(h0, .inr (3, [.ref pt1, .int 0, .int 0])), (pt1, .inl (E.2.2.2.2, 4, .inr (.inr (.inr (.inr (fun _ => none)))))), (ca0, .inr (0, [.int 0, .int 0, .int 0, .int 0, .int 0, .int 0, .int 0, .int 0]))] H := hP
  have hD : va_D A [(h0, .inr (3, [.ref pt1, .int 0, .int 0])), (pt1, .inl (E.2.2.2.2, 4, .inr (.inr (.inr (.inr (fun _ => none)))))), (ca0, .inr (0, [.int 0, .int 0, .int 0, .int 0, .int 0, .int 0, .int 0, .int 0]))] := hD
  refine W.widen (k := 2) (n := 12) (Nat.le_of_ble_eq_true rfl) (Nat.le_of_ble_eq_true rfl) ?_
  refine va_astq hx hb hK hP hD hS 1 3 2 0 rfl rfl rfl rfl (ck_in (by decide)) dX3_init_31 (fun H locs hP hD hS => ?_)
  have hP : va_P E.1 vwCl [(h0, .inr (3, [.ref pt1, .int 0, .int 0])), (pt1, .inl (E.2.2.2.2, 4, .inr (.inr (.inr (.inr (va_up (fun _ => none) (0 : Int32).toNatClampNeg (some ca0))))))), (ca0, .inr (0, [.int 0, .int 0, .int 0, .int 0, .int 0, .int 0, .int 0, .int 0]))] H := hP
  have hD : va_D A [(h0, .inr (3, [.ref pt1, .int 0, .int 0])), (pt1, .inl (E.2.2.2.2, 4, .inr (.inr (.inr (.inr (va_up (fun _ => none) (0 : Int32).toNatClampNeg (some ca0))))))), (ca0, .inr (0, [.int 0, .int 0, .int 0, .int 0, .int 0, .int 0, .int 0, .int 0]))] := hD
  refine lv_iinc (v := 1) (lv' := [(1, .int 1), (0, .ref h0)]) hx hb dX3_init_32 hl (k := 0) rfl (by decide) (by decide) rfl (fun ls hl => ?_)
  refine lv_goto (tgt := 14) hx hb dX3_init_35 (by decide) ?_
  refine lv_iload_n hx hb dX3_init_14 rfl (lv_at hl 0 rfl) ?_
  refine lv_iconst (v := 4) hx hb dX3_init_15 (by decide) ?_
  refine lv_icmp_ge (tgt := 38) hx hb dX3_init_16 (by decide) (fun c_ => absurd c_ (by decide)) (fun _ => ?_)
  refine lv_aload_n hx hb dX3_init_19 rfl (lv_at hl 1 rfl) ?_
  refine va_get (D := E.1) (ci := 3) (v := .ref pt1) (C := RX3) (T := TX3) (N := 3) hx hb hts in_X3_init_X3 hown hK hP 0 rfl rfl 0 (by decide) q_4 (fun _ h9 => h9) rfl dX3_init_20 ?_
  refine lv_iload_n hx hb dX3_init_23 rfl (lv_at hl 0 rfl) ?_
  refine va_new (ci := 0) (fs := [.int 0, .int 0, .int 0, .int 0, .int 0, .int 0, .int 0, .int 0]) (C := RX0) (T := TX0) (N := 8) hx hb hts in_X3_init_X0 tyX0 tyX0_ok hown q_3 q_5 q_6 hK hP hD hS hA rfl (by decide +kernel) (Nat.le_of_ble_eq_true rfl) (Nat.le_of_ble_eq_true rfl) dX3_init_24 (fun cb0 H hP hD hS => ?_)
  have hP : va_P E.1 vwCl [(h0, .inr (3, [.ref pt1, .int 0, .int 0])), (pt1, .inl (E.2.2.2.2, 4, .inr (.inr (.inr (.inr (va_up (fun _ => none) (0 : Int32).toNatClampNeg (some ca0))))))), (ca0, .inr (0, [.int 0, .int 0, .int 0, .int 0, .int 0, .int 0, .int 0, .int 0])), (cb0, .inr (0, [.int 0, .int 0, .int 0, .int 0, .int 0, .int 0, .int 0, .int 0]))] H := hP
  have hD : va_D A [(h0, .inr (3, [.ref pt1, .int 0, .int 0])), (pt1, .inl (E.2.2.2.2, 4, .inr (.inr (.inr (.inr (va_up (fun _ => none) (0 : Int32).toNatClampNeg (some ca0))))))), (ca0, .inr (0, [.int 0, .int 0, .int 0, .int 0, .int 0, .int 0, .int 0, .int 0])), (cb0, .inr (0, [.int 0, .int 0, .int 0, .int 0, .int 0, .int 0, .int 0, .int 0]))] := hD
  refine W.widen (k := 3) (n := 20) (Nat.le_of_ble_eq_true rfl) (Nat.le_of_ble_eq_true rfl) ?_
  refine lv_dup hx hb dX3_init_27 rfl ?_
  refine ca_KN (host := RX7) (As := []) (rest := [.ref cb0, .int 1, .ref pt1]) ⟨hx, hb, hml, hown, hts⟩ ⟨hK, hN⟩ hP hD hS hA (k_Ch l E cb0 H.size) [3] [0, 1, 2] rfl rfl rfl rfl (by decide) (by decide +kernel) gX3_init_X0_init_n17 rfl rfl rfl rfl q_7 q_6 hk_Ch ⟨(Nat.le_of_ble_eq_true rfl), (Nat.le_of_ble_eq_true rfl)⟩ rfl hl.1 rfl (Nat.le_of_ble_eq_true rfl) dX3_init_28 ⟨(Nat.le_of_ble_eq_true rfl), (Nat.le_of_ble_eq_true rfl)⟩ (fun u H locs _ hP hD hS => ?_)
  have hP : va_P E.1 vwCl [(h0, .inr (3, [.ref pt1, .int 0, .int 0])), (pt1, .inl (E.2.2.2.2, 4, .inr (.inr (.inr (.inr (va_up (fun _ => none) (0 : Int32).toNatClampNeg (some ca0))))))), (ca0, .inr (0, [.int 0, .int 0, .int 0, .int 0, .int 0, .int 0, .int 0, .int 0])), (cb0, .inr (0, [.int 0, .int 0, .int 0, .int 0, .int 0, .int 0, .int 0, .int 0]))] H := hP
  have hD : va_D A [(h0, .inr (3, [.ref pt1, .int 0, .int 0])), (pt1, .inl (E.2.2.2.2, 4, .inr (.inr (.inr (.inr (va_up (fun _ => none) (0 : Int32).toNatClampNeg (some ca0))))))), (ca0, .inr (0, [.int 0, .int 0, .int 0, .int 0, .int 0, .int 0, .int 0, .int 0])), (cb0, .inr (0, [.int 0, .int 0, .int 0, .int 0, .int 0, .int 0, .int 0, .int 0]))] := hD
  refine W.widen (k := 3) (n := 20) (Nat.le_of_ble_eq_true rfl) (Nat.le_of_ble_eq_true rfl) ?_
  refine va_astq hx hb hK hP hD hS 1 3 3 0 rfl rfl rfl rfl (ck_in (by decide)) dX3_init_31 (fun H locs hP hD hS => ?_)
  have hP : va_P E.1 vwCl [(h0, .inr (3, [.ref pt1, .int 0, .int 0])), (pt1, .inl (E.2.2.2.2, 4, .inr (.inr (.inr (.inr (va_up (va_up (fun _ => none) (0 : Int32).toNatClampNeg (some ca0)) (1 : Int32).toNatClampNeg (some cb0))))))), (ca0, .inr (0, [.int 0, .int 0, .int 0, .int 0, .int 0, .int 0, .int 0, .int 0])), (cb0, .inr (0, [.int 0, .int 0, .int 0, .int 0, .int 0, .int 0, .int 0, .int 0]))] H := hP
  have hD : va_D A [(h0, .inr (3, [.ref pt1, .int 0, .int 0])), (pt1, .inl (E.2.2.2.2, 4, .inr (.inr (.inr (.inr (va_up (va_up (fun _ => none) (0 : Int32).toNatClampNeg (some ca0)) (1 : Int32).toNatClampNeg (some cb0))))))), (ca0, .inr (0, [.int 0, .int 0, .int 0, .int 0, .int 0, .int 0, .int 0, .int 0])), (cb0, .inr (0, [.int 0, .int 0, .int 0, .int 0, .int 0, .int 0, .int 0, .int 0]))] := hD
  refine lv_iinc (v := 2) (lv' := [(1, .int 2), (0, .ref h0)]) hx hb dX3_init_32 hl (k := 0) rfl (by decide) (by decide) rfl (fun ls hl => ?_)
  refine lv_goto (tgt := 14) hx hb dX3_init_35 (by decide) ?_
  refine lv_iload_n hx hb dX3_init_14 rfl (lv_at hl 0 rfl) ?_
  refine lv_iconst (v := 4) hx hb dX3_init_15 (by decide) ?_
  refine lv_icmp_ge (tgt := 38) hx hb dX3_init_16 (by decide) (fun c_ => absurd c_ (by decide)) (fun _ => ?_)
  refine lv_aload_n hx hb dX3_init_19 rfl (lv_at hl 1 rfl) ?_
  refine va_get (D := E.1) (ci := 3) (v := .ref pt1) (C := RX3) (T := TX3) (N := 3) hx hb hts in_X3_init_X3 hown hK hP 0 rfl rfl 0 (by decide) q_4 (fun _ h9 => h9) rfl dX3_init_20 ?_
  refine lv_iload_n hx hb dX3_init_23 rfl (lv_at hl 0 rfl) ?_
  refine va_new (ci := 0) (fs := [.int 0, .int 0, .int 0, .int 0, .int 0, .int 0, .int 0, .int 0]) (C := RX0) (T := TX0) (N := 8) hx hb hts in_X3_init_X0 tyX0 tyX0_ok hown q_3 q_5 q_6 hK hP hD hS hA rfl (by decide +kernel) (Nat.le_of_ble_eq_true rfl) (Nat.le_of_ble_eq_true rfl) dX3_init_24 (fun cc0 H hP hD hS => ?_)
  have hP : va_P E.1 vwCl [(h0, .inr (3, [.ref pt1, .int 0, .int 0])), (pt1, .inl (E.2.2.2.2, 4, .inr (.inr (.inr (.inr (va_up (va_up (fun _ => none) (0 : Int32).toNatClampNeg (some ca0)) (1 : Int32).toNatClampNeg (some cb0))))))), (ca0, .inr (0, [.int 0, .int 0, .int 0, .int 0, .int 0, .int 0, .int 0, .int 0])), (cb0, .inr (0, [.int 0, .int 0, .int 0, .int 0, .int 0, .int 0, .int 0, .int 0])), (cc0, .inr (0, [.int 0, .int 0, .int 0, .int 0, .int 0, .int 0, .int 0, .int 0]))] H := hP
  have hD : va_D A [(h0, .inr (3, [.ref pt1, .int 0, .int 0])), (pt1, .inl (E.2.2.2.2, 4, .inr (.inr (.inr (.inr (va_up (va_up (fun _ => none) (0 : Int32).toNatClampNeg (some ca0)) (1 : Int32).toNatClampNeg (some cb0))))))), (ca0, .inr (0, [.int 0, .int 0, .int 0, .int 0, .int 0, .int 0, .int 0, .int 0])), (cb0, .inr (0, [.int 0, .int 0, .int 0, .int 0, .int 0, .int 0, .int 0, .int 0])), (cc0, .inr (0, [.int 0, .int 0, .int 0, .int 0, .int 0, .int 0, .int 0, .int 0]))] := hD
  refine W.widen (k := 4) (n := 28) (Nat.le_of_ble_eq_true rfl) (Nat.le_of_ble_eq_true rfl) ?_
  refine lv_dup hx hb dX3_init_27 rfl ?_
  refine ca_KN (host := RX7) (As := []) (rest := [.ref cc0, .int 2, .ref pt1]) ⟨hx, hb, hml, hown, hts⟩ ⟨hK, hN⟩ hP hD hS hA (k_Ch l E cc0 H.size) [4] [0, 1, 2, 3] rfl rfl rfl rfl (by decide) (by decide +kernel) gX3_init_X0_init_n17 rfl rfl rfl rfl q_7 q_6 hk_Ch ⟨(Nat.le_of_ble_eq_true rfl), (Nat.le_of_ble_eq_true rfl)⟩ rfl hl.1 rfl (Nat.le_of_ble_eq_true rfl) dX3_init_28 ⟨(Nat.le_of_ble_eq_true rfl), (Nat.le_of_ble_eq_true rfl)⟩ (fun u H locs _ hP hD hS => ?_)
  have hP : va_P E.1 vwCl [(h0, .inr (3, [.ref pt1, .int 0, .int 0])), (pt1, .inl (E.2.2.2.2, 4, .inr (.inr (.inr (.inr (va_up (va_up (fun _ => none) (0 : Int32).toNatClampNeg (some ca0)) (1 : Int32).toNatClampNeg (some cb0))))))), (ca0, .inr (0, [.int 0, .int 0, .int 0, .int 0, .int 0, .int 0, .int 0, .int 0])), (cb0, .inr (0, [.int 0, .int 0, .int 0, .int 0, .int 0, .int 0, .int 0, .int 0])), (cc0, .inr (0, [.int 0, .int 0, .int 0, .int 0, .int 0, .int 0, .int 0, .int 0]))] H := hP
  have hD : va_D A [(h0, .inr (3, [.ref pt1, .int 0, .int 0])), (pt1, .inl (E.2.2.2.2, 4, .inr (.inr (.inr (.inr (va_up (va_up (fun _ => none) (0 : Int32).toNatClampNeg (some ca0)) (1 : Int32).toNatClampNeg (some cb0))))))), (ca0, .inr (0, [.int 0, .int 0, .int 0, .int 0, .int 0, .int 0, .int 0, .int 0])), (cb0, .inr (0, [.int 0, .int 0, .int 0, .int 0, .int 0, .int 0, .int 0, .int 0])), (cc0, .inr (0, [.int 0, .int 0, .int 0, .int 0, .int 0, .int 0, .int 0, .int 0]))] := hD
  refine W.widen (k := 4) (n := 28) (Nat.le_of_ble_eq_true rfl) (Nat.le_of_ble_eq_true rfl) ?_
  refine va_astq hx hb hK hP hD hS 1 3 4 0 rfl rfl rfl rfl (ck_in (by decide)) dX3_init_31 (fun H locs hP hD hS => ?_)
  have hP : va_P E.1 vwCl [(h0, .inr (3, [.ref pt1, .int 0, .int 0])), (pt1, .inl (E.2.2.2.2, 4, .inr (.inr (.inr (.inr (va_up (va_up (va_up (fun _ => none) (0 : Int32).toNatClampNeg (some ca0)) (1 : Int32).toNatClampNeg (some cb0)) (2 : Int32).toNatClampNeg (some cc0))))))), (ca0, .inr (0, [.int 0, .int 0, .int 0, .int 0, .int 0, .int 0, .int 0, .int 0])), (cb0, .inr (0, [.int 0, .int 0, .int 0, .int 0, .int 0, .int 0, .int 0, .int 0])), (cc0, .inr (0, [.int 0, .int 0, .int 0, .int 0, .int 0, .int 0, .int 0, .int 0]))] H := hP
  have hD : va_D A [(h0, .inr (3, [.ref pt1, .int 0, .int 0])), (pt1, .inl (E.2.2.2.2, 4, .inr (.inr (.inr (.inr (va_up (va_up (va_up (fun _ => none) (0 : Int32).toNatClampNeg (some ca0)) (1 : Int32).toNatClampNeg (some cb0)) (2 : Int32).toNatClampNeg (some cc0))))))), (ca0, .inr (0, [.int 0, .int 0, .int 0, .int 0, .int 0, .int 0, .int 0, .int 0])), (cb0, .inr (0, [.int 0, .int 0, .int 0, .int 0, .int 0, .int 0, .int 0, .int 0])), (cc0, .inr (0, [.int 0, .int 0, .int 0, .int 0, .int 0, .int 0, .int 0, .int 0]))] := hD
  refine lv_iinc (v := 3) (lv' := [(1, .int 3), (0, .ref h0)]) hx hb dX3_init_32 hl (k := 0) rfl (by decide) (by decide) rfl (fun ls hl => ?_)
  refine lv_goto (tgt := 14) hx hb dX3_init_35 (by decide) ?_
  refine lv_iload_n hx hb dX3_init_14 rfl (lv_at hl 0 rfl) ?_
  refine lv_iconst (v := 4) hx hb dX3_init_15 (by decide) ?_
  refine lv_icmp_ge (tgt := 38) hx hb dX3_init_16 (by decide) (fun c_ => absurd c_ (by decide)) (fun _ => ?_)
  refine lv_aload_n hx hb dX3_init_19 rfl (lv_at hl 1 rfl) ?_
  refine va_get (D := E.1) (ci := 3) (v := .ref pt1) (C := RX3) (T := TX3) (N := 3) hx hb hts in_X3_init_X3 hown hK hP 0 rfl rfl 0 (by decide) q_4 (fun _ h9 => h9) rfl dX3_init_20 ?_
  refine lv_iload_n hx hb dX3_init_23 rfl (lv_at hl 0 rfl) ?_
  refine va_new (ci := 0) (fs := [.int 0, .int 0, .int 0, .int 0, .int 0, .int 0, .int 0, .int 0]) (C := RX0) (T := TX0) (N := 8) hx hb hts in_X3_init_X0 tyX0 tyX0_ok hown q_3 q_5 q_6 hK hP hD hS hA rfl (by decide +kernel) (Nat.le_of_ble_eq_true rfl) (Nat.le_of_ble_eq_true rfl) dX3_init_24 (fun cd0 H hP hD hS => ?_)
  have hP : va_P E.1 vwCl [(h0, .inr (3, [.ref pt1, .int 0, .int 0])), (pt1, .inl (E.2.2.2.2, 4, .inr (.inr (.inr (.inr (va_up (va_up (va_up (fun _ => none) (0 : Int32).toNatClampNeg (some ca0)) (1 : Int32).toNatClampNeg (some cb0)) (2 : Int32).toNatClampNeg (some cc0))))))), (ca0, .inr (0, [.int 0, .int 0, .int 0, .int 0, .int 0, .int 0, .int 0, .int 0])), (cb0, .inr (0, [.int 0, .int 0, .int 0, .int 0, .int 0, .int 0, .int 0, .int 0])), (cc0, .inr (0, [.int 0, .int 0, .int 0, .int 0, .int 0, .int 0, .int 0, .int 0])), (cd0, .inr (0, [.int 0, .int 0, .int 0, .int 0, .int 0, .int 0, .int 0, .int 0]))] H := hP
  have hD : va_D A [(h0, .inr (3, [.ref pt1, .int 0, .int 0])), (pt1, .inl (E.2.2.2.2, 4, .inr (.inr (.inr (.inr (va_up (va_up (va_up (fun _ => none) (0 : Int32).toNatClampNeg (some ca0)) (1 : Int32).toNatClampNeg (some cb0)) (2 : Int32).toNatClampNeg (some cc0))))))), (ca0, .inr (0, [.int 0, .int 0, .int 0, .int 0, .int 0, .int 0, .int 0, .int 0])), (cb0, .inr (0, [.int 0, .int 0, .int 0, .int 0, .int 0, .int 0, .int 0, .int 0])), (cc0, .inr (0, [.int 0, .int 0, .int 0, .int 0, .int 0, .int 0, .int 0, .int 0])), (cd0, .inr (0, [.int 0, .int 0, .int 0, .int 0, .int 0, .int 0, .int 0, .int 0]))] := hD
  refine W.widen (k := 5) (n := 36) (Nat.le_of_ble_eq_true rfl) (Nat.le_of_ble_eq_true rfl) ?_
  refine lv_dup hx hb dX3_init_27 rfl ?_
  refine ca_KN (host := RX7) (As := []) (rest := [.ref cd0, .int 3, .ref pt1]) ⟨hx, hb, hml, hown, hts⟩ ⟨hK, hN⟩ hP hD hS hA (k_Ch l E cd0 H.size) [5] [0, 1, 2, 3, 4] rfl rfl rfl rfl (by decide) (by decide +kernel) gX3_init_X0_init_n17 rfl rfl rfl rfl q_7 q_6 hk_Ch ⟨(Nat.le_of_ble_eq_true rfl), (Nat.le_of_ble_eq_true rfl)⟩ rfl hl.1 rfl (Nat.le_of_ble_eq_true rfl) dX3_init_28 ⟨(Nat.le_of_ble_eq_true rfl), (Nat.le_of_ble_eq_true rfl)⟩ (fun u H locs _ hP hD hS => ?_)
  have hP : va_P E.1 vwCl [(h0, .inr (3, [.ref pt1, .int 0, .int 0])), (pt1, .inl (E.2.2.2.2, 4, .inr (.inr (.inr (.inr (va_up (va_up (va_up (fun _ => none) (0 : Int32).toNatClampNeg (some ca0)) (1 : Int32).toNatClampNeg (some cb0)) (2 : Int32).toNatClampNeg (some cc0))))))), (ca0, .inr (0, [.int 0, .int 0, .int 0, .int 0, .int 0, .int 0, .int 0, .int 0])), (cb0, .inr (0, [.int 0, .int 0, .int 0, .int 0, .int 0, .int 0, .int 0, .int 0])), (cc0, .inr (0, [.int 0, .int 0, .int 0, .int 0, .int 0, .int 0, .int 0, .int 0])), (cd0, .inr (0, [.int 0, .int 0, .int 0, .int 0, .int 0, .int 0, .int 0, .int 0]))] H := hP
  have hD : va_D A [(h0, .inr (3, [.ref pt1, .int 0, .int 0])), (pt1, .inl (E.2.2.2.2, 4, .inr (.inr (.inr (.inr (va_up (va_up (va_up (fun _ => none) (0 : Int32).toNatClampNeg (some ca0)) (1 : Int32).toNatClampNeg (some cb0)) (2 : Int32).toNatClampNeg (some cc0))))))), (ca0, .inr (0, [.int 0, .int 0, .int 0, .int 0, .int 0, .int 0, .int 0, .int 0])), (cb0, .inr (0, [.int 0, .int 0, .int 0, .int 0, .int 0, .int 0, .int 0, .int 0])), (cc0, .inr (0, [.int 0, .int 0, .int 0, .int 0, .int 0, .int 0, .int 0, .int 0])), (cd0, .inr (0, [.int 0, .int 0, .int 0, .int 0, .int 0, .int 0, .int 0, .int 0]))] := hD
  refine W.widen (k := 5) (n := 36) (Nat.le_of_ble_eq_true rfl) (Nat.le_of_ble_eq_true rfl) ?_
  refine va_astq hx hb hK hP hD hS 1 3 5 0 rfl rfl rfl rfl (ck_in (by decide)) dX3_init_31 (fun H locs hP hD hS => ?_)
  have hP : va_P E.1 vwCl [(h0, .inr (3, [.ref pt1, .int 0, .int 0])), (pt1, .inl (E.2.2.2.2, 4, .inr (.inr (.inr (.inr (va_up (va_up (va_up (va_up (fun _ => none) (0 : Int32).toNatClampNeg (some ca0)) (1 : Int32).toNatClampNeg (some cb0)) (2 : Int32).toNatClampNeg (some cc0)) (3 : Int32).toNatClampNeg (some cd0))))))), (ca0, .inr (0, [.int 0, .int 0, .int 0, .int 0, .int 0, .int 0, .int 0, .int 0])), (cb0, .inr (0, [.int 0, .int 0, .int 0, .int 0, .int 0, .int 0, .int 0, .int 0])), (cc0, .inr (0, [.int 0, .int 0, .int 0, .int 0, .int 0, .int 0, .int 0, .int 0])), (cd0, .inr (0, [.int 0, .int 0, .int 0, .int 0, .int 0, .int 0, .int 0, .int 0]))] H := hP
  have hD : va_D A [(h0, .inr (3, [.ref pt1, .int 0, .int 0])), (pt1, .inl (E.2.2.2.2, 4, .inr (.inr (.inr (.inr (va_up (va_up (va_up (va_up (fun _ => none) (0 : Int32).toNatClampNeg (some ca0)) (1 : Int32).toNatClampNeg (some cb0)) (2 : Int32).toNatClampNeg (some cc0)) (3 : Int32).toNatClampNeg (some cd0))))))), (ca0, .inr (0, [.int 0, .int 0, .int 0, .int 0, .int 0, .int 0, .int 0, .int 0])), (cb0, .inr (0, [.int 0, .int 0, .int 0, .int 0, .int 0, .int 0, .int 0, .int 0])), (cc0, .inr (0, [.int 0, .int 0, .int 0, .int 0, .int 0, .int 0, .int 0, .int 0])), (cd0, .inr (0, [.int 0, .int 0, .int 0, .int 0, .int 0, .int 0, .int 0, .int 0]))] := hD
  refine lv_iinc (v := 4) (lv' := [(1, .int 4), (0, .ref h0)]) hx hb dX3_init_32 hl (k := 0) rfl (by decide) (by decide) rfl (fun ls hl => ?_)
  refine lv_goto (tgt := 14) hx hb dX3_init_35 (by decide) ?_
  refine lv_iload_n hx hb dX3_init_14 rfl (lv_at hl 0 rfl) ?_
  refine lv_iconst (v := 4) hx hb dX3_init_15 (by decide) ?_
  refine lv_icmp_ge (tgt := 38) hx hb dX3_init_16 (by decide) (fun _ => ?_) (fun c_ => absurd (by decide) c_)
  have hP := hP.sub (ws' := [(h0, .inr (3, [.ref pt1, .int 0, .int 0])), (pt1, .inl (E.2.2.2.2, 4, .inr (.inr (.inr (.inr (va_up (va_up (va_up (va_up (fun _ => none) (0 : Int32).toNatClampNeg (some ca0)) (1 : Int32).toNatClampNeg (some cb0)) (2 : Int32).toNatClampNeg (some cc0)) (3 : Int32).toNatClampNeg (some cd0))))))), (ca0, .inr (0, [.int 0, .int 0, .int 0, .int 0, .int 0, .int 0, .int 0, .int 0])), (cb0, .inr (0, [.int 0, .int 0, .int 0, .int 0, .int 0, .int 0, .int 0, .int 0])), (cc0, .inr (0, [.int 0, .int 0, .int 0, .int 0, .int 0, .int 0, .int 0, .int 0])), (cd0, .inr (0, [.int 0, .int 0, .int 0, .int 0, .int 0, .int 0, .int 0, .int 0]))]) [0, 1, 2, 3, 4, 5] rfl
  have hD := hD.sub (ws' := [(h0, .inr (3, [.ref pt1, .int 0, .int 0])), (pt1, .inl (E.2.2.2.2, 4, .inr (.inr (.inr (.inr (va_up (va_up (va_up (va_up (fun _ => none) (0 : Int32).toNatClampNeg (some ca0)) (1 : Int32).toNatClampNeg (some cb0)) (2 : Int32).toNatClampNeg (some cc0)) (3 : Int32).toNatClampNeg (some cd0))))))), (ca0, .inr (0, [.int 0, .int 0, .int 0, .int 0, .int 0, .int 0, .int 0, .int 0])), (cb0, .inr (0, [.int 0, .int 0, .int 0, .int 0, .int 0, .int 0, .int 0, .int 0])), (cc0, .inr (0, [.int 0, .int 0, .int 0, .int 0, .int 0, .int 0, .int 0, .int 0])), (cd0, .inr (0, [.int 0, .int 0, .int 0, .int 0, .int 0, .int 0, .int 0, .int 0]))]) [0, 1, 2, 3, 4, 5] rfl rfl
  have hP : va_P E.1 vwCl [(h0, .inr (3, [.ref pt1, .int 0, .int 0])), (pt1, .inl (E.2.2.2.2, 4, .inr (.inr (.inr (.inr (fun k => if k = 0 then some ca0 else if k = 1 then some cb0 else if k = 2 then some cc0 else some cd0)))))), (ca0, .inr (0, [.int 0, .int 0, .int 0, .int 0, .int 0, .int 0, .int 0, .int 0])), (cb0, .inr (0, [.int 0, .int 0, .int 0, .int 0, .int 0, .int 0, .int 0, .int 0])), (cc0, .inr (0, [.int 0, .int 0, .int 0, .int 0, .int 0, .int 0, .int 0, .int 0])), (cd0, .inr (0, [.int 0, .int 0, .int 0, .int 0, .int 0, .int 0, .int 0, .int 0]))] H := va_q4 (q0 := 1) (g := (fun k => if k = 0 then some ca0 else if k = 1 then some cb0 else if k = 2 then some cc0 else some cd0)) hP hD rfl (fun j hj => by rcases (show j = 0 ∨ j = 1 ∨ j = 2 ∨ j = 3 by omega) with rfl | rfl | rfl | rfl <;> rfl)
  have hD : va_D A [(h0, .inr (3, [.ref pt1, .int 0, .int 0])), (pt1, .inl (E.2.2.2.2, 4, .inr (.inr (.inr (.inr (fun k => if k = 0 then some ca0 else if k = 1 then some cb0 else if k = 2 then some cc0 else some cd0)))))), (ca0, .inr (0, [.int 0, .int 0, .int 0, .int 0, .int 0, .int 0, .int 0, .int 0])), (cb0, .inr (0, [.int 0, .int 0, .int 0, .int 0, .int 0, .int 0, .int 0, .int 0])), (cc0, .inr (0, [.int 0, .int 0, .int 0, .int 0, .int 0, .int 0, .int 0, .int 0])), (cd0, .inr (0, [.int 0, .int 0, .int 0, .int 0, .int 0, .int 0, .int 0, .int 0]))] := hD.set (p := 1) rfl
  exact hret H locs ls 38 (pt1, ca0, cb0, cc0, cd0) dX3_init_38 trivial hP hD hS
