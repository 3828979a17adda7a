/-! the first text as a constant of the machine -/
def fS (A : Nat → Prop) (q v : Nat) (U : State) (H : Heap) : Prop := va_O "java/lang/String" q A U H ∧ va_OF "java/lang/String" "coder" "B" (.int 0) q A U H ∧ va_OF "java/lang/String" "value" "[B" (.ref v) q A U H ∧ va_T .byte v 66 (fun j => .int (nI (ftl j))) A U H ∧ va_Z "java/lang/String" "COMPACT_STRINGS" "Z" (.int 1) A U H ∧ va_Zq "jdk/internal/util/Preconditions" "SIOOBE_FORMATTER" "Ljava/util/function/BiFunction;" A U H
theorem fS.moved {A : Nat → Prop} {q v : Nat} {u U : State} {H : Heap} (hvm : u.vm.Alike U.vm) (h : fS A q v u H) : fS A q v U H := ⟨va_O.moved hvm h.1, va_OF.moved hvm h.2.1, va_OF.moved hvm h.2.2.1, va_T.moved hvm h.2.2.2.1, va_Z.moved hvm h.2.2.2.2.1, va_Zq.moved hvm h.2.2.2.2.2⟩
theorem fS.kept {A : Nat → Prop} {q v : Nat} {U : State} {H H1 : Heap} (h : fS A q v U H) (hq : ∀ a : Nat, a < H.size → ¬ A a → H1[a]? = H[a]?) : fS A q v U H1 := ⟨h.1.kept hq, h.2.1.kept hq, h.2.2.1.kept hq, h.2.2.2.1.kept hq, h.2.2.2.2.1.kept hq, h.2.2.2.2.2.kept hq⟩
theorem fS.narrow {A B : Nat → Prop} {q v : Nat} {U : State} {H : Heap} (h : fS A q v U H) (hAB : ∀ q, B q → A q) : fS B q v U H := ⟨h.1.narrow hAB, h.2.1.narrow hAB, h.2.2.1.narrow hAB, h.2.2.2.1.narrow hAB, h.2.2.2.2.1.narrow hAB, h.2.2.2.2.2.narrow hAB⟩
abbrev pcS (av : List Value) (A : Nat → Prop) (q v : Nat) : Array Value → State → Prop := va_Pc av (fun U => fS A q v U U.heap)
theorem pcS_bl {av : List Value} {A : Nat → Prop} {q v : Nat} : FrameBlind (pcS av A q v) := fun a U g mk h => ⟨h.1, fS.moved (u := U) (U := U.calling g mk a) (Vm.Alike.refl U.vm) h.2⟩
abbrev pcT (av : List Value) : Array Value → State → Prop := va_Pc av (fun _ => True)
theorem pcT_bl {av : List Value} : FrameBlind (pcT av) := fun a U g mk h => ⟨h.1, trivial⟩
def Sv0 : Array Value → State → Outcome → State → Prop := fun _ st o t => o = .returned none ∧ t.heap = st.heap
section STR
variable {l : Launch} {y : MethodName} {ws ws' : List Cond} {rm : Room} {cc : ByteArray} {maxL : Nat} {av : List Value} {Pf : State → Prop}
theorem mk_St {ty : FieldType} {res : Int32} (hnr : narrow ty (.int res) = .int res) (hy : plainName y.cls = true) (hw : ws = Cond.code y cc maxL (some ty) :: ws') (hav : (lg_sl av).length ≤ maxL)
    (body : ∀ (p : Program) (e : Env) (s : State) (m : MethodId) (args : Array Value) (below : List Frame) (meth : Method) (c : Code) (Q : State → Prop), CallFix p m c cc maxL s args ws y.cls → Pf s →
      (∀ (ls : Array Slot) (pc : Nat), decode cc pc = .ok (.ireturn, 1) → W p l e rm s m args below meth c s.heap [] 0 0 Q (F0 m pc ls [.int res])) →
      ∀ ls : Array Slot, lv_has ls maxL (lv_args 0 av) → W p l e rm s m args below meth c s.heap [] 0 0 Q (F0 m 0 ls [])) : Met l y ws rm (va_Pc av Pf) (vp_Si (fun r => r = res)) 0 0 (fun _ => False) := by
  refine Met.ofW (cc := cc) (maxL := maxL) (ret := some ty) hy hw ?_
  intro p e s m args below meth c s₁ B hml hv
  obtain ⟨ha, hP⟩ := hv
  have hlocks := B.notSynchronized
  have hl := lv_entry av (n := maxL) hav
  have K := body p e s m args below meth c (MQ below (vp_Si (fun r => r = res)) args s 0 0 (fun _ => False)) ⟨B.exec, B.bytes, hml, findClass_of_methodNamed B.named, atoms_spec (ws := ws) B.pre⟩ hP
    (fun ls pc hd => W.zret B.exec B.bytes B.returns hnr (fun t ht _ => ⟨res, rfl, rfl, ht⟩) (fun q h => absurd h List.not_mem_nil) hd) _ hl
  have h2 := lg_entry_eq m av maxL
  rw [← ha] at h2
  rw [h2]
  exact K
theorem mk_Sv (hy : plainName y.cls = true) (hw : ws = Cond.code y cc maxL none :: ws') (hav : (lg_sl av).length ≤ maxL)
    (body : ∀ (p : Program) (e : Env) (s : State) (m : MethodId) (args : Array Value) (below : List Frame) (meth : Method) (c : Code) (Q : State → Prop), CallFix p m c cc maxL s args ws y.cls → Pf s →
      (∀ (ls : Array Slot) (pc : Nat), decode cc pc = .ok (.return_, 1) → W p l e rm s m args below meth c s.heap [] 0 0 Q (F0 m pc ls [])) →
      ∀ ls : Array Slot, lv_has ls maxL (lv_args 0 av) → W p l e rm s m args below meth c s.heap [] 0 0 Q (F0 m 0 ls [])) : Met l y ws rm (va_Pc av Pf) Sv0 0 0 (fun _ => False) := by
  refine Met.ofW (cc := cc) (maxL := maxL) (ret := none) hy hw ?_
  intro p e s m args below meth c s₁ B hml hv
  obtain ⟨ha, hP⟩ := hv
  have hlocks := B.notSynchronized
  have hl := lv_entry av (n := maxL) hav
  have K := body p e s m args below meth c (MQ below Sv0 args s 0 0 (fun _ => False)) ⟨B.exec, B.bytes, hml, findClass_of_methodNamed B.named, atoms_spec (ws := ws) B.pre⟩ hP
    (fun ls pc hd => W.vret B.exec B.bytes B.returns (fun t ht _ => ⟨rfl, ht⟩) (fun q h => absurd h List.not_mem_nil) hd) _ hl
  have h2 := lg_entry_eq m av maxL
  rw [← ha] at h2
  rw [h2]
  exact K
variable {p : Program} {e : Env} {R : Room} {s : State} {m : MethodId} {args : Array Value} {below : List Frame} {meth : Method} {c : Code} {H : Heap} {locs : List Loc} {cells slots : Nat} {Q : State → Prop}
variable {bytes : ByteArray} {nL n index : Nat} {ret : Option FieldType} {Ts : List Cond} {own C : String} {b : Addr} {As rest st0 : List Value} {pc : Nat} {ls : Array Slot}
theorem ca_Vx {res : Int32} (S : CallFix p m c cc nL s args Ts own) (hrv : ∃ cell : Cell, H[b]? = some cell ∧ cell.vm.isStatics = false ∧ s.vm.findClass C = some cell.cls) (hbl : FrameBlind (va_Pc (.ref b :: As) Pf)) (hPf : ∀ U : State, U.heap = H → s.WarmedH U.vm → Pf U)
    (hM : Met l y ws rm (va_Pc (.ref b :: As) Pf) (vp_Si (fun r => r = res)) 0 0 (fun _ => False))
    (hT : GoodIn Ts (wsV own index C y ws)) (hw : ws = Cond.code y bytes maxL ret :: ws') (hrc : rm.cells = 0) (hrs : rm.slots = 0) (hyC : y.cls = C) (hd : hdOK y n) (hR : rm.frames + 1 ≤ R.frames ∧ 8 + (maxL + 11) + rm.locals ≤ R.locals)
    (hn : As.length = n) (hsize : ls.size = nL) (hst : st0 = As.reverse ++ .ref b :: rest) (hW : (rest.map fun v => v.category).sum ≤ 8) (hdg : decode cc pc = .ok (.invokevirtual index, 3)) (hcs : cells ≤ R.cells ∧ slots ≤ R.slots)
    (kk : W p l e R s m args below meth c H locs cells slots Q (F0 m (pc + 3) ls (.int res :: rest))) : W p l e R s m args below meth c H locs cells slots Q (F0 m pc ls st0) := by
  refine vp_callSi (W.runV (As := As) (rest := rest) S hM (cwV n S.2.2.2.2 hT hw hrc hrs ⟨hyC, hd⟩ hR) ⟨hbl, hrv, fun U hU hWm => ⟨rfl, hPf U hU hWm⟩⟩ rfl hn hsize hst (lv_room hW) hdg hcs) (fun r hr => ?_)
  subst hr
  exact kk
theorem ca_Sx {res : Int32} (S : CallFix p m c cc nL s args Ts own) (hbl : FrameBlind (va_Pc As Pf)) (hPf : ∀ U : State, U.heap = H → s.WarmedH U.vm → Pf U)
    (hM : Met l y ws rm (va_Pc As Pf) (vp_Si (fun r => r = res)) 0 0 (fun _ => False))
    (hT : GoodIn Ts (va_wsS own index y ws)) (hw : ws = Cond.code y bytes maxL ret :: ws') (hrc : rm.cells = 0) (hrs : rm.slots = 0) (hd : hdOK y n) (hR : rm.frames + 1 ≤ R.frames ∧ 8 + (maxL + 11) + rm.locals ≤ R.locals)
    (hn : As.length = n) (hsize : ls.size = nL) (hst : st0 = As.reverse ++ rest) (hW : (rest.map fun v => v.category).sum ≤ 8) (hdg : decode cc pc = .ok (.invokestatic index, 3)) (hcs : cells ≤ R.cells ∧ slots ≤ R.slots)
    (kk : W p l e R s m args below meth c H locs cells slots Q (F0 m (pc + 3) ls (.int res :: rest))) : W p l e R s m args below meth c H locs cells slots Q (F0 m pc ls st0) := by
  refine vp_callSi (W.runS (As := As) (rest := rest) S hM (va_cwS n S.2.2.2.2 hT hw hrc hrs hd hR) ⟨hbl, fun U hU hWm => ⟨rfl, hPf U hU hWm⟩⟩ rfl hn hsize hst (lv_room hW) hdg hcs) (fun r hr => ?_)
  subst hr
  exact kk
theorem ca_Sy (S : CallFix p m c cc nL s args Ts own) (hbl : FrameBlind (va_Pc As Pf)) (hPf : ∀ U : State, U.heap = H → s.WarmedH U.vm → Pf U)
    (hM : Met l y ws rm (va_Pc As Pf) Sv0 0 0 (fun _ => False))
    (hT : GoodIn Ts (va_wsS own index y ws)) (hw : ws = Cond.code y bytes maxL ret :: ws') (hrc : rm.cells = 0) (hrs : rm.slots = 0) (hd : hdOK y n) (hR : rm.frames + 1 ≤ R.frames ∧ 8 + (maxL + 11) + rm.locals ≤ R.locals)
    (hn : As.length = n) (hsize : ls.size = nL) (hst : st0 = As.reverse ++ rest) (hW : (rest.map fun v => v.category).sum ≤ 8) (hdg : decode cc pc = .ok (.invokestatic index, 3)) (hcs : cells ≤ R.cells ∧ slots ≤ R.slots)
    (kk : W p l e R s m args below meth c H locs cells slots Q (F0 m (pc + 3) ls rest)) : W p l e R s m args below meth c H locs cells slots Q (F0 m pc ls st0) := by
  have hr := W.runS (p := p) (l := l) (e := e) (m := m) (c := c) (meth := meth) (below := below) (locs := locs) (H := H) (g := F0 m pc ls st0) (cells := cells) (slots := slots) (As := As) (rest := rest) S hM (va_cwS n S.2.2.2.2 hT hw hrc hrs hd hR) ⟨hbl, fun U hU hWm => ⟨rfl, hPf U hU hWm⟩⟩ rfl hn hsize hst (lv_room hW) hdg hcs
  intro T hT X
  obtain ⟨v, st₀, t, T', L, h0, X', hL, e1, ⟨hv, hh⟩, st⟩ := hr T hT X
  cases hv
  obtain ⟨t2, a1, b1⟩ := kk T' (by rw [e1, hh, h0]) (Stand.forget X' (fun q h => (hL q h).elim))
  exact ⟨t2, st t2 a1, b1⟩
end STR
abbrev rmJ0 : Room := { frames := 0, cells := 0, slots := 0, locals := 0 }
theorem hdJ3c : hdOK yJ3_checkIndex_8e157 3 := by decide +kernel
theorem hdJ0k : hdOK yJ0_checkIndex_df160 2 := by decide +kernel
theorem hdJ0c : hdOK yJ0_coder_7d493 0 := by decide +kernel
theorem hdJ0i : hdOK yJ0_isLatin1_aae02 0 := by decide +kernel
theorem hdJ0l : hdOK yJ0_length_8abf5 0 := by decide +kernel
theorem hdJ0a : hdOK yJ0_charAt_5068e 1 := by decide +kernel
theorem hdJ1a : hdOK yJ1_charAt_3b067 2 := by decide +kernel
set_option maxRecDepth 100000 in
theorem j_pre (l : Launch) (k N : Nat) (hk : k < N) (hN : N < 2 ^ 31) (v : Value) (hv : v = .null ∨ ∃ t : Nat, v = .ref t) : Met l yJ3_checkIndex_8e157 wsJ3_checkIndex_8e157 rmJ0 (pcT [.int (nI k), .int (nI N), v]) (vp_Si (fun r => r = nI k)) 0 0 (fun _ => False) := by
  have key : ∀ (p : Program) (e : Env) (s : State) (m : MethodId) (args : Array Value) (below : List Frame) (meth : Method) (c : Code) (Q : State → Prop), CallFix p m c cJ3_checkIndex_8e157 3 s args wsJ3_checkIndex_8e157 yJ3_checkIndex_8e157.cls → True →
      (∀ (ls : Array Slot) (pc : Nat), decode cJ3_checkIndex_8e157 pc = .ok (.ireturn, 1) → W p l e rmJ0 s m args below meth c s.heap [] 0 0 Q (F0 m pc ls [.int (nI k)])) →
      ∀ ls : Array Slot, lv_has ls 3 [(0, .int (nI k)), (1, .int (nI N)), (2, v)] → W p l e rmJ0 s m args below meth c s.heap [] 0 0 Q (F0 m 0 ls []) := by
    intro p e s m args below meth c Q S _ hret ls hl
    obtain ⟨hx, hb, hml, hown, hts⟩ := S
    refine lv_iload_n hx hb dJ3_checkIndex_8e157_0 rfl (lv_at hl 0 rfl) ?_
    refine lv_if_lt (tgt := 9) hx hb dJ3_checkIndex_8e157_1 (by decide) (fun q => absurd q (nI_pos (by omega))) (fun _ => ?_)
    refine lv_iload_n hx hb dJ3_checkIndex_8e157_4 rfl (lv_at hl 0 rfl) ?_
    refine lv_iload_n hx hb dJ3_checkIndex_8e157_5 rfl (lv_at hl 1 rfl) ?_
    refine lv_icmp_lt (tgt := 16) hx hb dJ3_checkIndex_8e157_6 (by decide) (fun _ => ?_) (fun q => absurd (nI_lt hk hN) q)
    refine lv_iload_n hx hb dJ3_checkIndex_8e157_16 rfl (lv_at hl 0 rfl) ?_
    exact hret ls 17 dJ3_checkIndex_8e157_17
  rcases hv with rfl | ⟨t, rfl⟩
  · exact mk_St (cc := cJ3_checkIndex_8e157) (maxL := 3) (ty := .int) rfl (by decide) rfl (Nat.le_of_ble_eq_true rfl) key
  · exact mk_St (cc := cJ3_checkIndex_8e157) (maxL := 3) (ty := .int) rfl (by decide) rfl (Nat.le_of_ble_eq_true rfl) key
abbrev rmJ1 : Room := { frames := 1, cells := 0, slots := 0, locals := 30 }
set_option maxRecDepth 100000 in
theorem j_chk (l : Launch) (A : Nat → Prop) (q v k : Nat) (hk : k < 66) : Met l yJ0_checkIndex_df160 wsJ0_checkIndex_df160 rmJ1 (pcS [.int (nI k), .int (nI 66)] A q v) Sv0 0 0 (fun _ => False) := by
  refine mk_Sv (cc := cJ0_checkIndex_df160) (maxL := 2) (by decide) rfl (Nat.le_of_ble_eq_true rfl) ?_
  intro p e s m args below meth c Q S hF hret ls hl
  obtain ⟨hx, hb, hml, hown, hts⟩ := S
  have hl : lv_has ls 2 [(0, .int (nI k)), (1, .int (nI 66))] := hl
  have q_0 := hts (.fieldLink RJ0 1053 "jdk/internal/util/Preconditions" "SIOOBE_FORMATTER" "Ljava/util/function/BiFunction;") (by decide +kernel)
  refine lv_iload_n hx hb dJ0_checkIndex_df160_0 rfl (lv_at hl 0 rfl) ?_
  refine lv_iload_n hx hb dJ0_checkIndex_df160_1 rfl (lv_at hl 1 rfl) ?_
  rcases hF.2.2.2.2.2 with hZ | ⟨t, hZ⟩
  · refine va_gets hx hb hZ va_S.rf hown q_0 (fun _ h => h) dJ0_checkIndex_df160_2 ?_
    refine ca_Sx (As := [.int (nI k), .int (nI 66), .null]) (rest := []) ⟨hx, hb, hml, hown, hts⟩ pcT_bl (fun _ _ _ => trivial) (j_pre l k 66 hk (by decide) .null (Or.inl rfl)) gJ0_checkIndex_df160_J3_checkIndex_8e157 rfl rfl rfl hdJ3c ⟨Nat.le_of_ble_eq_true rfl, Nat.le_of_ble_eq_true rfl⟩ rfl hl.1 rfl (Nat.le_of_ble_eq_true rfl) dJ0_checkIndex_df160_5 ⟨Nat.zero_le _, Nat.zero_le _⟩ ?_
    refine lv_pop hx hb dJ0_checkIndex_df160_8 rfl ?_
    exact hret ls 9 dJ0_checkIndex_df160_9
  · refine va_gets hx hb hZ va_S.rf hown q_0 (fun _ h => h) dJ0_checkIndex_df160_2 ?_
    refine ca_Sx (As := [.int (nI k), .int (nI 66), .ref t]) (rest := []) ⟨hx, hb, hml, hown, hts⟩ pcT_bl (fun _ _ _ => trivial) (j_pre l k 66 hk (by decide) (.ref t) (Or.inr ⟨t, rfl⟩)) gJ0_checkIndex_df160_J3_checkIndex_8e157 rfl rfl rfl hdJ3c ⟨Nat.le_of_ble_eq_true rfl, Nat.le_of_ble_eq_true rfl⟩ rfl hl.1 rfl (Nat.le_of_ble_eq_true rfl) dJ0_checkIndex_df160_5 ⟨Nat.zero_le _, Nat.zero_le _⟩ ?_
    refine lv_pop hx hb dJ0_checkIndex_df160_8 rfl ?_
    exact hret ls 9 dJ0_checkIndex_df160_9
theorem ft_le : ∀ k, k < 66 → ftl k < 127 := by decide +kernel
theorem ch_m : ∀ c, c < 127 → ((nI c &&& 255).toUInt32 % 65536).toInt32 = nI c := by decide +kernel
theorem nr_c {c : Nat} (h : c < 127) : narrow .char (.int (nI c)) = .int (nI c) := by
  have h1 := ch_n c h
  have h2 : ∀ c, c < 127 → ((nI c).toUInt32 % 65536).toInt32 = nI c := by decide +kernel
  rw [h2 c h] at h1
  unfold vp_nar at h1
  split at h1
  · rename_i y hy
    rw [hy, h1]
  · rename_i hy
    exact absurd rfl (hy _)
abbrev rmJ2 : Room := { frames := 2, cells := 0, slots := 0, locals := 60 }
set_option maxRecDepth 100000 in
theorem j_lat (l : Launch) (A : Nat → Prop) (q v k : Nat) (hk : k < 66) : Met l yJ1_charAt_3b067 wsJ1_charAt_3b067 rmJ2 (pcS [.ref v, .int (nI k)] A q v) (vp_Si (fun r => r = nI (ftl k))) 0 0 (fun _ => False) := by
  refine mk_St (cc := cJ1_charAt_3b067) (maxL := 2) (ty := .char) (nr_c (ft_le k hk)) (by decide) rfl (Nat.le_of_ble_eq_true rfl) ?_
  intro p e s m args below meth c Q S hF hret ls hl
  obtain ⟨hx, hb, hml, hown, hts⟩ := S
  have hl : lv_has ls 2 [(0, .ref v), (1, .int (nI k))] := hl
  refine lv_iload_n hx hb dJ1_charAt_3b067_0 rfl (lv_at hl 1 rfl) ?_
  refine lv_aload_n hx hb dJ1_charAt_3b067_1 rfl (lv_at hl 0 rfl) ?_
  refine va_tlen (v := nI 66) hx hb hF.2.2.2.1 va_S.rf rfl dJ1_charAt_3b067_2 ?_
  refine ca_Sy (As := [.int (nI k), .int (nI 66)]) (rest := []) ⟨hx, hb, hml, hown, hts⟩ pcS_bl (fun U hU hWm => hU ▸ fS.moved hWm.alike hF) (j_chk l A q v k hk) gJ1_charAt_3b067_J0_checkIndex_df160 rfl rfl rfl hdJ0k ⟨Nat.le_of_ble_eq_true rfl, Nat.le_of_ble_eq_true rfl⟩ rfl hl.1 rfl (Nat.le_of_ble_eq_true rfl) dJ1_charAt_3b067_3 ⟨Nat.zero_le _, Nat.zero_le _⟩ ?_
  refine lv_aload_n hx hb dJ1_charAt_3b067_6 rfl (lv_at hl 0 rfl) ?_
  refine lv_iload_n hx hb dJ1_charAt_3b067_7 rfl (lv_at hl 1 rfl) ?_
  refine va_tb (v := .int (nI (ftl k))) hx hb hF.2.2.2.1 va_S.rf (vp_in_nI hk (by decide)) (by rw [nI_clamp (show k < 2 ^ 31 by omega)]) dJ1_charAt_3b067_8 ?_
  refine lv_sipush (v := 255) hx hb dJ1_charAt_3b067_9 (by decide) ?_
  refine lv_iand hx hb dJ1_charAt_3b067_12 ?_
  refine lv_i2c (v := nI (ftl k)) hx hb dJ1_charAt_3b067_13 (ch_m _ (ft_le k hk)) ?_
  exact hret ls 14 dJ1_charAt_3b067_14
set_option maxRecDepth 100000 in
theorem j_cod (l : Launch) (A : Nat → Prop) (q v : Nat) : Met l yJ0_coder_7d493 wsJ0_coder_7d493 rmJ0 (pcS [.ref q] A q v) (vp_Si (fun r => r = 0)) 0 0 (fun _ => False) := by
  refine mk_St (cc := cJ0_coder_7d493) (maxL := 1) (ty := .byte) rfl (by decide) rfl (Nat.le_of_ble_eq_true rfl) ?_
  intro p e s m args below meth c Q S hF hret ls hl
  obtain ⟨hx, hb, hml, hown, hts⟩ := S
  have hl : lv_has ls 1 [(0, .ref q)] := hl
  have q_0 := hts (.fieldLink RJ0 38 "java/lang/String" "COMPACT_STRINGS" "Z") (by decide +kernel)
  have q_1 := hts (.fieldLink RJ0 15 "java/lang/String" "coder" "B") (by decide +kernel)
  refine va_gets hx hb hF.2.2.2.2.1 va_S.rf hown q_0 (fun _ h => h) dJ0_coder_7d493_0 ?_
  refine lv_if_eq (tgt := 13) hx hb dJ0_coder_7d493_3 (by decide) (fun h => absurd h (by decide)) (fun _ => ?_)
  refine lv_aload_n hx hb dJ0_coder_7d493_6 rfl (lv_at hl 0 rfl) ?_
  refine vk_getf hx hb hF.2.1 va_S.rf hown q_1 (fun _ h => h) dJ0_coder_7d493_7 ?_
  refine lv_goto (tgt := 14) hx hb dJ0_coder_7d493_10 (by decide) ?_
  exact hret ls 14 dJ0_coder_7d493_14
set_option maxRecDepth 100000 in
theorem j_isl (l : Launch) (A : Nat → Prop) (q v : Nat) : Met l yJ0_isLatin1_aae02 wsJ0_isLatin1_aae02 rmJ0 (pcS [.ref q] A q v) (vp_Si (fun r => r = 1)) 0 0 (fun _ => False) := by
  refine mk_St (cc := cJ0_isLatin1_aae02) (maxL := 1) (ty := .boolean) rfl (by decide) rfl (Nat.le_of_ble_eq_true rfl) ?_
  intro p e s m args below meth c Q S hF hret ls hl
  obtain ⟨hx, hb, hml, hown, hts⟩ := S
  have hl : lv_has ls 1 [(0, .ref q)] := hl
  have q_0 := hts (.fieldLink RJ0 38 "java/lang/String" "COMPACT_STRINGS" "Z") (by decide +kernel)
  have q_1 := hts (.fieldLink RJ0 15 "java/lang/String" "coder" "B") (by decide +kernel)
  refine va_gets hx hb hF.2.2.2.2.1 va_S.rf hown q_0 (fun _ h => h) dJ0_isLatin1_aae02_0 ?_
  refine lv_if_eq (tgt := 17) hx hb dJ0_isLatin1_aae02_3 (by decide) (fun h => absurd h (by decide)) (fun _ => ?_)
  refine lv_aload_n hx hb dJ0_isLatin1_aae02_6 rfl (lv_at hl 0 rfl) ?_
  refine vk_getf hx hb hF.2.1 va_S.rf hown q_1 (fun _ h => h) dJ0_isLatin1_aae02_7 ?_
  refine lv_if_ne (tgt := 17) hx hb dJ0_isLatin1_aae02_10 (by decide) (fun h => absurd rfl h) (fun _ => ?_)
  refine lv_iconst (v := 1) hx hb dJ0_isLatin1_aae02_13 (by decide) ?_
  refine lv_goto (tgt := 18) hx hb dJ0_isLatin1_aae02_14 (by decide) ?_
  exact hret ls 18 dJ0_isLatin1_aae02_18
set_option maxRecDepth 100000 in
theorem j_len (l : Launch) (A : Nat → Prop) (q v : Nat) : Met l yJ0_length_8abf5 wsJ0_length_8abf5 rmJ1 (pcS [.ref q] A q v) (vp_Si (fun r => r = 66)) 0 0 (fun _ => False) := by
  refine mk_St (cc := cJ0_length_8abf5) (maxL := 1) (ty := .int) rfl (by decide) rfl (Nat.le_of_ble_eq_true rfl) ?_
  intro p e s m args below meth c Q S hF hret ls hl
  obtain ⟨hx, hb, hml, hown, hts⟩ := S
  have hl : lv_has ls 1 [(0, .ref q)] := hl
  have q_0 := hts (.fieldLink RJ0 9 "java/lang/String" "value" "[B") (by decide +kernel)
  refine lv_aload_n hx hb dJ0_length_8abf5_0 rfl (lv_at hl 0 rfl) ?_
  refine vk_getf hx hb hF.2.2.1 va_S.rf hown q_0 (fun _ h => h) dJ0_length_8abf5_1 ?_
  refine va_tlen (v := 66) hx hb hF.2.2.2.1 va_S.rf rfl dJ0_length_8abf5_4 ?_
  refine lv_aload_n hx hb dJ0_length_8abf5_5 rfl (lv_at hl 0 rfl) ?_
  obtain ⟨cell, k1, k2, k3, -⟩ := hF.1
  refine ca_Vx (C := RJ0) (As := []) (rest := [.int 66]) ⟨hx, hb, hml, hown, hts⟩ ⟨cell, k1, k2, k3⟩ pcS_bl (fun U hU hWm => hU ▸ fS.moved hWm.alike hF) (j_cod l A q v) gJ0_length_8abf5_J0_coder_7d493 rfl rfl rfl rfl hdJ0c ⟨Nat.le_of_ble_eq_true rfl, Nat.le_of_ble_eq_true rfl⟩ rfl hl.1 rfl (Nat.le_of_ble_eq_true rfl) dJ0_length_8abf5_6 ⟨Nat.zero_le _, Nat.zero_le _⟩ ?_
  refine lv_ishr hx hb dJ0_length_8abf5_9 ?_
  rw [show (66 : Int32) >>> ((0 : Int32) &&& 31) = 66 by decide]
  exact hret ls 10 dJ0_length_8abf5_10
abbrev rmJ3 : Room := { frames := 3, cells := 0, slots := 0, locals := 90 }
set_option maxRecDepth 100000 in
theorem j_at (l : Launch) (A : Nat → Prop) (q v k : Nat) (hk : k < 66) : Met l yJ0_charAt_5068e wsJ0_charAt_5068e rmJ3 (pcS [.ref q, .int (nI k)] A q v) (vp_Si (fun r => r = nI (ftl k))) 0 0 (fun _ => False) := by
  refine mk_St (cc := cJ0_charAt_5068e) (maxL := 2) (ty := .char) (nr_c (ft_le k hk)) (by decide) rfl (Nat.le_of_ble_eq_true rfl) ?_
  intro p e s m args below meth c Q S hF hret ls hl
  obtain ⟨hx, hb, hml, hown, hts⟩ := S
  have hl : lv_has ls 2 [(0, .ref q), (1, .int (nI k))] := hl
  have q_0 := hts (.fieldLink RJ0 9 "java/lang/String" "value" "[B") (by decide +kernel)
  refine lv_aload_n hx hb dJ0_charAt_5068e_0 rfl (lv_at hl 0 rfl) ?_
  obtain ⟨cell, k1, k2, k3, -⟩ := hF.1
  refine ca_Vx (C := RJ0) (As := []) (rest := []) ⟨hx, hb, hml, hown, hts⟩ ⟨cell, k1, k2, k3⟩ pcS_bl (fun U hU hWm => hU ▸ fS.moved hWm.alike hF) (j_isl l A q v) gJ0_charAt_5068e_J0_isLatin1_aae02 rfl rfl rfl rfl hdJ0i ⟨Nat.le_of_ble_eq_true rfl, Nat.le_of_ble_eq_true rfl⟩ rfl hl.1 rfl (Nat.le_of_ble_eq_true rfl) dJ0_charAt_5068e_1 ⟨Nat.zero_le _, Nat.zero_le _⟩ ?_
  refine lv_if_eq (tgt := 16) hx hb dJ0_charAt_5068e_4 (by decide) (fun h => absurd h (by decide)) (fun _ => ?_)
  refine lv_aload_n hx hb dJ0_charAt_5068e_7 rfl (lv_at hl 0 rfl) ?_
  refine vk_getf hx hb hF.2.2.1 va_S.rf hown q_0 (fun _ h => h) dJ0_charAt_5068e_8 ?_
  refine lv_iload_n hx hb dJ0_charAt_5068e_11 rfl (lv_at hl 1 rfl) ?_
  refine ca_Sx (As := [.ref v, .int (nI k)]) (rest := []) ⟨hx, hb, hml, hown, hts⟩ pcS_bl (fun U hU hWm => hU ▸ fS.moved hWm.alike hF) (j_lat l A q v k hk) gJ0_charAt_5068e_J1_charAt_3b067 rfl rfl rfl hdJ1a ⟨Nat.le_of_ble_eq_true rfl, Nat.le_of_ble_eq_true rfl⟩ rfl hl.1 rfl (Nat.le_of_ble_eq_true rfl) dJ0_charAt_5068e_12 ⟨Nat.zero_le _, Nat.zero_le _⟩ ?_
  exact hret ls 15 dJ0_charAt_5068e_15
