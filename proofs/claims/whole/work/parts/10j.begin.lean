/-! the law: how it begins -/
theorem tb_in {w : Cond} (i : Nat) (h : tables_1[i]? = some w) : w ∈ lw_tbl := List.mem_append_right _ (List.mem_of_getElem? (i := i) h)
theorem ar_of {args : Array Value} {s : State} {ty : FieldType} (h : (Cond.arrayClass ty).before args s = true) : ∃ cA : ClassId, s.vm.findClass ("[" ++ ty.toString) = some cA ∧ ArrOfT s cA ty := by
  obtain ⟨cA, kA, comp, h1, h2, h3⟩ := Cond.arrayClass_spec h
  exact ⟨cA, h1, fun n z => ⟨fun k h => (by cases h), kA, h2, comp, h3⟩⟩
theorem aq_of {args : Array Value} {s : State} {C : String} (h : (Cond.arrayOver (.object C)).before args s = true) : ∃ cA : ClassId, ArrOfT s cA (.object C) ∧ va_RA s cA (.object C) := by
  obtain ⟨comp, cA, kA, f1, f2, f3, f4, f5⟩ := Cond.arrayOver_spec h
  exact ⟨cA, fun n z => ⟨fun k h => (by cases h), kA, f3, comp, f4⟩, kA, comp, f3, f4, f1, f5⟩
set_option maxRecDepth 100000 in
set_option maxHeartbeats 4000000 in
theorem lw_env {args : Array Value} {s : State} (hts : ∀ w ∈ lw_tbl, w.before args s = true) : ∃ E : En4, wk E s := by
  obtain ⟨c0, i0, hK0⟩ := u_known (C := RX0) (T := TX0) (N := 8) (n := 8) hts inX0 (hts (.instantiable RX0 8) (tb_in 134 (by decide +kernel)))
  obtain ⟨c1, i1, hK1⟩ := u_known (C := RX1) (T := TX1) (N := 6) (n := 6) hts inX1 (hts (.instantiable RX1 6) (tb_in 102 (by decide +kernel)))
  obtain ⟨c2, i2, hK2⟩ := u_known (C := RX2) (T := TX2) (N := 2) (n := 2) hts inX2 (hts (.instantiable RX2 2) (tb_in 27 (by decide +kernel)))
  obtain ⟨c3, i3, hK3⟩ := u_known (C := RX3) (T := TX3) (N := 3) (n := 3) hts inX3 (hts (.instantiable RX3 3) (tb_in 127 (by decide +kernel)))
  obtain ⟨c4, i4, hK4⟩ := u_known (C := RX4) (T := TX4) (N := 1) (n := 1) hts inX4 (hts (.instantiable RX4 1) (tb_in 92 (by decide +kernel)))
  obtain ⟨c5, i5, hK5⟩ := u_known (C := RX5) (T := TX5) (N := 9) (n := 9) hts inX5 (hts (.instantiable RX5 9) (tb_in 47 (by decide +kernel)))
  obtain ⟨c6, i6, hK6⟩ := u_known (C := RX6) (T := TX6) (N := 2) (n := 2) hts inX6 (hts (.instantiable RX6 2) (tb_in 41 (by decide +kernel)))
  obtain ⟨c7, i7, hK7⟩ := u_known (C := RX7) (T := TX7) (N := 7) (n := 7) hts inX7 (hts (.instantiable RX7 7) (tb_in 19 (by decide +kernel)))
  obtain ⟨c8, i8, hK8⟩ := u_known (C := RX8) (T := TX8) (N := 20) (n := 20) hts inX8 (hts (.instantiable RX8 20) (tb_in 752 (by decide +kernel)))
  obtain ⟨cI, hcI, acI⟩ := ar_of (hts (.arrayClass .int) (tb_in 80 (by decide +kernel)))
  obtain ⟨cZ, hcZ, acZ⟩ := ar_of (hts (.arrayClass .boolean) (tb_in 81 (by decide +kernel)))
  obtain ⟨cC, hcC, acC⟩ := ar_of (hts (.arrayClass .char) (tb_in 39 (by decide +kernel)))
  have hQ := hts (.arrayOver (.object "DelayClusters$Change")) (tb_in 133 (by decide +kernel))
  obtain ⟨cQ, aQ, rQ⟩ := aq_of hQ
  refine ⟨((fun k => [c0, c1, c2, c3, c4, c5, c6, c7, c8].getD k c0, fun k => [i0, i1, i2, i3, i4, i5, i6, i7, i8].getD k i0), cI, cZ, cC, cQ), ⟨?_, ?_⟩, ?_, va_AO.of hQ⟩
  · intro k q hq
    match k, hq with
    | 0, hq => cases hq; exact hK0
    | 1, hq => cases hq; exact hK1
    | 2, hq => cases hq; exact hK2
    | 3, hq => cases hq; exact hK3
    | 4, hq => cases hq; exact hK4
    | 5, hq => cases hq; exact hK5
    | 6, hq => cases hq; exact hK6
    | 7, hq => cases hq; exact hK7
    | 8, hq => cases hq; exact hK8
    | k + 9, hq => exact absurd (show k + 9 < 9 from (List.getElem?_eq_some_iff.mp hq).1) (by omega)
  · intro k q hq
    match k, hq with
    | 0, hq => cases hq; exact ⟨acI, hcI⟩
    | 1, hq => cases hq; exact ⟨acZ, hcZ⟩
    | 2, hq => cases hq; exact ⟨acC, hcC⟩
    | 3, hq => cases hq; exact ⟨aQ, rQ⟩
    | k + 4, hq => exact absurd (show k + 4 < 4 from (List.getElem?_eq_some_iff.mp hq).1) (by omega)
  · unfold nwQ
    refine List.forall_mem_cons.mpr ⟨va_Nw.of rfl (hts _ (tb_in 28 (by decide +kernel))), List.forall_mem_cons.mpr ⟨va_Nw.of rfl (hts _ (tb_in 42 (by decide +kernel))), List.forall_mem_cons.mpr ⟨va_Nw.of rfl (hts _ (tb_in 90 (by decide +kernel))), List.forall_mem_cons.mpr ⟨va_Nw.of rfl (hts _ (tb_in 93 (by decide +kernel))), List.forall_mem_cons.mpr ⟨va_Nw.of rfl (hts _ (tb_in 262 (by decide +kernel))), List.forall_mem_cons.mpr ⟨va_Nw.of rfl (hts _ (tb_in 135 (by decide +kernel))), List.forall_mem_cons.mpr ⟨va_Nw.of rfl (hts _ (tb_in 48 (by decide +kernel))), List.forall_mem_cons.mpr ⟨va_Nw.of rfl (hts _ (tb_in 272 (by decide +kernel))), fun _ h => absurd h List.not_mem_nil⟩⟩⟩⟩⟩⟩⟩⟩
abbrev tmS : Term := .string "DelayClusters" 56
abbrev tmV : Term := .field tmS "java/lang/String" "value" "[B"
set_option maxRecDepth 100000 in
set_option maxHeartbeats 4000000 in
theorem tx_in : ∀ j, j < 66 → Cond.eq (.elem tmV (.int (Int32.ofNat j))) (.int (nI (ftl j))) ∈ flatC (Jvm.Cond.and given_1 narrow_1) := by decide +kernel
set_option maxRecDepth 100000 in
set_option maxHeartbeats 4000000 in
theorem lw_text {args : Array Value} {s : State} (hts : ∀ w ∈ lw_tbl, w.before args s = true) (hgv : (Jvm.Cond.and given_1 narrow_1).before args s = true) : ∃ qs vs : Nat, fS (fun q : Nat => s.heap.size ≤ q) qs vs s s.heap ∧ vk_R RX7 56 FTX qs s := by
  have hs := flat_of_before _ hgv
  have hA : ∀ a : Nat, a < s.heap.size → ¬ (fun q : Nat => s.heap.size ≤ q) a := fun a h => Nat.not_le.mpr h
  obtain ⟨a, c, cA, kA, q1, q2, q3, q4, q5, q6, -⟩ := Cond.exactly_spec (args := args) (first := s) (o := none) (s := s) (idx := []) (t := tmS) (cls := "java/lang/String") (hs (Cond.exactly tmS "java/lang/String") (by decide +kernel))
  obtain ⟨t, ht, hT⟩ := va_Tof (tm := tmV) (ty := .byte) (N := 66) (f := fun j => .int (nI (ftl j))) (A := (fun q : Nat => s.heap.size ≤ q)) (by decide) (hs (Cond.arrayOf tmV .byte) (by decide +kernel)) (va_eqt (hs (Cond.eq (.length tmV) (.int 66)) (by decide +kernel))) (fun j hj => va_eqt (hs _ (tx_in j hj))) hA
  exact ⟨a, t, ⟨⟨cA, q3, q5, by rw [q6]; exact q2, hA a (Array.getElem?_eq_some_iff.mp q3).1⟩, vk_OFof q1 (va_eqt (hs (Cond.eq (.field tmS "java/lang/String" "coder" "B") (.int 0)) (by decide +kernel))) hA, vk_OFof q1 ht hA, hT, va_Zof (hts (.laysStatic "java/lang/String" "COMPACT_STRINGS" "Z") (tb_in 184 (by decide +kernel))) (hts (.initialized "java/lang/String") (tb_in 9 (by decide +kernel))) (va_eqi (hs (Cond.eq (.static "java/lang/String" "COMPACT_STRINGS" "Z") (.int 1)) (by decide +kernel))) hA, va_Zqof (hts (.laysStatic "jdk/internal/util/Preconditions" "SIOOBE_FORMATTER" "Ljava/util/function/BiFunction;") (tb_in 200 (by decide +kernel))) (hts (.initialized "jdk/internal/util/Preconditions") (tb_in 11 (by decide +kernel))) (hs (Cond.isRef (.static "jdk/internal/util/Preconditions" "SIOOBE_FORMATTER" "Ljava/util/function/BiFunction;")) (by decide +kernel)) hA⟩, vk_R.of (hts (.stringRef RX7 56 FTX) (tb_in 174 (by decide +kernel))) q1⟩
theorem ca_KS {p : Program} {l : Launch} {e : Env} {R : Room} {s : State} {m : MethodId} {args : Array Value} {below : List Frame} {meth : Method} {c : Code} {H : Heap} {locs : List Loc} {cells slots : Nat} {Q : State → Prop} {y : MethodName} {bytes cc : ByteArray} {maxL nL n index : Nat} {ws ws' : List Cond} {rm : Room} {Ts : List Cond} {own : String} {b : Addr} {As rest st0 : List Value} {pc : Nat} {ls : Array Slot} {E : En4} {w0 wc : va_W} {T : Type} {w1 : T → va_W} {A : Nat → Prop} {post : T → Prop} {mc ms qs vs : Nat} (S : CallFix p m c cc nL s args Ts own) (hK : wk E s) (hP : va_P E.1 vwCl w0 H) (hD : va_D A w0) (hS : va_S A s.heap H locs) (hA : ∀ q, s.heap.size ≤ q → A q) (hF1 : fS A qs vs s s.heap) (hZ : vk_R RX7 56 FTX qs s)
    (hM : Met l y ws rm (pcK (.ref b :: As) E H.size wc qs vs) (QK E H.size wc w1 post) mc ms (va_A wc H.size)) (isC isR : List Nat) (hnC : va_nd isC = true) (hC : isC.map (fun i => w0[i]?) = wc.map some) (hlR : isR.all (fun i => decide (i < w0.length)) = true) (hn1 : va_nd isR = true) (hdis : ∀ i ∈ isR, i ∉ isC)
    (hG : GoodIn Ts ws) (hw : ws = Cond.code y bytes maxL none :: ws') (hrc : rm.cells = mc) (hrs : rm.slots = ms) (hy1 : y.name = "<init>") (hin8 : (Cond.instanceMethod y).before args s = true) (hini : (Cond.initialized y.cls).before args s = true) (hlk : (Cond.methodLink own index y).before args s = true) (hd : hdOK y n) (hR : rm.frames + 1 ≤ R.frames ∧ 8 + (maxL + 11) + rm.locals ≤ R.locals)
    (hn : As.length = n) (hsize : ls.size = nL) (hst : st0 = As.reverse ++ .ref b :: rest) (hW : (rest.map fun v => v.category).sum ≤ 8) (hdg : decode cc pc = .ok (.invokespecial index, 3)) (hcs : cells + mc ≤ R.cells ∧ slots + ms ≤ R.slots)
    (kk : ∀ (u : T) (H1 : Heap) (locs1 : List Loc), post u → va_P E.1 vwCl (isR.filterMap (fun i => w0[i]?) ++ w1 u) H1 → va_D A (isR.filterMap (fun i => w0[i]?) ++ w1 u) → va_S A s.heap H1 locs1 → W p l e R s m args below meth c H1 locs1 (cells + mc) (slots + ms) Q (F0 m (pc + 3) ls rest)) : W p l e R s m args below meth c H locs cells slots Q (F0 m pc ls st0) := by
  have hPc := hP.sub isC (sub_of hC)
  have hDc := hD.sub isC hnC hC
  have hF := va_free hD hS hA isC hC
  refine va_callv (va_runI (As := As) (rest := rest) S hM (cwI n S.2.2.2.2 hG hw hrc hrs hini hlk hin8 hy1 hd hR) ⟨pcK_bl, fun U hU hWm => ⟨⟨rfl, by rw [hU], by rw [hU]; exact hPc, hK.warm hWm, hDc.weaken (fun _ _ _ _ => trivial)⟩, by rw [hU]; exact fS.moved hWm.alike ((hF1.kept hS.2.1).narrow hF), vk_R.warm hWm hZ⟩⟩ rfl hn hsize hst (lv_room hW) hdg hcs) hS (fun q _ h => hF q h) hF (fun u t H1 locs1 ht hvm hu hB hz1 hk1 hS1 => ?_)
  obtain ⟨hP1, hD1⟩ := hB
  rw [ht] at hP1
  obtain ⟨hP2, hD2⟩ := va_join hP hD isC isR hC (all_of hlR) hn1 hdis hk1 hF hP1 hD1
  exact kk u H1 locs1 hu hP2 hD2 hS1
