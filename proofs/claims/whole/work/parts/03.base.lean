/-! guards, loops, the environment, the forms of contracts, calls -/
def ck (i : Int32) (n : Nat) : Bool := !(decide (i < 0) || decide (n ≤ i.toNatClampNeg))
theorem ck_in {i : Int32} {n : Nat} (h : ck i n = true) : vp_in i n := by
  unfold ck at h
  unfold vp_in
  simpa using h
theorem in_ck {i : Int32} {n : Nat} (h : vp_in i n) : ck i n = true := by
  unfold vp_in at h
  unfold ck
  simpa using h
def gd {α : Type} (b : Bool) (x : Option α) : Option α := if b = true then x else none
theorem gd_s {α : Type} {b : Bool} {x : Option α} {r : α} (h : gd b x = some r) : b = true ∧ x = some r := by
  unfold gd at h
  by_cases hb : b = true
  · rw [if_pos hb] at h
    exact ⟨hb, h⟩
  · rw [if_neg hb] at h
    cases h
theorem gk_s {α : Type} {i : Int32} {n : Nat} {x : Option α} {r : α} (h : gd (ck i n) x = some r) : vp_in i n ∧ x = some r := ⟨ck_in (gd_s h).1, (gd_s h).2⟩
def nz (y : Int32) : Bool := !(decide (y = 0))
theorem gz_s {α : Type} {y : Int32} {x : Option α} {r : α} (h : gd (nz y) x = some r) : (¬ y = 0) ∧ x = some r := by
  refine ⟨?_, (gd_s h).2⟩
  have h1 := (gd_s h).1
  unfold nz at h1
  simpa using h1
def bz (v : Int32) : Bool := decide (v = 0) || decide (v = 1)
theorem bz_n {v : Int32} (h : bz v = true) : narrow .boolean (.int v) = .int v := by
  unfold bz at h
  simp only [Bool.or_eq_true, decide_eq_true_eq] at h
  rcases h with h | h <;> subst h <;> rfl
theorem bz_f {v : Int32} (h : bz v = true) : fits .boolean (.int v) = true := by
  unfold bz at h
  simp only [Bool.or_eq_true, decide_eq_true_eq] at h
  rcases h with h | h <;> subst h <;> rfl
theorem gb_s {α : Type} {v : Int32} {x : Option α} {r : α} (h : gd (bz v) x = some r) : bz v = true ∧ x = some r := gd_s h
theorem ite_t {c : Prop} [Decidable c] {α : Type} {a b r : α} (h : c) (hf : (if c then a else b) = r) : a = r := by rw [if_pos h] at hf; exact hf
theorem ite_f {c : Prop} [Decidable c] {α : Type} {a b r : α} (h : ¬ c) (hf : (if c then a else b) = r) : b = r := by rw [if_neg h] at hf; exact hf
theorem bd_s {α β : Type} {a : Option α} {f : α → Option β} {r : β} (h : a.bind f = some r) : ∃ x, a = some x ∧ f x = some r := by
  cases a with
  | none => cases h
  | some x => exact ⟨x, rfl, h⟩
def it {σ τ : Type} (b : σ → Option (σ ⊕ τ)) : Nat → σ → Option τ
  | 0, _ => none
  | n + 1, s => (b s).bind (fun x => match x with
    | .inl s2 => it b n s2
    | .inr t => some t)
theorem it_z {σ τ : Type} {b : σ → Option (σ ⊕ τ)} {s : σ} {r : τ} (h : it b 0 s = some r) : False := by cases h
theorem it_s {σ τ : Type} {b : σ → Option (σ ⊕ τ)} {n : Nat} {s : σ} {r : τ} (h : it b (n + 1) s = some r) : ∃ x, b s = some x ∧ (∀ s2, x = .inl s2 → it b n s2 = some r) ∧ (∀ t, x = .inr t → t = r) := by
  obtain ⟨x, h1, h2⟩ := bd_s (show (b s).bind _ = some r from h)
  refine ⟨x, h1, fun s2 e => ?_, fun t e => ?_⟩
  · subst e
    exact h2
  · subst e
    exact Option.some.inj h2
abbrev En4 : Type := va_G × ClassId × ClassId × ClassId × ClassId
abbrev Ty4 (E : En4) : List (ClassId × FieldType) := [(E.2.1, .int), (E.2.2.1, .boolean), (E.2.2.2.1, .char), (E.2.2.2.2, .object "DelayClusters$Change")]
def nwQ : List (String × Nat × MethodName × String) := [(RX7, 9, yX2_init, RX7), (RX7, 18, yX6_init, RX7), (RX7, 25, yX5_init, RX7), (RX7, 32, yX4_init, RX7), (RX2, 23, yX7_isWithin, RX7), (RX3, 17, yX0_init, RX7), (RX6, 11, yX5_init, RX7), (RX6, 50, yX7_isWithin, RX7)]
def nw (U : State) : Prop := (∀ q ∈ nwQ, va_Nw (.methodLinkNest q.1 q.2.1 q.2.2.1 q.2.2.2) U) ∧ va_AO "DelayClusters$Change" U
theorem nw.warm {s U : State} (hW : s.WarmedH U.vm) (h : nw s) : nw U := ⟨fun q hq => va_Nw.warmM hW (h.1 q hq), va_AO.moved hW.alike h.2⟩
theorem nw.same {u U : State} (hv : u.vm = U.vm) (h : nw u) : nw U := ⟨fun q hq => va_Nw.same rfl hv (h.1 q hq), va_AO.moved (hv ▸ Vm.Alike.refl u.vm) h.2⟩
def wk (E : En4) (U : State) : Prop := va_K E.1 vwCl (Ty4 E) U ∧ nw U
theorem wk.warm {E : En4} {s U : State} (hW : s.WarmedH U.vm) (h : wk E s) : wk E U := ⟨va_K.moved hW.alike h.1, h.2.warm hW⟩
def pcR (av : List Value) (E : En4) (wc : va_W) : Array Value → State → Prop := va_Pc av (fun U => va_P E.1 vwCl wc U.heap ∧ wk E U)
def pcM (av : List Value) (E : En4) (sz : Nat) (wc : va_W) : Array Value → State → Prop := va_Pc av (fun U => U.heap.size = sz ∧ va_P E.1 vwCl wc U.heap ∧ wk E U ∧ va_D (fun _ => True) wc)
theorem pcR_bl {av : List Value} {E : En4} {wc : va_W} : FrameBlind (pcR av E wc) := fun a U g mk q => ⟨q.1, q.2.1, va_K.moved (u := U) (U := U.calling g mk a) (Vm.Alike.refl U.vm) q.2.2.1, q.2.2.2.same (u := U) (U := U.calling g mk a) rfl⟩
theorem pcM_bl {av : List Value} {E : En4} {sz : Nat} {wc : va_W} : FrameBlind (pcM av E sz wc) := fun a U g mk q => ⟨q.1, q.2.1, q.2.2.1, ⟨va_K.moved (u := U) (U := U.calling g mk a) (Vm.Alike.refl U.vm) q.2.2.2.1.1, q.2.2.2.1.2.same (u := U) (U := U.calling g mk a) rfl⟩, q.2.2.2.2⟩
abbrev QMi {S : Type} (E : En4) (sz : Nat) (wc : va_W) (w1 : S → va_W) (res : Int32 × S) : Array Value → State → Outcome → State → Prop := va_Qi (fun r u => (r, u) = res) (fun u t => va_P E.1 vwCl (w1 u) t.heap ∧ va_D (va_A wc sz) (w1 u)) (va_A wc sz)
abbrev QMv {S : Type} (E : En4) (sz : Nat) (wc : va_W) (w1 : S → va_W) (res : S) : Array Value → State → Outcome → State → Prop := va_Qv (fun u => u = res) (fun u t => va_P E.1 vwCl (w1 u) t.heap ∧ va_D (va_A wc sz) (w1 u)) (va_A wc sz)
def adC (a b c d : Nat) (r : Int32) : Nat := if r = 0 then a else if r = 1 then b else if r = 2 then c else d
abbrev QMr {S : Type} (E : En4) (sz : Nat) (wc : va_W) (w1 : S → va_W) (ad : Int32 → Nat) (res : Int32 × S) : Array Value → State → Outcome → State → Prop := va_Qr (S := Int32 × S) (fun u => u = res) (fun u a t => a = ad u.1 ∧ va_P E.1 vwCl (w1 u.2) t.heap ∧ va_D (va_A wc sz) (w1 u.2)) (va_A wc sz)
abbrev QK {S : Type} (E : En4) (sz : Nat) (wc : va_W) (w1 : S → va_W) (post : S → Prop) : Array Value → State → Outcome → State → Prop := va_Qv post (fun u t => va_P E.1 vwCl (w1 u) t.heap ∧ va_D (va_A wc sz) (w1 u)) (va_A wc sz)
theorem ar_I {E : En4} {cA : ClassId} {s : State} (hK : va_K E.1 vwCl (Ty4 E ++ [(cA, .int)]) s) : cA = E.2.1 := Option.some.inj ((hK.2 4 _ rfl).2.symm.trans (hK.2 0 _ rfl).2)
theorem ar_Z {E : En4} {cA : ClassId} {s : State} (hK : va_K E.1 vwCl (Ty4 E ++ [(cA, .boolean)]) s) : cA = E.2.2.1 := Option.some.inj ((hK.2 4 _ rfl).2.symm.trans (hK.2 1 _ rfl).2)
theorem ar_C {E : En4} {cA : ClassId} {s : State} (hK : va_K E.1 vwCl (Ty4 E ++ [(cA, .char)]) s) : cA = E.2.2.2.1 := Option.some.inj ((hK.2 4 _ rfl).2.symm.trans (hK.2 2 _ rfl).2)
theorem ar_Q {E : En4} {cA : ClassId} {s : State} (hK : va_K E.1 vwCl (Ty4 E ++ [(cA, .object "DelayClusters$Change")]) s) : cA = E.2.2.2.2 := by
  obtain ⟨_, _, _, _, _, h4⟩ := (hK.2 4 _ rfl).2
  obtain ⟨_, _, _, _, _, h5⟩ := (hK.2 3 _ rfl).2
  exact Option.some.inj (h4.symm.trans h5)
theorem va_q4 {A : Nat → Prop} {D : va_G} {cl : List vw_C} {ws : va_W} {H : Heap} {q0 a : Nat} {cA : ClassId} {f g : Nat → Option Nat} (hP : va_P D cl ws H) (hD : va_D A ws) (h1 : ws[q0]? = some (a, .inl (cA, 4, .inr (.inr (.inr (.inr f)))))) (h3 : ∀ j, j < 4 → f j = g j) : va_P D cl (ws.set q0 (a, .inl (cA, 4, .inr (.inr (.inr (.inr g)))))) H := by
  refine hP.set hD h1 ?_ (fun _ _ => rfl)
  have h : H[a]? = some (vp_cell cA (4, .inr (.inr (.inr (.inr f))))) := hP q0 _ h1
  show H[a]? = some (vp_cell cA (4, .inr (.inr (.inr (.inr g)))))
  rw [h, vp_cell_q, vp_cell_q]
  have e : (Array.ofFn (n := 4) fun j => va_rf (f j.val)) = (Array.ofFn (n := 4) fun j => va_rf (g j.val)) := by
    congr 1
    funext j
    rw [h3 j.val j.isLt]
  unfold arrV
  rw [e]
section BMK
variable {l : Launch} {y : MethodName} {ws ws' : List Cond} {rm : Room} {cc : ByteArray} {maxL : Nat} {av : List Value} {E : En4} {wc : va_W}
theorem mk_Ri {res : Int32} (hy : plainName y.cls = true) (hw : ws = Cond.code y cc maxL (some .int) :: ws') (hav : (lg_sl av).length ≤ maxL)
    (body : ∀ (p : Program) (e : Env) (s : State) (m : MethodId) (args : Array Value) (below : List Frame) (meth : Method) (c : Code) (Q : State → Prop), CallFix p m c cc maxL s args ws y.cls → wk E s → va_P E.1 vwCl wc s.heap →
      (∀ (ls : Array Slot) (pc : Nat) (v : Int32), decode cc pc = .ok (.ireturn, 1) → v = res → W p l e rm s m args below meth c s.heap [] 0 0 Q (F0 m pc ls [.int v])) →
      ∀ ls : Array Slot, lv_has ls maxL (lv_args 0 av) → W p l e rm s m args below meth c s.heap [] 0 0 Q (F0 m 0 ls [])) : Met l y ws rm (pcR av E wc) (vp_Si (fun r => r = res)) 0 0 (fun _ => False) := by
  refine Met.ofW (cc := cc) (maxL := maxL) (ret := some .int) hy hw ?_
  intro p e s m args below meth c s₁ B hml hv
  obtain ⟨ha, hP, hK⟩ := hv
  have hlocks := B.notSynchronized
  have hl := lv_entry av (n := maxL) hav
  have K := body p e s m args below meth c (MQ below (vp_Si (fun r => r = res)) args s 0 0 (fun _ => False)) ⟨B.exec, B.bytes, hml, findClass_of_methodNamed B.named, atoms_spec (ws := ws) B.pre⟩ hK hP
    (fun ls pc v hd hv => W.iret B.exec B.bytes B.returns (fun t ht _ => ⟨v, rfl, hv, ht⟩) (fun q h => absurd h List.not_mem_nil) hd) _ hl
  have h2 := lg_entry_eq m av maxL
  rw [← ha] at h2
  rw [h2]
  exact K
theorem mk_Rz {res : Int32} (hy : plainName y.cls = true) (hw : ws = Cond.code y cc maxL (some .boolean) :: ws') (hav : (lg_sl av).length ≤ maxL)
    (body : ∀ (p : Program) (e : Env) (s : State) (m : MethodId) (args : Array Value) (below : List Frame) (meth : Method) (c : Code) (Q : State → Prop), CallFix p m c cc maxL s args ws y.cls → wk E s → va_P E.1 vwCl wc s.heap →
      (∀ (ls : Array Slot) (pc : Nat) (v : Int32), decode cc pc = .ok (.ireturn, 1) → bz v = true → v = res → W p l e rm s m args below meth c s.heap [] 0 0 Q (F0 m pc ls [.int v])) →
      ∀ ls : Array Slot, lv_has ls maxL (lv_args 0 av) → W p l e rm s m args below meth c s.heap [] 0 0 Q (F0 m 0 ls [])) : Met l y ws rm (pcR av E wc) (vp_Si (fun r => r = res)) 0 0 (fun _ => False) := by
  refine Met.ofW (cc := cc) (maxL := maxL) (ret := some .boolean) hy hw ?_
  intro p e s m args below meth c s₁ B hml hv
  obtain ⟨ha, hP, hK⟩ := hv
  have hlocks := B.notSynchronized
  have hl := lv_entry av (n := maxL) hav
  have K := body p e s m args below meth c (MQ below (vp_Si (fun r => r = res)) args s 0 0 (fun _ => False)) ⟨B.exec, B.bytes, hml, findClass_of_methodNamed B.named, atoms_spec (ws := ws) B.pre⟩ hK hP
    (fun ls pc v hd hz hv => W.zret B.exec B.bytes B.returns (bz_n hz) (fun t ht _ => ⟨v, rfl, hv, ht⟩) (fun q h => absurd h List.not_mem_nil) hd) _ hl
  have h2 := lg_entry_eq m av maxL
  rw [← ha] at h2
  rw [h2]
  exact K
theorem mk_Rr {a : Nat} {n : String} (hy : plainName y.cls = true) (hw : ws = Cond.code y cc maxL (some (.object n)) :: ws') (hav : (lg_sl av).length ≤ maxL)
    (body : ∀ (p : Program) (e : Env) (s : State) (m : MethodId) (args : Array Value) (below : List Frame) (meth : Method) (c : Code) (Q : State → Prop), CallFix p m c cc maxL s args ws y.cls → wk E s → va_P E.1 vwCl wc s.heap →
      (∀ (ls : Array Slot) (pc : Nat), decode cc pc = .ok (.areturn, 1) → W p l e rm s m args below meth c s.heap [] 0 0 Q (F0 m pc ls [.ref a])) →
      ∀ ls : Array Slot, lv_has ls maxL (lv_args 0 av) → W p l e rm s m args below meth c s.heap [] 0 0 Q (F0 m 0 ls [])) : Met l y ws rm (pcR av E wc) (va_Sr (fun k => k = 0) (fun _ => .ref a)) 0 0 (fun _ => False) := by
  refine Met.ofW (cc := cc) (maxL := maxL) (ret := some (.object n)) hy hw ?_
  intro p e s m args below meth c s₁ B hml hv
  obtain ⟨ha, hP, hK⟩ := hv
  have hlocks := B.notSynchronized
  have hl := lv_entry av (n := maxL) hav
  have K := body p e s m args below meth c (MQ below (va_Sr (fun k => k = 0) (fun _ => .ref a)) args s 0 0 (fun _ => False)) ⟨B.exec, B.bytes, hml, findClass_of_methodNamed B.named, atoms_spec (ws := ws) B.pre⟩ hK hP
    (fun ls pc hd => W.aret B.exec B.bytes B.returns (Or.inl ⟨n, rfl⟩) (Or.inr ⟨a, rfl⟩) (fun t ht _ => ⟨0, rfl, rfl, ht⟩) (fun q h => absurd h List.not_mem_nil) hd) _ hl
  have h2 := lg_entry_eq m av maxL
  rw [← ha] at h2
  rw [h2]
  exact K
variable {S : Type} {w1 : S → va_W} {sz : Nat}
theorem mk_Mi {res : Int32 × S} (hy : plainName y.cls = true) (hw : ws = Cond.code y cc maxL (some .int) :: ws') (hav : (lg_sl av).length ≤ maxL)
    (body : ∀ (p : Program) (e : Env) (s : State) (m : MethodId) (args : Array Value) (below : List Frame) (meth : Method) (c : Code) (Q : State → Prop) (A : Nat → Prop), CallFix p m c cc maxL s args ws y.cls → wk E s → (∀ q, s.heap.size ≤ q → A q) →
      (∀ (H : Heap) (locs : List Loc) (ls : Array Slot) (pc : Nat) (v : Int32) (u : S), decode cc pc = .ok (.ireturn, 1) → (v, u) = res → va_P E.1 vwCl (w1 u) H → va_D A (w1 u) → va_S A s.heap H locs → W p l e rm s m args below meth c H locs 0 0 Q (F0 m pc ls [.int v])) →
      ∀ (H : Heap) (locs : List Loc) (ls : Array Slot), va_P E.1 vwCl wc H → va_D A wc → va_S A s.heap H locs → lv_has ls maxL (lv_args 0 av) → W p l e rm s m args below meth c H locs 0 0 Q (F0 m 0 ls [])) : Met l y ws rm (pcM av E sz wc) (QMi E sz wc w1 res) 0 0 (va_A wc sz) := by
  refine Met.ofW (cc := cc) (maxL := maxL) (ret := some .int) hy hw ?_
  intro p e s m args below meth c s₁ B hml hv
  obtain ⟨ha, hsz, hP, hK, hD⟩ := hv
  have hlocks := B.notSynchronized
  have hl := lv_entry av (n := maxL) hav
  subst hsz
  have K := body p e s m args below meth c (MQ below (QMi E s.heap.size wc w1 res) args s 0 0 (va_A wc s.heap.size)) (va_A wc s.heap.size) ⟨B.exec, B.bytes, hml, findClass_of_methodNamed B.named, atoms_spec (ws := ws) B.pre⟩ hK (fun q h => Or.inr h)
    (fun H locs ls pc v u hd hv hP1 hD1 hS1 => W.iret B.exec B.bytes B.returns (fun t ht _ => ⟨⟨v, u, rfl, hv, by rw [ht]; exact hP1, hD1⟩, hS1.F ht⟩) hS1.2.2 hd) s.heap [] _ hP hD.self va_S.rf hl
  have h2 := lg_entry_eq m av maxL
  rw [← ha] at h2
  rw [h2]
  exact K
theorem mk_Mz {res : Int32 × S} (hy : plainName y.cls = true) (hw : ws = Cond.code y cc maxL (some .boolean) :: ws') (hav : (lg_sl av).length ≤ maxL)
    (body : ∀ (p : Program) (e : Env) (s : State) (m : MethodId) (args : Array Value) (below : List Frame) (meth : Method) (c : Code) (Q : State → Prop) (A : Nat → Prop), CallFix p m c cc maxL s args ws y.cls → wk E s → (∀ q, s.heap.size ≤ q → A q) →
      (∀ (H : Heap) (locs : List Loc) (ls : Array Slot) (pc : Nat) (v : Int32) (u : S), decode cc pc = .ok (.ireturn, 1) → bz v = true → (v, u) = res → va_P E.1 vwCl (w1 u) H → va_D A (w1 u) → va_S A s.heap H locs → W p l e rm s m args below meth c H locs 0 0 Q (F0 m pc ls [.int v])) →
      ∀ (H : Heap) (locs : List Loc) (ls : Array Slot), va_P E.1 vwCl wc H → va_D A wc → va_S A s.heap H locs → lv_has ls maxL (lv_args 0 av) → W p l e rm s m args below meth c H locs 0 0 Q (F0 m 0 ls [])) : Met l y ws rm (pcM av E sz wc) (QMi E sz wc w1 res) 0 0 (va_A wc sz) := by
  refine Met.ofW (cc := cc) (maxL := maxL) (ret := some .boolean) hy hw ?_
  intro p e s m args below meth c s₁ B hml hv
  obtain ⟨ha, hsz, hP, hK, hD⟩ := hv
  have hlocks := B.notSynchronized
  have hl := lv_entry av (n := maxL) hav
  subst hsz
  have K := body p e s m args below meth c (MQ below (QMi E s.heap.size wc w1 res) args s 0 0 (va_A wc s.heap.size)) (va_A wc s.heap.size) ⟨B.exec, B.bytes, hml, findClass_of_methodNamed B.named, atoms_spec (ws := ws) B.pre⟩ hK (fun q h => Or.inr h)
    (fun H locs ls pc v u hd hz hv hP1 hD1 hS1 => W.zret B.exec B.bytes B.returns (bz_n hz) (fun t ht _ => ⟨⟨v, u, rfl, hv, by rw [ht]; exact hP1, hD1⟩, hS1.F ht⟩) hS1.2.2 hd) s.heap [] _ hP hD.self va_S.rf hl
  have h2 := lg_entry_eq m av maxL
  rw [← ha] at h2
  rw [h2]
  exact K
theorem mk_Mv {res : S} (hy : plainName y.cls = true) (hw : ws = Cond.code y cc maxL none :: ws') (hav : (lg_sl av).length ≤ maxL)
    (body : ∀ (p : Program) (e : Env) (s : State) (m : MethodId) (args : Array Value) (below : List Frame) (meth : Method) (c : Code) (Q : State → Prop) (A : Nat → Prop), CallFix p m c cc maxL s args ws y.cls → wk E s → (∀ q, s.heap.size ≤ q → A q) →
      (∀ (H : Heap) (locs : List Loc) (ls : Array Slot) (pc : Nat) (u : S), decode cc pc = .ok (.return_, 1) → u = res → va_P E.1 vwCl (w1 u) H → va_D A (w1 u) → va_S A s.heap H locs → W p l e rm s m args below meth c H locs 0 0 Q (F0 m pc ls [])) →
      ∀ (H : Heap) (locs : List Loc) (ls : Array Slot), va_P E.1 vwCl wc H → va_D A wc → va_S A s.heap H locs → lv_has ls maxL (lv_args 0 av) → W p l e rm s m args below meth c H locs 0 0 Q (F0 m 0 ls [])) : Met l y ws rm (pcM av E sz wc) (QMv E sz wc w1 res) 0 0 (va_A wc sz) := by
  refine Met.ofW (cc := cc) (maxL := maxL) (ret := none) hy hw ?_
  intro p e s m args below meth c s₁ B hml hv
  obtain ⟨ha, hsz, hP, hK, hD⟩ := hv
  have hlocks := B.notSynchronized
  have hl := lv_entry av (n := maxL) hav
  subst hsz
  have K := body p e s m args below meth c (MQ below (QMv E s.heap.size wc w1 res) args s 0 0 (va_A wc s.heap.size)) (va_A wc s.heap.size) ⟨B.exec, B.bytes, hml, findClass_of_methodNamed B.named, atoms_spec (ws := ws) B.pre⟩ hK (fun q h => Or.inr h)
    (fun H locs ls pc u hd hv hP1 hD1 hS1 => W.vret B.exec B.bytes B.returns (fun t ht _ => ⟨⟨u, rfl, hv, by rw [ht]; exact hP1, hD1⟩, hS1.F ht⟩) hS1.2.2 hd) s.heap [] _ hP hD.self va_S.rf hl
  have h2 := lg_entry_eq m av maxL
  rw [← ha] at h2
  rw [h2]
  exact K
theorem mk_Mr {res : Int32 × S} {ad : Int32 → Nat} {n : String} (hy : plainName y.cls = true) (hw : ws = Cond.code y cc maxL (some (.object n)) :: ws') (hav : (lg_sl av).length ≤ maxL)
    (body : ∀ (p : Program) (e : Env) (s : State) (m : MethodId) (args : Array Value) (below : List Frame) (meth : Method) (c : Code) (Q : State → Prop) (A : Nat → Prop), CallFix p m c cc maxL s args ws y.cls → wk E s → (∀ q, s.heap.size ≤ q → A q) →
      (∀ (H : Heap) (locs : List Loc) (ls : Array Slot) (pc : Nat) (v : Int32) (u : S), decode cc pc = .ok (.areturn, 1) → (v, u) = res → va_P E.1 vwCl (w1 u) H → va_D A (w1 u) → va_S A s.heap H locs → W p l e rm s m args below meth c H locs 0 0 Q (F0 m pc ls [.ref (ad v)])) →
      ∀ (H : Heap) (locs : List Loc) (ls : Array Slot), va_P E.1 vwCl wc H → va_D A wc → va_S A s.heap H locs → lv_has ls maxL (lv_args 0 av) → W p l e rm s m args below meth c H locs 0 0 Q (F0 m 0 ls [])) : Met l y ws rm (pcM av E sz wc) (QMr E sz wc w1 ad res) 0 0 (va_A wc sz) := by
  refine Met.ofW (cc := cc) (maxL := maxL) (ret := some (.object n)) hy hw ?_
  intro p e s m args below meth c s₁ B hml hv
  obtain ⟨ha, hsz, hP, hK, hD⟩ := hv
  have hlocks := B.notSynchronized
  have hl := lv_entry av (n := maxL) hav
  subst hsz
  have K := body p e s m args below meth c (MQ below (QMr E s.heap.size wc w1 ad res) args s 0 0 (va_A wc s.heap.size)) (va_A wc s.heap.size) ⟨B.exec, B.bytes, hml, findClass_of_methodNamed B.named, atoms_spec (ws := ws) B.pre⟩ hK (fun q h => Or.inr h)
    (fun H locs ls pc v u hd hv hP1 hD1 hS1 => W.aret B.exec B.bytes B.returns (Or.inl ⟨n, rfl⟩) (Or.inr ⟨_, rfl⟩) (fun t ht _ => ⟨⟨(v, u), ad v, rfl, hv, rfl, by rw [ht]; exact hP1, hD1⟩, hS1.F ht⟩) hS1.2.2 hd) s.heap [] _ hP hD.self va_S.rf hl
  have h2 := lg_entry_eq m av maxL
  rw [← ha] at h2
  rw [h2]
  exact K
theorem mk_K {post : S → Prop} {mc ms : Nat} (hy : plainName y.cls = true) (hw : ws = Cond.code y cc maxL none :: ws') (hav : (lg_sl av).length ≤ maxL) (hnm : y.name = "<init>")
    (body : ∀ (p : Program) (e : Env) (s : State) (m : MethodId) (args : Array Value) (below : List Frame) (meth : Method) (c : Code) (Q : State → Prop) (A : Nat → Prop), CallFix p m c cc maxL s args ws y.cls → meth.name = "<init>" → wk E s → (∀ q, s.heap.size ≤ q → A q) →
      (∀ (H : Heap) (locs : List Loc) (ls : Array Slot) (pc : Nat) (u : S), decode cc pc = .ok (.return_, 1) → post u → va_P E.1 vwCl (w1 u) H → va_D A (w1 u) → va_S A s.heap H locs → W p l e rm s m args below meth c H locs mc ms Q (F0 m pc ls [])) →
      ∀ (H : Heap) (locs : List Loc) (ls : Array Slot), va_P E.1 vwCl wc H → va_D A wc → va_S A s.heap H locs → lv_has ls maxL (lv_args 0 av) → W p l e rm s m args below meth c H locs 0 0 Q (F0 m 0 ls [])) : Met l y ws rm (pcM av E sz wc) (QK E sz wc w1 post) mc ms (va_A wc sz) := by
  refine Met.ofW (cc := cc) (maxL := maxL) (ret := none) hy hw ?_
  intro p e s m args below meth c s₁ B hml hv
  obtain ⟨ha, hsz, hP, hK, hD⟩ := hv
  have hlocks := B.notSynchronized
  have hl := lv_entry av (n := maxL) hav
  subst hsz
  have K := body p e s m args below meth c (MQ below (QK E s.heap.size wc w1 post) args s mc ms (va_A wc s.heap.size)) (va_A wc s.heap.size) ⟨B.exec, B.bytes, hml, findClass_of_methodNamed B.named, atoms_spec (ws := ws) B.pre⟩ (hnm ▸ (name_of_methodNamed B.named B.method).1) hK (fun q h => Or.inr h)
    (fun H locs ls pc u hd hv hP1 hD1 hS1 => W.vret B.exec B.bytes B.returns (fun t ht _ => ⟨⟨u, rfl, hv, by rw [ht]; exact hP1, hD1⟩, hS1.F ht⟩) hS1.2.2 hd) s.heap [] _ hP hD.self va_S.rf hl
  have h2 := lg_entry_eq m av maxL
  rw [← ha] at h2
  rw [h2]
  exact K
end BMK
section BCA
variable {p : Program} {l : Launch} {e : Env} {R : Room} {s : State} {m : MethodId} {args : Array Value} {below : List Frame} {meth : Method} {c : Code} {H : Heap} {locs : List Loc} {cells slots : Nat} {Q : State → Prop}
variable {y : MethodName} {bytes cc : ByteArray} {maxL nL n index : Nat} {ret : Option FieldType} {ws ws' : List Cond} {rm : Room} {Ts : List Cond} {own C : String} {b : Addr} {As rest st0 : List Value} {pc : Nat} {ls : Array Slot} {E : En4} {w0 wc : va_W}
abbrev hdOK (y : MethodName) (n : Nat) : Prop := y.cls ≠ "java/lang/invoke/MethodHandle" ∧ y.cls ≠ "java/lang/invoke/VarHandle" ∧ (parseMethodDescriptor y.desc).map (fun d => d.parameters.length) = some n
/-- a call of a method that only reads -/
theorem ca_V {res : Int32} (S : CallFix p m c cc nL s args Ts own) (hK : wk E s) (hP : va_P E.1 vwCl w0 H)
    (hM : Met l y ws rm (pcR (.ref b :: As) E wc) (vp_Si (fun r => r = res)) 0 0 (fun _ => False)) (isC : List Nat) (hC : isC.filterMap (fun i => w0[i]?) = wc) (ci q0 : Nat) {r : vw_C} {fs : List Value} (hcl : vwCl[ci]? = some r) (hCr : r.1 = C) (he : w0[q0]? = some (b, .inr (ci, fs)))
    (hT : GoodIn Ts (wsV own index C y ws)) (hw : ws = Cond.code y bytes maxL ret :: ws') (hrc : rm.cells = 0) (hrs : rm.slots = 0) (hyC : y.cls = C) (hd : hdOK y n) (hR : rm.frames + 1 ≤ R.frames ∧ 8 + (maxL + 11) + rm.locals ≤ R.locals)
    (hn : As.length = n) (hsize : ls.size = nL) (hst : st0 = As.reverse ++ .ref b :: rest) (hW : (rest.map fun v => v.category).sum ≤ 8) (hdg : decode cc pc = .ok (.invokevirtual index, 3)) (hcs : cells ≤ R.cells ∧ slots ≤ R.slots)
    (kk : W p l e R s m args below meth c H locs cells slots Q (F0 m (pc + 3) ls (.int res :: rest))) : W p l e R s m args below meth c H locs cells slots Q (F0 m pc ls st0) := by
  subst hCr
  have hPc := hP.sub isC hC
  refine vp_callSi (W.runV (As := As) (rest := rest) S hM (cwV n S.2.2.2.2 hT hw hrc hrs ⟨hyC, hd⟩ hR) ⟨pcR_bl, va_recv hK.1 hP hcl he, fun U hU hWm => ⟨rfl, by rw [hU]; exact hPc, hK.warm hWm⟩⟩ rfl hn hsize hst (lv_room hW) hdg hcs) (fun r hr => ?_)
  subst hr
  exact kk
/-- one that hands back a cell that is there -/
theorem ca_Vr {a : Nat} (S : CallFix p m c cc nL s args Ts own) (hK : wk E s) (hP : va_P E.1 vwCl w0 H)
    (hM : Met l y ws rm (pcR (.ref b :: As) E wc) (va_Sr (fun k => k = 0) (fun _ => .ref a)) 0 0 (fun _ => False)) (isC : List Nat) (hC : isC.filterMap (fun i => w0[i]?) = wc) (ci q0 : Nat) {r : vw_C} {fs : List Value} (hcl : vwCl[ci]? = some r) (hCr : r.1 = C) (he : w0[q0]? = some (b, .inr (ci, fs)))
    (hT : GoodIn Ts (wsV own index C y ws)) (hw : ws = Cond.code y bytes maxL ret :: ws') (hrc : rm.cells = 0) (hrs : rm.slots = 0) (hyC : y.cls = C) (hd : hdOK y n) (hR : rm.frames + 1 ≤ R.frames ∧ 8 + (maxL + 11) + rm.locals ≤ R.locals)
    (hn : As.length = n) (hsize : ls.size = nL) (hst : st0 = As.reverse ++ .ref b :: rest) (hW : (rest.map fun v => v.category).sum ≤ 8) (hdg : decode cc pc = .ok (.invokevirtual index, 3)) (hcs : cells ≤ R.cells ∧ slots ≤ R.slots)
    (kk : W p l e R s m args below meth c H locs cells slots Q (F0 m (pc + 3) ls (.ref a :: rest))) : W p l e R s m args below meth c H locs cells slots Q (F0 m pc ls st0) := by
  subst hCr
  have hPc := hP.sub isC hC
  refine va_csr (W.runV (As := As) (rest := rest) S hM (cwV n S.2.2.2.2 hT hw hrc hrs ⟨hyC, hd⟩ hR) ⟨pcR_bl, va_recv hK.1 hP hcl he, fun U hU hWm => ⟨rfl, by rw [hU]; exact hPc, hK.warm hWm⟩⟩ rfl hn hsize hst (lv_room hW) hdg hcs) (fun r hr => ?_)
  exact kk
/-- a static one -/
theorem ca_S {res : Int32} (S : CallFix p m c cc nL s args Ts own) (hK : wk E s) (hP : va_P E.1 vwCl w0 H)
    (hM : Met l y ws rm (pcR As E wc) (vp_Si (fun r => r = res)) 0 0 (fun _ => False)) (isC : List Nat) (hC : isC.filterMap (fun i => w0[i]?) = wc)
    (hT : GoodIn Ts (va_wsS own index y ws)) (hw : ws = Cond.code y bytes maxL ret :: ws') (hrc : rm.cells = 0) (hrs : rm.slots = 0) (hd : hdOK y n) (hR : rm.frames + 1 ≤ R.frames ∧ 8 + (maxL + 11) + rm.locals ≤ R.locals)
    (hn : As.length = n) (hsize : ls.size = nL) (hst : st0 = As.reverse ++ rest) (hW : (rest.map fun v => v.category).sum ≤ 8) (hdg : decode cc pc = .ok (.invokestatic index, 3)) (hcs : cells ≤ R.cells ∧ slots ≤ R.slots)
    (kk : W p l e R s m args below meth c H locs cells slots Q (F0 m (pc + 3) ls (.int res :: rest))) : W p l e R s m args below meth c H locs cells slots Q (F0 m pc ls st0) := by
  have hPc := hP.sub isC hC
  refine vp_callSi (W.runS (As := As) (rest := rest) S hM (va_cwS n S.2.2.2.2 hT hw hrc hrs hd hR) ⟨pcR_bl, fun U hU hWm => ⟨rfl, by rw [hU]; exact hPc, hK.warm hWm⟩⟩ rfl hn hsize hst (lv_room hW) hdg hcs) (fun r hr => ?_)
  subst hr
  exact kk
theorem run_of {g : JFrame} {rest : List Value} {Qa : State → Outcome → State → Prop} {free : Addr → Prop} {mc ms : Nat} (h : va_Run p l e R s m args below meth c H locs cells slots mc ms g rest Qa free) : CallRun p l e R s m args below meth c H locs cells slots mc ms g rest Qa free := by
  intro T hT X
  obtain ⟨v, st₀, t, T', L, h0, X', hL, e1, e2, hq, st⟩ := h T hT X
  exact ⟨v, st₀, t, T', L, h0, X', hL, e1, hq, st⟩
/-- a static one of a nest mate -/
theorem ca_N {res : Int32} {host : String} (S : CallFix p m c cc nL s args Ts own) (hK : wk E s) (hP : va_P E.1 vwCl w0 H)
    (hM : Met l y ws rm (pcR As E wc) (vp_Si (fun r => r = res)) 0 0 (fun _ => False)) (isC : List Nat) (hC : isC.filterMap (fun i => w0[i]?) = wc) (hq : (own, index, y, host) ∈ nwQ)
    (hG : GoodIn Ts ws) (hw : ws = Cond.code y bytes maxL ret :: ws') (hrc : rm.cells = 0) (hrs : rm.slots = 0) (hst8 : (Cond.static y).before args s = true) (hini : (Cond.initialized y.cls).before args s = true) (hd : hdOK y n) (hR : rm.frames + 1 ≤ R.frames ∧ 8 + (maxL + 11) + rm.locals ≤ R.locals)
    (hn : As.length = n) (hsize : ls.size = nL) (hst : st0 = As.reverse ++ rest) (hW : (rest.map fun v => v.category).sum ≤ 8) (hdg : decode cc pc = .ok (.invokestatic index, 3)) (hcs : cells ≤ R.cells ∧ slots ≤ R.slots)
    (kk : W p l e R s m args below meth c H locs cells slots Q (F0 m (pc + 3) ls (.int res :: rest))) : W p l e R s m args below meth c H locs cells slots Q (F0 m pc ls st0) := by
  have hPc := hP.sub isC hC
  refine vp_callSi (run_of (va_runSN (As := As) (rest := rest) S hM ⟨va_cnB n S.2.2.2.2 hG hw hrc hrs (hK.2.1 _ hq) hini hd hR, hst8, trivial⟩ ⟨pcR_bl, fun U hU hWm => ⟨rfl, by rw [hU]; exact hPc, hK.warm hWm⟩⟩ rfl hn hsize hst (lv_room hW) hdg hcs)) (fun r hr => ?_)
  subst hr
  exact kk
variable {T : Type} {w1 : T → va_W} {w2 : va_W} {A : Nat → Prop} {H0 : Heap}
theorem all_of {w : va_W} : ∀ {is : List Nat}, is.all (fun i => decide (i < w.length)) = true → is.map (fun i => w[i]?) = (is.filterMap (fun i => w[i]?)).map some
  | [], _ => rfl
  | i :: is, h => by
    simp only [List.all_cons, Bool.and_eq_true, decide_eq_true_eq] at h
    have h1 : w[i]? = some w[i] := List.getElem?_eq_getElem h.1
    rw [List.map_cons, List.filterMap_cons, h1, all_of h.2]
    rfl
theorem fr_join (hP : va_P E.1 vwCl w0 H) (hD : va_D A w0) (hF : ∀ q, va_A wc H.size q → A q) {H1 : Heap} {wn : va_W} (isC isR isJ : List Nat) (hC : isC.map (fun i => w0[i]?) = wc.map some) (hlR : isR.all (fun i => decide (i < w0.length)) = true) (hn1 : va_nd isR = true) (hdis : ∀ i ∈ isR, i ∉ isC) (hJ : isJ.map (fun i => (isR.filterMap (fun i => w0[i]?) ++ wn)[i]?) = w2.map some) (hn2 : va_nd isJ = true)
    (hk : ∀ q : Nat, q < H.size → ¬ va_A wc H.size q → H1[q]? = H[q]?) (hP1 : va_P E.1 vwCl wn H1) (hD1 : va_D (va_A wc H.size) wn) : va_P E.1 vwCl w2 H1 ∧ va_D A w2 := by
  obtain ⟨hP2, hD2⟩ := va_join hP hD isC isR hC (all_of hlR) hn1 hdis hk hF hP1 hD1
  refine ⟨fun k q hq => ?_, hD2.sub isJ hn2 hJ⟩
  have h1 : (isJ.map (fun i => (isR.filterMap (fun i => w0[i]?) ++ wn)[i]?))[k]? = some (some q) := by rw [hJ, List.getElem?_map, hq]; rfl
  rw [List.getElem?_map] at h1
  cases hi : isJ[k]? with
  | none => rw [hi] at h1; cases h1
  | some i => rw [hi] at h1; exact hP2 i q (Option.some.inj h1)
theorem sub_of {w w' : va_W} {is : List Nat} (h : is.map (fun i => w[i]?) = w'.map some) : is.filterMap (fun i => w[i]?) = w' := by
  have h2 : is.filterMap (fun i => w[i]?) = (is.map (fun i => w[i]?)).filterMap id := by rw [List.filterMap_map]; rfl
  rw [h2, h, List.filterMap_map]
  simp
/-- a call of a method that writes, its answer an int -/
theorem ca_Mi {res : Int32 × T} (S : CallFix p m c cc nL s args Ts own) (hK : wk E s) (hP : va_P E.1 vwCl w0 H) (hD : va_D A w0) (hS : va_S A H0 H locs) (hA : ∀ q, H0.size ≤ q → A q)
    (hM : Met l y ws rm (pcM (.ref b :: As) E H.size wc) (QMi E H.size wc w1 res) 0 0 (va_A wc H.size)) (isC isR isJ : List Nat) (hnC : va_nd isC = true) (hC : isC.map (fun i => w0[i]?) = wc.map some) (hlR : isR.all (fun i => decide (i < w0.length)) = true) (hn1 : va_nd isR = true) (hdis : ∀ i ∈ isR, i ∉ isC) (hJ : isJ.map (fun i => (isR.filterMap (fun i => w0[i]?) ++ w1 res.2)[i]?) = w2.map some) (hn2 : va_nd isJ = true) (ci q0 : Nat) {r : vw_C} {fs : List Value} (hcl : vwCl[ci]? = some r) (hCr : r.1 = C) (he : w0[q0]? = some (b, .inr (ci, fs)))
    (hT : GoodIn Ts (wsV own index C y ws)) (hw : ws = Cond.code y bytes maxL ret :: ws') (hrc : rm.cells = 0) (hrs : rm.slots = 0) (hyC : y.cls = C) (hd : hdOK y n) (hR : rm.frames + 1 ≤ R.frames ∧ 8 + (maxL + 11) + rm.locals ≤ R.locals)
    (hn : As.length = n) (hsize : ls.size = nL) (hst : st0 = As.reverse ++ .ref b :: rest) (hW : (rest.map fun v => v.category).sum ≤ 8) (hdg : decode cc pc = .ok (.invokevirtual index, 3)) (hcs : cells ≤ R.cells ∧ slots ≤ R.slots)
    (kk : ∀ (H1 : Heap) (locs1 : List Loc), va_P E.1 vwCl w2 H1 → va_D A w2 → va_S A H0 H1 locs1 → W p l e R s m args below meth c H1 locs1 cells slots Q (F0 m (pc + 3) ls (.int res.1 :: rest))) : W p l e R s m args below meth c H locs cells slots Q (F0 m pc ls st0) := by
  subst hCr
  have hPc := hP.sub isC (sub_of hC)
  have hDc := hD.sub isC hnC hC
  have hF := va_free hD hS hA isC hC
  refine va_calli (va_runV (As := As) (rest := rest) S hM (cwV n S.2.2.2.2 hT hw hrc hrs ⟨hyC, hd⟩ hR) ⟨pcM_bl, va_recv hK.1 hP hcl he, fun U hU hWm => ⟨rfl, by rw [hU], by rw [hU]; exact hPc, hK.warm hWm, hDc.weaken (fun _ _ _ _ => trivial)⟩⟩ rfl hn hsize hst (lv_room hW) hdg hcs) hS (fun q _ h => hF q h) hF (fun r u t H1 locs1 ht hvm hu hB hz1 hk1 hS1 => ?_)
  subst hu
  obtain ⟨hP1, hD1⟩ := hB
  rw [ht] at hP1
  obtain ⟨hP2, hD2⟩ := fr_join hP hD hF isC isR isJ hC hlR hn1 hdis hJ hn2 hk1 hP1 hD1
  exact kk H1 locs1 hP2 hD2 hS1
/-- and no answer -/
theorem ca_Mv {res : T} (S : CallFix p m c cc nL s args Ts own) (hK : wk E s) (hP : va_P E.1 vwCl w0 H) (hD : va_D A w0) (hS : va_S A H0 H locs) (hA : ∀ q, H0.size ≤ q → A q)
    (hM : Met l y ws rm (pcM (.ref b :: As) E H.size wc) (QMv E H.size wc w1 res) 0 0 (va_A wc H.size)) (isC isR isJ : List Nat) (hnC : va_nd isC = true) (hC : isC.map (fun i => w0[i]?) = wc.map some) (hlR : isR.all (fun i => decide (i < w0.length)) = true) (hn1 : va_nd isR = true) (hdis : ∀ i ∈ isR, i ∉ isC) (hJ : isJ.map (fun i => (isR.filterMap (fun i => w0[i]?) ++ w1 res)[i]?) = w2.map some) (hn2 : va_nd isJ = true) (ci q0 : Nat) {r : vw_C} {fs : List Value} (hcl : vwCl[ci]? = some r) (hCr : r.1 = C) (he : w0[q0]? = some (b, .inr (ci, fs)))
    (hT : GoodIn Ts (wsV own index C y ws)) (hw : ws = Cond.code y bytes maxL ret :: ws') (hrc : rm.cells = 0) (hrs : rm.slots = 0) (hyC : y.cls = C) (hd : hdOK y n) (hR : rm.frames + 1 ≤ R.frames ∧ 8 + (maxL + 11) + rm.locals ≤ R.locals)
    (hn : As.length = n) (hsize : ls.size = nL) (hst : st0 = As.reverse ++ .ref b :: rest) (hW : (rest.map fun v => v.category).sum ≤ 8) (hdg : decode cc pc = .ok (.invokevirtual index, 3)) (hcs : cells ≤ R.cells ∧ slots ≤ R.slots)
    (kk : ∀ (H1 : Heap) (locs1 : List Loc), va_P E.1 vwCl w2 H1 → va_D A w2 → va_S A H0 H1 locs1 → W p l e R s m args below meth c H1 locs1 cells slots Q (F0 m (pc + 3) ls rest)) : W p l e R s m args below meth c H locs cells slots Q (F0 m pc ls st0) := by
  subst hCr
  have hPc := hP.sub isC (sub_of hC)
  have hDc := hD.sub isC hnC hC
  have hF := va_free hD hS hA isC hC
  refine va_callv (va_runV (As := As) (rest := rest) S hM (cwV n S.2.2.2.2 hT hw hrc hrs ⟨hyC, hd⟩ hR) ⟨pcM_bl, va_recv hK.1 hP hcl he, fun U hU hWm => ⟨rfl, by rw [hU], by rw [hU]; exact hPc, hK.warm hWm, hDc.weaken (fun _ _ _ _ => trivial)⟩⟩ rfl hn hsize hst (lv_room hW) hdg hcs) hS (fun q _ h => hF q h) hF (fun u t H1 locs1 ht hvm hu hB hz1 hk1 hS1 => ?_)
  subst hu
  obtain ⟨hP1, hD1⟩ := hB
  rw [ht] at hP1
  obtain ⟨hP2, hD2⟩ := fr_join hP hD hF isC isR isJ hC hlR hn1 hdis hJ hn2 hk1 hP1 hD1
  exact kk H1 locs1 hP2 hD2 hS1
/-- and a cell of some that are there, by its number -/
theorem ca_Mr {res : Int32 × T} {ad : Int32 → Nat} (S : CallFix p m c cc nL s args Ts own) (hK : wk E s) (hP : va_P E.1 vwCl w0 H) (hD : va_D A w0) (hS : va_S A H0 H locs) (hA : ∀ q, H0.size ≤ q → A q)
    (hM : Met l y ws rm (pcM (.ref b :: As) E H.size wc) (QMr E H.size wc w1 ad res) 0 0 (va_A wc H.size)) (isC isR isJ : List Nat) (hnC : va_nd isC = true) (hC : isC.map (fun i => w0[i]?) = wc.map some) (hlR : isR.all (fun i => decide (i < w0.length)) = true) (hn1 : va_nd isR = true) (hdis : ∀ i ∈ isR, i ∉ isC) (hJ : isJ.map (fun i => (isR.filterMap (fun i => w0[i]?) ++ w1 res.2)[i]?) = w2.map some) (hn2 : va_nd isJ = true) (ci q0 : Nat) {r : vw_C} {fs : List Value} (hcl : vwCl[ci]? = some r) (hCr : r.1 = C) (he : w0[q0]? = some (b, .inr (ci, fs)))
    (hT : GoodIn Ts (wsV own index C y ws)) (hw : ws = Cond.code y bytes maxL ret :: ws') (hrc : rm.cells = 0) (hrs : rm.slots = 0) (hyC : y.cls = C) (hd : hdOK y n) (hR : rm.frames + 1 ≤ R.frames ∧ 8 + (maxL + 11) + rm.locals ≤ R.locals)
    (hn : As.length = n) (hsize : ls.size = nL) (hst : st0 = As.reverse ++ .ref b :: rest) (hW : (rest.map fun v => v.category).sum ≤ 8) (hdg : decode cc pc = .ok (.invokevirtual index, 3)) (hcs : cells ≤ R.cells ∧ slots ≤ R.slots)
    (kk : ∀ (H1 : Heap) (locs1 : List Loc), va_P E.1 vwCl w2 H1 → va_D A w2 → va_S A H0 H1 locs1 → W p l e R s m args below meth c H1 locs1 cells slots Q (F0 m (pc + 3) ls (.ref (ad res.1) :: rest))) : W p l e R s m args below meth c H locs cells slots Q (F0 m pc ls st0) := by
  subst hCr
  have hPc := hP.sub isC (sub_of hC)
  have hDc := hD.sub isC hnC hC
  have hF := va_free hD hS hA isC hC
  refine va_callr (va_runV (As := As) (rest := rest) S hM (cwV n S.2.2.2.2 hT hw hrc hrs ⟨hyC, hd⟩ hR) ⟨pcM_bl, va_recv hK.1 hP hcl he, fun U hU hWm => ⟨rfl, by rw [hU], by rw [hU]; exact hPc, hK.warm hWm, hDc.weaken (fun _ _ _ _ => trivial)⟩⟩ rfl hn hsize hst (lv_room hW) hdg hcs) hS (fun q _ h => hF q h) hF (fun u ra t H1 locs1 ht hvm hu hB hz1 hk1 hS1 => ?_)
  subst hu
  obtain ⟨hra, hP1, hD1⟩ := hB
  subst hra
  rw [ht] at hP1
  obtain ⟨hP2, hD2⟩ := fr_join hP hD hF isC isR isJ hC hlR hn1 hdis hJ hn2 hk1 hP1 hD1
  exact kk H1 locs1 hP2 hD2 hS1
/-- a constructor's call, of a nest mate's private one -/
theorem ca_KN {post : T → Prop} {host : String} {mc ms : Nat} (S : CallFix p m c cc nL s args Ts own) (hK : wk E s) (hP : va_P E.1 vwCl w0 H) (hD : va_D A w0) (hS : va_S A H0 H locs) (hA : ∀ q, H0.size ≤ q → A q)
    (hM : Met l y ws rm (pcM (.ref b :: As) E H.size wc) (QK E H.size wc w1 post) mc ms (va_A wc H.size)) (isC isR : List Nat) (hnC : va_nd isC = true) (hC : isC.map (fun i => w0[i]?) = wc.map some) (hlR : isR.all (fun i => decide (i < w0.length)) = true) (hn1 : va_nd isR = true) (hdis : ∀ i ∈ isR, i ∉ isC) (hq : (own, index, y, host) ∈ nwQ)
    (hG : GoodIn Ts ws) (hw : ws = Cond.code y bytes maxL none :: ws') (hrc : rm.cells = mc) (hrs : rm.slots = ms) (hy1 : y.name = "<init>") (hin8 : (Cond.instanceMethod y).before args s = true) (hini : (Cond.initialized y.cls).before args s = true) (hd : hdOK y n) (hR : rm.frames + 1 ≤ R.frames ∧ 8 + (maxL + 11) + rm.locals ≤ R.locals)
    (hn : As.length = n) (hsize : ls.size = nL) (hst : st0 = As.reverse ++ .ref b :: rest) (hW : (rest.map fun v => v.category).sum ≤ 8) (hdg : decode cc pc = .ok (.invokespecial index, 3)) (hcs : cells + mc ≤ R.cells ∧ slots + ms ≤ R.slots)
    (kk : ∀ (u : T) (H1 : Heap) (locs1 : List Loc), post u → va_P E.1 vwCl (isR.filterMap (fun i => w0[i]?) ++ w1 u) H1 → va_D A (isR.filterMap (fun i => w0[i]?) ++ w1 u) → va_S A H0 H1 locs1 → W p l e R s m args below meth c H1 locs1 (cells + mc) (slots + ms) Q (F0 m (pc + 3) ls rest)) : W p l e R s m args below meth c H locs cells slots Q (F0 m pc ls st0) := by
  have hPc := hP.sub isC (sub_of hC)
  have hDc := hD.sub isC hnC hC
  have hF := va_free hD hS hA isC hC
  refine va_callv (va_runIN (As := As) (rest := rest) S hM ⟨va_cnB n S.2.2.2.2 hG hw hrc hrs (hK.2.1 _ hq) hini hd hR, hy1, hin8⟩ ⟨pcM_bl, fun U hU hWm => ⟨rfl, by rw [hU], by rw [hU]; exact hPc, hK.warm hWm, hDc.weaken (fun _ _ _ _ => trivial)⟩⟩ rfl hn hsize hst (lv_room hW) hdg hcs) hS (fun q _ h => hF q h) hF (fun u t H1 locs1 ht hvm hu hB hz1 hk1 hS1 => ?_)
  obtain ⟨hP1, hD1⟩ := hB
  rw [ht] at hP1
  obtain ⟨hP2, hD2⟩ := va_join hP hD isC isR hC (all_of hlR) hn1 hdis hk1 hF hP1 hD1
  exact kk u H1 locs1 hu hP2 hD2 hS1
/-- and of one that is not private -/
theorem ca_KI {post : T → Prop} {mc ms : Nat} (S : CallFix p m c cc nL s args Ts own) (hK : wk E s) (hP : va_P E.1 vwCl w0 H) (hD : va_D A w0) (hS : va_S A H0 H locs) (hA : ∀ q, H0.size ≤ q → A q)
    (hM : Met l y ws rm (pcM (.ref b :: As) E H.size wc) (QK E H.size wc w1 post) mc ms (va_A wc H.size)) (isC isR : List Nat) (hnC : va_nd isC = true) (hC : isC.map (fun i => w0[i]?) = wc.map some) (hlR : isR.all (fun i => decide (i < w0.length)) = true) (hn1 : va_nd isR = true) (hdis : ∀ i ∈ isR, i ∉ isC)
    (hG : GoodIn Ts ws) (hw : ws = Cond.code y bytes maxL none :: ws') (hrc : rm.cells = mc) (hrs : rm.slots = ms) (hy1 : y.name = "<init>") (hin8 : (Cond.instanceMethod y).before args s = true) (hini : (Cond.initialized y.cls).before args s = true) (hlk : (Cond.methodLink own index y).before args s = true) (hd : hdOK y n) (hR : rm.frames + 1 ≤ R.frames ∧ 8 + (maxL + 11) + rm.locals ≤ R.locals)
    (hn : As.length = n) (hsize : ls.size = nL) (hst : st0 = As.reverse ++ .ref b :: rest) (hW : (rest.map fun v => v.category).sum ≤ 8) (hdg : decode cc pc = .ok (.invokespecial index, 3)) (hcs : cells + mc ≤ R.cells ∧ slots + ms ≤ R.slots)
    (kk : ∀ (u : T) (H1 : Heap) (locs1 : List Loc), post u → va_P E.1 vwCl (isR.filterMap (fun i => w0[i]?) ++ w1 u) H1 → va_D A (isR.filterMap (fun i => w0[i]?) ++ w1 u) → va_S A H0 H1 locs1 → W p l e R s m args below meth c H1 locs1 (cells + mc) (slots + ms) Q (F0 m (pc + 3) ls rest)) : W p l e R s m args below meth c H locs cells slots Q (F0 m pc ls st0) := by
  have hPc := hP.sub isC (sub_of hC)
  have hDc := hD.sub isC hnC hC
  have hF := va_free hD hS hA isC hC
  refine va_callv (va_runI (As := As) (rest := rest) S hM (cwI n S.2.2.2.2 hG hw hrc hrs hini hlk hin8 hy1 hd hR) ⟨pcM_bl, fun U hU hWm => ⟨rfl, by rw [hU], by rw [hU]; exact hPc, hK.warm hWm, hDc.weaken (fun _ _ _ _ => trivial)⟩⟩ rfl hn hsize hst (lv_room hW) hdg hcs) hS (fun q _ h => hF q h) hF (fun u t H1 locs1 ht hvm hu hB hz1 hk1 hS1 => ?_)
  obtain ⟨hP1, hD1⟩ := hB
  rw [ht] at hP1
  obtain ⟨hP2, hD2⟩ := va_join hP hD isC isR hC (all_of hlR) hn1 hdis hk1 hF hP1 hD1
  exact kk u H1 locs1 hu hP2 hD2 hS1
/-- a static one that writes, no answer (its words as for another package's: the tables' link by itself) -/
theorem ca_Sv {res : T} (S : CallFix p m c cc nL s args Ts own) (hK : wk E s) (hP : va_P E.1 vwCl w0 H) (hD : va_D A w0) (hS : va_S A H0 H locs) (hA : ∀ q, H0.size ≤ q → A q)
    (hM : Met l y ws rm (pcM As E H.size wc) (QMv E H.size wc w1 res) 0 0 (va_A wc H.size)) (isC isR isJ : List Nat) (hnC : va_nd isC = true) (hC : isC.map (fun i => w0[i]?) = wc.map some) (hlR : isR.all (fun i => decide (i < w0.length)) = true) (hn1 : va_nd isR = true) (hdis : ∀ i ∈ isR, i ∉ isC) (hJ : isJ.map (fun i => (isR.filterMap (fun i => w0[i]?) ++ w1 res)[i]?) = w2.map some) (hn2 : va_nd isJ = true)
    (hT : GoodIn Ts (va_wsS own index y ws)) (hw : ws = Cond.code y bytes maxL ret :: ws') (hrc : rm.cells = 0) (hrs : rm.slots = 0) (hd : hdOK y n) (hR : rm.frames + 1 ≤ R.frames ∧ 8 + (maxL + 11) + rm.locals ≤ R.locals)
    (hn : As.length = n) (hsize : ls.size = nL) (hst : st0 = As.reverse ++ rest) (hW : (rest.map fun v => v.category).sum ≤ 8) (hdg : decode cc pc = .ok (.invokestatic index, 3)) (hcs : cells ≤ R.cells ∧ slots ≤ R.slots)
    (kk : ∀ (H1 : Heap) (locs1 : List Loc), va_P E.1 vwCl w2 H1 → va_D A w2 → va_S A H0 H1 locs1 → W p l e R s m args below meth c H1 locs1 cells slots Q (F0 m (pc + 3) ls rest)) : W p l e R s m args below meth c H locs cells slots Q (F0 m pc ls st0) := by
  have hPc := hP.sub isC (sub_of hC)
  have hDc := hD.sub isC hnC hC
  have hF := va_free hD hS hA isC hC
  refine va_callv (va_runS (As := As) (rest := rest) S hM (va_cwS n S.2.2.2.2 hT hw hrc hrs hd hR) ⟨pcM_bl, fun U hU hWm => ⟨rfl, by rw [hU], by rw [hU]; exact hPc, hK.warm hWm, hDc.weaken (fun _ _ _ _ => trivial)⟩⟩ rfl hn hsize hst (lv_room hW) hdg hcs) hS (fun q _ h => hF q h) hF (fun u t H1 locs1 ht hvm hu hB hz1 hk1 hS1 => ?_)
  subst hu
  obtain ⟨hP1, hD1⟩ := hB
  rw [ht] at hP1
  obtain ⟨hP2, hD2⟩ := fr_join hP hD hF isC isR isJ hC hlR hn1 hdis hJ hn2 hk1 hP1 hD1
  exact kk H1 locs1 hP2 hD2 hS1
end BCA
