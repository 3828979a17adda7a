/-! all joins: the reference's and the class's -/
def cnt (p : Nat → Bool) : Nat → Nat
  | 0 => 0
  | k + 1 => cnt p k + (if p k = true then 1 else 0)
theorem cnt_le (p : Nat → Bool) : ∀ k, cnt p k ≤ k := by
  intro k
  induction k with
  | zero => exact Nat.le_refl _
  | succ k ih =>
    simp only [cnt]
    split <;> omega
def anyb (p : Nat → Bool) : Nat → Bool
  | 0 => false
  | k + 1 => anyb p k || p k
theorem anyb_iff {p : Nat → Bool} : ∀ {k : Nat}, anyb p k = true ↔ ∃ b, b < k ∧ p b = true := by
  intro k
  induction k with
  | zero =>
    simp only [anyb]
    constructor
    · intro h
      cases h
    · rintro ⟨b, hb, _⟩
      omega
  | succ k ih =>
    simp only [anyb, Bool.or_eq_true, ih]
    constructor
    · rintro (⟨b, hb, h⟩ | h)
      · exact ⟨b, by omega, h⟩
      · exact ⟨k, by omega, h⟩
    · rintro ⟨b, hb, h⟩
      by_cases e : b = k
      · subst e
        exact Or.inr h
      · exact Or.inl ⟨b, by omega, h⟩
def ish (n : Nat) (D : Nat → Nat) (F : Nat → Int32) (d : Nat → Nat → Nat) (i : Nat) : Bool := decide (hh n D F d i = i)
theorem Mo_join_used {n i : Nat} (hn : n ≤ 16) (hi : i < n) {D : Nat → Nat} {F : Nat → Int32} {d : Nat → Nat → Nat} {hd : Nat → Int32} (h1 : ∀ j, j < n → hd j = nI (hh n D F d j)) :
    it (Mo_join_L178 (nI n) hd (nI i)) 4096 (0, 0) = some (if anyb (fun b => decide (hh n D F d b = i)) n = true then 1 else 0) := by
  refine it_run (F := 4096) (fun j => ((if anyb (fun b => decide (hh n D F d b = i)) j = true then (1 : Int32) else 0), nI j)) n _ ?_ ?_ (by omega)
  · intro j hj
    have h2 := hh_lt (n := n) (D := D) (F := F) (d := d) hj
    simp only [Mo_join_L178, if_neg (nI_ge hj (show n < 2 ^ 31 by omega)), gk_n (show j < 16 by omega) (by decide), nI_clamp (show j < 2 ^ 31 by omega), h1 j hj, nI_1, nI_eq (show hh n D F d j < 2 ^ 31 by omega) (show i < 2 ^ 31 by omega)]
    by_cases e : anyb (fun b => decide (hh n D F d b = i)) j = true
    · have e3 : anyb (fun b => decide (hh n D F d b = i)) (j + 1) = true := by
        simp only [anyb, e, Bool.true_or]
      rw [if_pos e, if_pos e3, if_neg (by decide)]
    · rw [if_neg e, if_pos rfl]
      by_cases e2 : hh n D F d j = i
      · have e3 : anyb (fun b => decide (hh n D F d b = i)) (j + 1) = true := by
          simp only [anyb, e2, decide_true, Bool.or_true]
        rw [if_pos e2, if_pos e3]
      · have e3 : ¬ anyb (fun b => decide (hh n D F d b = i)) (j + 1) = true := by
          simp only [anyb, e2, decide_false, Bool.or_false]
          exact e
        rw [if_neg e2, if_neg e3]
  · simp only [Mo_join_L178, if_pos (nI_le (Nat.le_refl n) (show n < 2 ^ 31 by omega))]
theorem Mo_join_nums {n : Nat} (hn : n ≤ 16) {D : Nat → Nat} {F : Nat → Int32} {d : Nat → Nat → Nat} (hz : ∀ i, d i i = 0) (ht : ∀ t, t < n → ∀ i j, d i j ≤ d i t + d t j) {hd : Nat → Int32} (h1 : ∀ j, j < n → hd j = nI (hh n D F d j)) (nm : Nat → Int32) :
    ∃ t, it (Mo_join_L165 (nI n) hd) 4096 (0, 0, nm) = some t ∧ (t.1 = nI (cnt (ish n D F d) n) ∧ ∀ i, i < n → t.2 i = if hh n D F d i = i then nI (cnt (ish n D F d) i) else -4) := by
  refine it_inv (F := 4096) (fun (i : Nat) (s : Int32 × Int32 × (Nat → Int32)) => s.1 = nI i ∧ s.2.1 = nI (cnt (ish n D F d) i) ∧ ∀ b, b < i → s.2.2 b = if hh n D F d b = b then nI (cnt (ish n D F d) b) else -4) (fun (t : Int32 × (Nat → Int32)) => t.1 = nI (cnt (ish n D F d) n) ∧ ∀ i, i < n → t.2 i = if hh n D F d i = i then nI (cnt (ish n D F d) i) else -4) n ?_ ?_ ⟨rfl, rfl, fun b hb => absurd hb (Nat.not_lt_zero _)⟩ (by omega)
  · intro i s hi h
    obtain ⟨v, c, nm⟩ := s
    obtain ⟨hv, hc, h⟩ := h
    dsimp only at hv hc h
    subst hv
    subst hc
    have h2 : (if anyb (fun b => decide (hh n D F d b = i)) n = true then (1 : Int32) else 0) = if hh n D F d i = i then 1 else 0 := by
      have h3 : anyb (fun b => decide (hh n D F d b = i)) n = true ↔ hh n D F d i = i := by
        rw [anyb_iff, ← hh_used hz ht hi]
        simp only [decide_eq_true_eq]
      by_cases e : hh n D F d i = i
      · rw [if_pos e, if_pos (h3.mpr e)]
      · rw [if_neg e, if_neg (fun q => e (h3.mp q))]
    simp only [Mo_join_L165, if_neg (nI_ge hi (show n < 2 ^ 31 by omega)), Mo_join_used hn hi h1, h2, Option.bind_some, gk_n (show i < 16 by omega) (by decide), nI_clamp (show i < 2 ^ 31 by omega), nI_1]
    have h4 : cnt (ish n D F d) (i + 1) = cnt (ish n D F d) i + (if hh n D F d i = i then 1 else 0) := by
      simp only [cnt, ish, decide_eq_true_eq]
    by_cases e : hh n D F d i = i
    · rw [if_pos e] at h4
      simp only [if_pos e, if_neg (show ¬ (1 : Int32) = 0 by decide), Option.bind_some]
      refine Or.inl ⟨_, rfl, rfl, by rw [h4], ?_⟩
      intro b hb
      show upd nm i _ b = _
      by_cases e2 : b = i
      · subst e2
        rw [pk_us, if_pos e]
      · rw [pk_un e2]
        exact h b (by omega)
    · rw [if_neg e] at h4
      simp only [if_neg e, if_pos (show (0 : Int32) = 0 from rfl), Option.bind_some]
      refine Or.inl ⟨_, rfl, rfl, ?_, ?_⟩
      · rw [h4]
        show nI _ + nI 0 = _
        rw [nI_add]
      · intro b hb
        show upd nm i _ b = _
        by_cases e2 : b = i
        · subst e2
          rw [pk_us, if_neg e]
        · rw [pk_un e2]
          exact h b (by omega)
  · intro s h
    obtain ⟨v, c, nm⟩ := s
    obtain ⟨hv, hc, h⟩ := h
    dsimp only at hv hc h
    subst hv
    subst hc
    refine ⟨(nI (cnt (ish n D F d) n), nm), ?_, rfl, h⟩
    simp only [Mo_join_L165, if_pos (nI_le (Nat.le_refl n) (show n < 2 ^ 31 by omega))]
theorem Mo_join_all {n : Nat} (hn : n ≤ 16) {D : Nat → Nat} (hD : ∀ i, i < n → D i ≤ 30) {d : Nat → Nat → Nat} (hd : ∀ a b, a < n → b < n → d a b ≤ 1000000) (hz : ∀ i, d i i = 0) (ht : ∀ t, t < n → ∀ i j, d i j ≤ d i t + d t j) {dl fr sm : Nat → Int32} (h1 : ∀ i, i < n → dl i = nI (D i)) (h3 : ∀ a b, a < n → b < n → sm (16 * a + b) = nI (d a b)) (c0 : Int32) (hd0 ho0 nm0 : Nat → Int32) :
    ∃ hds hos nms, Mo_join (nI n) c0 sm dl fr hd0 ho0 nm0 = some (nI (cnt (ish n D fr d) n), hds, hos, nms) ∧ (∀ j, j < n → hds j = nI (hh n D fr d j)) ∧ (∀ j, j < n → hos j = nI (hr n D d (hh n D fr d j) j)) ∧ ∀ i, i < n → nms i = if hh n D fr d i = i then nI (cnt (ish n D fr d) i) else -4 := by
  have h : ∃ t, it (Mo_join_L12 (nI n) sm dl fr (nI (tp D n))) 4096 (0, hd0, ho0) = some t ∧ ((∀ j, j < n → t.1 j = nI (hh n D fr d j)) ∧ ∀ j, j < n → t.2 j = nI (hr n D d (hh n D fr d j) j)) := by
    refine it_inv (F := 4096) (fun (j : Nat) (s : Int32 × (Nat → Int32) × (Nat → Int32)) => s.1 = nI j ∧ (∀ b, b < j → s.2.1 b = nI (hh n D fr d b)) ∧ ∀ b, b < j → s.2.2 b = nI (hr n D d (hh n D fr d b) b)) (fun (t : (Nat → Int32) × (Nat → Int32)) => (∀ j, j < n → t.1 j = nI (hh n D fr d j)) ∧ ∀ j, j < n → t.2 j = nI (hr n D d (hh n D fr d j) j)) n ?_ ?_ ⟨rfl, fun b hb => absurd hb (Nat.not_lt_zero _), fun b hb => absurd hb (Nat.not_lt_zero _)⟩ (by omega)
    · intro j s hj h
      obtain ⟨v, hd1, ho1⟩ := s
      obtain ⟨hv, ha, hb⟩ := h
      dsimp only at hv ha hb
      subst hv
      have h5 := hh_lt (n := n) (D := D) (F := fr) (d := d) hj
      have h7 : nI (tp D n - D (hh n D fr d j)) + nI (d (hh n D fr d j) j) = nI (hr n D d (hh n D fr d j) j) := nI_add _ _
      simp only [Mo_join_L12, if_neg (nI_ge hj (show n < 2 ^ 31 by omega)), Mo_join_head hn hj hD hd hz h1 h3, Option.bind_some, ix_b, gk_n (show j < 16 by omega) (by decide), gk_n (show hh n D fr d j < 16 by omega) (by decide), gk_n (show 16 * hh n D fr d j + j < 256 by omega) (by decide), nI_clamp (show j < 2 ^ 31 by omega), nI_clamp (show hh n D fr d j < 2 ^ 31 by omega), nI_clamp (show 16 * hh n D fr d j + j < 2 ^ 31 by omega), h1 _ h5, h3 _ _ h5 hj, pk_sub (tp_ge D n _ h5), h7, nI_1]
      refine Or.inl ⟨_, rfl, rfl, ?_, ?_⟩
      · intro b hb2
        show upd hd1 j _ b = _
        by_cases e : b = j
        · subst e
          rw [pk_us]
        · rw [pk_un e]
          exact ha b (by omega)
      · intro b hb2
        show upd ho1 j _ b = _
        by_cases e : b = j
        · subst e
          rw [pk_us]
        · rw [pk_un e]
          exact hb b (by omega)
    · intro s h
      obtain ⟨v, hd1, ho1⟩ := s
      obtain ⟨hv, ha, hb⟩ := h
      dsimp only at hv ha hb
      subst hv
      refine ⟨(hd1, ho1), ?_, ha, hb⟩
      simp only [Mo_join_L12, if_pos (nI_le (Nat.le_refl n) (show n < 2 ^ 31 by omega))]
  obtain ⟨⟨hds, hos⟩, h4, h5, h6⟩ := h
  obtain ⟨⟨c, nms⟩, h7, h8, h9⟩ := Mo_join_nums hn hz ht h5 nm0
  dsimp only at h5 h6 h8 h9
  refine ⟨hds, hos, nms, ?_, h5, h6, h9⟩
  unfold Mo_join
  simp only [Mo_great hn hD h1, Option.bind_some, h4, h7, h8]
/-! delays and fractions by draws by z: t tells (0: drawn; else the delay and one), f the fractions told -/
def Dz (M : Nat) (T : Int32) (t : Nat → Nat) (z : Int32) (i : Nat) : Nat := if t i = 0 then dly M T z (nI i) else t i - 1
def Fz (t : Nat → Nat) (f : Nat → Int32) (z : Int32) (i : Nat) : Int32 := if t i = 0 then rm1000 (drw z (nI i) 99) else f i
theorem Dz_le {M : Nat} {T : Int32} {t : Nat → Nat} {z : Int32} {i : Nat} (hM : M ≤ 30) (ht : t i ≤ 31) : Dz M T t z i ≤ 30 := by
  have := dly_le M T z (nI i)
  unfold Dz
  split <;> omega
def okT (now : Nat → Int32) (t : Nat → Nat) (f : Nat → Int32) : Prop := ∀ i, i < 16 → now (256 + i) = nI (t i) ∧ t i ≤ 31 ∧ now (272 + i) = f i
theorem Mo_tells {n M : Nat} (hn : n ≤ 16) (hM : M ≤ 30) {T z : Int32} {now : Nat → Int32} {t : Nat → Nat} {f : Nat → Int32} (hT : okT now t f) (dl fr : Nat → Int32) :
    ∃ s, it (Mo_settles_L6 (nI n) (nI M) T now z) 4096 (0, dl, fr) = some s ∧ ((∀ i, i < n → s.1 i = nI (Dz M T t z i)) ∧ ∀ i, i < n → s.2 i = Fz t f z i) := by
  refine it_inv (F := 4096) (fun (j : Nat) (s : Int32 × (Nat → Int32) × (Nat → Int32)) => s.1 = nI j ∧ (∀ b, b < j → s.2.1 b = nI (Dz M T t z b)) ∧ ∀ b, b < j → s.2.2 b = Fz t f z b) (fun (s : (Nat → Int32) × (Nat → Int32)) => (∀ i, i < n → s.1 i = nI (Dz M T t z i)) ∧ ∀ i, i < n → s.2 i = Fz t f z i) n ?_ ?_ ⟨rfl, fun b hb => absurd hb (Nat.not_lt_zero _), fun b hb => absurd hb (Nat.not_lt_zero _)⟩ (by omega)
  · intro j s hj h
    obtain ⟨v, dl1, fr1⟩ := s
    obtain ⟨hv, ha, hb⟩ := h
    dsimp only at hv ha hb
    subst hv
    obtain ⟨t1, t2, t3⟩ := hT j (by omega)
    have key : ∀ (x y : Int32), x = nI (Dz M T t z j) → y = Fz t f z j → (∃ s2, some (Sum.inl (β := (Nat → Int32) × (Nat → Int32)) (nI (j + 1), upd dl1 j x, upd fr1 j y)) = some (Sum.inl s2) ∧ s2.1 = nI (j + 1) ∧ (∀ b, b < j + 1 → s2.2.1 b = nI (Dz M T t z b)) ∧ ∀ b, b < j + 1 → s2.2.2 b = Fz t f z b) ∨ ∃ t1, some (Sum.inl (β := (Nat → Int32) × (Nat → Int32)) (nI (j + 1), upd dl1 j x, upd fr1 j y)) = some (Sum.inr t1) ∧ (∀ i, i < n → t1.1 i = nI (Dz M T t z i)) ∧ ∀ i, i < n → t1.2 i = Fz t f z i := by
      intro x y hx hy
      refine Or.inl ⟨_, rfl, rfl, ?_, ?_⟩
      · intro b hb2
        show upd dl1 j _ b = _
        by_cases e : b = j
        · subst e
          rw [pk_us, hx]
        · rw [pk_un e]
          exact ha b (by omega)
      · intro b hb2
        show upd fr1 j _ b = _
        by_cases e : b = j
        · subst e
          rw [pk_us, hy]
        · rw [pk_un e]
          exact hb b (by omega)
    simp only [Mo_settles_L6, if_neg (nI_ge hj (show n < 2 ^ 31 by omega)), ix_d, ix_f, gk_n (show 256 + j < 289 by omega) (by decide), gk_n (show 272 + j < 289 by omega) (by decide), gk_n (show j < 16 by omega) (by decide), nI_clamp (show j < 2 ^ 31 by omega), nI_clamp (show 256 + j < 2 ^ 31 by omega), nI_clamp (show 272 + j < 2 ^ 31 by omega), t1, t3, nI_1]
    by_cases e : t j = 0
    · simp only [e, if_pos (show nI 0 ≤ 0 by decide), Option.bind_some, if_pos (show (0 : Int32) = 0 from rfl), Mo_dly hM, Mo_drw]
      exact key _ _ (by unfold Dz; rw [if_pos e]) (by unfold Fz; rw [if_pos e]; rfl)
    · simp only [if_neg (nI_nle (show 0 < t j by omega) (show t j < 2 ^ 31 by omega)), Option.bind_some, if_neg (show ¬ (1 : Int32) = 0 by decide)]
      refine key _ _ ?_ (by unfold Fz; rw [if_neg e])
      unfold Dz
      rw [if_neg e]
      exact pk_sub (a := t j) (b := 1) (by omega)
  · intro s h
    obtain ⟨v, dl1, fr1⟩ := s
    obtain ⟨hv, ha, hb⟩ := h
    dsimp only at hv ha hb
    subst hv
    refine ⟨(dl1, fr1), ?_, ha, hb⟩
    simp only [Mo_settles_L6, if_pos (nI_le (Nat.le_refl n) (show n < 2 ^ 31 by omega))]
/-- what the reference's rows hold when all is settled -/
def MS (n : Nat) (D : Nat → Nat) (F : Nat → Int32) (d : Nat → Nat → Nat) (c : Int32) (sm dl fr hds hos nms : Nat → Int32) : Prop := c = nI (cnt (ish n D F d) n) ∧ (∀ a b, a < n → b < n → sm (16 * a + b) = nI (d a b)) ∧ (∀ i, i < n → dl i = nI (D i)) ∧ (∀ i, i < n → fr i = F i) ∧ (∀ j, j < n → hds j = nI (hh n D F d j)) ∧ (∀ j, j < n → hos j = nI (hr n D d (hh n D F d j) j)) ∧ ∀ i, i < n → nms i = if hh n D F d i = i then nI (cnt (ish n D F d) i) else -4
theorem bt_F {n : Nat} {D : Nat → Nat} {F G : Nat → Int32} {d : Nat → Nat → Nat} (h : ∀ i, i < n → F i = G i) {j : Nat} (hj : j < n) : ∀ k, k ≤ n → hdk n D F d j k = hdk n D G d j k := by
  intro k
  induction k with
  | zero => intro _; rfl
  | succ k ih =>
    intro hk
    have h1 := ih (by omega)
    have h2 := hdk_lt (n := n) (D := D) (F := G) (d := d) hj k (by omega)
    simp only [hdk, h1, bt, h k (by omega), h _ h2]
theorem hh_F {n : Nat} {D : Nat → Nat} {F G : Nat → Int32} {d : Nat → Nat → Nat} (h : ∀ i, i < n → F i = G i) {j : Nat} (hj : j < n) : hh n D F d j = hh n D G d j := bt_F h hj n (Nat.le_refl n)
theorem cnt_congr {p q : Nat → Bool} : ∀ k, (∀ i, i < k → p i = q i) → cnt p k = cnt q k := by
  intro k
  induction k with
  | zero => intro _; rfl
  | succ k ih =>
    intro h
    simp only [cnt]
    rw [ih (fun i hi => h i (by omega)), h k (by omega)]
theorem Mo_set {n M : Nat} (hn : n ≤ 16) (hM : M ≤ 30) {T z : Int32} {now : Nat → Int32} {L t : Nat → Nat} {f : Nat → Int32} (hL : okL now L) (hT : okT now t f) (c0 : Int32) (sm0 dl0 fr0 hd0 ho0 nm0 : Nat → Int32) :
    ∃ c sm dl fr hds hos nms, Mo_settles (nI n) (nI M) T c0 now sm0 dl0 fr0 hd0 ho0 nm0 z = some (c, sm, dl, fr, hds, hos, nms) ∧ MS n (Dz M T t z) (Fz t f z) (fw L n) c sm dl fr hds hos nms := by
  obtain ⟨sm, h1, h2⟩ := MW hn hL sm0
  obtain ⟨⟨dl, fr⟩, h3, h4, h5⟩ := Mo_tells (z := z) (T := T) hn hM hT dl0 fr0
  dsimp only at h4 h5
  have hL9 : ∀ k, k < 256 → L k ≤ 9 := fun k hk => (hL k hk).2
  obtain ⟨hds, hos, nms, h6, h7, h8, h9⟩ := Mo_join_all hn (D := Dz M T t z) (fun i hi => Dz_le hM (hT i (by omega)).2.1) (d := fw L n) (fun a b ha hb => fw_top hL9 (by omega) (by omega)) (fw_ii L n) (fun t ht i j => fw_tri L n t ht i j) h4 h2 (fr := fr) c0 hd0 ho0 nm0
  have e1 : ∀ j, j < n → hh n (Dz M T t z) fr (fw L n) j = hh n (Dz M T t z) (Fz t f z) (fw L n) j := fun j hj => hh_F h5 hj
  have e2 : ∀ k, k ≤ n → cnt (ish n (Dz M T t z) fr (fw L n)) k = cnt (ish n (Dz M T t z) (Fz t f z) (fw L n)) k := fun k hk => cnt_congr k (fun i hi => by unfold ish; rw [e1 i (by omega)])
  refine ⟨_, sm, dl, fr, hds, hos, nms, ?_, congrArg nI (e2 n (Nat.le_refl n)), h2, h4, h5, fun j hj => by rw [h7 j hj, e1 j hj], fun j hj => by rw [h8 j hj, e1 j hj], fun i hi => by rw [h9 i hi, e1 i hi, e2 i (by omega)]⟩
  unfold Mo_settles
  simp only [h1, Option.bind_some, h3, h6]
