/-! loops that count, add, and look for the greatest -/
theorem it_cnt {b : Int32 × Int32 → Option ((Int32 × Int32) ⊕ Int32)} (p : Nat → Bool) {n : Nat} (hs : ∀ i a, i < n → b (nI a, nI i) = some (.inl (nI (if p i = true then a + 1 else a), nI (i + 1)))) (hx : ∀ a, b (nI a, nI n) = some (.inr (nI a))) (hn : n < 4096) (a : Nat) : it b 4096 (nI a, 0) = some (nI (a + cnt p n)) := by
  refine it_run (F := 4096) (fun i => (nI (a + cnt p i), nI i)) n _ ?_ (hx _) hn
  intro i hi
  rw [hs i _ hi]
  simp only [cnt]
  by_cases e : p i = true
  · rw [if_pos e, if_pos e, Nat.add_assoc]
  · rw [if_neg e, if_neg e]
    rfl
def sm2 (g : Nat → Nat) : Nat → Nat
  | 0 => 0
  | k + 1 => sm2 g k + g k
theorem it_sum {b : Int32 × Int32 → Option ((Int32 × Int32) ⊕ Int32)} (g : Nat → Nat) {n : Nat} (hs : ∀ i a, i < n → b (nI a, nI i) = some (.inl (nI (a + g i), nI (i + 1)))) (hx : ∀ a, b (nI a, nI n) = some (.inr (nI a))) (hn : n < 4096) (a : Nat) : it b 4096 (nI a, 0) = some (nI (a + sm2 g n)) := by
  refine it_run (F := 4096) (fun i => (nI (a + sm2 g i), nI i)) n _ ?_ (hx _) hn
  intro i hi
  rw [hs i _ hi]
  simp only [sm2, Nat.add_assoc]
def mxp (p : Nat → Bool) (g : Nat → Nat) : Nat → Nat
  | 0 => 0
  | k + 1 => if p k = true ∧ mxp p g k < g k then g k else mxp p g k
theorem mxp_le {p : Nat → Bool} {g : Nat → Nat} {B : Nat} : ∀ k, (∀ i, i < k → g i ≤ B) → mxp p g k ≤ B := by
  intro k
  induction k with
  | zero => intro _; exact Nat.zero_le _
  | succ k ih =>
    intro h
    have h1 := h k (by omega)
    have h2 := ih (fun i hi => h i (by omega))
    simp only [mxp]
    split <;> omega
theorem it_mx {b : Int32 × Int32 → Option ((Int32 × Int32) ⊕ Int32)} (p : Nat → Bool) (g : Nat → Nat) (B : Nat) {n : Nat} (hB : ∀ i, i < n → g i ≤ B) (hs : ∀ i a, i < n → a ≤ B → b (nI a, nI i) = some (.inl (nI (if p i = true ∧ a < g i then g i else a), nI (i + 1)))) (hx : ∀ a, b (nI a, nI n) = some (.inr (nI a))) (hn : n < 4096) : it b 4096 (0, 0) = some (nI (mxp p g n)) := by
  refine it_run (F := 4096) (fun i => (nI (mxp p g i), nI i)) n _ ?_ (hx _) hn
  intro i hi
  rw [hs i _ hi (mxp_le i (fun k hk => hB k (by omega)))]
  rfl
/-! the first of those that are so -/
def fnd (p : Nat → Bool) : Nat → Nat → Option Nat
  | 0, _ => none
  | r + 1, k => if p k = true then some k else fnd p r (k + 1)
def fnv (p : Nat → Bool) (n : Nat) : Int32 := match fnd p n 0 with
  | none => -4
  | some k => nI k
theorem fnd_some {p : Nat → Bool} : ∀ {r k x : Nat}, fnd p r k = some x → k ≤ x ∧ x < k + r ∧ p x = true ∧ ∀ y, k ≤ y → y < x → p y = false := by
  intro r
  induction r with
  | zero => intro k x h; cases h
  | succ r ih =>
    intro k x h
    simp only [fnd] at h
    by_cases e : p k = true
    · rw [if_pos e] at h
      cases h
      exact ⟨Nat.le_refl _, by omega, e, fun y h1 h2 => by omega⟩
    · rw [if_neg e] at h
      obtain ⟨h1, h2, h3, h4⟩ := ih h
      refine ⟨by omega, by omega, h3, fun y hy1 hy2 => ?_⟩
      by_cases e2 : y = k
      · subst e2
        exact Bool.eq_false_iff.mpr e
      · exact h4 y (by omega) hy2
theorem fnd_none {p : Nat → Bool} : ∀ {r k : Nat}, fnd p r k = none → ∀ y, k ≤ y → y < k + r → p y = false := by
  intro r
  induction r with
  | zero => intro k _ y h1 h2; omega
  | succ r ih =>
    intro k h y h1 h2
    simp only [fnd] at h
    by_cases e : p k = true
    · rw [if_pos e] at h
      cases h
    · rw [if_neg e] at h
      by_cases e2 : y = k
      · subst e2
        exact Bool.eq_false_iff.mpr e
      · exact ih h y (by omega) (by omega)
theorem fnd_congr {p q : Nat → Bool} : ∀ {r k : Nat}, (∀ y, k ≤ y → y < k + r → p y = q y) → fnd p r k = fnd q r k := by
  intro r
  induction r with
  | zero => intro k _; rfl
  | succ r ih =>
    intro k h
    simp only [fnd, h k (Nat.le_refl _) (by omega)]
    rw [ih (fun y h1 h2 => h y (by omega) (by omega))]
def fno {ρ : Type} (v : Nat → ρ) (o : Option Nat) : Unit ⊕ ρ := match o with
  | none => .inl ()
  | some k => .inr (v k)
theorem it_fnd {ρ : Type} {b : Int32 → Option (Int32 ⊕ (Unit ⊕ ρ))} (p : Nat → Bool) (v : Nat → ρ) {n : Nat} (hs : ∀ i, i < n → b (nI i) = some (if p i = true then .inr (.inr (v i)) else .inl (nI (i + 1)))) (hx : b (nI n) = some (.inr (.inl ()))) (hn : n < 4096) : it b 4096 0 = some (fno v (fnd p n 0)) := by
  have h : ∃ t, it b 4096 0 = some t ∧ t = fno v (fnd p n 0) := by
    refine it_inv (F := 4096) (fun (i : Nat) (s : Int32) => s = nI i ∧ fnd p n 0 = fnd p (n - i) i) (fun t => t = fno v (fnd p n 0)) n ?_ ?_ ⟨rfl, by rw [Nat.sub_zero]⟩ hn
    · intro i s hi h
      obtain ⟨rfl, h⟩ := h
      rw [show n - i = (n - (i + 1)) + 1 by omega] at h
      simp only [fnd] at h
      rw [hs i hi]
      by_cases e : p i = true
      · rw [if_pos e] at h
        rw [if_pos e]
        exact Or.inr ⟨_, rfl, by rw [h]; rfl⟩
      · rw [if_neg e] at h
        rw [if_neg e]
        exact Or.inl ⟨_, rfl, rfl, h⟩
    · intro s h
      obtain ⟨rfl, h⟩ := h
      rw [Nat.sub_self] at h
      exact ⟨_, hx, by rw [h]; rfl⟩
  obtain ⟨t, h1, h2⟩ := h
  rw [h1, h2]
theorem fno_v {p : Nat → Bool} {n : Nat} : (match fno nI (fnd p n 0) with
    | .inl _ => some (-4)
    | .inr y => some y) = some (fnv p n) := by
  unfold fnv fno
  cases fnd p n 0 <;> rfl
/-! the class, settled: what its rows hold -/
def CX (n : Nat) (D : Nat → Nat) (F : Nat → Int32) (L : Nat → Nat) (sm ln : Nat → Int32) (g : Int32) (dl fr hds : Nat → Int32) : Prop := n ≤ 16 ∧ okL ln L ∧ (∀ i, i < n → D i ≤ 30) ∧ (∀ a b, a < n → b < n → sm (16 * a + b) = nI (fw L n a b)) ∧ g = nI (tp D n) ∧ (∀ i, i < n → dl i = nI (D i)) ∧ (∀ i, i < n → fr i = F i) ∧ ∀ i, i < n → hds i = nI (hh n D F (fw L n) i)
def okC (told dls frs : Nat → Int32) (t : Nat → Nat) (f : Nat → Int32) : Prop := ∀ i, i < 16 → told i = (if t i = 0 then 0 else 1) ∧ (t i = 0 → dls i = 0 ∧ frs i = 0) ∧ (t i ≠ 0 → dls i = nI (t i - 1) ∧ frs i = f i)
theorem Cl_tells {n M : Nat} (hn : n ≤ 16) (hM : M ≤ 30) {T z : Int32} {told dls frs : Nat → Int32} {t : Nat → Nat} {f : Nat → Int32} (hC : okC told dls frs t f) (dl fr : Nat → Int32) :
    ∃ s, it (Cl_settleBy_L2 (nI n) (nI M) T told dls frs z) 4096 (0, dl, fr) = some s ∧ ((∀ i, i < n → s.1 i = nI (Dz M T t z i)) ∧ ∀ i, i < n → s.2 i = Fz t f z i) := by
  refine it_inv (F := 4096) (fun (j : Nat) (s : Int32 × (Nat → Int32) × (Nat → Int32)) => s.1 = nI j ∧ (∀ b, b < j → s.2.1 b = nI (Dz M T t z b)) ∧ ∀ b, b < j → s.2.2 b = Fz t f z b) (fun (s : (Nat → Int32) × (Nat → Int32)) => (∀ i, i < n → s.1 i = nI (Dz M T t z i)) ∧ ∀ i, i < n → s.2 i = Fz t f z i) n ?_ ?_ ⟨rfl, fun b hb => absurd hb (Nat.not_lt_zero _), fun b hb => absurd hb (Nat.not_lt_zero _)⟩ (by omega)
  · intro j s hj h
    obtain ⟨v, dl1, fr1⟩ := s
    obtain ⟨hv, ha, hb⟩ := h
    dsimp only at hv ha hb
    subst hv
    obtain ⟨t1, -, t3⟩ := hC j (by omega)
    have e1 : Pl_delayBy (nI M) T told dls z (nI j) = some (nI (Dz M T t z j)) := by
      simp only [Pl_delayBy, gk_n (show j < 16 by omega) (by decide), nI_clamp (show j < 2 ^ 31 by omega), t1, Pl_dly hM, Option.bind_some]
      unfold Dz
      by_cases e : t j = 0
      · simp only [if_pos e]
        rfl
      · simp only [if_neg e]
        rw [if_neg (by decide), (t3 e).1]
    have e2 : Pl_fractionBy told frs z (nI j) = some (Fz t f z j) := by
      simp only [Pl_fractionBy, gk_n (show j < 16 by omega) (by decide), nI_clamp (show j < 2 ^ 31 by omega), t1, Pl_drw, Option.bind_some]
      unfold Fz
      by_cases e : t j = 0
      · simp only [if_pos e]
        rfl
      · simp only [if_neg e]
        rw [if_neg (by decide), (t3 e).2]
    simp only [Cl_settleBy_L2, Pl_places, Option.bind_some, if_neg (nI_ge hj (show n < 2 ^ 31 by omega)), e1, e2, gk_n (show j < 16 by omega) (by decide), nI_clamp (show j < 2 ^ 31 by omega), nI_1]
    refine Or.inl ⟨_, rfl, rfl, ?_, ?_⟩
    · intro b hb2
      show upd dl1 j _ b = _
      by_cases e : b = j
      · subst e
        rw [pk_us]
      · rw [pk_un e]
        exact ha b (by omega)
    · intro b hb2
      show upd fr1 j _ b = _
      by_cases e : b = j
      · subst e
        rw [pk_us]
      · rw [pk_un e]
        exact hb b (by omega)
  · intro s h
    obtain ⟨v, dl1, fr1⟩ := s
    obtain ⟨hv, ha, hb⟩ := h
    dsimp only at hv ha hb
    subst hv
    refine ⟨(dl1, fr1), ?_, ha, hb⟩
    simp only [Cl_settleBy_L2, Pl_places, Option.bind_some, if_pos (nI_le (Nat.le_refl n) (show n < 2 ^ 31 by omega))]
/-- the class settles -/
theorem Cl_set {n M : Nat} (hn : n ≤ 16) (hM : M ≤ 30) {T z : Int32} {told dls frs sm ln : Nat → Int32} {L t : Nat → Nat} {f : Nat → Int32} (hL : okL ln L) (hT : ∀ i, i < 16 → t i ≤ 31) (hC : okC told dls frs t f) (hs : ∀ a b, a < n → b < n → sm (16 * a + b) = nI (fw L n a b)) (g0 : Int32) (dl0 fr0 hd0 : Nat → Int32) :
    ∃ g dl fr hds, Cl_settleBy g0 dl0 fr0 hd0 (nI n) (nI M) T told dls frs sm z = some (g, dl, fr, hds) ∧ CX n (Dz M T t z) (Fz t f z) L sm ln g dl fr hds := by
  obtain ⟨⟨dl, fr⟩, h3, h4, h5⟩ := Cl_tells (z := z) (T := T) hn hM hC dl0 fr0
  dsimp only at h4 h5
  have hL9 : ∀ k, k < 256 → L k ≤ 9 := fun k hk => (hL k hk).2
  have hD : ∀ i, i < n → Dz M T t z i ≤ 30 := fun i hi => Dz_le hM (hT i (by omega))
  have h : ∃ hds, it (Cl_settleBy_L55 (nI n) sm dl fr (nI (tp (Dz M T t z) n))) 4096 (0, hd0) = some hds ∧ ∀ i, i < n → hds i = nI (hh n (Dz M T t z) (Fz t f z) (fw L n) i) := by
    refine it_inv (F := 4096) (fun (j : Nat) (s : Int32 × (Nat → Int32)) => s.1 = nI j ∧ ∀ b, b < j → s.2 b = nI (hh n (Dz M T t z) (Fz t f z) (fw L n) b)) (fun (s : Nat → Int32) => ∀ i, i < n → s i = nI (hh n (Dz M T t z) (Fz t f z) (fw L n) i)) n ?_ ?_ ⟨rfl, fun b hb => absurd hb (Nat.not_lt_zero _)⟩ (by omega)
    · intro j s hj h
      obtain ⟨v, hd1⟩ := s
      obtain ⟨hv, ha⟩ := h
      dsimp only at hv ha
      subst hv
      simp only [Cl_settleBy_L55, Pl_places, Option.bind_some, if_neg (nI_ge hj (show n < 2 ^ 31 by omega)), Cl_early hn hj hD (d := fw L n) (fun a b ha hb => fw_top hL9 (by omega) (by omega)) (fw_ii L n) h4 hs, gk_n (show j < 16 by omega) (by decide), nI_clamp (show j < 2 ^ 31 by omega), nI_1]
      refine Or.inl ⟨_, rfl, rfl, ?_⟩
      intro b hb2
      show upd hd1 j _ b = _
      by_cases e : b = j
      · subst e
        rw [pk_us, hh_F h5 hj]
      · rw [pk_un e]
        exact ha b (by omega)
    · intro s h
      obtain ⟨v, hd1⟩ := s
      obtain ⟨hv, ha⟩ := h
      dsimp only at hv ha
      subst hv
      refine ⟨hd1, ?_, ha⟩
      simp only [Cl_settleBy_L55, Pl_places, Option.bind_some, if_pos (nI_le (Nat.le_refl n) (show n < 2 ^ 31 by omega))]
  obtain ⟨hds, h6, h7⟩ := h
  refine ⟨_, dl, fr, hds, ?_, hn, hL, hD, hs, rfl, h4, h5, h7⟩
  unfold Cl_settleBy
  simp only [h3, Option.bind_some, Cl_great hn hD h4, h6]
