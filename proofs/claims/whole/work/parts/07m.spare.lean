/-! links of the tree are as many as places that are no heads -/
theorem cnt_compl {p : Nat → Bool} : ∀ n, cnt (fun i => !p i) n + cnt p n = n := by
  intro n
  induction n with
  | zero => rfl
  | succ n ih =>
    simp only [cnt]
    by_cases e : p n = true
    · rw [if_neg (by simp [e]), if_pos e]
      omega
    · rw [if_pos (by simp [e]), if_neg e]
      omega
theorem tri_sum {g : Nat → Nat → Nat} : ∀ n, sm2 (fun i => sm2 (fun j => g i j + g j i) i) n + sm2 (fun i => g i i) n = sm2 (fun i => sm2 (fun j => g i j) n) n := by
  intro n
  induction n with
  | zero => rfl
  | succ n ih =>
    have h1 : sm2 (fun i => sm2 (fun j => g i j) (n + 1)) n = sm2 (fun i => sm2 (fun j => g i j) n) n + sm2 (fun i => g i n) n := by
      rw [← sm2_add]
      rfl
    show (sm2 (fun i => sm2 (fun j => g i j + g j i) i) n + sm2 (fun j => g n j + g j n) n) + (sm2 (fun i => g i i) n + g n n) = sm2 (fun i => sm2 (fun j => g i j) (n + 1)) n + (sm2 (fun j => g n j) n + g n n)
    have h2 : sm2 (g n) n = sm2 (fun j => g n j) n := rfl
    have h3 : sm2 (fun j => g n j + g j n) n = sm2 (fun j => g n j) n + sm2 (fun i => g i n) n := sm2_add n
    rw [h1, h3]
    omega
/-- a place that is no head hangs by a link -/
theorem up_is {n i : Nat} {D : Nat → Nat} {F : Nat → Int32} {L : Nat → Nat} (hn : n ≤ 16) (hD : ∀ i, i < n → D i ≤ 30) (hL : ∀ k, k < 256 → L k ≤ 9) (hs : sym L) (hz : ∀ i, i < 16 → L (16 * i + i) = 0) (hi : i < n) (hne : hh n D F (fw L n) i ≠ i) : ∃ u, fnd (upp L (fw L n) (hh n D F (fw L n)) i) n 0 = some u ∧ u < n ∧ upp L (fw L n) (hh n D F (fw L n)) i u = true := by
  have hh1 := C_hlt (D := D) (F := F) (L := L) hi
  have hmi : ∀ b, b < n → b ≠ hh n D F (fw L n) i → bt n D F (fw L n) i (hh n D F (fw L n) i) b := fun b hb h => hh_min hb h
  generalize hx : hh n D F (fw L n) i = h at hh1 hne hmi
  have h1 := hmi i hi (fun q => hne q.symm)
  have h2 : fw L n h i < 1000000 := by
    have h3 := tp_le n hD
    have h4 := fw_ii L n i
    unfold bt hr at h1
    omega
  obtain ⟨p, hp, hp1, hp2⟩ := fw_last n (Nat.le_refl n) h i hh1 hne h2
  have hpi : p ≠ i := by
    intro e
    rw [e] at hp1
    exact hp1 (hz i (by omega))
  have h5 : fw L n p i ≤ L (16 * p + i) := by
    have h6 := fw_d0 L n p i
    unfold d0 at h6
    rw [if_neg hpi, if_neg hp1] at h6
    exact h6
  have h6 := fw_tri L n p hp h i
  have h7 : hh n D F (fw L n) p = h := by
    refine hh_is hp hh1 ?_
    intro b hb hbh
    have h8 := hmi b hb hbh
    have h9 := fw_tri L n p hp b i
    unfold bt hr at h8 ⊢
    omega
  have h8 : upp L (fw L n) (hh n D F (fw L n)) i p = true := by
    have h9 := hs i p (by omega) (by omega)
    unfold upp
    rw [decide_eq_true_eq, hx, h7, h9]
    exact ⟨hp1, rfl, by omega⟩
  cases hf : fnd (upp L (fw L n) (hh n D F (fw L n)) i) n 0 with
  | none =>
    have := fnd_none hf p (Nat.zero_le _) (by omega)
    rw [h8] at this
    cases this
  | some u =>
    obtain ⟨-, g1, g2, -⟩ := fnd_some hf
    exact ⟨u, rfl, by omega, g2⟩
theorem spare_sum {n : Nat} {D : Nat → Nat} {F : Nat → Int32} {L : Nat → Nat} (hn : n ≤ 16) (hD : ∀ i, i < n → D i ≤ 30) (hL : ∀ k, k < 256 → L k ≤ 9) (hs : sym L) (hz : ∀ i, i < 16 → L (16 * i + i) = 0) :
    sm2 (fun i => cnt (fun j => decide (L (16 * i + j) ≠ 0)) i) n = ncut n L (hh n D F (fw L n)) + nknd n L (fw L n) (hh n D F (fw L n)) 1 + (n - cnt (ish n D F (fw L n)) n) := by
  have hU : ∀ i, i < n → ∀ j, j < n → (upv n L (fw L n) (hh n D F (fw L n)) i = nI j ↔ hh n D F (fw L n) i ≠ i ∧ fnd (upp L (fw L n) (hh n D F (fw L n)) i) n 0 = some j) := by
    intro i hi j hj
    unfold upv
    by_cases e : hh n D F (fw L n) i = i
    · rw [if_pos e]
      exact ⟨fun q => absurd q.symm (nI_n4 (by omega)), fun q => absurd e q.1⟩
    · rw [if_neg e]
      obtain ⟨u, g1, g2, -⟩ := up_is hn hD hL hs hz hi e
      unfold fnv
      rw [g1]
      dsimp only
      rw [nI_eq (by omega) (by omega)]
      exact ⟨fun q => ⟨e, by rw [q]⟩, fun q => Option.some.inj q.2⟩
  -- the links of the tree
  have h0 : sm2 (fun i => sm2 (fun j => if L (16 * i + j) ≠ 0 ∧ knd n L (fw L n) (hh n D F (fw L n)) i j = 0 then 1 else 0) i) n = n - cnt (ish n D F (fw L n)) n := by
    have h1 : ∀ i, i < n → sm2 (fun j => if L (16 * i + j) ≠ 0 ∧ knd n L (fw L n) (hh n D F (fw L n)) i j = 0 then 1 else 0) i = sm2 (fun j => (if hh n D F (fw L n) i ≠ i ∧ fnd (upp L (fw L n) (hh n D F (fw L n)) i) n 0 = some j then 1 else 0) + (if hh n D F (fw L n) j ≠ j ∧ fnd (upp L (fw L n) (hh n D F (fw L n)) j) n 0 = some i then 1 else 0)) i := by
      intro i hi
      refine sm2_congr i (fun j hj => ?_)
      have hj' : j < n := by omega
      have u1 := hU i hi j hj'
      have u2 := hU j hj' i hi
      have p1 : ∀ a b, fnd (upp L (fw L n) (hh n D F (fw L n)) a) n 0 = some b → L (16 * a + b) ≠ 0 ∧ hh n D F (fw L n) a = hh n D F (fw L n) b ∧ fw L n (hh n D F (fw L n) b) b + L (16 * a + b) = fw L n (hh n D F (fw L n) a) a := by
        intro a b q
        obtain ⟨-, -, g, -⟩ := fnd_some q
        unfold upp at g
        exact of_decide_eq_true g
      by_cases e1 : hh n D F (fw L n) i ≠ i ∧ fnd (upp L (fw L n) (hh n D F (fw L n)) i) n 0 = some j
      · have q1 := p1 i j e1.2
        rw [if_pos e1, if_pos, if_neg]
        · rintro ⟨-, q⟩
          have q2 := p1 j i q
          have q3 := q1.1
          omega
        · refine ⟨q1.1, ?_⟩
          unfold knd
          rw [if_pos q1.2.1, if_pos (u1.mpr e1)]
      · rw [if_neg e1]
        by_cases e2 : hh n D F (fw L n) j ≠ j ∧ fnd (upp L (fw L n) (hh n D F (fw L n)) j) n 0 = some i
        · have q1 := p1 j i e2.2
          rw [if_pos e2, if_pos]
          refine ⟨by rw [hs i j (by omega) (by omega)]; exact q1.1, ?_⟩
          unfold knd
          rw [if_pos q1.2.1.symm, if_neg (fun q => e1 (u1.mp q)), if_pos (u2.mpr e2)]
        · rw [if_neg e2, if_neg]
          rintro ⟨-, q⟩
          unfold knd at q
          by_cases e3 : hh n D F (fw L n) i = hh n D F (fw L n) j
          · rw [if_pos e3, if_neg (fun q => e1 (u1.mp q)), if_neg (fun q => e2 (u2.mp q))] at q
            revert q
            decide
          · rw [if_neg e3] at q
            revert q
            decide
    rw [sm2_congr n h1]
    have h2 := tri_sum (g := fun i j => if hh n D F (fw L n) i ≠ i ∧ fnd (upp L (fw L n) (hh n D F (fw L n)) i) n 0 = some j then 1 else 0) n
    have h3 : sm2 (fun i => if hh n D F (fw L n) i ≠ i ∧ fnd (upp L (fw L n) (hh n D F (fw L n)) i) n 0 = some i then 1 else 0) n = 0 := by
      rw [sm2_congr (h := fun _ => 0) n, sm2_zero]
      intro i hi
      refine if_neg ?_
      rintro ⟨-, q⟩
      obtain ⟨-, -, g, -⟩ := fnd_some q
      unfold upp at g
      exact (of_decide_eq_true g).1 (hz i (by omega))
    have h4 : ∀ i, i < n → sm2 (fun j => if hh n D F (fw L n) i ≠ i ∧ fnd (upp L (fw L n) (hh n D F (fw L n)) i) n 0 = some j then 1 else 0) n = if (!ish n D F (fw L n) i) = true then 1 else 0 := by
      intro i hi
      by_cases e : hh n D F (fw L n) i = i
      · rw [if_neg (show ¬ (!ish n D F (fw L n) i) = true by unfold ish; simp [e]), sm2_congr (h := fun _ => 0) n (fun j _ => if_neg (fun q => q.1 e)), sm2_zero]
      · obtain ⟨u, g1, g2, -⟩ := up_is hn hD hL hs hz hi e
        rw [if_pos (show (!ish n D F (fw L n) i) = true by unfold ish; simp [e])]
        rw [sm2_congr (h := fun j => if j = u then 1 else 0) n, sm2_single, if_pos g2]
        intro j hj
        rw [g1]
        by_cases e2 : j = u
        · rw [if_pos e2, if_pos ⟨e, by rw [e2]⟩]
        · rw [if_neg e2, if_neg (fun q => e2 (Option.some.inj q.2).symm)]
    rw [h3, Nat.add_zero, sm2_congr n h4, ← cnt_sm2] at h2
    rw [h2]
    have h5 := cnt_compl (p := ish n D F (fw L n)) n
    omega
  rw [← h0]
  unfold ncut nknd
  have h6 : ∀ i, i < n → cnt (fun j => decide (L (16 * i + j) ≠ 0)) i = cnt (fun j => decide (L (16 * i + j) ≠ 0 ∧ hh n D F (fw L n) i ≠ hh n D F (fw L n) j)) i + cnt (fun j => decide (L (16 * i + j) ≠ 0 ∧ knd n L (fw L n) (hh n D F (fw L n)) i j = 1)) i + sm2 (fun j => if L (16 * i + j) ≠ 0 ∧ knd n L (fw L n) (hh n D F (fw L n)) i j = 0 then 1 else 0) i := by
    intro i hi
    rw [cnt_sm2, cnt_sm2, cnt_sm2, ← sm2_add, ← sm2_add]
    refine sm2_congr i (fun j hj => ?_)
    simp only [decide_eq_true_eq]
    by_cases e : L (16 * i + j) = 0
    · rw [if_neg (fun q => q e), if_neg (fun q => q.1 e), if_neg (fun q => q.1 e), if_neg (fun q => q.1 e)]
    · rw [if_pos e]
      unfold knd
      by_cases e2 : hh n D F (fw L n) i = hh n D F (fw L n) j
      · rw [if_neg (fun q => q.2 e2), if_pos e2]
        by_cases e3 : upv n L (fw L n) (hh n D F (fw L n)) i = nI j
        · rw [if_pos e3, if_neg (fun q => absurd q.2 (by decide)), if_pos ⟨e, rfl⟩]
        · rw [if_neg e3]
          by_cases e4 : upv n L (fw L n) (hh n D F (fw L n)) j = nI i
          · rw [if_pos e4, if_neg (fun q => absurd q.2 (by decide)), if_pos ⟨e, rfl⟩]
          · rw [if_neg e4, if_pos ⟨e, rfl⟩, if_neg (fun q => absurd q.2 (by decide))]
      · rw [if_pos ⟨e, e2⟩, if_neg e2, if_neg (fun q => absurd q.2 (by decide)), if_neg (fun q => absurd q.2 (by decide))]
  rw [sm2_congr n h6, sm2_add, sm2_add]
theorem knd2 {n : Nat} {L : Nat → Nat} {d : Nat → Nat → Nat} {H : Nat → Nat} : nknd n L d H 2 = ncut n L H := by
  unfold nknd ncut
  refine sm2_congr n (fun i _ => cnt_congr i (fun j _ => ?_))
  rw [decide_eq_decide]
  unfold knd
  by_cases e : H i = H j
  · rw [if_pos e]
    constructor
    · rintro ⟨-, q⟩
      split at q
      · exact absurd q (by decide)
      · split at q <;> exact absurd q (by decide)
    · rintro ⟨-, q⟩
      exact absurd e q
  · rw [if_neg e]
    exact ⟨fun q => ⟨q.1, e⟩, fun q => ⟨q.1, rfl⟩⟩
/-! lowest terms -/
theorem rem0 {a b : Nat} (ha : a < 2 ^ 31) (hb0 : 0 < b) (hb : b < 2 ^ 31) : nI a - nI a / nI b * nI b = 0 ↔ a % b = 0 := by
  rw [pk_rem ha hb0 hb, ← nI_0, nI_eq (by have := Nat.mod_lt a hb0; omega) (by decide)]
theorem nz_n {b : Nat} (h0 : 0 < b) (hb : b < 2 ^ 31) {α : Type} {x : Option α} : gd (nz (nI b)) x = x := by
  refine gd_t ?_
  unfold nz
  simp [nI_ne0 h0 hb]
theorem Mo_gcd {a b : Nat} (ha : a ≤ 60) (ha1 : 0 < a) (hb : b ≤ 60) : it Mo_chance_L104 4096 (nI a, nI b) = some (nI (Nat.gcd a b)) := by
  have h : ∃ t, it Mo_chance_L104 4096 (nI a, nI b) = some t ∧ t = nI (Nat.gcd a b) := by
    refine it_inv (F := 4096) (fun (k : Nat) (s : Int32 × Int32) => ∃ x y, s = (nI x, nI y) ∧ x ≤ 60 ∧ y + k ≤ 61 ∧ y ≤ 60 ∧ Nat.gcd x y = Nat.gcd a b) (fun t => t = nI (Nat.gcd a b)) 61 ?_ ?_ ⟨a, b, rfl, ha, by omega, hb, rfl⟩ (by decide)
    · rintro k s hk ⟨x, y, rfl, h1, h2, h3, h4⟩
      simp only [Mo_chance_L104]
      by_cases e : y = 0
      · subst e
        rw [if_pos (show nI 0 = 0 from rfl)]
        exact Or.inr ⟨_, rfl, by rw [← h4, Nat.gcd_zero_right]⟩
      · rw [if_neg (nI_ne0 (by omega) (by omega)), nz_n (by omega) (by omega), pk_rem (by omega) (by omega) (by omega)]
        refine Or.inl ⟨_, rfl, y, x % y, rfl, by omega, ?_, ?_, ?_⟩
        · have := Nat.mod_lt x (show 0 < y by omega)
          omega
        · have := Nat.mod_lt x (show 0 < y by omega)
          omega
        · rw [← h4, Nat.gcd_comm x y, Nat.gcd_rec y x, Nat.gcd_comm]
    · rintro s ⟨x, y, rfl, h1, h2, h3, h4⟩
      have e : y = 0 := by omega
      subst e
      refine ⟨nI x, ?_, by rw [← h4, Nat.gcd_zero_right]⟩
      simp only [Mo_chance_L104]
      rw [if_pos (show nI 0 = 0 from rfl)]
  obtain ⟨t, h1, h2⟩ := h
  rw [h1, h2]
theorem Dc_low {x a b : Nat} (hx : x ≤ 60) (ha : a ≤ 60) (hb : b ≤ 60) (hb1 : 0 < b) : Dc_inLowestTerms (nI x) (nI a) (nI b) = some (nI (x / Nat.gcd b a)) := by
  have g1 : Nat.gcd b a ∣ b := Nat.gcd_dvd_left b a
  have g2 : Nat.gcd b a ∣ a := Nat.gcd_dvd_right b a
  have g3 : Nat.gcd b a ≤ b := Nat.le_of_dvd hb1 g1
  have g4 : 0 < Nat.gcd b a := Nat.gcd_pos_of_pos_left a hb1
  have g5 : ∀ d, a % d = 0 → b % d = 0 → d ≤ Nat.gcd b a := fun d h1 h2 => Nat.le_of_dvd g4 (Nat.dvd_gcd (Nat.dvd_of_mod_eq_zero h2) (Nat.dvd_of_mod_eq_zero h1))
  generalize hg : Nat.gcd b a = g at g1 g2 g3 g4 g5
  have hv : ∀ k, k < 60 → nI (60 - k) + (-1) = nI (60 - (k + 1)) := by
    intro k hk
    rw [show 60 - k = (60 - (k + 1)) + 1 by omega, pk_m1]
  have hst : ∀ k, k < 60 - g → Dc_inLowestTerms_L3 (nI x) (nI a) (nI b) (nI (60 - k)) = some (.inl (nI (60 - (k + 1)))) := by
    intro k hk
    simp only [Dc_inLowestTerms_L3]
    rw [if_neg (show ¬ nI (60 - k) ≤ 1 from nI_ge (a := 1) (by omega) (by omega)), nz_n (by omega) (by omega), nz_n (by omega) (by omega), hv k (by omega)]
    by_cases e1 : a % (60 - k) = 0
    · rw [if_pos ((rem0 (by omega) (by omega) (by omega)).mpr e1)]
      by_cases e2 : b % (60 - k) = 0
      · have := g5 _ e1 e2
        omega
      · rw [if_neg (fun q => e2 ((rem0 (by omega) (by omega) (by omega)).mp q))]
    · rw [if_neg (fun q => e1 ((rem0 (by omega) (by omega) (by omega)).mp q))]
  unfold Dc_inLowestTerms
  by_cases e : g = 1
  · have h1 : it (Dc_inLowestTerms_L3 (nI x) (nI a) (nI b)) 4096 (nI (60 - 0)) = some (.inl ()) := by
      refine it_run (F := 4096) (fun k => nI (60 - k)) (60 - g) _ hst ?_ (by omega)
      simp only [Dc_inLowestTerms_L3]
      rw [if_pos (show nI (60 - (60 - g)) ≤ 1 by rw [e]; decide)]
    rw [show it (Dc_inLowestTerms_L3 (nI x) (nI a) (nI b)) 4096 60 = _ from h1, e, Nat.div_one]
    rfl
  · have h1 : it (Dc_inLowestTerms_L3 (nI x) (nI a) (nI b)) 4096 (nI (60 - 0)) = some (.inr (nI (x / g))) := by
      refine it_run (F := 4096) (fun k => nI (60 - k)) (60 - g) _ hst ?_ (by omega)
      rw [show 60 - (60 - g) = g by omega]
      simp only [Dc_inLowestTerms_L3]
      rw [if_neg (show ¬ nI g ≤ 1 from nI_ge (a := 1) (by omega) (by omega)), nz_n (by omega) (by omega), nz_n (by omega) (by omega), nz_n (by omega) (by omega), if_pos ((rem0 (by omega) (by omega) (by omega)).mpr (Nat.mod_eq_zero_of_dvd g2)), if_pos ((rem0 (by omega) (by omega) (by omega)).mpr (Nat.mod_eq_zero_of_dvd g1)), pk_div (by omega) (by omega) (by omega)]
    rw [show it (Dc_inLowestTerms_L3 (nI x) (nI a) (nI b)) 4096 60 = _ from h1]
    rfl
