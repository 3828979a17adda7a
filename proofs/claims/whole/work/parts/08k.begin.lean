/-! how both begin -/
def t0 (b : Nat) : Nat := if b = 4 then 3 else 0
def f0 (b : Nat) : Int32 := if b = 4 then 5 else 0
theorem WF0 : WF 7 8 L0 t0 := by
  refine ⟨by decide, by decide, by decide, by decide, ?_, ?_, ?_, ?_, ?_⟩
  · have h : ∀ i, i < 16 → ∀ j, j < 16 → L0 (16 * i + j) = L0 (16 * j + i) := by decide +kernel
    exact fun i j hi hj => h i hi j hj
  · decide +kernel
  · have h : ∀ i, i < 16 → ∀ j, j < 16 → 7 ≤ i ∨ 7 ≤ j → L0 (16 * i + j) = 0 := by decide +kernel
    exact fun i j hi hj => h i hi j hj
  · decide +kernel
  · decide +kernel
theorem nlk0 : nlk L0 16 = 8 := by decide +kernel
theorem L09 : ∀ k, k < 256 → L0 k ≤ 9 := by decide +kernel
theorem ft_is : chk0 (Rd_firstFault (fun _ => 0) 0 0 0 0 0 (fun _ => 0) (fun _ => 0) (fun _ => 0) (fun _ => 0) (nI 66) (sgn 66)) = true := by decide +kernel
theorem chk_s {x : Option (Int32 × (Nat → Int32) × Int32 × Int32 × Int32 × Int32 × Int32 × (Nat → Int32) × (Nat → Int32) × (Nat → Int32) × (Nat → Int32))} (h : chk0 x = true) : ∃ u e6 e7 e8 e9, x = some (-4, u, nI 7, nI 8, nI 8, 6, 0, e6, e7, e8, e9) ∧ okL e6 L0 ∧ okC e7 e8 e9 t0 f0 := by
  unfold chk0 at h
  split at h
  · cases h
  · rename_i r u e1 e2 e3 e4 e5 e6 e7 e8 e9
    simp only [Bool.and_eq_true, decide_eq_true_eq, List.all_eq_true, List.mem_range] at h
    obtain ⟨⟨⟨⟨⟨⟨⟨h1, h2⟩, h3⟩, h4⟩, h5⟩, h6⟩, h7⟩, h8⟩ := h
    subst h1 h2 h3 h4 h5 h6
    refine ⟨u, e6, e7, e8, e9, rfl, fun k hk => ⟨h7 k hk, L09 k hk⟩, fun k hk => ?_⟩
    obtain ⟨⟨a1, a2⟩, a3⟩ := h8 k hk
    by_cases e : k = 4
    · subst e
      have b1 : e7 4 = 1 := a1
      have b2 : e8 4 = 2 := a2
      have b3 : e9 4 = 5 := a3
      rw [b1, b2, b3]
      exact ⟨by decide, fun q => absurd q (by decide), fun _ => ⟨by decide, by decide⟩⟩
    · have ht : t0 k = 0 := if_neg e
      rw [if_neg e] at a1 a2 a3
      rw [a1, a2, a3, ht]
      exact ⟨rfl, fun _ => ⟨rfl, rfl⟩, fun q => absurd rfl q⟩
theorem jn_s {rd : Nat → Int32} {L : Nat → Nat} {a b k : Nat} (ha : a < 16) (hb : b < 16) (hk : k ≤ 9) (h : okL rd L ∧ ∀ j, 256 ≤ j → j < 289 → rd j = 0) : ∃ rd', Mo_joins rd (nI a) (nI b) (nI k) = some rd' ∧ okL rd' (setL L a b k) ∧ ∀ j, 256 ≤ j → j < 289 → rd' j = 0 := by
  refine ⟨_, Mo_jn ha hb _, okL_set hk h.1, fun j h1 h2 => ?_⟩
  rw [pk_un (by omega), pk_un (by omega)]
  exact h.2 j h1 h2
