/-! the text, and the numbers in it -/
def TX (k : Nat) (tl : Nat → Nat) (le_length : Int32) (le_signs : Nat → Int32) (m_length : Int32) (m_text : Nat → Int32) : Prop := k ≤ 200 ∧ le_length = nI k ∧ m_length = nI k ∧ ∀ j, j < k → le_signs j = nI (tl j) ∧ m_text j = nI (tl j) ∧ 32 ≤ tl j ∧ tl j ≤ 126
theorem ch_n : ∀ c, c < 127 → vp_nar .char (((nI c).toUInt32 % 65536).toInt32) = nI c := by decide +kernel
theorem X_write {k : Nat} {tl : Nat → Nat} {le_length : Int32} {le_signs : Nat → Int32} {m_length : Int32} {m_text : Nat → Int32} (h : TX k tl le_length le_signs m_length m_text) (a : Int32) : ∃ r l s l2 s2, Dc_write le_length le_signs a = some (r, l, s) ∧ Mo_write m_length m_text a = some (r, l2, s2) ∧ ∃ k' tl', TX k' tl' l s l2 s2 := by
  have h0 := h
  obtain ⟨hk, rfl, rfl, ht⟩ := h
  unfold Dc_write Mo_write
  rw [Dc_wi]
  rcases isIn_cases a (lo := 32) (hi := 126) (by decide) (by decide) with ⟨h2, -⟩ | ⟨c, hc1, hc2, rfl, h2⟩
  · have h3 := h2
    unfold Mo_isIn at h3
    rw [show Mo_isIn a 32 126 = some 0 from h2]
    by_cases e1 : a < nI 32
    · rw [if_pos (show a < 32 from e1)]
      exact ⟨_, _, _, _, _, rfl, rfl, k, tl, h0⟩
    · rw [if_neg e1] at h3
      rw [if_neg (show ¬ a < 32 from e1)]
      by_cases e2 : nI 126 < a
      · rw [if_neg (show ¬ a ≤ 126 from fun q => by
          have q2 : a ≤ nI 126 := q
          rw [Int32.le_iff_toInt_le] at q2
          rw [Int32.lt_iff_toInt_lt] at e2
          omega)]
        exact ⟨_, _, _, _, _, rfl, rfl, k, tl, h0⟩
      · exfalso
        rw [if_neg e2] at h3
        exact absurd h3 (by decide)
  · rw [show Mo_isIn (nI c) 32 126 = some 1 from h2, if_neg (show ¬ nI c < 32 from nI_nlt (b := 32) hc1 (by omega)), if_pos (show nI c ≤ 126 from nI_le (b := 126) hc2 (by decide))]
    simp only [Option.bind_some, if_neg (show ¬ (1 : Int32) = 0 by decide), Le_isFull, Le_append, Le_size]
    by_cases e : k = 200
    · subst e
      rw [if_neg (show ¬ nI 200 < 200 by decide), if_pos (show nI 200 = 200 from rfl)]
      exact ⟨_, _, _, _, _, rfl, rfl, 200, tl, h0⟩
    · rw [if_pos (show nI k < 200 from nI_lt (b := 200) (by omega) (by decide)), if_neg (show ¬ nI k = 200 by rw [show (200 : Int32) = nI 200 from rfl, nI_eq (by omega) (by omega)]; exact e)]
      simp only [Option.bind_some, if_pos (show (0 : Int32) = 0 from rfl), gk_n (show k < 200 by omega) (by decide), nI_clamp (show k < 2 ^ 31 by omega), ch_n c (by omega), nI_1]
      refine ⟨_, _, _, _, _, rfl, rfl, k + 1, fun j => if j = k then c else tl j, by omega, rfl, rfl, fun j hj => ?_⟩
      dsimp only
      by_cases e2 : j = k
      · rw [if_pos e2, e2, pk_us, pk_us]
        exact ⟨rfl, rfl, hc1, hc2⟩
      · rw [if_neg e2, pk_un e2, pk_un e2]
        exact ht j (by omega)
theorem X_wipe {k : Nat} {tl : Nat → Nat} {le_length : Int32} {le_signs : Nat → Int32} {m_length : Int32} {m_text : Nat → Int32} (h : TX k tl le_length le_signs m_length m_text) : ∃ r l l2, Dc_wipe le_length = some (r, l) ∧ Mo_wipe m_length = some (r, l2) ∧ ∃ k' tl', TX k' tl' l le_signs l2 m_text := by
  obtain ⟨hk, rfl, rfl, ht⟩ := h
  exact ⟨_, _, _, rfl, rfl, 0, tl, Nat.zero_le _, rfl, rfl, fun j hj => absurd hj (Nat.not_lt_zero _)⟩
/-- a letter is there, and it is this one -/
abbrev isS (k : Nat) (tl : Nat → Nat) (e c : Nat) : Prop := e < k ∧ tl e = c
abbrev dg (k : Nat) (tl : Nat → Nat) (p : Nat) : Prop := p < k ∧ 48 ≤ tl p ∧ tl p ≤ 57
def nf (k : Nat) (tl : Nat → Nat) (p : Nat) : Nat := if dg k tl p then (if dg k tl (p + 1) then (if dg k tl (p + 2) then (if dg k tl (p + 3) then 4 else 3) else 2) else 1) else 0
def vl (tl : Nat → Nat) (p : Nat) : Nat → Nat
  | 0 => 0
  | m + 1 => 10 * vl tl p m + (tl (p + m) - 48)
theorem nf_is (k : Nat) (tl : Nat → Nat) (p : Nat) : nf k tl p ≤ 4 ∧ (∀ j, j < nf k tl p → dg k tl (p + j)) ∧ (nf k tl p < 4 → ¬ dg k tl (p + nf k tl p)) := by
  unfold nf
  by_cases e0 : dg k tl p
  · rw [if_pos e0]
    by_cases e1 : dg k tl (p + 1)
    · rw [if_pos e1]
      by_cases e2 : dg k tl (p + 2)
      · rw [if_pos e2]
        by_cases e3 : dg k tl (p + 3)
        · rw [if_pos e3]
          refine ⟨by decide, fun j hj => ?_, fun q => absurd q (by decide)⟩
          rcases (show j = 0 ∨ j = 1 ∨ j = 2 ∨ j = 3 by omega) with rfl | rfl | rfl | rfl
          · exact e0
          · exact e1
          · exact e2
          · exact e3
        · rw [if_neg e3]
          refine ⟨by decide, fun j hj => ?_, fun _ => e3⟩
          rcases (show j = 0 ∨ j = 1 ∨ j = 2 by omega) with rfl | rfl | rfl
          · exact e0
          · exact e1
          · exact e2
      · rw [if_neg e2]
        refine ⟨by decide, fun j hj => ?_, fun _ => e2⟩
        rcases (show j = 0 ∨ j = 1 by omega) with rfl | rfl
        · exact e0
        · exact e1
    · rw [if_neg e1]
      refine ⟨by decide, fun j hj => ?_, fun _ => e1⟩
      rw [show j = 0 by omega]
      exact e0
  · rw [if_neg e0]
    exact ⟨by decide, fun j hj => absurd hj (Nat.not_lt_zero _), fun _ => e0⟩
theorem vl_lt {k : Nat} {tl : Nat → Nat} {p : Nat} : ∀ m, (∀ j, j < m → dg k tl (p + j)) → vl tl p m < 10 ^ m := by
  intro m
  induction m with
  | zero => intro _; exact Nat.one_pos
  | succ m ih =>
    intro h
    have h1 := ih (fun j hj => h j (by omega))
    have h2 := (h m (by omega)).2
    rw [vl, Nat.pow_succ]
    omega
theorem vl_le (k : Nat) (tl : Nat → Nat) (p : Nat) : vl tl p (nf k tl p) ≤ 9999 := by
  obtain ⟨h1, h2, -⟩ := nf_is k tl p
  have h3 := vl_lt _ h2
  have h4 : 10 ^ nf k tl p ≤ 10 ^ 4 := Nat.pow_le_pow_right (by decide) h1
  omega
theorem isIn_n {v lo hi : Nat} (hv : v < 2 ^ 31) (hl : lo < 2 ^ 31) (hh : hi < 2 ^ 31) : Mo_isIn (nI v) (nI lo) (nI hi) = some (if lo ≤ v ∧ v ≤ hi then 1 else 0) := by
  unfold Mo_isIn
  by_cases e1 : lo ≤ v
  · rw [if_neg (nI_nlt e1 (by omega))]
    by_cases e2 : v ≤ hi
    · rw [if_pos (⟨e1, e2⟩ : lo ≤ v ∧ v ≤ hi)]
      first
        | rw [if_pos (nI_le e2 (by omega))]
        | rw [if_neg (nI_nlt e2 (by omega))]
    · rw [if_neg (fun q : lo ≤ v ∧ v ≤ hi => e2 q.2)]
      first
        | rw [if_neg (nI_ge (by omega) (by omega))]
        | rw [if_pos (nI_lt (by omega) (by omega))]
  · rw [if_pos (nI_lt (by omega) (by omega)), if_neg (fun q : lo ≤ v ∧ v ≤ hi => e1 q.1)]
section
variable {k : Nat} {tl : Nat → Nat} {sg tx : Nat → Int32}
theorem Le_a (hk : k ≤ 200) (hs : ∀ j, j < k → sg j = nI (tl j) ∧ tx j = nI (tl j) ∧ 32 ≤ tl j ∧ tl j ≤ 126) {e : Nat} (he : e < 2 ^ 30) : Le_at (nI k) sg (nI e) = some (if e < k then nI (tl e) else -4) := by
  unfold Le_at
  rw [Dc_wi]
  by_cases e0 : k = 0
  · subst e0
    have h1 : Mo_isIn (nI e) 0 (nI 0 - 1) = some 0 := by
      unfold Mo_isIn
      rw [if_neg (show ¬ nI e < 0 from nI_nlt (b := 0) (by omega) (by omega))]
      have h2 : ¬ nI e ≤ nI 0 - 1 := by
        rw [Int32.le_iff_toInt_le, nI_toInt (by omega), show (nI 0 - 1).toInt = -1 from rfl]
        omega
      have h3 : nI 0 - 1 < nI e := by
        rw [Int32.lt_iff_toInt_lt, nI_toInt (by omega), show (nI 0 - 1).toInt = -1 from rfl]
        omega
      first
        | rw [if_neg h2]
        | rw [if_pos h3]
    rw [h1, if_neg (by omega)]
    rfl
  · have h1 : Mo_isIn (nI e) 0 (nI k - 1) = some (if 0 ≤ e ∧ e ≤ k - 1 then 1 else 0) := by
      rw [show nI k - 1 = nI (k - 1) from pk_sub (a := k) (b := 1) (by omega)]
      exact isIn_n (lo := 0) (by omega) (by decide) (by omega)
    rw [h1]
    by_cases e1 : e < k
    · rw [if_pos (by omega), if_pos e1, Option.bind_some, if_neg (by decide), gk_n (show e < 200 by omega) (by decide), nI_clamp (by omega), (hs e e1).1]
    · rw [if_neg (by omega), if_neg e1]
      rfl
theorem Mo_la (hk : k ≤ 200) (hs : ∀ j, j < k → sg j = nI (tl j) ∧ tx j = nI (tl j) ∧ 32 ≤ tl j ∧ tl j ≤ 126) {e : Nat} (he : e < 2 ^ 30) : Mo_letterAt (nI k) tx (nI e) = some (if e < k then nI (tl e) else 0) := by
  unfold Mo_letterAt
  by_cases e1 : e < k
  · rw [if_neg (nI_ge e1 (by omega)), if_pos e1, gk_n (show e < 200 by omega) (by decide), nI_clamp (by omega), (hs e e1).2.1]
  · rw [if_pos (nI_le (by omega) (by omega)), if_neg e1]
theorem sp_c (hs : ∀ j, j < k → sg j = nI (tl j) ∧ tx j = nI (tl j) ∧ 32 ≤ tl j ∧ tl j ≤ 126) {e c : Nat} (hc : c < 2 ^ 30) : (if e < k then nI (tl e) else -4) = nI c ↔ isS k tl e c := by
  by_cases e1 : e < k
  · have := hs e e1
    rw [if_pos e1, nI_eq (by omega) (by omega)]
    exact ⟨fun q => ⟨e1, q⟩, fun q => q.2⟩
  · rw [if_neg e1]
    exact ⟨fun q => absurd q.symm (nI_n4 (by omega)), fun q => absurd q.1 e1⟩
theorem sp_m (hs : ∀ j, j < k → sg j = nI (tl j) ∧ tx j = nI (tl j) ∧ 32 ≤ tl j ∧ tl j ≤ 126) {e c : Nat} (hc0 : 0 < c) (hc : c < 2 ^ 30) : (if e < k then nI (tl e) else 0) = nI c ↔ isS k tl e c := by
  by_cases e1 : e < k
  · have := hs e e1
    rw [if_pos e1, nI_eq (by omega) (by omega)]
    exact ⟨fun q => ⟨e1, q⟩, fun q => q.2⟩
  · rw [if_neg e1]
    exact ⟨fun q => absurd q.symm (nI_ne0 hc0 (by omega)), fun q => absurd q.1 e1⟩
theorem vl_s {p m : Nat} (h : dg k tl (p + m)) : nI (vl tl p m) * 10 + nI (tl (p + m)) - 48 = nI (vl tl p (m + 1)) := by
  rw [show (10 : Int32) = nI 10 from rfl, pk_mul, nI_add, show (48 : Int32) = nI 48 from rfl, pk_sub (by omega), vl]
  congr 1
  omega
theorem C_num (hk : k ≤ 200) (hs : ∀ j, j < k → sg j = nI (tl j) ∧ tx j = nI (tl j) ∧ 32 ≤ tl j ∧ tl j ≤ 126) {p : Nat} (hp : p ≤ 300) : it (Rd_behindNumber_L6 (nI k) sg (nI p)) 4096 (0, 0) = some (nI (vl tl p (nf k tl p)), nI (nf k tl p)) := by
  obtain ⟨h1, h2, h3⟩ := nf_is k tl p
  refine it_run (F := 4096) (fun m => (nI (vl tl p m), nI m)) (nf k tl p) _ ?_ ?_ (by omega)
  · intro m hm
    have h4 := h2 m hm
    simp only [Rd_behindNumber_L6, if_neg (show ¬ (4 : Int32) ≤ nI m from nI_ge (b := 4) (by omega) (by decide)), nI_add p m, Le_a hk hs (show p + m < 2 ^ 30 by omega), if_pos h4.1, Option.bind_some, Dc_wi]
    rw [show Mo_isIn (nI (tl (p + m))) 48 57 = _ from isIn_n (lo := 48) (hi := 57) (by omega) (by decide) (by decide), if_pos h4.2, Option.bind_some, if_neg (by decide), vl_s h4, nI_1]
  · simp only [Rd_behindNumber_L6]
    by_cases e : nf k tl p = 4
    · rw [e, if_pos (show (4 : Int32) ≤ nI 4 by decide)]
    · have h4 := h3 (by omega)
      rw [if_neg (show ¬ (4 : Int32) ≤ nI (nf k tl p) from nI_ge (b := 4) (by omega) (by decide)), nI_add p, Le_a hk hs (show p + nf k tl p < 2 ^ 30 by omega), Option.bind_some, Dc_wi]
      have h5 : Mo_isIn (if p + nf k tl p < k then nI (tl (p + nf k tl p)) else -4) 48 57 = some 0 := by
        by_cases e2 : p + nf k tl p < k
        · have := hs _ e2
          rw [if_pos e2, show Mo_isIn (nI (tl (p + nf k tl p))) 48 57 = _ from isIn_n (lo := 48) (hi := 57) (by omega) (by decide) (by decide), if_neg (fun q => h4 ⟨e2, q⟩)]
        · rw [if_neg e2]
          rfl
      rw [h5]
      rfl
theorem M_num (hk : k ≤ 200) (hs : ∀ j, j < k → sg j = nI (tl j) ∧ tx j = nI (tl j) ∧ 32 ≤ tl j ∧ tl j ≤ 126) {p : Nat} (hp : p ≤ 300) : it (Mo_number_L10 (nI k) tx (nI p)) 4096 (0, nI p) = some (nI (vl tl p (nf k tl p)), nI (p + nf k tl p)) := by
  obtain ⟨h1, h2, h3⟩ := nf_is k tl p
  refine it_run (F := 4096) (fun m => (nI (vl tl p m), nI (p + m))) (nf k tl p) _ ?_ ?_ (by omega)
  · intro m hm
    have h4 := h2 m hm
    simp only [Mo_number_L10, show nI p + 4 = nI (p + 4) from nI_add p 4, if_neg (nI_ge (show p + m < p + 4 by omega) (show p + 4 < 2 ^ 31 by omega)), Mo_la hk hs (show p + m < 2 ^ 30 by omega), if_pos h4.1, Option.bind_some]
    have hm1 := h4.1
    have hm2 := h4.2
    rw [if_neg (show ¬ nI (tl (p + m)) < 48 from nI_nlt (b := 48) (by omega) (by omega)), if_neg (show ¬ (57 : Int32) < nI (tl (p + m)) from nI_nlt (a := 57) (by omega) (by decide)), gk_n (show p + m < 200 by omega) (by decide), nI_clamp (by omega), (hs _ h4.1).2.1, show (10 : Int32) * nI (vl tl p m) = nI (vl tl p m) * 10 from Int32.mul_comm _ _, vl_s h4, nI_1]
    rfl
  · simp only [Mo_number_L10, show nI p + 4 = nI (p + 4) from nI_add p 4]
    by_cases e : nf k tl p = 4
    · rw [e, if_pos (nI_le (Nat.le_refl _) (by omega))]
    · have h4 := h3 (by omega)
      rw [if_neg (nI_ge (show p + nf k tl p < p + 4 by omega) (show p + 4 < 2 ^ 31 by omega)), Mo_la hk hs (show p + nf k tl p < 2 ^ 30 by omega), Option.bind_some]
      by_cases e2 : p + nf k tl p < k
      · have h6 := hs _ e2
        rw [if_pos e2]
        by_cases e3 : tl (p + nf k tl p) < 48
        · rw [if_pos (show nI (tl (p + nf k tl p)) < 48 from nI_lt (b := 48) e3 (by decide))]
        · have e4 : 57 < tl (p + nf k tl p) := by
            by_cases e5 : 57 < tl (p + nf k tl p)
            · exact e5
            · exact absurd ⟨e2, by omega, by omega⟩ h4
          rw [if_neg (show ¬ nI (tl (p + nf k tl p)) < 48 from nI_nlt (b := 48) (by omega) (by omega)), Option.bind_some, if_pos (show (57 : Int32) < nI (tl (p + nf k tl p)) from nI_lt (a := 57) e4 (by omega))]
      · rw [if_neg e2]
        rfl
end
