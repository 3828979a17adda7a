/-! what is told, and what can be undone -/
abbrev St : Type := (Nat → Nat) × (Nat → Nat) × (Nat → Int32) × Int32
def okN (now : Nat → Int32) (s : St) : Prop := okL now s.1 ∧ okT now s.2.1 s.2.2.1 ∧ now 288 = s.2.2.2
theorem okN_c {a b : Nat → Int32} {s : St} (h : okN a s) (e : ∀ j, j < 289 → b j = a j) : okN b s := by
  refine ⟨fun k hk => ?_, fun i hi => ?_, ?_⟩
  · rw [e k (by omega)]
    exact h.1 k hk
  · rw [e (256 + i) (by omega), e (272 + i) (by omega)]
    exact h.2.1 i hi
  · rw [e 288 (by omega)]
    exact h.2.2
/-- the kept snapshots, and the kept changes beside them -/
def PS (n M : Nat) (Q : Nat → St → St → Prop) (was : Nat → Int32) : Nat → Nat → St → Prop
  | 0, _, _ => True
  | c + 1, nx, s => ∃ s1 : St, okN (fun j => was (289 * c + j)) s1 ∧ WF n M s1.1 s1.2.1 ∧ Q ((nx + 3) % 4) s s1 ∧ PS n M Q was c ((nx + 3) % 4) s1
theorem PS_congr {n M x : Nat} (hx : x < 4) {Q Q' : Nat → St → St → Prop} {was was' : Nat → Int32} (hQ : ∀ q, q < 4 → q ≠ x → ∀ a b, Q q a b → Q' q a b) : ∀ (c d nx : Nat) (s : St), c + d ≤ 3 → nx = (x + 3 * d) % 4 → (∀ j, j < 289 * c → was' j = was j) → PS n M Q was c nx s → PS n M Q' was' c nx s := by
  intro c
  induction c with
  | zero => intro d nx s _ _ _ _; trivial
  | succ c ih =>
    rintro d nx s h1 h2 h3 ⟨s1, g1, g2, g3, g4⟩
    refine ⟨s1, okN_c g1 (fun j hj => h3 _ (by omega)), g2, hQ _ (by omega) (by omega) _ _ g3, ?_⟩
    exact ih (d + 1) _ _ (by omega) (by omega) (fun j hj => h3 j (by omega)) g4
theorem PS_drop {n M : Nat} {Q : Nat → St → St → Prop} {was : Nat → Int32} : ∀ (c nx : Nat) (s : St), PS n M Q was (c + 1) nx s → PS n M Q (fun j => was (j + 289)) c nx s := by
  intro c
  induction c with
  | zero => intro nx s _; trivial
  | succ c ih =>
    rintro nx s ⟨s1, g1, g2, g3, g4⟩
    refine ⟨s1, okN_c g1 (fun j _ => ?_), g2, g3, ih _ _ g4⟩
    dsimp only
    rw [show 289 * c + j + 289 = 289 * (c + 1) + j by omega]
theorem K_a (was : Nat → Int32) : ∃ w, it Mo_keeps_L10 4096 (0, was) = some w ∧ ∀ j, j < 867 → w j = was (j + 289) := by
  refine it_inv (F := 4096) (fun (k : Nat) (s : Int32 × (Nat → Int32)) => s.1 = nI k ∧ (∀ j, j < k → s.2 j = was (j + 289)) ∧ ∀ j, k ≤ j → s.2 j = was j) (fun (w : Nat → Int32) => ∀ j, j < 867 → w j = was (j + 289)) 867 ?_ ?_ ⟨rfl, fun j hj => absurd hj (Nat.not_lt_zero _), fun _ _ => rfl⟩ (by omega)
  · rintro k ⟨v, w⟩ hk ⟨h1, h2, h3⟩
    dsimp only at h1 h2 h3
    subst h1
    refine Or.inl ?_
    simp only [Mo_keeps_L10, if_neg (show ¬ (867 : Int32) ≤ nI k from nI_ge (b := 867) hk (by decide)), show nI k + 289 = nI (k + 289) from nI_add k 289, gk_n (show k + 289 < 1156 by omega) (by decide), gk_n (show k < 1156 by omega) (by decide), nI_clamp (show k + 289 < 2 ^ 31 by omega), nI_clamp (show k < 2 ^ 31 by omega), nI_1]
    refine ⟨_, rfl, rfl, fun j hj => ?_, fun j hj => ?_⟩
    · dsimp only
      by_cases e : j = k
      · rw [e, pk_us, h3 _ (by omega)]
      · rw [pk_un e, h2 j (by omega)]
    · dsimp only
      rw [pk_un (by omega), h3 j (by omega)]
  · rintro ⟨v, w⟩ ⟨h1, h2, h3⟩
    dsimp only at h1 h2 h3
    subst h1
    refine ⟨w, ?_, h2⟩
    simp only [Mo_keeps_L10, if_pos (show (867 : Int32) ≤ nI 867 by decide)]
theorem K_b {c : Nat} (hc : c ≤ 3) (now was : Nat → Int32) : ∃ w, it (Mo_keeps_L51 now (nI c)) 4096 (0, was) = some w ∧ ((∀ j, j < 289 → w (289 * c + j) = now j) ∧ ∀ j, j < 289 * c → w j = was j) := by
  refine it_inv (F := 4096) (fun (k : Nat) (s : Int32 × (Nat → Int32)) => s.1 = nI k ∧ (∀ j, j < k → s.2 (289 * c + j) = now j) ∧ ∀ j, j < 289 * c → s.2 j = was j) (fun (w : Nat → Int32) => (∀ j, j < 289 → w (289 * c + j) = now j) ∧ ∀ j, j < 289 * c → w j = was j) 289 ?_ ?_ ⟨rfl, fun j hj => absurd hj (Nat.not_lt_zero _), fun _ _ => rfl⟩ (by omega)
  · rintro k ⟨v, w⟩ hk ⟨h1, h2, h3⟩
    dsimp only at h1 h2 h3
    subst h1
    refine Or.inl ?_
    simp only [Mo_keeps_L51, if_neg (show ¬ (289 : Int32) ≤ nI k from nI_ge (b := 289) hk (by decide)), show (289 : Int32) * nI c + nI k = nI (289 * c + k) by rw [show (289 : Int32) = nI 289 from rfl, pk_mul, nI_add], gk_n (show k < 289 by omega) (by decide), gk_n (show 289 * c + k < 1156 by omega) (by decide), nI_clamp (show 289 * c + k < 2 ^ 31 by omega), nI_clamp (show k < 2 ^ 31 by omega), nI_1]
    refine ⟨_, rfl, rfl, fun j hj => ?_, fun j hj => ?_⟩
    · dsimp only
      by_cases e : j = k
      · rw [e, pk_us]
      · rw [pk_un (by omega), h2 j (by omega)]
    · dsimp only
      rw [pk_un (by omega), h3 j (by omega)]
  · rintro ⟨v, w⟩ ⟨h1, h2, h3⟩
    dsimp only at h1 h2 h3
    subst h1
    refine ⟨w, ?_, h2, h3⟩
    simp only [Mo_keeps_L51, if_pos (show (289 : Int32) ≤ nI 289 by decide)]
/-- how many are kept then -/
def up4 (c : Nat) : Nat := if c = 4 then 4 else c + 1
theorem PS_push {n M c nx : Nat} {Q : Nat → St → St → Prop} {was now : Nat → Int32} {s : St} (h : PS n M Q was c nx s) (hnx : nx < 4) (hc : c ≤ 4) (hN : okN now s) (hW : WF n M s.1 s.2.1) : ∃ was', Mo_keeps (nI c) now was = some (nI (up4 c), was') ∧ ∀ (Q' : Nat → St → St → Prop) (s' : St), (∀ q, q < 4 → q ≠ nx → ∀ a b, Q q a b → Q' q a b) → Q' nx s' s → PS n M Q' was' (up4 c) ((nx + 1) % 4) s' := by
  have fin : ∀ (c1 : Nat) (w1 w2 : Nat → Int32), c1 ≤ 3 → PS n M Q w1 c1 nx s → (∀ j, j < 289 → w2 (289 * c1 + j) = now j) → (∀ j, j < 289 * c1 → w2 j = w1 j) → ∀ (Q' : Nat → St → St → Prop) (s' : St), (∀ q, q < 4 → q ≠ nx → ∀ a b, Q q a b → Q' q a b) → Q' nx s' s → PS n M Q' w2 (c1 + 1) ((nx + 1) % 4) s' := by
    intro c1 w1 w2 h1 h2 h3 h4 Q' s' h5 h6
    have e : ((nx + 1) % 4 + 3) % 4 = nx := by omega
    refine ⟨s, okN_c hN h3, hW, ?_, ?_⟩
    · rw [e]
      exact h6
    · rw [e]
      exact PS_congr hnx h5 c1 0 nx s (by omega) (by omega) h4 h2
  unfold Mo_keeps up4
  by_cases e : c = 4
  · subst e
    obtain ⟨w1, h1, h2⟩ := K_a was
    obtain ⟨w2, h3, h4, h5⟩ := K_b (c := 3) (by decide) now w1
    rw [if_pos (show nI 4 = 4 from rfl), h1]
    simp only [Option.bind_some]
    rw [show nI 4 - 1 = nI 3 from rfl, h3]
    refine ⟨w2, rfl, ?_⟩
    exact fin 3 (fun j => was (j + 289)) w2 (by decide) (PS_drop 3 nx s h) h4 (fun j hj => by rw [h5 j hj, h2 j (by omega)])
  · obtain ⟨w2, h3, h4, h5⟩ := K_b (c := c) (by omega) now was
    rw [if_neg (show ¬ nI c = 4 by rw [show (4 : Int32) = nI 4 from rfl, nI_eq (by omega) (by omega)]; exact e), Option.bind_some]
    simp only [h3, Option.bind_some, nI_1]
    refine ⟨w2, by rw [if_neg e], ?_⟩
    rw [if_neg e]
    exact fin c was w2 (by omega) h h4 h5
/-! one change -/
def agL (a b : St) : Prop := ∀ k, k < 256 → a.1 k = b.1 k
def agT (a b : St) : Prop := ∀ i, i < 16 → a.2.1 i = b.2.1 i ∧ a.2.2.1 i = b.2.2.1 i
def Chg (n : Nat) (k i j l w d f z : Int32) (s s1 : St) : Prop :=
  (k = 0 ∧ agT s s1 ∧ s.2.2.2 = s1.2.2.2 ∧ ∃ a b, a < n ∧ b < n ∧ a ≠ b ∧ i = nI a ∧ j = nI b ∧ l = nI (s1.1 (16 * a + b)) ∧ ∀ q, q < 256 → q ≠ 16 * a + b → q ≠ 16 * b + a → s.1 q = s1.1 q) ∨
  (k = 2 ∧ agL s s1 ∧ agT s s1 ∧ z = s1.2.2.2) ∨
  (k = 1 ∧ agL s s1 ∧ s.2.2.2 = s1.2.2.2 ∧ ∃ a, a < n ∧ i = nI a ∧ w = (if s1.2.1 a = 0 then 0 else 1) ∧ (s1.2.1 a ≠ 0 → d = nI (s1.2.1 a - 1) ∧ f = s1.2.2.1 a) ∧ ∀ b, b < 16 → b ≠ a → s.2.1 b = s1.2.1 b ∧ s.2.2.1 b = s1.2.2.1 b)
theorem sm2_one {g h : Nat → Nat} {k : Nat} : ∀ n, k < n → (∀ i, i < n → i ≠ k → g i = h i) → sm2 g n + h k = sm2 h n + g k := by
  intro n
  induction n with
  | zero => intro h1; omega
  | succ n ih =>
    intro h1 h2
    simp only [sm2]
    by_cases e : k = n
    · subst e
      rw [sm2_congr k (fun i hi => h2 i (by omega) (by omega))]
      omega
    · have h3 := ih (by omega) (fun i hi => h2 i (by omega))
      have h4 := h2 n (by omega) (fun q => e q.symm)
      omega
theorem cnt_one {p q : Nat → Bool} {k : Nat} {n : Nat} (h1 : k < n) (h2 : ∀ i, i < n → i ≠ k → p i = q i) : cnt p n + (if q k = true then 1 else 0) = cnt q n + (if p k = true then 1 else 0) := by
  rw [cnt_sm2, cnt_sm2]
  exact sm2_one (g := fun j => if p j = true then 1 else 0) (h := fun j => if q j = true then 1 else 0) n h1 (fun i hi hk => by rw [h2 i hi hk])
theorem nlk_key {L L' : Nat → Nat} {a b : Nat} (ha : a < 16) (hb : b < a) (h : ∀ q, q < 256 → q ≠ 16 * a + b → q ≠ 16 * b + a → L' q = L q) : nlk L' 16 + (if L (16 * a + b) ≠ 0 then 1 else 0) = nlk L 16 + (if L' (16 * a + b) ≠ 0 then 1 else 0) := by
  have h1 := sm2_one (g := fun i => cnt (fun j => decide (L' (16 * i + j) ≠ 0)) i) (h := fun i => cnt (fun j => decide (L (16 * i + j) ≠ 0)) i) (k := a) 16 ha (fun i hi hk => cnt_congr i (fun j hj => by rw [h (16 * i + j) (by omega) (by omega) (by omega)]))
  have h2 := cnt_one (p := fun j => decide (L' (16 * a + j) ≠ 0)) (q := fun j => decide (L (16 * a + j) ≠ 0)) (k := b) (n := a) hb (fun j hj hk => by rw [h (16 * a + j) (by omega) (by omega) (by omega)])
  simp only [decide_eq_true_eq] at h2
  unfold nlk
  omega
theorem nlk_set {L L' : Nat → Nat} {a b : Nat} (ha : a < 16) (hb : b < 16) (hab : a ≠ b) (hs : sym L) (hs' : sym L') (h : ∀ q, q < 256 → q ≠ 16 * a + b → q ≠ 16 * b + a → L' q = L q) : nlk L' 16 + (if L (16 * a + b) ≠ 0 then 1 else 0) = nlk L 16 + (if L' (16 * a + b) ≠ 0 then 1 else 0) := by
  by_cases e : b < a
  · exact nlk_key ha e h
  · rw [hs a b ha hb, hs' a b ha hb]
    exact nlk_key hb (by omega) (fun q h1 h2 h3 => h q h1 h3 h2)
theorem nlk_c {L L' : Nat → Nat} (h : ∀ q, q < 256 → L' q = L q) : nlk L' 16 = nlk L 16 := sm2_congr 16 (fun i hi => cnt_congr i (fun j hj => by rw [h (16 * i + j) (by omega)]))
theorem Pl_setL {L L' : Nat → Nat} {a b : Nat} (ha : a < 16) (hb : b < 16) (hab : a ≠ b) (hs : sym L) (hs' : sym L') (h : ∀ q, q < 256 → q ≠ 16 * a + b → q ≠ 16 * b + a → L' q = L q) (h9 : L' (16 * a + b) ≤ 9) {ln : Nat → Int32} (hL : okL ln L) : ∃ ln', Pl_setLength (nI (nlk L 16)) ln (nI a) (nI b) (nI (L' (16 * a + b))) = some (nI (nlk L' 16), ln') ∧ okL ln' L' := by
  have h1 := nlk_set ha hb hab hs hs' h
  have l1 := hL (16 * a + b) (by omega)
  refine ⟨upd (upd ln (16 * a + b) (nI (L' (16 * a + b)))) (16 * b + a) (nI (L' (16 * a + b))), ?_, ?_⟩
  · simp only [Pl_setLength, Pl_len ha hb, Option.bind_some, l1.1, ix_a, gk_n (show 16 * a + b < 256 by omega) (by decide), gk_n (show 16 * b + a < 256 by omega) (by decide), nI_clamp (show 16 * a + b < 2 ^ 31 by omega), nI_clamp (show 16 * b + a < 2 ^ 31 by omega)]
    by_cases e1 : L (16 * a + b) = 0
    · rw [if_neg (fun q => q e1)] at h1
      rw [if_pos (by rw [e1]; rfl), Option.bind_some]
      by_cases e2 : L' (16 * a + b) = 0
      · rw [if_neg (fun q => q e2)] at h1
        rw [if_pos (by rw [e2]; rfl), Option.bind_some, show nlk L' 16 = nlk L 16 by omega]
      · rw [if_pos e2] at h1
        rw [if_neg (nI_ne0 (by omega) (by omega)), Option.bind_some, nI_1, show nlk L' 16 = nlk L 16 + 1 by omega]
    · rw [if_pos e1] at h1
      rw [if_neg (nI_ne0 (by omega) (by omega)), Option.bind_some]
      by_cases e2 : L' (16 * a + b) = 0
      · rw [if_neg (fun q => q e2)] at h1
        rw [if_pos (by rw [e2]; rfl), Option.bind_some, show nI (nlk L 16) - 1 = nI (nlk L 16 - 1) from pk_sub (b := 1) (by omega), show nlk L' 16 = nlk L 16 - 1 by omega]
      · rw [if_pos e2] at h1
        rw [if_neg (nI_ne0 (by omega) (by omega)), Option.bind_some, Int32.sub_add_cancel, show nlk L' 16 = nlk L 16 by omega]
  · intro k hk
    by_cases e1 : k = 16 * b + a
    · have := hs' a b ha hb
      rw [e1, pk_us, ← this]
      exact ⟨rfl, h9⟩
    · rw [pk_un e1]
      by_cases e2 : k = 16 * a + b
      · rw [e2, pk_us]
        exact ⟨rfl, h9⟩
      · rw [pk_un e2, h k hk e2 e1]
        exact hL k hk
theorem Pl_unt {a : Nat} (ha : a < 16) (told dls frs : Nat → Int32) : Pl_untell told dls frs (nI a) = some (upd told a 0, upd dls a 0, upd frs a 0) := by
  simp only [Pl_untell, gk_n ha (show 16 < 2 ^ 31 by decide), nI_clamp (show a < 2 ^ 31 by omega)]
  rfl
theorem Pl_tel {a : Nat} (ha : a < 16) (told dls frs : Nat → Int32) (d f : Int32) : Pl_tell told dls frs (nI a) d f = some (upd told a 1, upd dls a d, upd frs a f) := by
  simp only [Pl_tell, gk_n ha (show 16 < 2 ^ 31 by decide), nI_clamp (show a < 2 ^ 31 by omega)]
  rfl
theorem okC_unt {told dls frs : Nat → Int32} {t t1 : Nat → Nat} {f f1 : Nat → Int32} {a : Nat} (hC : okC told dls frs t f) (h : ∀ b, b < 16 → b ≠ a → t b = t1 b ∧ f b = f1 b) (h0 : t1 a = 0) : okC (upd told a 0) (upd dls a 0) (upd frs a 0) t1 f1 := by
  intro b hb
  by_cases e : b = a
  · subst e
    rw [pk_us, pk_us, pk_us, if_pos h0]
    exact ⟨rfl, fun _ => ⟨rfl, rfl⟩, fun q => absurd h0 q⟩
  · rw [pk_un e, pk_un e, pk_un e, ← (h b hb e).1, ← (h b hb e).2]
    exact hC b hb
theorem okC_tel {told dls frs : Nat → Int32} {t t1 : Nat → Nat} {f f1 : Nat → Int32} {a : Nat} (hC : okC told dls frs t f) (h : ∀ b, b < 16 → b ≠ a → t b = t1 b ∧ f b = f1 b) (h0 : t1 a ≠ 0) : okC (upd told a 1) (upd dls a (nI (t1 a - 1))) (upd frs a (f1 a)) t1 f1 := by
  intro b hb
  by_cases e : b = a
  · subst e
    rw [pk_us, pk_us, pk_us, if_neg h0]
    exact ⟨rfl, fun q => absurd q h0, fun _ => ⟨rfl, rfl⟩⟩
  · rw [pk_un e, pk_un e, pk_un e, ← (h b hb e).1, ← (h b hb e).2]
    exact hC b hb
theorem okC_c {told dls frs : Nat → Int32} {t t1 : Nat → Nat} {f f1 : Nat → Int32} (hC : okC told dls frs t f) (h : ∀ b, b < 16 → t b = t1 b ∧ f b = f1 b) : okC told dls frs t1 f1 := by
  intro b hb
  rw [← (h b hb).1, ← (h b hb).2]
  exact hC b hb
theorem okL_c {ln : Nat → Int32} {L L1 : Nat → Nat} (hL : okL ln L) (h : ∀ b, b < 256 → L b = L1 b) : okL ln L1 := by
  intro b hb
  rw [← h b hb]
  exact hL b hb
theorem Ch_back {n M : Nat} {s s1 : St} {k i j l w d f z : Int32} (hw : WF n M s.1 s.2.1) (hw1 : WF n M s1.1 s1.2.1) (h9 : ∀ k, k < 256 → s1.1 k ≤ 9) (hq : Chg n k i j l w d f z s s1) {ln told dls frs : Nat → Int32} (hL : okL ln s.1) (hC : okC told dls frs s.2.1 s.2.2.1) :
    ∃ ln' told' dls' frs', Ch_restore k i j l w d f z (nI (nlk s.1 16)) s.2.2.2 ln told dls frs = some (nI (nlk s1.1 16), s1.2.2.2, ln', told', dls', frs') ∧ okL ln' s1.1 ∧ okC told' dls' frs' s1.2.1 s1.2.2.1 := by
  have hn := hw.2.1
  unfold Ch_restore
  rcases hq with ⟨rfl, h1, h2, a, b, ha, hb, hab, rfl, rfl, rfl, h3⟩ | ⟨rfl, h1, h2, rfl⟩ | ⟨rfl, h1, h2, a, ha, rfl, h3, h4, h5⟩
  · obtain ⟨ln', g1, g2⟩ := Pl_setL (a := a) (b := b) (by omega) (by omega) hab hw.2.2.2.2.1 hw1.2.2.2.2.1 (fun q q1 q2 q3 => (h3 q q1 q2 q3).symm) (h9 _ (by omega)) hL
    rw [if_pos rfl, g1, h2]
    exact ⟨_, _, _, _, rfl, g2, okC_c hC h1⟩
  · rw [if_neg (by decide), if_pos rfl, nlk_c (fun q hq => h1 q hq)]
    exact ⟨_, _, _, _, rfl, okL_c hL h1, okC_c hC h2⟩
  · rw [if_neg (by decide), if_neg (by decide), h3, nlk_c (fun q hq => h1 q hq), h2]
    by_cases e : s1.2.1 a = 0
    · rw [if_pos e, if_pos rfl, Pl_unt (by omega)]
      exact ⟨_, _, _, _, rfl, okL_c hL h1, okC_unt hC h5 e⟩
    · rw [if_neg e, if_neg (by decide), Pl_tel (by omega), (h4 e).1, (h4 e).2]
      exact ⟨_, _, _, _, rfl, okL_c hL h1, okC_tel hC h5 e⟩
theorem Pt_fresh : ∀ nx, nx < 4 → ∀ c, c < 5 → Pt_freshChange (nI nx) (nI c) = some (nI nx, nI ((nx + 1) % 4), nI (up4 c)) := by
  decide +kernel
