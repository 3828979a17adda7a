/-! the calls that change what is told -/
theorem Pl_dBy {M a : Nat} (hM : M ≤ 30) (ha : a < 16) {T z : Int32} {told dls frs : Nat → Int32} {t : Nat → Nat} {f : Nat → Int32} (hC : okC told dls frs t f) : Pl_delayBy (nI M) T told dls z (nI a) = some (nI (Dz M T t z a)) := by
  obtain ⟨t1, -, t3⟩ := hC a ha
  simp only [Pl_delayBy, gk_n ha (show 16 < 2 ^ 31 by decide), nI_clamp (show a < 2 ^ 31 by omega), t1, Pl_dly hM, Option.bind_some]
  unfold Dz
  by_cases e : t a = 0
  · simp only [if_pos e]
    rfl
  · simp only [if_neg e]
    rw [if_neg (by decide), (t3 e).1]
theorem Pl_fBy {a : Nat} (ha : a < 16) {z : Int32} {told dls frs : Nat → Int32} {t : Nat → Nat} {f : Nat → Int32} (hC : okC told dls frs t f) : Pl_fractionBy told frs z (nI a) = some (Fz t f z a) := by
  obtain ⟨t1, -, t3⟩ := hC a ha
  simp only [Pl_fractionBy, gk_n ha (show 16 < 2 ^ 31 by decide), nI_clamp (show a < 2 ^ 31 by omega), t1, Pl_drw, Option.bind_some]
  unfold Fz
  by_cases e : t a = 0
  · simp only [if_pos e]
    rfl
  · simp only [if_neg e]
    rw [if_neg (by decide), (t3 e).2]
theorem Pl_isT {a : Nat} (ha : a < 16) {told dls frs : Nat → Int32} {t : Nat → Nat} {f : Nat → Int32} (hC : okC told dls frs t f) : Pl_isTold told (nI a) = some (if t a = 0 then 0 else 1) ∧ bz (if t a = 0 then 0 else 1) = true := by
  have hb : bz (if t a = 0 then 0 else 1) = true := by
    by_cases e : t a = 0
    · rw [if_pos e]
      rfl
    · rw [if_neg e]
      rfl
  refine ⟨?_, hb⟩
  simp only [Pl_isTold, gk_n ha (show 16 < 2 ^ 31 by decide), nI_clamp (show a < 2 ^ 31 by omega), (hC a ha).1]
  exact gd_t hb
theorem Pt_kl {nx c a b : Nat} (hnx : nx < 4) (hc : c ≤ 4) (ha : a < 16) (hb : b < 16) (hk hi hj hl ln : Nat → Int32) : Pt_keepLink (nI nx) (nI c) hk hi hj hl ln (nI a) (nI b) = some (nI ((nx + 1) % 4), nI (up4 c), upd hk nx 0, upd hi nx (nI a), upd hj nx (nI b), upd hl nx (ln (16 * a + b))) := by
  unfold Pt_keepLink
  rw [Pt_fresh nx hnx c (by omega)]
  simp only [Option.bind_some, Ch_rememberLink, Pl_len ha hb]
  rcases (show nx = 0 ∨ nx = 1 ∨ nx = 2 ∨ nx = 3 by omega) with rfl | rfl | rfl | rfl
  · rw [if_pos (show nI 0 = 0 from rfl)]
  · rw [if_neg (show ¬ nI 1 = 0 by decide), if_pos (show nI 1 = 1 from rfl)]
  · rw [if_neg (show ¬ nI 2 = 0 by decide), if_neg (show ¬ nI 2 = 1 by decide), if_pos (show nI 2 = 2 from rfl)]
  · rw [if_neg (show ¬ nI 3 = 0 by decide), if_neg (show ¬ nI 3 = 1 by decide), if_neg (show ¬ nI 3 = 2 by decide), if_pos (show nI 3 = 3 from rfl)]
theorem Pt_kz {nx c : Nat} (hnx : nx < 4) (hc : c ≤ 4) (hk hz : Nat → Int32) (z : Int32) : Pt_keepZ (nI nx) (nI c) hk hz z = some (nI ((nx + 1) % 4), nI (up4 c), upd hk nx 2, upd hz nx z) := by
  unfold Pt_keepZ
  rw [Pt_fresh nx hnx c (by omega)]
  simp only [Option.bind_some, Ch_rememberZ, Pl_z]
  rcases (show nx = 0 ∨ nx = 1 ∨ nx = 2 ∨ nx = 3 by omega) with rfl | rfl | rfl | rfl
  · rw [if_pos (show nI 0 = 0 from rfl)]
  · rw [if_neg (show ¬ nI 1 = 0 by decide), if_pos (show nI 1 = 1 from rfl)]
  · rw [if_neg (show ¬ nI 2 = 0 by decide), if_neg (show ¬ nI 2 = 1 by decide), if_pos (show nI 2 = 2 from rfl)]
  · rw [if_neg (show ¬ nI 3 = 0 by decide), if_neg (show ¬ nI 3 = 1 by decide), if_neg (show ¬ nI 3 = 2 by decide), if_pos (show nI 3 = 3 from rfl)]
theorem Pt_kd {nx c a M : Nat} (hnx : nx < 4) (hc : c ≤ 4) (ha : a < 16) (hM : M ≤ 30) {T z : Int32} {told dls frs : Nat → Int32} {t : Nat → Nat} {f : Nat → Int32} (hC : okC told dls frs t f) (hk hi hw hd hf : Nat → Int32) : Pt_keepDelay (nI nx) (nI c) hk hi hw hd hf (nI M) T z told dls frs (nI a) = some (nI ((nx + 1) % 4), nI (up4 c), upd hk nx 1, upd hi nx (nI a), upd hw nx (if t a = 0 then 0 else 1), upd hd nx (nI (Dz M T t z a)), upd hf nx (Fz t f z a)) := by
  obtain ⟨b1, b2⟩ := Pl_isT ha hC
  unfold Pt_keepDelay
  rw [Pt_fresh nx hnx c (by omega)]
  simp only [Option.bind_some, Ch_rememberDelay, Pl_z, Pl_dBy hM ha hC, Pl_fBy ha hC, b1, gd_t b2]
  rcases (show nx = 0 ∨ nx = 1 ∨ nx = 2 ∨ nx = 3 by omega) with rfl | rfl | rfl | rfl
  · rw [if_pos (show nI 0 = 0 from rfl)]
  · rw [if_neg (show ¬ nI 1 = 0 by decide), if_pos (show nI 1 = 1 from rfl)]
  · rw [if_neg (show ¬ nI 2 = 0 by decide), if_neg (show ¬ nI 2 = 1 by decide), if_pos (show nI 2 = 2 from rfl)]
  · rw [if_neg (show ¬ nI 3 = 0 by decide), if_neg (show ¬ nI 3 = 1 by decide), if_neg (show ¬ nI 3 = 2 by decide), if_pos (show nI 3 = 3 from rfl)]
theorem Pt_tb {nx c : Nat} (hnx : nx < 4) (hc0 : 0 < c) (hc : c ≤ 4) (hk hi hj hl hw hd hf hz : Nat → Int32) (links z : Int32) (ln told dls frs : Nat → Int32) : Pt_takeBack (nI nx) (nI c) hk hi hj hl hw hd hf hz links z ln told dls frs = Option.bind (Ch_restore (hk ((nx + 3) % 4)) (hi ((nx + 3) % 4)) (hj ((nx + 3) % 4)) (hl ((nx + 3) % 4)) (hw ((nx + 3) % 4)) (hd ((nx + 3) % 4)) (hf ((nx + 3) % 4)) (hz ((nx + 3) % 4)) links z ln told dls frs) (fun (x1, x2, x3, x4, x5, x6) => some (nI ((nx + 3) % 4), nI (c - 1), x1, x2, x3, x4, x5, x6)) := by
  have e1 : nI c - 1 = nI (c - 1) := pk_sub (a := c) (b := 1) hc0
  unfold Pt_takeBack
  rw [if_neg (nI_nle hc0 (by omega)), e1]
  rcases (show nx = 0 ∨ nx = 1 ∨ nx = 2 ∨ nx = 3 by omega) with rfl | rfl | rfl | rfl
  · rw [if_neg (show ¬ ((nI 0 + 4) - 1) - ((nI 0 + 4) - 1) / 4 * 4 = 0 by decide), if_neg (show ¬ ((nI 0 + 4) - 1) - ((nI 0 + 4) - 1) / 4 * 4 = 1 by decide), if_neg (show ¬ ((nI 0 + 4) - 1) - ((nI 0 + 4) - 1) / 4 * 4 = 2 by decide), if_pos (show ((nI 0 + 4) - 1) - ((nI 0 + 4) - 1) / 4 * 4 = 3 by decide)]
    rfl
  · rw [if_pos (show ((nI 1 + 4) - 1) - ((nI 1 + 4) - 1) / 4 * 4 = 0 by decide)]
    rfl
  · rw [if_neg (show ¬ ((nI 2 + 4) - 1) - ((nI 2 + 4) - 1) / 4 * 4 = 0 by decide), if_pos (show ((nI 2 + 4) - 1) - ((nI 2 + 4) - 1) / 4 * 4 = 1 by decide)]
    rfl
  · rw [if_neg (show ¬ ((nI 3 + 4) - 1) - ((nI 3 + 4) - 1) / 4 * 4 = 0 by decide), if_neg (show ¬ ((nI 3 + 4) - 1) - ((nI 3 + 4) - 1) / 4 * 4 = 1 by decide), if_pos (show ((nI 3 + 4) - 1) - ((nI 3 + 4) - 1) / 4 * 4 = 2 by decide)]
    rfl
theorem D_settleAll {n M : Nat} {T z : Int32} {L t : Nat → Nat} {f : Nat → Int32} (hw : WF n M L t) {ln told dls frs : Nat → Int32} (hL : okL ln L) (hC : okC told dls frs t f) (pa : Nat → Int32) (g : Int32) (dl fr hd : Nat → Int32) : ∃ pa' g' dl' fr' hd', Dc_settleAll (nI n) (nI M) T z ln told dls frs pa g dl fr hd = some (pa', g', dl', fr', hd') ∧ CX n (Dz M T t z) (Fz t f z) L pa' ln g' dl' fr' hd' := by
  obtain ⟨pa', h1, h2⟩ := PW hw.2.1 hL pa
  obtain ⟨g', dl', fr', hd', h3, h4⟩ := Cl_set (z := z) (T := T) hw.2.1 hw.2.2.2.1 hL hw.2.2.2.2.2.2.2.1 hC h2 g dl fr hd
  refine ⟨pa', g', dl', fr', hd', ?_, h4⟩
  unfold Dc_settleAll
  rw [h1]
  simp only [Option.bind_some, Pl_z, h3]
/-- the links, one changed -/
def setL (L : Nat → Nat) (a b k : Nat) : Nat → Nat := fun q => if q = 16 * a + b ∨ q = 16 * b + a then k else L q
theorem setL_at (L : Nat → Nat) (a b k : Nat) : setL L a b k (16 * a + b) = k := if_pos (Or.inl rfl)
theorem setL_un {L : Nat → Nat} {a b k q : Nat} (h1 : q ≠ 16 * a + b) (h2 : q ≠ 16 * b + a) : setL L a b k q = L q := if_neg (fun h => h.elim h1 h2)
theorem setL_sym {L : Nat → Nat} {a b k : Nat} (ha : a < 16) (hb : b < 16) (h : sym L) : sym (setL L a b k) := by
  intro i j hi hj
  unfold setL
  by_cases e : 16 * i + j = 16 * a + b ∨ 16 * i + j = 16 * b + a
  · rw [if_pos e, if_pos (by omega)]
  · rw [if_neg e, if_neg (by omega), h i j hi hj]
theorem WF_set {n M a b k : Nat} {L t : Nat → Nat} (hw : WF n M L t) (ha : a < n) (hb : b < n) (hab : a ≠ b) (h40 : nlk (setL L a b k) 16 ≤ 40) : WF n M (setL L a b k) t := by
  obtain ⟨h1, h2, h3, h4, h5, h6, h7, h8, -⟩ := hw
  refine ⟨h1, h2, h3, h4, setL_sym (by omega) (by omega) h5, fun i hi => ?_, fun i j hi hj hn => ?_, h8, h40⟩
  · rw [setL_un (by omega) (by omega)]
    exact h6 i hi
  · rw [setL_un (by omega) (by omega)]
    exact h7 i j hi hj hn
theorem okL_set {now : Nat → Int32} {L : Nat → Nat} {a b k : Nat} (hk : k ≤ 9) (h : okL now L) : okL (upd (upd now (16 * a + b) (nI k)) (16 * b + a) (nI k)) (setL L a b k) := by
  intro q hq
  unfold setL
  by_cases e1 : q = 16 * b + a
  · rw [e1, pk_us, if_pos (Or.inr rfl)]
    exact ⟨rfl, hk⟩
  · rw [pk_un e1]
    by_cases e2 : q = 16 * a + b
    · rw [e2, pk_us, if_pos (Or.inl rfl)]
      exact ⟨rfl, hk⟩
    · rw [pk_un e2, if_neg (fun h => h.elim e2 e1)]
      exact h q hq
theorem Mo_put {now : Nat → Int32} {a b : Nat} (ha : a < 16) (hb : b < 16) (x : Int32) : Mo_puts now (nI a) (nI b) x = some (upd (upd now (16 * a + b) x) (16 * b + a) x) := by
  simp only [Mo_puts, ix_b, gk_n (show 16 * a + b < 289 by omega) (by decide), gk_n (show 16 * b + a < 289 by omega) (by decide), nI_clamp (show 16 * a + b < 2 ^ 31 by omega), nI_clamp (show 16 * b + a < 2 ^ 31 by omega)]
/-- all that a call can tell of the plan and of what can be undone -/
def PQ (n M : Nat) (T : Int32) (s : St) (c nx : Nat) (pl_places : Int32) (pl_links : Int32) (pl_mostDrawn : Int32) (pl_ofTen : Int32) (pl_z : Int32) (pl_lengths : Nat → Int32) (pl_told : Nat → Int32) (pl_delays : Nat → Int32) (pl_fractions : Nat → Int32) (pa_sums : Nat → Int32) (pr_greatestDelay : Int32) (pr_delays : Nat → Int32) (pr_fractions : Nat → Int32) (pr_heads : Nat → Int32) (m_places : Int32) (m_most : Int32) (m_tenths : Int32) (m_now : Nat → Int32) (pt_next : Int32) (pt_kept : Int32) (hk_kind : Nat → Int32) (hk_i : Nat → Int32) (hk_j : Nat → Int32) (hk_length : Nat → Int32) (hk_wasTold : Nat → Int32) (hk_d : Nat → Int32) (hk_f : Nat → Int32) (hk_z : Nat → Int32) (m_changes : Int32) (m_was : Nat → Int32) : Prop :=
  QR n M T s.2.2.2 s.1 s.2.1 s.2.2.1 pl_places pl_links pl_mostDrawn pl_ofTen pl_z pl_lengths pl_told pl_delays pl_fractions pa_sums pr_greatestDelay pr_delays pr_fractions pr_heads m_places m_most m_tenths m_now ∧ nx < 4 ∧ c ≤ 4 ∧ pt_next = nI nx ∧ pt_kept = nI c ∧ m_changes = nI c ∧ PS n M (fun q => Chg n (hk_kind q) (hk_i q) (hk_j q) (hk_length q) (hk_wasTold q) (hk_d q) (hk_f q) (hk_z q)) m_was c nx s
def PR (pl_places : Int32) (pl_links : Int32) (pl_mostDrawn : Int32) (pl_ofTen : Int32) (pl_z : Int32) (pl_lengths : Nat → Int32) (pl_told : Nat → Int32) (pl_delays : Nat → Int32) (pl_fractions : Nat → Int32) (pa_sums : Nat → Int32) (pr_greatestDelay : Int32) (pr_delays : Nat → Int32) (pr_fractions : Nat → Int32) (pr_heads : Nat → Int32) (m_places : Int32) (m_most : Int32) (m_tenths : Int32) (m_now : Nat → Int32) (pt_next : Int32) (pt_kept : Int32) (hk_kind : Nat → Int32) (hk_i : Nat → Int32) (hk_j : Nat → Int32) (hk_length : Nat → Int32) (hk_wasTold : Nat → Int32) (hk_d : Nat → Int32) (hk_f : Nat → Int32) (hk_z : Nat → Int32) (m_changes : Int32) (m_was : Nat → Int32) : Prop := ∃ n M T s c nx, PQ n M T s c nx pl_places pl_links pl_mostDrawn pl_ofTen pl_z pl_lengths pl_told pl_delays pl_fractions pa_sums pr_greatestDelay pr_delays pr_fractions pr_heads m_places m_most m_tenths m_now pt_next pt_kept hk_kind hk_i hk_j hk_length hk_wasTold hk_d hk_f hk_z m_changes m_was
theorem X_change {n M : Nat} {T : Int32} {s : St} {c nx : Nat} {pl_places : Int32} {pl_links : Int32} {pl_mostDrawn : Int32} {pl_ofTen : Int32} {pl_z : Int32} {pl_lengths : Nat → Int32} {pl_told : Nat → Int32} {pl_delays : Nat → Int32} {pl_fractions : Nat → Int32} {pa_sums : Nat → Int32} {pr_greatestDelay : Int32} {pr_delays : Nat → Int32} {pr_fractions : Nat → Int32} {pr_heads : Nat → Int32} {m_places : Int32} {m_most : Int32} {m_tenths : Int32} {m_now : Nat → Int32} {pt_next : Int32} {pt_kept : Int32} {hk_kind : Nat → Int32} {hk_i : Nat → Int32} {hk_j : Nat → Int32} {hk_length : Nat → Int32} {hk_wasTold : Nat → Int32} {hk_d : Nat → Int32} {hk_f : Nat → Int32} {hk_z : Nat → Int32} {m_changes : Int32} {m_was : Nat → Int32} (h : PQ n M T s c nx pl_places pl_links pl_mostDrawn pl_ofTen pl_z pl_lengths pl_told pl_delays pl_fractions pa_sums pr_greatestDelay pr_delays pr_fractions pr_heads m_places m_most m_tenths m_now pt_next pt_kept hk_kind hk_i hk_j hk_length hk_wasTold hk_d hk_f hk_z m_changes m_was) {i j k : Nat} (hi : i < n) (hj : j < n) (hij : i ≠ j) (hk : k ≤ 9) (h40 : nlk (setL s.1 i j k) 16 ≤ 40) :
    ∃ ln pa g dl fr hd kk ki kj kl was now, Dc_changeLength pl_places pl_links pl_mostDrawn pl_ofTen pl_z pl_lengths pl_told pl_delays pl_fractions pa_sums pr_greatestDelay pr_delays pr_fractions pr_heads pt_next pt_kept hk_kind hk_i hk_j hk_length (nI i) (nI j) (nI k) = some (nI (nlk (setL s.1 i j k) 16), ln, pa, g, dl, fr, hd, nI ((nx + 1) % 4), nI (up4 c), kk, ki, kj, kl) ∧ Mo_keeps m_changes m_now m_was = some (nI (up4 c), was) ∧ Mo_puts m_now (nI i) (nI j) (nI k) = some now ∧ okL now (setL s.1 i j k) ∧ PR pl_places (nI (nlk (setL s.1 i j k) 16)) pl_mostDrawn pl_ofTen pl_z ln pl_told pl_delays pl_fractions pa g dl fr hd m_places m_most m_tenths now (nI ((nx + 1) % 4)) (nI (up4 c)) kk ki kj kl hk_wasTold hk_d hk_f hk_z (nI (up4 c)) was := by
  obtain ⟨hQ, hnx, hc, e1, e2, e3, hP⟩ := id h
  obtain ⟨hw, ⟨f1, f2, f3, f4, f5, hLc, hC⟩, hX, f6, f7, f8, hL, hT, h288⟩ := hQ
  subst e1 e2 e3 f1 f2 f3 f4 f5 f6 f7 f8
  have hn := hw.2.1
  have hw2 := WF_set hw hi hj hij h40
  obtain ⟨was, p1, p2⟩ := PS_push hP hnx hc ⟨hL, hT, h288⟩ hw
  have hl1 := Pl_setL (a := i) (b := j) (L' := setL s.1 i j k) (by omega) (by omega) hij hw.2.2.2.2.1 hw2.2.2.2.2.1 (fun q _ q1 q2 => setL_un q1 q2) (by rw [setL_at]; exact hk) hLc
  rw [setL_at] at hl1
  obtain ⟨ln, l1, l2⟩ := hl1
  obtain ⟨pa, g, dl, fr, hd, d1, d2⟩ := D_settleAll (z := s.2.2.2) (T := m_tenths) hw2 l2 hC pa_sums pr_greatestDelay pr_delays pr_fractions pr_heads
  refine ⟨ln, pa, g, dl, fr, hd, upd hk_kind nx 0, upd hk_i nx (nI i), upd hk_j nx (nI j), upd hk_length nx (pl_lengths (16 * i + j)), was, upd (upd m_now (16 * i + j) (nI k)) (16 * j + i) (nI k), ?_, p1, Mo_put (by omega) (by omega) _, okL_set hk hL, n, M, m_tenths, (setL s.1 i j k, s.2.1, s.2.2.1, s.2.2.2), up4 c, (nx + 1) % 4, ?_, by omega, ?_, rfl, rfl, rfl, p2 _ _ ?_ ?_⟩
  · unfold Dc_changeLength
    rw [Pt_kl hnx hc (by omega) (by omega)]
    simp only [Option.bind_some, l1, d1]
  · refine ⟨hw2, ⟨rfl, rfl, rfl, rfl, rfl, l2, hC⟩, d2, rfl, rfl, rfl, okL_set hk hL, fun b hb => ?_, ?_⟩
    · rw [pk_un (by omega), pk_un (by omega), pk_un (by omega), pk_un (by omega)]
      exact hT b hb
    · rw [pk_un (by omega), pk_un (by omega)]
      exact h288
  · unfold up4
    split <;> omega
  · intro q hq hne a b hab
    try dsimp only
    rw [pk_un hne, pk_un hne, pk_un hne, pk_un hne]
    exact hab
  · try dsimp only
    rw [pk_us, pk_us, pk_us, pk_us]
    refine Or.inl ⟨rfl, fun _ _ => ⟨rfl, rfl⟩, rfl, i, j, hi, hj, hij, rfl, rfl, (hLc _ (by omega)).1, fun q _ q1 q2 => setL_un q1 q2⟩
theorem X_link {pl_places : Int32} {pl_links : Int32} {pl_mostDrawn : Int32} {pl_ofTen : Int32} {pl_z : Int32} {pl_lengths : Nat → Int32} {pl_told : Nat → Int32} {pl_delays : Nat → Int32} {pl_fractions : Nat → Int32} {pa_sums : Nat → Int32} {pr_greatestDelay : Int32} {pr_delays : Nat → Int32} {pr_fractions : Nat → Int32} {pr_heads : Nat → Int32} {m_places : Int32} {m_most : Int32} {m_tenths : Int32} {m_now : Nat → Int32} {pt_next : Int32} {pt_kept : Int32} {hk_kind : Nat → Int32} {hk_i : Nat → Int32} {hk_j : Nat → Int32} {hk_length : Nat → Int32} {hk_wasTold : Nat → Int32} {hk_d : Nat → Int32} {hk_f : Nat → Int32} {hk_z : Nat → Int32} {m_changes : Int32} {m_was : Nat → Int32} (h0 : PR pl_places pl_links pl_mostDrawn pl_ofTen pl_z pl_lengths pl_told pl_delays pl_fractions pa_sums pr_greatestDelay pr_delays pr_fractions pr_heads m_places m_most m_tenths m_now pt_next pt_kept hk_kind hk_i hk_j hk_length hk_wasTold hk_d hk_f hk_z m_changes m_was) (a b d : Int32) : ∃ r lk ln pa g dl fr hd px pk kk ki kj kl ch now was, Dc_link pl_places pl_links pl_mostDrawn pl_ofTen pl_z pl_lengths pl_told pl_delays pl_fractions pa_sums pr_greatestDelay pr_delays pr_fractions pr_heads pt_next pt_kept hk_kind hk_i hk_j hk_length a b d = some (r, lk, ln, pa, g, dl, fr, hd, px, pk, kk, ki, kj, kl) ∧ Mo_link m_places m_changes m_now m_was a b d = some (r, ch, now, was) ∧ PR pl_places lk pl_mostDrawn pl_ofTen pl_z ln pl_told pl_delays pl_fractions pa g dl fr hd m_places m_most m_tenths now px pk kk ki kj kl hk_wasTold hk_d hk_f hk_z ch was := by
  obtain ⟨n, M, T, s, c, nx, h⟩ := id h0
  obtain ⟨hQ, hnx, hc, e1, e2, e3, hP⟩ := id h
  obtain ⟨hw, ⟨f1, f2, f3, f4, f5, hLc, hC⟩, hX, f6, f7, f8, hL, hT, h288⟩ := hQ
  subst e1 e2 e3 f1 f2 f3 f4 f5 f6 f7 f8
  have hn := hw.2.1
  unfold Dc_link Mo_link
  rw [Pl_is2 hw.1 hn, Dc_wi]
  rcases is2 hw.1 hn a b with h2 | ⟨i, j, hi, hj, hij, rfl, rfl, h2⟩
  · rw [h2]
    exact ⟨_, _, _, _, _, _, _, _, _, _, _, _, _, _, _, _, _, rfl, rfl, h0⟩
  · rw [h2]
    simp only [Option.bind_some, if_neg (show ¬ (1 : Int32) = 0 by decide)]
    rcases isIn_cases d (lo := 1) (hi := 9) (by decide) (by decide) with ⟨h3, -⟩ | ⟨k, hk1, hk, rfl, h3⟩
    · rw [show Mo_isIn d 1 9 = some 0 from h3]
      exact ⟨_, _, _, _, _, _, _, _, _, _, _, _, _, _, _, _, _, rfl, rfl, h0⟩
    · rw [show Mo_isIn (nI k) 1 9 = some 1 from h3]
      have l1 := hLc (16 * i + j) (by omega)
      have l2 := hL (16 * i + j) (by omega)
      simp only [Option.bind_some, if_neg (show ¬ (1 : Int32) = 0 by decide), Pl_len (show i < 16 by omega) (show j < 16 by omega), ix_b, gk_n (show 16 * i + j < 289 by omega) (by decide), nI_clamp (show 16 * i + j < 2 ^ 31 by omega), l1.1, l2.1, Pl_links, M_linksOf hL, nI_eq (show s.1 (16 * i + j) < 2 ^ 31 by omega) (show k < 2 ^ 31 by omega)]
      by_cases e0 : s.1 (16 * i + j) = k
      · rw [if_pos e0, if_pos e0]
        exact ⟨_, _, _, _, _, _, _, _, _, _, _, _, _, _, _, _, _, rfl, rfl, h0⟩
      · rw [if_neg e0, if_neg e0]
        have hs := nlk_set (L := s.1) (L' := setL s.1 i j k) (a := i) (b := j) (by omega) (by omega) hij hw.2.2.2.2.1 (setL_sym (by omega) (by omega) hw.2.2.2.2.1) (fun q _ q1 q2 => setL_un q1 q2)
        rw [setL_at, if_pos (show k ≠ 0 by omega)] at hs
        have h40 := hw.2.2.2.2.2.2.2.2
        have fin : nlk (setL s.1 i j k) 16 ≤ 40 → _ := fun q => X_change h hi hj hij hk q
        by_cases e1 : s.1 (16 * i + j) = 0
        · rw [if_neg (fun q => q e1)] at hs
          rw [if_pos (show nI (s.1 (16 * i + j)) = 0 by rw [e1]; rfl), if_pos (show nI (s.1 (16 * i + j)) = 0 by rw [e1]; rfl)]
          by_cases e2 : nlk s.1 16 < 40
          · rw [if_pos (show nI (nlk s.1 16) < 40 from nI_lt (b := 40) e2 (by decide)), if_neg (show ¬ nI (nlk s.1 16) = 40 by rw [show (40 : Int32) = nI 40 from rfl, nI_eq (by omega) (by omega)]; omega)]
            obtain ⟨ln, pa, g, dl, fr, hd, kk, ki, kj, kl, was, now, g1, g2, g3, g4, g5⟩ := fin (by omega)
            simp only [Option.bind_some, g1, g2, g3, M_linksOf g4]
            exact ⟨_, _, _, _, _, _, _, _, _, _, _, _, _, _, _, _, _, rfl, rfl, g5⟩
          · rw [if_neg (show ¬ nI (nlk s.1 16) < 40 from nI_nlt (b := 40) (by omega) (by omega)), if_pos (show nI (nlk s.1 16) = 40 by rw [show nlk s.1 16 = 40 by omega]; rfl)]
            exact ⟨_, _, _, _, _, _, _, _, _, _, _, _, _, _, _, _, _, rfl, rfl, h0⟩
        · rw [if_pos e1] at hs
          rw [if_neg (nI_ne0 (by omega) (by omega)), if_neg (nI_ne0 (by omega) (by omega))]
          obtain ⟨ln, pa, g, dl, fr, hd, kk, ki, kj, kl, was, now, g1, g2, g3, g4, g5⟩ := fin (by omega)
          simp only [Option.bind_some, g1, g2, g3, M_linksOf g4]
          exact ⟨_, _, _, _, _, _, _, _, _, _, _, _, _, _, _, _, _, rfl, rfl, g5⟩
theorem X_unlink {pl_places : Int32} {pl_links : Int32} {pl_mostDrawn : Int32} {pl_ofTen : Int32} {pl_z : Int32} {pl_lengths : Nat → Int32} {pl_told : Nat → Int32} {pl_delays : Nat → Int32} {pl_fractions : Nat → Int32} {pa_sums : Nat → Int32} {pr_greatestDelay : Int32} {pr_delays : Nat → Int32} {pr_fractions : Nat → Int32} {pr_heads : Nat → Int32} {m_places : Int32} {m_most : Int32} {m_tenths : Int32} {m_now : Nat → Int32} {pt_next : Int32} {pt_kept : Int32} {hk_kind : Nat → Int32} {hk_i : Nat → Int32} {hk_j : Nat → Int32} {hk_length : Nat → Int32} {hk_wasTold : Nat → Int32} {hk_d : Nat → Int32} {hk_f : Nat → Int32} {hk_z : Nat → Int32} {m_changes : Int32} {m_was : Nat → Int32} (h0 : PR pl_places pl_links pl_mostDrawn pl_ofTen pl_z pl_lengths pl_told pl_delays pl_fractions pa_sums pr_greatestDelay pr_delays pr_fractions pr_heads m_places m_most m_tenths m_now pt_next pt_kept hk_kind hk_i hk_j hk_length hk_wasTold hk_d hk_f hk_z m_changes m_was) (a b : Int32) : ∃ r lk ln pa g dl fr hd px pk kk ki kj kl ch now was, Dc_unlink pl_places pl_links pl_mostDrawn pl_ofTen pl_z pl_lengths pl_told pl_delays pl_fractions pa_sums pr_greatestDelay pr_delays pr_fractions pr_heads pt_next pt_kept hk_kind hk_i hk_j hk_length a b = some (r, lk, ln, pa, g, dl, fr, hd, px, pk, kk, ki, kj, kl) ∧ Mo_unlink m_places m_changes m_now m_was a b = some (r, ch, now, was) ∧ PR pl_places lk pl_mostDrawn pl_ofTen pl_z ln pl_told pl_delays pl_fractions pa g dl fr hd m_places m_most m_tenths now px pk kk ki kj kl hk_wasTold hk_d hk_f hk_z ch was := by
  obtain ⟨n, M, T, s, c, nx, h⟩ := id h0
  obtain ⟨hQ, hnx, hc, e1, e2, e3, hP⟩ := id h
  obtain ⟨hw, ⟨f1, f2, f3, f4, f5, hLc, hC⟩, hX, f6, f7, f8, hL, hT, h288⟩ := hQ
  subst e1 e2 e3 f1 f2 f3 f4 f5 f6 f7 f8
  have hn := hw.2.1
  unfold Dc_unlink Mo_unlink
  rw [Pl_is2 hw.1 hn]
  rcases is2 hw.1 hn a b with h2 | ⟨i, j, hi, hj, hij, rfl, rfl, h2⟩
  · rw [h2]
    exact ⟨_, _, _, _, _, _, _, _, _, _, _, _, _, _, _, _, _, rfl, rfl, h0⟩
  · rw [h2]
    have l1 := hLc (16 * i + j) (by omega)
    have l2 := hL (16 * i + j) (by omega)
    simp only [Option.bind_some, if_neg (show ¬ (1 : Int32) = 0 by decide), Pl_len (show i < 16 by omega) (show j < 16 by omega), ix_b, gk_n (show 16 * i + j < 289 by omega) (by decide), nI_clamp (show 16 * i + j < 2 ^ 31 by omega), l1.1, l2.1]
    by_cases e1 : nI (s.1 (16 * i + j)) = 0
    · rw [if_pos e1, if_pos e1]
      exact ⟨_, _, _, _, _, _, _, _, _, _, _, _, _, _, _, _, _, rfl, rfl, h0⟩
    · rw [if_neg e1, if_neg e1]
      have hs := nlk_set (L := s.1) (L' := setL s.1 i j 0) (a := i) (b := j) (by omega) (by omega) hij hw.2.2.2.2.1 (setL_sym (by omega) (by omega) hw.2.2.2.2.1) (fun q _ q1 q2 => setL_un q1 q2)
      rw [setL_at, if_neg (show ¬ (0 : Nat) ≠ 0 from fun q => q rfl)] at hs
      have h40 := hw.2.2.2.2.2.2.2.2
      obtain ⟨ln, pa, g, dl, fr, hd, kk, ki, kj, kl, was, now, g1, g2, g3, g4, g5⟩ := X_change (k := 0) h hi hj hij (by decide) (by omega)
      rw [nI_0] at g1 g3
      simp only [Option.bind_some, g1, g2, g3]
      exact ⟨_, _, _, _, _, _, _, _, _, _, _, _, _, _, _, _, _, rfl, rfl, g5⟩
theorem WF_t {n M : Nat} {L t t2 : Nat → Nat} (hw : WF n M L t) (h : ∀ i, i < 16 → t2 i ≤ 31) : WF n M L t2 := ⟨hw.1, hw.2.1, hw.2.2.1, hw.2.2.2.1, hw.2.2.2.2.1, hw.2.2.2.2.2.1, hw.2.2.2.2.2.2.1, h, hw.2.2.2.2.2.2.2.2⟩
theorem up4_le {c : Nat} (h : c ≤ 4) : up4 c ≤ 4 := by
  unfold up4
  split <;> omega
theorem X_delay {pl_places : Int32} {pl_links : Int32} {pl_mostDrawn : Int32} {pl_ofTen : Int32} {pl_z : Int32} {pl_lengths : Nat → Int32} {pl_told : Nat → Int32} {pl_delays : Nat → Int32} {pl_fractions : Nat → Int32} {pa_sums : Nat → Int32} {pr_greatestDelay : Int32} {pr_delays : Nat → Int32} {pr_fractions : Nat → Int32} {pr_heads : Nat → Int32} {m_places : Int32} {m_most : Int32} {m_tenths : Int32} {m_now : Nat → Int32} {pt_next : Int32} {pt_kept : Int32} {hk_kind : Nat → Int32} {hk_i : Nat → Int32} {hk_j : Nat → Int32} {hk_length : Nat → Int32} {hk_wasTold : Nat → Int32} {hk_d : Nat → Int32} {hk_f : Nat → Int32} {hk_z : Nat → Int32} {m_changes : Int32} {m_was : Nat → Int32} (h0 : PR pl_places pl_links pl_mostDrawn pl_ofTen pl_z pl_lengths pl_told pl_delays pl_fractions pa_sums pr_greatestDelay pr_delays pr_fractions pr_heads m_places m_most m_tenths m_now pt_next pt_kept hk_kind hk_i hk_j hk_length hk_wasTold hk_d hk_f hk_z m_changes m_was) (m_clusters : Int32) (m_dist : Nat → Int32) (m_delays : Nat → Int32) (m_fractions : Nat → Int32) (m_head : Nat → Int32) (m_hour : Nat → Int32) (m_number : Nat → Int32) (a b d : Int32) : ∃ r to dz fz g dl fr hd px pk kk ki kw kd kf ch now was c5 sm5 dl5 fr5 hd5 ho5 nm5, Dc_delay pl_places pl_mostDrawn pl_ofTen pl_z pl_told pl_delays pl_fractions pa_sums pr_greatestDelay pr_delays pr_fractions pr_heads pt_next pt_kept hk_kind hk_i hk_wasTold hk_d hk_f a b d = some (r, to, dz, fz, g, dl, fr, hd, px, pk, kk, ki, kw, kd, kf) ∧ Mo_delay m_places m_most m_tenths m_changes m_clusters m_now m_was m_dist m_delays m_fractions m_head m_hour m_number a b d = some (r, ch, c5, now, was, sm5, dl5, fr5, hd5, ho5, nm5) ∧ PR pl_places pl_links pl_mostDrawn pl_ofTen pl_z pl_lengths to dz fz pa_sums g dl fr hd m_places m_most m_tenths now px pk kk ki hk_j hk_length kw kd kf hk_z ch was := by
  obtain ⟨n, M, T, s, c, nx, h⟩ := id h0
  obtain ⟨c1, sm1, dl1, fr1, hds1, hos1, nms1, hs1, hs2⟩ := Q_set h.1 m_clusters m_dist m_delays m_fractions m_head m_hour m_number
  obtain ⟨hQ, hnx, hc, e1, e2, e3, hP⟩ := id h
  obtain ⟨hw, ⟨f1, f2, f3, f4, f5, hLc, hC⟩, hX, f6, f7, f8, hL, hT, h288⟩ := hQ
  subst e1 e2 e3 f1 f2 f3 f4 f5 f6 f7 f8
  have hn := hw.2.1
  unfold Dc_delay Mo_delay
  rw [Pl_isP hw.1 hn, Dc_wi, Dc_wi]
  rcases isPl hw.1 hn a with h2 | ⟨i, hi, rfl, h2⟩
  · rw [h2]
    exact ⟨_, _, _, _, _, _, _, _, _, _, _, _, _, _, _, _, _, _, _, _, _, _, _, _, _, rfl, rfl, h0⟩
  · rw [h2]
    simp only [Option.bind_some, if_neg (show ¬ (1 : Int32) = 0 by decide)]
    rcases isIn_cases b (lo := 0) (hi := 30) (by decide) (by decide) with ⟨h3, -⟩ | ⟨k, -, hk, rfl, h3⟩
    · rw [show Mo_isIn b 0 30 = some 0 from h3]
      exact ⟨_, _, _, _, _, _, _, _, _, _, _, _, _, _, _, _, _, _, _, _, _, _, _, _, _, rfl, rfl, h0⟩
    · rw [show Mo_isIn (nI k) 0 30 = some 1 from h3]
      simp only [Option.bind_some, if_neg (show ¬ (1 : Int32) = 0 by decide)]
      rcases isIn_cases d (lo := 0) (hi := 999) (by decide) (by decide) with ⟨h4, -⟩ | ⟨kf, -, hkf, rfl, h4⟩
      · rw [show Mo_isIn d 0 999 = some 0 from h4]
        exact ⟨_, _, _, _, _, _, _, _, _, _, _, _, _, _, _, _, _, _, _, _, _, _, _, _, _, rfl, rfl, h0⟩
      · rw [show Mo_isIn (nI kf) 0 999 = some 1 from h4]
        have hT2 : ∀ b, b < 16 → (fun b => if b = i then k + 1 else s.2.1 b) b ≤ 31 := by
          intro b hb
          try dsimp only
          split
          · omega
          · exact (hT b hb).2.1
        have hw2 := WF_t hw hT2
        have hC2 := okC_tel (t1 := fun b => if b = i then k + 1 else s.2.1 b) (f1 := fun b => if b = i then nI kf else s.2.2.1 b) (a := i) hC (fun b _ hb => ⟨(if_neg hb).symm, (if_neg hb).symm⟩) (by rw [if_pos rfl]; omega)
        rw [if_pos rfl, if_pos rfl, Nat.add_sub_cancel] at hC2
        obtain ⟨was, p1, p2⟩ := PS_push hP hnx hc ⟨hL, hT, h288⟩ hw
        obtain ⟨g, dl, fr, hd, d1, d2⟩ := Cl_set (z := s.2.2.2) (T := m_tenths) hn hw.2.2.2.1 hLc hT2 hC2 hX.2.2.2.1 pr_greatestDelay pr_delays pr_fractions pr_heads
        simp only [Option.bind_some, if_neg (show ¬ (1 : Int32) = 0 by decide), hs1, Cl_delayOf, C_at hn hi, nI_clamp (show i < 2 ^ 31 by omega), hX.2.2.2.2.2.1 i hi, hs2.2.2.2.2.2.2.1 i hi, Pt_kd hnx hc (show i < 16 by omega) hw.2.2.2.1 hC, Pl_tel (show i < 16 by omega), Pl_z, d1, p1, ix_d, ix_f, gk_n (show 256 + i < 289 by omega) (by decide), gk_n (show 272 + i < 289 by omega) (by decide), nI_clamp (show 256 + i < 2 ^ 31 by omega), nI_clamp (show 272 + i < 2 ^ 31 by omega), nI_1]
        refine ⟨_, _, _, _, _, _, _, _, _, _, _, _, _, _, _, _, _, _, _, _, _, _, _, _, _, rfl, rfl, n, M, m_tenths, (s.1, fun b => if b = i then k + 1 else s.2.1 b, fun b => if b = i then nI kf else s.2.2.1 b, s.2.2.2), up4 c, (nx + 1) % 4, ⟨hw2, ⟨rfl, rfl, rfl, rfl, rfl, hLc, hC2⟩, d2, rfl, rfl, rfl, fun q hq => ?_, fun b hb => ?_, ?_⟩, by omega, up4_le hc, rfl, rfl, rfl, p2 _ _ ?_ ?_⟩
        · rw [pk_un (by omega), pk_un (by omega)]
          exact hL q hq
        · refine ⟨?_, hT2 b hb, ?_⟩
          · rw [pk_un (by omega)]
            try dsimp only
            by_cases e : b = i
            · rw [e, pk_us, if_pos rfl]
            · rw [pk_un (by omega), if_neg e]
              exact (hT b hb).1
          · try dsimp only
            by_cases e : b = i
            · rw [e, pk_us, if_pos rfl]
            · rw [pk_un (by omega), pk_un (by omega), if_neg e]
              exact (hT b hb).2.2
        · rw [pk_un (by omega), pk_un (by omega)]
          exact h288
        · intro q hq hne a b hab
          try dsimp only
          rw [pk_un hne, pk_un hne, pk_un hne, pk_un hne, pk_un hne]
          exact hab
        · try dsimp only
          rw [pk_us, pk_us, pk_us, pk_us, pk_us]
          refine Or.inr (Or.inr ⟨rfl, fun _ _ => rfl, rfl, i, hi, rfl, rfl, fun q => ⟨?_, ?_⟩, fun b _ hb => ⟨if_neg hb, if_neg hb⟩⟩)
          · unfold Dz
            rw [if_neg q]
          · unfold Fz
            rw [if_neg q]
theorem X_drawn {pl_places : Int32} {pl_links : Int32} {pl_mostDrawn : Int32} {pl_ofTen : Int32} {pl_z : Int32} {pl_lengths : Nat → Int32} {pl_told : Nat → Int32} {pl_delays : Nat → Int32} {pl_fractions : Nat → Int32} {pa_sums : Nat → Int32} {pr_greatestDelay : Int32} {pr_delays : Nat → Int32} {pr_fractions : Nat → Int32} {pr_heads : Nat → Int32} {m_places : Int32} {m_most : Int32} {m_tenths : Int32} {m_now : Nat → Int32} {pt_next : Int32} {pt_kept : Int32} {hk_kind : Nat → Int32} {hk_i : Nat → Int32} {hk_j : Nat → Int32} {hk_length : Nat → Int32} {hk_wasTold : Nat → Int32} {hk_d : Nat → Int32} {hk_f : Nat → Int32} {hk_z : Nat → Int32} {m_changes : Int32} {m_was : Nat → Int32} (h0 : PR pl_places pl_links pl_mostDrawn pl_ofTen pl_z pl_lengths pl_told pl_delays pl_fractions pa_sums pr_greatestDelay pr_delays pr_fractions pr_heads m_places m_most m_tenths m_now pt_next pt_kept hk_kind hk_i hk_j hk_length hk_wasTold hk_d hk_f hk_z m_changes m_was) (a : Int32) : ∃ r to dz fz g dl fr hd px pk kk ki kw kd kf ch now was, Dc_drawn pl_places pl_mostDrawn pl_ofTen pl_z pl_told pl_delays pl_fractions pa_sums pr_greatestDelay pr_delays pr_fractions pr_heads pt_next pt_kept hk_kind hk_i hk_wasTold hk_d hk_f a = some (r, to, dz, fz, g, dl, fr, hd, px, pk, kk, ki, kw, kd, kf) ∧ Mo_drawn m_places m_most m_tenths m_changes m_now m_was a = some (r, ch, now, was) ∧ PR pl_places pl_links pl_mostDrawn pl_ofTen pl_z pl_lengths to dz fz pa_sums g dl fr hd m_places m_most m_tenths now px pk kk ki hk_j hk_length kw kd kf hk_z ch was := by
  obtain ⟨n, M, T, s, c, nx, h⟩ := id h0
  obtain ⟨hQ, hnx, hc, e1, e2, e3, hP⟩ := id h
  obtain ⟨hw, ⟨f1, f2, f3, f4, f5, hLc, hC⟩, hX, f6, f7, f8, hL, hT, h288⟩ := hQ
  subst e1 e2 e3 f1 f2 f3 f4 f5 f6 f7 f8
  have hn := hw.2.1
  unfold Dc_drawn Mo_drawn
  rw [Pl_isP hw.1 hn]
  rcases isPl hw.1 hn a with h2 | ⟨i, hi, rfl, h2⟩
  · rw [h2]
    exact ⟨_, _, _, _, _, _, _, _, _, _, _, _, _, _, _, _, _, _, rfl, rfl, h0⟩
  · rw [h2]
    have hTi := hT i (by omega)
    simp only [Option.bind_some, if_neg (show ¬ (1 : Int32) = 0 by decide), (Pl_isT (show i < 16 by omega) hC).1, ix_d, gk_n (show 256 + i < 289 by omega) (by decide), nI_clamp (show 256 + i < 2 ^ 31 by omega), hTi.1]
    by_cases e0 : s.2.1 i = 0
    · rw [if_pos e0, if_pos rfl, if_pos (show nI (s.2.1 i) = 0 by rw [e0]; rfl)]
      exact ⟨_, _, _, _, _, _, _, _, _, _, _, _, _, _, _, _, _, _, rfl, rfl, h0⟩
    · rw [if_neg e0, if_neg (by decide), if_neg (nI_ne0 (by omega) (by omega))]
      have hT2 : ∀ b, b < 16 → (fun b => if b = i then 0 else s.2.1 b) b ≤ 31 := by
        intro b hb
        try dsimp only
        split
        · omega
        · exact (hT b hb).2.1
      have hw2 := WF_t hw hT2
      have hC2 := okC_unt (t1 := fun b => if b = i then 0 else s.2.1 b) (f1 := s.2.2.1) (a := i) hC (fun b _ hb => ⟨(if_neg hb).symm, rfl⟩) (if_pos rfl)
      obtain ⟨was, p1, p2⟩ := PS_push hP hnx hc ⟨hL, hT, h288⟩ hw
      obtain ⟨g, dl, fr, hd, d1, d2⟩ := Cl_set (z := s.2.2.2) (T := m_tenths) hn hw.2.2.2.1 hLc hT2 hC2 hX.2.2.2.1 pr_greatestDelay pr_delays pr_fractions pr_heads
      simp only [Option.bind_some, Cl_delayOf, C_at hn hi, nI_clamp (show i < 2 ^ 31 by omega), Pt_kd hnx hc (show i < 16 by omega) hw.2.2.2.1 hC, Pl_unt (show i < 16 by omega), Pl_z, d1, p1, d2.2.2.2.2.2.1 i hi, show ((288 : Int32).toNatClampNeg) = 288 from rfl, pk_un (show 288 ≠ 256 + i by omega), h288, Mo_dly hw.2.2.2.1]
      rw [show Dz M m_tenths (fun b => if b = i then 0 else s.2.1 b) s.2.2.2 i = dly M m_tenths s.2.2.2 (nI i) by unfold Dz; rw [if_pos (if_pos rfl)]]
      refine ⟨_, _, _, _, _, _, _, _, _, _, _, _, _, _, _, _, _, _, rfl, rfl, n, M, m_tenths, (s.1, fun b => if b = i then 0 else s.2.1 b, s.2.2.1, s.2.2.2), up4 c, (nx + 1) % 4, ⟨hw2, ⟨rfl, rfl, rfl, rfl, rfl, hLc, hC2⟩, d2, rfl, rfl, rfl, fun q hq => ?_, fun b hb => ?_, ?_⟩, by omega, up4_le hc, rfl, rfl, rfl, p2 _ _ ?_ ?_⟩
      · rw [pk_un (by omega)]
        exact hL q hq
      · refine ⟨?_, hT2 b hb, ?_⟩
        · try dsimp only
          by_cases e : b = i
          · rw [e, pk_us, if_pos rfl]
            rfl
          · rw [pk_un (by omega), if_neg e]
            exact (hT b hb).1
        · rw [pk_un (by omega)]
          exact (hT b hb).2.2
      · rw [pk_un (by omega)]
        exact h288
      · intro q hq hne a b hab
        try dsimp only
        rw [pk_un hne, pk_un hne, pk_un hne, pk_un hne, pk_un hne]
        exact hab
      · try dsimp only
        rw [pk_us, pk_us, pk_us, pk_us, pk_us]
        refine Or.inr (Or.inr ⟨rfl, fun _ _ => rfl, rfl, i, hi, rfl, rfl, fun q => ⟨?_, ?_⟩, fun b _ hb => ⟨if_neg hb, rfl⟩⟩)
        · unfold Dz
          rw [if_neg q]
        · unfold Fz
          rw [if_neg q]
theorem X_draws {pl_places : Int32} {pl_links : Int32} {pl_mostDrawn : Int32} {pl_ofTen : Int32} {pl_z : Int32} {pl_lengths : Nat → Int32} {pl_told : Nat → Int32} {pl_delays : Nat → Int32} {pl_fractions : Nat → Int32} {pa_sums : Nat → Int32} {pr_greatestDelay : Int32} {pr_delays : Nat → Int32} {pr_fractions : Nat → Int32} {pr_heads : Nat → Int32} {m_places : Int32} {m_most : Int32} {m_tenths : Int32} {m_now : Nat → Int32} {pt_next : Int32} {pt_kept : Int32} {hk_kind : Nat → Int32} {hk_i : Nat → Int32} {hk_j : Nat → Int32} {hk_length : Nat → Int32} {hk_wasTold : Nat → Int32} {hk_d : Nat → Int32} {hk_f : Nat → Int32} {hk_z : Nat → Int32} {m_changes : Int32} {m_was : Nat → Int32} (h0 : PR pl_places pl_links pl_mostDrawn pl_ofTen pl_z pl_lengths pl_told pl_delays pl_fractions pa_sums pr_greatestDelay pr_delays pr_fractions pr_heads m_places m_most m_tenths m_now pt_next pt_kept hk_kind hk_i hk_j hk_length hk_wasTold hk_d hk_f hk_z m_changes m_was) (a : Int32) : ∃ r z2 g dl fr hd px pk kk kz ch now was, Dc_draws pl_places pl_mostDrawn pl_ofTen pl_z pl_told pl_delays pl_fractions pa_sums pr_greatestDelay pr_delays pr_fractions pr_heads pt_next pt_kept hk_kind hk_z a = some (r, z2, g, dl, fr, hd, px, pk, kk, kz) ∧ Mo_draws m_changes m_now m_was a = some (r, ch, now, was) ∧ PR pl_places pl_links pl_mostDrawn pl_ofTen z2 pl_lengths pl_told pl_delays pl_fractions pa_sums g dl fr hd m_places m_most m_tenths now px pk kk hk_i hk_j hk_length hk_wasTold hk_d hk_f kz ch was := by
  obtain ⟨n, M, T, s, c, nx, h⟩ := id h0
  obtain ⟨hQ, hnx, hc, e1, e2, e3, hP⟩ := id h
  obtain ⟨hw, ⟨f1, f2, f3, f4, f5, hLc, hC⟩, hX, f6, f7, f8, hL, hT, h288⟩ := hQ
  subst e1 e2 e3 f1 f2 f3 f4 f5 f6 f7 f8
  have hn := hw.2.1
  unfold Dc_draws Mo_draws
  rw [Dc_wi]
  rcases isIn_cases a (lo := 0) (hi := 9999) (by decide) (by decide) with ⟨h2, -⟩ | ⟨k, -, hk, -, h2⟩
  · rw [show Mo_isIn a 0 9999 = some 0 from h2]
    exact ⟨_, _, _, _, _, _, _, _, _, _, _, _, _, rfl, rfl, h0⟩
  · rw [show Mo_isIn a 0 9999 = some 1 from h2]
    simp only [Option.bind_some, if_neg (show ¬ (1 : Int32) = 0 by decide), Pl_z, show ((288 : Int32).toNatClampNeg) = 288 from rfl, h288]
    by_cases e0 : s.2.2.2 = a
    · rw [if_pos e0, if_pos e0]
      exact ⟨_, _, _, _, _, _, _, _, _, _, _, _, _, rfl, rfl, h0⟩
    · rw [if_neg e0, if_neg e0]
      obtain ⟨was, p1, p2⟩ := PS_push hP hnx hc ⟨hL, hT, h288⟩ hw
      obtain ⟨g, dl, fr, hd, d1, d2⟩ := Cl_set (z := a) (T := m_tenths) hn hw.2.2.2.1 hLc hw.2.2.2.2.2.2.2.1 hC hX.2.2.2.1 pr_greatestDelay pr_delays pr_fractions pr_heads
      simp only [Option.bind_some, Pt_kz hnx hc, Pl_setZ, d1, p1]
      refine ⟨_, _, _, _, _, _, _, _, _, _, _, _, _, rfl, rfl, n, M, m_tenths, (s.1, s.2.1, s.2.2.1, a), up4 c, (nx + 1) % 4, ⟨hw, ⟨rfl, rfl, rfl, rfl, rfl, hLc, hC⟩, d2, rfl, rfl, rfl, fun q hq => ?_, fun b hb => ?_, ?_⟩, by omega, up4_le hc, rfl, rfl, rfl, p2 _ _ ?_ ?_⟩
      · rw [pk_un (by omega)]
        exact hL q hq
      · rw [pk_un (by omega), pk_un (by omega)]
        exact hT b hb
      · exact pk_us
      · intro q hq hne a b hab
        try dsimp only
        rw [pk_un hne, pk_un hne]
        exact hab
      · try dsimp only
        rw [pk_us, pk_us]
        exact Or.inr (Or.inl ⟨rfl, fun _ _ => rfl, fun _ _ => ⟨rfl, rfl⟩, rfl⟩)
theorem K_u {c : Nat} (hc : c ≤ 3) (now was : Nat → Int32) : ∃ w, it (Mo_undo_L22 (nI (c + 1)) was) 4096 (0, now) = some w ∧ ∀ j, j < 289 → w j = was (289 * c + j) := by
  refine it_inv (F := 4096) (fun (k : Nat) (s : Int32 × (Nat → Int32)) => s.1 = nI k ∧ ∀ j, j < k → s.2 j = was (289 * c + j)) (fun (w : Nat → Int32) => ∀ j, j < 289 → w j = was (289 * c + j)) 289 ?_ ?_ ⟨rfl, fun j hj => absurd hj (Nat.not_lt_zero _)⟩ (by omega)
  · rintro k ⟨v, w⟩ hk ⟨h1, h2⟩
    dsimp only at h1 h2
    subst h1
    refine Or.inl ?_
    simp only [Mo_undo_L22, if_neg (show ¬ (289 : Int32) ≤ nI k from nI_ge (b := 289) hk (by decide)), show nI (c + 1) - 1 = nI c from pk_sub (a := c + 1) (b := 1) (by omega), show (289 : Int32) * nI c + nI k = nI (289 * c + k) by rw [show (289 : Int32) = nI 289 from rfl, pk_mul, nI_add], gk_n (show k < 289 by omega) (by decide), gk_n (show 289 * c + k < 1156 by omega) (by decide), nI_clamp (show 289 * c + k < 2 ^ 31 by omega), nI_clamp (show k < 2 ^ 31 by omega), nI_1]
    refine ⟨_, rfl, rfl, fun j hj => ?_⟩
    try dsimp only
    by_cases e : j = k
    · rw [e, pk_us]
    · rw [pk_un e, h2 j (by omega)]
  · rintro ⟨v, w⟩ ⟨h1, h2⟩
    dsimp only at h1 h2
    subst h1
    refine ⟨w, ?_, h2⟩
    simp only [Mo_undo_L22, if_pos (show (289 : Int32) ≤ nI 289 by decide)]
theorem X_undo {pl_places : Int32} {pl_links : Int32} {pl_mostDrawn : Int32} {pl_ofTen : Int32} {pl_z : Int32} {pl_lengths : Nat → Int32} {pl_told : Nat → Int32} {pl_delays : Nat → Int32} {pl_fractions : Nat → Int32} {pa_sums : Nat → Int32} {pr_greatestDelay : Int32} {pr_delays : Nat → Int32} {pr_fractions : Nat → Int32} {pr_heads : Nat → Int32} {m_places : Int32} {m_most : Int32} {m_tenths : Int32} {m_now : Nat → Int32} {pt_next : Int32} {pt_kept : Int32} {hk_kind : Nat → Int32} {hk_i : Nat → Int32} {hk_j : Nat → Int32} {hk_length : Nat → Int32} {hk_wasTold : Nat → Int32} {hk_d : Nat → Int32} {hk_f : Nat → Int32} {hk_z : Nat → Int32} {m_changes : Int32} {m_was : Nat → Int32} (h0 : PR pl_places pl_links pl_mostDrawn pl_ofTen pl_z pl_lengths pl_told pl_delays pl_fractions pa_sums pr_greatestDelay pr_delays pr_fractions pr_heads m_places m_most m_tenths m_now pt_next pt_kept hk_kind hk_i hk_j hk_length hk_wasTold hk_d hk_f hk_z m_changes m_was) : ∃ r lk z2 ln to dz fz pa g dl fr hd px pk ch now, Dc_undo pl_places pl_links pl_mostDrawn pl_ofTen pl_z pl_lengths pl_told pl_delays pl_fractions pa_sums pr_greatestDelay pr_delays pr_fractions pr_heads pt_next pt_kept hk_kind hk_i hk_j hk_length hk_wasTold hk_d hk_f hk_z = some (r, lk, z2, ln, to, dz, fz, pa, g, dl, fr, hd, px, pk) ∧ Mo_undo m_changes m_now m_was = some (r, ch, now) ∧ PR pl_places lk pl_mostDrawn pl_ofTen z2 ln to dz fz pa g dl fr hd m_places m_most m_tenths now px pk hk_kind hk_i hk_j hk_length hk_wasTold hk_d hk_f hk_z ch m_was := by
  obtain ⟨n, M, T, s, c, nx, h⟩ := id h0
  obtain ⟨hQ, hnx, hc, e1, e2, e3, hP⟩ := id h
  obtain ⟨hw, ⟨f1, f2, f3, f4, f5, hLc, hC⟩, hX, f6, f7, f8, hL, hT, h288⟩ := hQ
  subst e1 e2 e3 f1 f2 f3 f4 f5 f6 f7 f8
  have hn := hw.2.1
  unfold Dc_undo Mo_undo
  simp only [Pt_kept, Option.bind_some]
  cases c with
  | zero =>
    rw [if_pos (show nI 0 = 0 from rfl), if_pos (show nI 0 = 0 from rfl)]
    exact ⟨_, _, _, _, _, _, _, _, _, _, _, _, _, _, _, _, rfl, rfl, h0⟩
  | succ c =>
    obtain ⟨s1, hN1, hw1, hq, hP1⟩ := hP
    obtain ⟨ln, to, dz, fz, r1, r2, r3⟩ := Ch_back hw hw1 (fun k hk => (hN1.1 k hk).2) hq hLc hC
    obtain ⟨pa, g, dl, fr, hd, d1, d2⟩ := D_settleAll (z := s1.2.2.2) (T := m_tenths) hw1 r2 r3 pa_sums pr_greatestDelay pr_delays pr_fractions pr_heads
    obtain ⟨now, u1, u2⟩ := K_u (c := c) (by omega) m_now m_was
    rw [if_neg (nI_ne0 (by omega) (by omega)), if_neg (nI_ne0 (by omega) (by omega)), Pt_tb hnx (by omega) hc, r1, u1]
    simp only [Option.bind_some, d1, show nI (c + 1) - 1 = nI c from pk_sub (a := c + 1) (b := 1) (by omega), show c + 1 - 1 = c from rfl]
    have hN2 := okN_c hN1 u2
    exact ⟨_, _, _, _, _, _, _, _, _, _, _, _, _, _, _, _, rfl, rfl, n, M, m_tenths, s1, c, (nx + 3) % 4, ⟨hw1, ⟨rfl, rfl, rfl, rfl, rfl, r2, r3⟩, d2, rfl, rfl, rfl, hN2.1, hN2.2.1, hN2.2.2⟩, by omega, by omega, rfl, rfl, rfl, hP1⟩
