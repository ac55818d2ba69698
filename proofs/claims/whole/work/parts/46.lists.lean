/-! the lists: moving, the first one, how many -/
theorem cntI_split {P A C : Int → Prop} [DecidablePred P] [DecidablePred A] [DecidablePred C] : ∀ {n : Nat}, (∀ i : Int, 0 ≤ i → i < n → (P i ↔ A i ∨ C i)) → (∀ i : Int, 0 ≤ i → i < n → ¬ (A i ∧ C i)) → cntI P n = cntI A n + cntI C n
  | 0, _, _ => rfl
  | n + 1, h, g => by
    have h1 := cntI_split (P := P) (A := A) (C := C) (n := n) (fun i a b => h i a (by omega)) (fun i a b => g i a (by omega))
    have h2 := h n (by omega) (by omega)
    have h3 := g n (by omega) (by omega)
    have e0 : cntI P (n + 1) = cntI P n + if P (n : Int) then 1 else 0 := rfl
    have e1 : cntI A (n + 1) = cntI A n + if A (n : Int) then 1 else 0 := rfl
    have e2 : cntI C (n + 1) = cntI C n + if C (n : Int) then 1 else 0 := rfl
    rw [e0, e1, e2, h1]
    by_cases ha : A (n : Int)
    · by_cases hc : C (n : Int)
      · exact absurd ⟨ha, hc⟩ h3
      · rw [if_pos (h2.mpr (Or.inl ha)), if_pos ha, if_neg hc]; omega
    · by_cases hc : C (n : Int)
      · rw [if_pos (h2.mpr (Or.inr hc)), if_neg ha, if_pos hc]; omega
      · rw [if_neg (fun q => (h2.mp q).elim ha hc), if_neg ha, if_neg hc]; omega
/-- how many pages there are, of a group or of all -/
abbrev isP (σ : S2) (g f : Int) : Prop := (σ 15 f ≠ 0) ∧ ((g = -1) ∨ (σ 21 f = g))
theorem P_many {x y B l g : Int} {σ μ : S2} (hl : 0 ≤ l ∧ l ≤ 1) (hg : -1 ≤ g ∧ g ≤ 2) (h : Rg x y B σ μ) : FX8_listed g l μ = some (cntI (isM σ l g) 24, μ) := by
  obtain ⟨⟨q102, q103, q106, q107, q108, q109, q110, q111, q116, q121, q122, q123, q124, q125, q130, q135, q140⟩, hSp, hMp, hPr, hHd, hFr, hLs, hBl, hWr, hC1, hC2, hC3, hRc, hRo, hSc, hSt, hBd⟩ := h
  obtain ⟨pos, hLp⟩ := hLs
  obtain ⟨N, hN⟩ := Int.eq_ofNat_of_zero_le (hLp.1 l hl.1 hl.2)
  have h24 := m_Ls_24 hLp hl
  rw [e8_listed hg hl hN (by omega)]
  have h1 := cnt_rows hLp hl (fun f => (μ 121 f ≠ 0) ∧ ((g = -1) ∨ (μ 125 f = g))) N (by omega)
  have e1 : cntI (fun k => (μ 121 (μ 128 (24 * l + k)) ≠ 0) ∧ ((g = -1) ∨ (μ 125 (μ 128 (24 * l + k)) = g))) N = cntI (isM σ l g) 24 := by
    rw [h1]
    refine cntI_congr fun f f0 f1 => ?_
    rw [q121, q125]
    constructor
    · rintro ⟨a, b, c, d⟩
      exact ⟨a, d⟩
    · rintro ⟨a, d⟩
      have h3 := hLp.2.1 f f0 (by omega) a.1
      rw [a.2] at h3
      exact ⟨a, by omega, a.1, d⟩
  rw [e1]
theorem P_pages {x y B g : Int} {σ μ : S2} (hg : -1 ≤ g ∧ g ≤ 2) (h : Rg x y B σ μ) : FX7_pagesOf g σ = some (cntI (isP σ g) 24, σ) ∧ FX8_pagesOf g μ = some (cntI (isP σ g) 24, μ) ∧ cntI (isP σ g) 24 = cntI (isM σ 0 g) 24 + cntI (isM σ 1 g) 24 := by
  obtain ⟨⟨q102, q103, q106, q107, q108, q109, q110, q111, q116, q121, q122, q123, q124, q125, q130, q135, q140⟩, hSp, hMp, hPr, hHd, hFr, hLs, hBl, hWr, hC1, hC2, hC3, hRc, hRo, hSc, hSt, hBd⟩ := h
  obtain ⟨pos, hLp⟩ := hLs
  have e1 : cntI (isP σ g) 24 = cntI (isM σ 0 g) 24 + cntI (isM σ 1 g) 24 := by
    refine cntI_split (fun f f0 f1 => ?_) (fun f f0 f1 => ?_)
    · constructor
      · rintro ⟨a, b⟩
        have h3 := hLp.2.1 f f0 (by omega) a
        by_cases hz : σ 17 f = 0
        · exact Or.inl ⟨⟨a, hz⟩, b⟩
        · exact Or.inr ⟨⟨a, by omega⟩, b⟩
      · rintro (⟨⟨a, b⟩, c⟩ | ⟨⟨a, b⟩, c⟩)
        · exact ⟨a, c⟩
        · exact ⟨a, c⟩
    · rintro ⟨⟨⟨a, b⟩, c⟩, ⟨⟨d, e⟩, i⟩⟩
      omega
  refine ⟨by rw [e7_pagesOf hg, e1], ?_, e1⟩
  rw [e8_pagesOf hg, q121, q125]
theorem P_first {x y B l g : Int} {σ μ : S2} (hB : B ≤ 2147483647) (hl : 0 ≤ l ∧ l ≤ 1) (hg : -1 ≤ g ∧ g ≤ 2) (h : Rg x y B σ μ) : ∃ p, FX7_firstMember l g σ = some (p, σ) ∧ FX8_firstOf g l μ = some (p, μ) ∧ (p = -1 ∧ cntI (isM σ l g) 24 = 0 ∨ 0 ≤ p ∧ p ≤ 23 ∧ isM σ l g p) := by
  obtain ⟨⟨q102, q103, q106, q107, q108, q109, q110, q111, q116, q121, q122, q123, q124, q125, q130, q135, q140⟩, hSp, hMp, hPr, hHd, hFr, hLs, hBl, hWr, hC1, hC2, hC3, hRc, hRo, hSc, hSt, hBd⟩ := h
  obtain ⟨pos, hLp⟩ := hLs
  obtain ⟨N, hN⟩ := Int.eq_ofNat_of_zero_le (hLp.1 l hl.1 hl.2)
  have h24 := m_Ls_24 hLp hl
  have hB2 := hBd.2.2.2.1
  have hQ : ∀ k : Int, 0 ≤ k → k < N → ((μ 121 (μ 128 (24 * l + k)) ≠ 0) ∧ ((g = -1) ∨ (μ 125 (μ 128 (24 * l + k)) = g)) ↔ isM σ l g (μ 128 (24 * l + k))) := by
    intro k k0 k1
    have h3 := hLp.2.2.1 l k hl.1 hl.2 k0 (by omega)
    rw [q121, q125]
    exact ⟨fun w => ⟨⟨w.1, h3.2.2.2.1⟩, w.2⟩, fun w => ⟨w.1.1, w.2⟩⟩
  have hF : ∀ f : Int, 0 ≤ f → f ≤ 23 → isM σ l g f → 0 ≤ pos f ∧ pos f < N ∧ μ 128 (24 * l + pos f) = f := by
    intro f f0 f1 w
    have h3 := hLp.2.1 f f0 f1 w.1.1
    rw [w.1.2] at h3
    exact ⟨h3.2.2.1, by omega, h3.2.2.2.2.1⟩
  refine ⟨_, e7_firstMember hl hg (fun f f0 f1 f2 => by have := hLp.2.1 f f0 f1 f2; omega), ?_, ?_⟩
  · rw [e8_firstOf hg hl hN (by omega) (fun k k0 k1 => by have h3 := hLp.2.2.1 l k hl.1 hl.2 k0 (by omega); exact ⟨h3.1, h3.2.1⟩)]
    rcases fstI_cases (fun k => (μ 121 (μ 128 (24 * l + k)) ≠ 0) ∧ ((g = -1) ∨ (μ 125 (μ 128 (24 * l + k)) = g))) N with w | w
    · rw [if_pos w.1]
      rcases bstI_r (isM σ l g) (fun a b => σ 18 a < σ 18 b) 24 with v | v
      · rw [v.1]
      · have h4 := hF _ v.1 (by omega) v.2.2
        exact absurd ((hQ _ h4.1 h4.2.1).mpr (by rw [h4.2.2]; exact v.2.2)) (w.2 _ h4.1 h4.2.1)
    · rw [if_neg (by omega)]
      generalize hk0 : fstI (fun k => (μ 121 (μ 128 (24 * l + k)) ≠ 0) ∧ ((g = -1) ∨ (μ 125 (μ 128 (24 * l + k)) = g))) N = k0 at w
      have h5 := (hQ k0 w.1 w.2.1).mp w.2.2.1
      have h6 := hLp.2.2.1 l k0 hl.1 hl.2 w.1 (by omega)
      rcases bstI_r (isM σ l g) (fun a b => σ 18 a < σ 18 b) 24 with v | v
      · exact absurd h5 (v.2 _ h6.1 (by omega))
      · have h7 := bstI_min (P := isM σ l g) (t := σ 18) (lt := fun a b => σ 18 a < σ 18 b) (n := 24) (fun i j _ _ _ _ => Iff.rfl) (by omega) (μ 128 (24 * l + k0)) h6.1 (by omega) h5
        generalize bstI (isM σ l g) (fun a b => σ 18 a < σ 18 b) 24 = p at v h7
        have h4 := hF _ v.1 (by omega) v.2.2
        have h8 : k0 ≤ pos p := by
          apply Classical.byContradiction
          intro q
          exact w.2.2.2 (pos p) h4.1 (by omega) ((hQ _ h4.1 h4.2.1).mpr (by rw [h4.2.2]; exact v.2.2))
        have h9 := hLp.2.2.2 (μ 128 (24 * l + k0)) p h6.1 h6.2.1 v.1 (by omega) h6.2.2.1 v.2.2.1.1 (by rw [h6.2.2.2.1, v.2.2.1.2])
        rw [h6.2.2.2.2] at h9
        have h10 : pos p = k0 := by omega
        rw [← h10, h4.2.2]
  · rcases bstI_r (isM σ l g) (fun a b => σ 18 a < σ 18 b) 24 with v | v
    · exact Or.inl ⟨v.1, cntI_0.mpr v.2⟩
    · exact Or.inr ⟨v.1, by omega, v.2.2⟩
def shC (f l : Int) (σ : S2) : S2 := brC f l (sc σ 19 (uc (σ 19) f 0))
theorem shC_k {f l : Int} {σ : S2} {k : Nat} (h : k ∉ [17, 18, 19, 40]) : shC f l σ k = σ k := by
  simp only [List.mem_cons, List.not_mem_nil, or_false, not_or] at h
  unfold shC brC
  simp only [sc, h, if_false]
theorem shC_17 {f l : Int} {σ : S2} : shC f l σ 17 = uc (σ 17) f l := by
  unfold shC brC
  simp (disch := decide) only [sc_s, sc_k]
theorem R_sh {B f l : Int} {σ μ : S2} (hf : 0 ≤ f ∧ f ≤ 23) (hl : 0 ≤ l ∧ l ≤ 1) (hk : σ 15 f ≠ 0) (h : Rg (-1) (-1) B σ μ) : ∃ m1, FX8_shifts f l μ = some (0, m1) ∧ Rg (-1) (-1) (B + 1) (shC f l σ) m1 ∧ ∀ k, k ∉ [123, 124, 128, 129] → m1 k = μ k := by
  obtain ⟨⟨q102, q103, q106, q107, q108, q109, q110, q111, q116, q121, q122, q123, q124, q125, q130, q135, q140⟩, hSp, hMp, hPr, hHd, hFr, hLs, hBl, hWr, hC1, hC2, hC3, hRc, hRo, hSc, hSt, hBd⟩ := h
  obtain ⟨pos, hLp⟩ := hLs
  have hL2 := hLp.2.1 f hf.1 hf.2 hk
  have h24 := m_Ls_24 hLp ⟨hL2.1, hL2.2.1⟩
  have hun := e8_unlist hf (l := σ 17 f) (p := pos f) (n := μ 129 (σ 17 f)) (μ := μ) (by rw [q123]) ⟨hL2.1, hL2.2.1⟩ rfl h24 ⟨hL2.2.2.1, hL2.2.2.2.1⟩ (m_row hLp hf hk)
  have hLs1 := m_Ls_un hf hk rfl hLp
  have h23 : uc (μ 129) (σ 17 f) (μ 129 (σ 17 f) - 1) l ≤ 23 := by
    obtain ⟨pos1, hLp1⟩ := hLs1
    exact m_Ls_23 hLp1 hl hf (Or.inl uc_s)
  have h0 : 0 ≤ uc (μ 129) (σ 17 f) (μ 129 (σ 17 f) - 1) l := by
    obtain ⟨pos1, hLp1⟩ := hLs1
    exact hLp1.1 l hl.1 hl.2
  have hLs2 := m_Ls_app (l := l) (k := σ 15 f) hf hl uc_s hk h23 hBd.2.2.1 hLs1
  rw [uc_uc, uc_id rfl] at hLs2
  have e129 : unM (σ 17 f) (pos f) (μ 129 (σ 17 f)) μ 129 = uc (μ 129) (σ 17 f) (μ 129 (σ 17 f) - 1) := by unfold unM; simp (disch := decide) only [sc_s, sc_k]
  refine ⟨sc (enM f l (uc (μ 129) (σ 17 f) (μ 129 (σ 17 f) - 1) l) (unM (σ 17 f) (pos f) (μ 129 (σ 17 f)) μ)) 124 (uc (μ 124) f 0), ?_, ?_, ?_⟩
  · unfold FX8_shifts
    rw [gd_pos hf, gd_pos hl, cb_e hun, cb_e (e8_enlist hf hl (n := uc (μ 129) (σ 17 f) (μ 129 (σ 17 f) - 1) l) (by rw [e129]) ⟨h0, h23⟩)]
    unfold enM unM
    simp (disch := decide) only [bn, u2_sc, sc_s, sc_k]
  · unfold shC brC enM unM
    refine ⟨⟨?_, ?_, ?_, ?_, ?_, ?_, ?_, ?_, ?_, ?_, ?_, ?_, ?_, ?_, ?_, ?_, ?_⟩, ?_, ?_, ?_, ?_, ?_, ?_, ?_, ?_, ?_, ?_, ?_, ?_, ?_, ?_, ?_, ?_⟩
    all_goals (try simp (disch := decide) only [sc_s, sc_k, q102, q103, q106, q107, q108, q109, q110, q111, q116, q121, q122, q123, q124, q125, q130, q135, q140])
    all_goals (try with_reducible assumption)
    · refine ⟨fun g g0 g1 => ?_, hFr.2⟩
      have h1 := hFr.1 g g0 g1
      refine ⟨h1.1, h1.2.1, ?_, ?_, h1.2.2.2.2⟩
      · unfold uc; split <;> omega
      · unfold uc; split <;> omega
    · obtain ⟨b1, b2, b3, b4, b5⟩ := hBd
      refine ⟨b1, by omega, ?_, ?_, fun k k0 k1 => ?_⟩
      · rw [uc_s]; omega
      · rw [uc_s]; omega
      · have := b5 k k0 k1; omega
  · intro k hk3
    simp only [List.mem_cons, List.not_mem_nil, or_false, not_or] at hk3
    unfold enM unM
    simp only [sc, hk3, if_false]
theorem isM_sh {f l g d : Int} {σ : S2} {l' : Int} : isM (shC f l σ) l' g d ↔ ((σ 15 d ≠ 0) ∧ (uc (σ 17) f l d = l')) ∧ ((g = -1) ∨ (σ 21 d = g)) := by
  unfold isM
  rw [shC_k (k := 15) (by decide), shC_k (k := 21) (by decide), shC_17]
theorem cnt_sh {f g l l' : Int} {σ : S2} (hf : 0 ≤ f ∧ f ≤ 23) (hll : l ≠ l') (hm : isM σ l' g f) : cntI (isM (shC f l σ) l' g) 24 = cntI (isM σ l' g) 24 - 1 ∧ cntI (isM (shC f l σ) l g) 24 = cntI (isM σ l g) 24 + 1 := by
  constructor
  · have e := cntI_one (p := isM (shC f l σ) l' g) (q := isM σ l' g) (a := f) (n := 24) hf.1 (by omega) (fun i _ _ hi => by rw [isM_sh, uc_n hi])
    rw [if_neg (fun q => by rw [isM_sh, uc_s] at q; exact hll q.1.2), if_pos hm] at e
    omega
  · have e := cntI_one (p := isM (shC f l σ) l g) (q := isM σ l g) (a := f) (n := 24) hf.1 (by omega) (fun i _ _ hi => by rw [isM_sh, uc_n hi])
    rw [if_pos (by rw [isM_sh, uc_s]; exact ⟨⟨hm.1.1, rfl⟩, hm.2⟩), if_neg (fun q => hll (by rw [← q.1.2, hm.1.2]))] at e
    omega
theorem gl0_e {β : Type} {n : Nat} {f : (S2 → Option β) → S2 → Option β} {s : S2} : gl0 (n + 1) f s = f (gl0 n f) s := rfl
theorem gl1_e {β : Type} {n : Nat} {f : (Int → S2 → Option β) → Int → S2 → Option β} {x : Int} {s : S2} : gl1 (n + 1) f x s = f (gl1 n f) x s := rfl
theorem L_bal {g : Int} (hg : -1 ≤ g ∧ g ≤ 2) (KM : S2 → Option (Int × S2)) : ∀ (n : Nat) (B : Int) (σ μ : S2) (fC fM : Nat), B + n ≤ 2147483647 → Rg (-1) (-1) B σ μ → cntI (isM σ 1 g) 24 - cntI (isM σ 0 g) 24 ≤ n → n < fC → n < fM → ∃ s1 m1, gl1 fC (fun k1 (x_excess1 : Int) (s3 : S2) => if 0 < x_excess1 then cb (FX7_firstMember 1 g s3) fun r3 s4 => if r3 < 0 then some ((0 : Int), s4) else bn (upd2 s4 19 r3 0) fun s5 => cb (FX7_bringToEnd r3 0 s5) fun r4 s6 => k1 (x_excess1 + (-2)) s6 else some ((0 : Int), s3)) (cntI (isM σ 1 g) 24 - cntI (isM σ 0 g) 24) σ = some (0, s1) ∧ gl0 fM (fun k2 (s3 : S2) => cb (FX8_listed g 0 s3) fun r2 s4 => cb (FX8_listed g 1 s4) fun r3 s5 => if r2 < r3 then cb (FX8_firstOf g 1 s5) fun r8 s11 => cb (FX8_shifts r8 0 s11) fun r9 s12 => k2 s12 else KM s5) μ = KM m1 ∧ Rg (-1) (-1) (B + n) s1 m1 ∧ cntI (isM s1 1 g) 24 ≤ cntI (isM s1 0 g) 24 ∧ (∀ k, k ∉ [17, 18, 19, 40] → s1 k = σ k) ∧ ∀ k, k ∉ [123, 124, 128, 129] → m1 k = μ k
  | n, B, σ, μ, 0, fM, _, _, _, hf, _ => absurd hf (Nat.not_lt_zero _)
  | n, B, σ, μ, fC + 1, 0, _, _, _, _, hf => absurd hf (Nat.not_lt_zero _)
  | n, B, σ, μ, fC + 1, fM + 1, hB, h, hn, hfC, hfM => by
    have m0 := P_many (l := 0) (g := g) (by decide) hg h
    have m1 := P_many (l := 1) (g := g) (by decide) hg h
    by_cases hx : 0 < cntI (isM σ 1 g) 24 - cntI (isM σ 0 g) 24
    · obtain ⟨n', rfl⟩ : ∃ n', n = n' + 1 := ⟨n - 1, by omega⟩
      obtain ⟨p, p1, p2, p3⟩ := P_first (l := 1) (g := g) (by omega) (by decide) hg h
      have hr0 := cntI_r (isM σ 0 g) 24
      have p4 : 0 ≤ p ∧ p ≤ 23 ∧ isM σ 1 g p := p3.resolve_left (fun w => by omega)
      obtain ⟨m', a1, a2, a3⟩ := R_sh (l := 0) ⟨p4.1, p4.2.1⟩ (by decide) p4.2.2.1.1 h
      have hc := cnt_sh (l := 0) (l' := 1) (g := g) ⟨p4.1, p4.2.1⟩ (by decide) p4.2.2
      obtain ⟨s2, m2, b1, b2, b3, b4, b5, b6⟩ := L_bal hg KM n' (B + 1) (shC p 0 σ) m' fC fM (by omega) a2 (by omega) (by omega) (by omega)
      refine ⟨s2, m2, ?_, ?_, R_B (by omega) b3, b4, ?_, ?_⟩
      · rw [← b1]
        show (if _ then _ else _) = _
        rw [if_pos hx, cb_e p1, if_neg (by omega)]
        simp only [bn]
        rw [u2_sc, cb_e (e7_bring ⟨p4.1, p4.2.1⟩ (by decide)), hc.1, hc.2]
        congr 1
        omega
      · rw [← b2]
        rw [gl0_e, cb_e m0, cb_e m1, if_pos (by omega), cb_e p2, cb_e a1]
      · intro k hk
        rw [b5 k hk, shC_k hk]
      · intro k hk
        rw [b6 k hk, a3 k hk]
    · refine ⟨σ, μ, ?_, ?_, R_B (by omega) h, by omega, fun _ _ => rfl, fun _ _ => rfl⟩
      · show (if _ then _ else _) = _
        rw [if_neg hx]
      · rw [gl0_e, cb_e m0, cb_e m1, if_neg (by omega)]
