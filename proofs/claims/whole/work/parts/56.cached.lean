/-! the cached page of a file -/
def WG (σ μ s m : S2) : Prop := (∀ k, k ∈ [0, 33, 34, 36, 37, 38, 39, 41, 42, 43, 47, 51] → s k = σ k) ∧ (∀ k, k ∈ [101, 102, 104, 105, 107, 108, 109, 110, 112, 113, 114, 115, 117, 118] → m k = μ k) ∧ (∀ e, 0 ≤ e → e ≤ 191 → s 35 (e / 32) ≠ 0 → (s 2 e = σ 2 e ∧ s 3 e = σ 3 e ∧ s 4 e = σ 4 e ∧ s 5 e = σ 5 e ∧ s 6 e = σ 6 e ∧ s 7 e = σ 7 e) ∧ ((s 8 e = σ 8 e ∧ s 9 e = σ 9 e ∧ s 10 e = σ 10 e) ∨ (σ 8 e = 1 ∧ s 8 e ≠ 1))) ∧ (∀ q, s 35 q = σ 35 q ∨ s 35 q = 0) ∧ ∀ e, 0 ≤ e → e ≤ 191 → s 8 e = 1 → σ 8 e = 1 ∧ s 9 e = σ 9 e ∧ s 10 e = σ 10 e
theorem WG_WF {σ μ s m : S2} (h : WF σ μ s m) : WG σ μ s m := by
  refine ⟨fun k hk => h.1 k ?_, fun k hk => h.2.1 k ?_, h.2.2⟩
  · simp only [List.mem_cons, List.not_mem_nil, or_false] at hk ⊢; omega
  · simp only [List.mem_cons, List.not_mem_nil, or_false] at hk ⊢; omega
theorem WG_tr {σ μ s m s' m' : S2} (h1 : WG σ μ s m) (h2 : WG s m s' m') : WG σ μ s' m' := by
  refine ⟨fun k hk => (h2.1 k hk).trans (h1.1 k hk), fun k hk => (h2.2.1 k hk).trans (h1.2.1 k hk), fun e e0 e1 he => ?_, fun q => ?_, fun e e0 e1 he => ?_⟩
  · have a1 := h2.2.2.2.1 (e / 32)
    have a2 := h2.2.2.1 e e0 e1 he
    have a3 := h1.2.2.1 e e0 e1 (by rcases a1 with w | w; rw [← w]; exact he; exact absurd w he)
    omega
  · have a1 := h1.2.2.2.1 q
    have a2 := h2.2.2.2.1 q
    omega
  · have a2 := h2.2.2.2.2 e e0 e1 he
    have a1 := h1.2.2.2.2 e e0 e1 a2.1
    omega
theorem P_m129 {x y B l : Int} {σ μ : S2} (hl : 0 ≤ l ∧ l ≤ 1) (h : Rg x y B σ μ) : μ 129 l = cntI (isM σ l (-1)) 24 := by
  obtain ⟨⟨q102, q103, q106, q107, q108, q109, q110, q111, q116, q121, q122, q123, q124, q125, q130, q135, q140⟩, hSp, hMp, hPr, hHd, hFr, hLs, hBl, hWr, hC1, hC2, hC3, hRc, hRo, hSc, hSt, hBd⟩ := h
  obtain ⟨pos, hLp⟩ := hLs
  obtain ⟨N, hN⟩ := Int.eq_ofNat_of_zero_le (hLp.1 l hl.1 hl.2)
  have h1 := cnt_rows hLp hl (fun _ => True) N (by omega)
  have h3 : ∀ n : Nat, cntI (fun _ => True) n = n := fun n => by
    induction n with
    | zero => rfl
    | succ n ih => rw [show cntI (fun _ => True) (n + 1) = cntI (fun _ => True) n + if True then 1 else 0 from rfl, ih, if_pos trivial]; omega
  rw [h3] at h1
  rw [hN, h1]
  refine cntI_congr fun f f0 f1 => ?_
  constructor
  · rintro ⟨a, _, _⟩
    exact ⟨a, Or.inl rfl⟩
  · rintro ⟨a, _⟩
    have h3 := hLp.2.1 f f0 (by omega) a.1
    rw [a.2] at h3
    exact ⟨a, by omega, trivial⟩
def ciC (f v g l a b : Int) (σ : S2) : S2 := brC f l (sc (sc (bgC f 2 v g σ) 24 (uc (σ 24) f a)) 25 (uc (σ 25) f b))
def ciM (f v g l K : Int) (μ : S2) : S2 := sc (ptM f 2 v g l (μ 129 l) μ) 127 (uc (μ 127) f K)
theorem R_ci {B f v g l a b : Int} {σ μ : S2} (hf : 0 ≤ f ∧ f ≤ 23) (hk : σ 15 f = 0) (hv : 0 ≤ v ∧ v ≤ 99999) (hg : 0 ≤ g ∧ g ≤ 2) (hl : 0 ≤ l ∧ l ≤ 1) (ha : 0 ≤ a ∧ a ≤ 2) (hb : 0 ≤ b ∧ b ≤ 7) (h : Rg (-1) (-1) B σ μ) : Rg (-1) (-1) (B + 1) (ciC f v g l a b σ) (ciM f v g l (8 * a + b) μ) := by
  obtain ⟨⟨q102, q103, q106, q107, q108, q109, q110, q111, q116, q121, q122, q123, q124, q125, q130, q135, q140⟩, hSp, hMp, hPr, hHd, hFr, hLs, hBl, hWr, hC1, hC2, hC3, hRc, hRo, hSc, hSt, hBd⟩ := h
  have h9 : cC (σ 9) 192 f = 0 := (hHd f hf.1 hf.2).2.2.1 hk
  have h9n : ∀ d, 0 ≤ d → d ≤ 191 → σ 9 d ≠ f := fun d d0 d1 => cC_0.mp h9 d d0 (by omega)
  have h23 : μ 129 l ≤ 23 := by
    obtain ⟨pos, hLp⟩ := hLs
    exact m_Ls_23 hLp hl hf (Or.inl hk)
  have hLs2 := m_Ls_app (l := l) (k := 2) hf hl hk (by decide) h23 hBd.2.2.1 hLs
  unfold ciC ciM brC bgC ptM enM
  refine ⟨⟨?_, ?_, ?_, ?_, ?_, ?_, ?_, ?_, ?_, ?_, ?_, ?_, ?_, ?_, ?_, ?_, ?_⟩, ?_, ?_, ?_, ?_, ?_, ?_, ?_, ?_, ?_, ?_, ?_, ?_, ?_, ?_, ?_, ?_⟩
  all_goals (try simp (disch := decide) only [sc_s, sc_k, q102, q103, q106, q107, q108, q109, q110, q111, q116, q121, q122, q123, q124, q125, q130, q135, q140])
  all_goals (try with_reducible assumption)
  · intro d d0 d1
    have h1 := hHd d d0 d1
    by_cases hd : d = f
    · subst hd
      simp only [uc_s]
      exact ⟨by decide, by decide, fun q => absurd q (by decide), fun _ _ => h9.symm, fun _ q => absurd q (by decide)⟩
    · simp only [uc_n hd]
      exact h1
  · refine ⟨fun d d0 d1 => ?_, hFr.2⟩
    have h1 := hFr.1 d d0 d1
    by_cases hd : d = f
    · subst hd
      simp only [uc_s]
      exact ⟨hv.1, hv.2, by omega, by omega, hg.1, hg.2, by omega, by omega, by omega, by omega, by omega, by omega, fun q => absurd q (by decide), fun _ => ⟨trivial, trivial, ha.1, ha.2, hb.1, hb.2⟩⟩
    · simp only [uc_n hd]
      exact h1
  · refine ⟨hBl.1, hBl.2.1, fun e e0 e1 e2 => ?_⟩
    have := hBl.2.2 e e0 e1 e2
    rw [uc_n (h9n e e0 e1), uc_n (h9n e e0 e1)]
    exact this
  · intro e e0 e1 e2
    rw [uc_n (h9n e e0 e1), uc_n (h9n e e0 e1)]
    exact hWr e e0 e1 e2
  · obtain ⟨b1, b2, b3, b4, b5⟩ := hBd
    refine ⟨b1, by omega, ?_, ?_, fun k k0 k1 => ?_⟩
    · rw [uc_s]; omega
    · rw [uc_s]; omega
    · have := b5 k k0 k1; omega
theorem P_cached {B a b q : Int} {σ μ : S2} (ha : 0 ≤ a ∧ a ≤ 2) (hb : 0 ≤ b ∧ b ≤ 7) (hq : -1 ≤ q ∧ q ≤ 5) (hB : B + 140010 ≤ 2147483647) (h : Rg (-1) (-1) B σ μ) : ∃ r s1 m1, FX7_cachedFrame a b q σ = some (r, s1) ∧ FX8_caches (8 * a + b) (if q < 0 then 0 else σ 33 q) q μ = some (r, m1) ∧ Rg (-1) (-1) (B + 140010) s1 m1 ∧ WG σ μ s1 m1 ∧ -5 ≤ r ∧ r ≤ 23 ∧ (0 ≤ r → s1 15 r = 2) ∧ (r < 0 → (r = -4 ∧ 0 ≤ q) ∨ r = -5) ∧ (r ≠ -4 → 0 ≤ q → s1 35 q = σ 35 q) := by
  have hh := h
  obtain ⟨⟨q102, q103, q106, q107, q108, q109, q110, q111, q116, q121, q122, q123, q124, q125, q130, q135, q140⟩, hSp, hMp, hPr, hHd, hFr, hLs, hBl, hWr, hC1, hC2, hC3, hRc, hRo, hSc, hSt, hBd⟩ := h
  have hg : 0 ≤ (if q < 0 then 0 else σ 33 q) ∧ (if q < 0 then 0 else σ 33 q) ≤ 2 := by
    split
    · exact ⟨by decide, by decide⟩
    · have := hSp.2.2.1 q (by omega) (by omega)
      exact ⟨this.1, this.2.1⟩
  have hcg : fstI (fun f => (μ 121 f = 2) ∧ (μ 127 f = 8 * a + b)) 24 = fstI (fun f => ((σ 15 f = 2) ∧ (σ 24 f = a)) ∧ (σ 25 f = b)) 24 := fstI_cg fun f f0 f1 => by
    have h1 := hFr.1 f f0 (by omega)
    rw [q121]
    constructor
    · rintro ⟨w1, w2⟩
      have h2 := h1.2.2.2.2.2.2.2.2.2.2.2.2.2 w1
      exact ⟨⟨w1, by omega⟩, by omega⟩
    · rintro ⟨⟨w1, w2⟩, w3⟩
      have h2 := h1.2.2.2.2.2.2.2.2.2.2.2.2.2 w1
      exact ⟨w1, by omega⟩
  generalize hgg : (if q < 0 then 0 else σ 33 q) = g at hg
  -- the search, on each side
  have sC : ∀ Z : S2 → Option (Int × S2), gl1 1000 (fun k1 (x_i_page1 : Int) (s1 : S2) => if x_i_page1 < 24 then if ((s1 15 x_i_page1 = 2) ∧ (s1 24 x_i_page1 = a)) ∧ (s1 25 x_i_page1 = b) then some (x_i_page1, s1) else k1 (x_i_page1 + 1) s1 else Z s1) 0 σ = if fstI (fun f => ((σ 15 f = 2) ∧ (σ 24 f = a)) ∧ (σ 25 f = b)) 24 = -1 then Z σ else some (fstI (fun f => ((σ 15 f = 2) ∧ (σ 24 f = a)) ∧ (σ 25 f = b)) 24, σ) := fun Z =>
    gl1_fst (P := fun f => ((σ 15 f = 2) ∧ (σ 24 f = a)) ∧ (σ 25 f = b)) (A := fun j => some (j, σ)) (Z := Z σ) (N := 24) (by decide) (fun k j hj => if_pos (by omega)) (fun k => if_neg (by decide))
  rcases fstI_cases (fun f => ((σ 15 f = 2) ∧ (σ 24 f = a)) ∧ (σ 25 f = b)) 24 with w | w
  · obtain ⟨r, s, m, c1, c2, c3, c4, c5, c6, c7, c8, c9⟩ := P_takes hg hq (by omega) hh
    by_cases hr : 0 ≤ r
    · -- a new page is read
      have hk := c7 hr
      have hs := c3
      have hK : 0 ≤ 8 * a + b ∧ 8 * a + b ≤ 23 := by omega
      have n129 := P_m129 (l := 1) (by decide) hs
      have hSt2 := hs.2.2.2.2.2.2.2.2.2.2.2.2.2.2.2.1 (8 * a + b) hK.1 hK.2
      have hBd2 := hs.2.2.2.2.2.2.2.2.2.2.2.2.2.2.2.2
      have m140 : m 140 = s 48 := hs.1.2.2.2.2.2.2.2.2.2.2.2.2.2.2.2.2
      have m130 : m 130 = s 44 := hs.1.2.2.2.2.2.2.2.2.2.2.2.2.2.2.1
      have hFr2 := hs.2.2.2.2.2.1.2 (8 * a + b) hK.1 hK.2
      have hb2 := hBd2.2.2.2.2 2 (by decide) (by decide)
      have hcnt := cntI_r (isM s 1 (-1)) 24
      have hrf : ((0 < m 131 (8 * a + b)) ∧ ((m 140 2) - (m 131 (8 * a + b)) ≤ m 129 1)) ↔ ((s 45 (8 * a + b) ≠ -1) ∧ ((s 48 2) - (s 45 (8 * a + b)) ≤ cntI (isM s 1 (-1)) 24)) := by
        rw [m140, n129]
        omega
      generalize hrv : (if (s 45 (8 * a + b) ≠ -1) ∧ ((s 48 2) - (s 45 (8 * a + b)) ≤ cntI (isM s 1 (-1)) 24) then 1 else 0 : Int) = rf
      have hrf01 : 0 ≤ rf ∧ rf ≤ 1 := by rw [← hrv]; split <;> omega
      have hrm : (if (0 < m 131 (8 * a + b)) ∧ ((m 140 2) - (m 131 (8 * a + b)) ≤ m 129 1) then 1 else 0 : Int) = rf := by
        rw [← hrv]
        by_cases hz : (0 < m 131 (8 * a + b)) ∧ ((m 140 2) - (m 131 (8 * a + b)) ≤ m 129 1)
        · rw [if_pos hz, if_pos (hrf.mp hz)]
        · rw [if_neg hz, if_neg (fun z => hz (hrf.mpr z))]
      have hR1 := R_cs (c := uc (uc (s 48) 3 (s 48 3 + rf)) 4 (s 48 4 + 1)) (B' := B + 140001) (by omega) (fun k k0 k1 => by
        have := hBd2.2.2.2.2 k k0 k1
        unfold uc
        split
        · rename_i z; subst z; omega
        · split
          · rename_i z; subst z; omega
          · omega) hs
      have hR2 := R_ci (f := r) (v := s 44 (8 * a + b)) (g := g) (l := rf) (a := a) (b := b) ⟨hr, c6⟩ (by simp (disch := decide) only [sc_s, sc_k]; exact hk) hFr2 hg hrf01 ha hb hR1
      refine ⟨r, _, _, ?_, ?_, R_B (by omega) hR2, ?_, by omega, c6, ?_, fun z => by omega, ?_⟩
      · unfold FX7_cachedFrame
        refine rgd_eq ?_ (by omega) (by omega)
        rw [gd_pos ha, gd_pos hb, gd_pos hq]
        refine (sC _).trans ?_
        rw [if_pos w.1, hgg, cb_e c1]
        unfold FX7_pageIn
        have hpi : rgd (-1) 23 (gd ((-2147483648) ≤ r ∧ r ≤ 2147483647) (some ((if (0 ≤ r) ∧ (r < 24) then r else (-1) : Int), s))) = some (r, s) := by
          refine rgd_eq ?_ (by omega) (by omega)
          rw [gd_pos (by omega), if_pos (by omega)]
        rw [cb_e hpi, gd_pos (fun _ => by omega), gd_pos (fun _ => by omega), if_neg (by omega)]
        simp only [bn]
        rw [show a * 8 + b = 8 * a + b by omega, gd_pos (by omega)]
        have hfin : ∀ v2 : Int, (if v2 ≠ 0 then 1 else 0 : Int) = rf → (cb (FX2_begin r 2 (upd2 (upd2 s 48 3 (s 48 3 + (if v2 ≠ 0 then 1 else 0 : Int))) 48 4 (upd2 s 48 3 (s 48 3 + (if v2 ≠ 0 then 1 else 0 : Int)) 48 4 + 1) 44 (8 * a + b)) g (upd2 (upd2 s 48 3 (s 48 3 + (if v2 ≠ 0 then 1 else 0 : Int))) 48 4 (upd2 s 48 3 (s 48 3 + (if v2 ≠ 0 then 1 else 0 : Int)) 48 4 + 1))) fun r4 s10 => cb (FX7_bringToEnd r (if v2 ≠ 0 then 1 else 0 : Int) (upd2 (upd2 s10 24 r a) 25 r b)) fun r5 s13 => some (r, s13)) = some (r, ciC r (s 44 (8 * a + b)) g rf a b (sc s 48 (uc (uc (s 48) 3 (s 48 3 + rf)) 4 (s 48 4 + 1)))) := by
          intro v2 hv2
          rw [hv2]
          simp (disch := decide) only [u2_sc, sc_s, sc_k, sc_sc]
          rw [uc_n (show (4 : Int) ≠ 3 by decide), cb_e (e7_begin ⟨hr, c6⟩ (by decide) hFr2 hg), cb_e (e7_bring ⟨hr, c6⟩ hrf01)]
          unfold ciC bgC
          simp (disch := decide) only [sc_s, sc_k]
        by_cases hz1 : s 45 (8 * a + b) ≠ -1
        · rw [if_pos hz1, cb_e (e7_members (by decide) (by decide)), gd_pos (by omega)]
          by_cases hz2 : (s 48 2) - (s 45 (8 * a + b)) ≤ cntI (isM s 1 (-1)) 24
          · rw [if_pos hz2]
            exact hfin 1 ((if_pos (by decide)).trans (by rw [← hrv, if_pos ⟨hz1, hz2⟩]))
          · rw [if_neg hz2]
            exact hfin 0 ((if_neg (fun z => z rfl)).trans (by rw [← hrv, if_neg (fun z => hz2 z.2)]))
        · rw [if_neg hz1]
          exact hfin 0 ((if_neg (fun z => z rfl)).trans (by rw [← hrv, if_neg (fun z => hz1 z.1)]))
      · unfold FX8_caches
        refine rgd_eq ?_ (by omega) (by omega)
        rw [gd_pos hK, gd_pos hg, gd_pos hq]
        refine (gl1_fst (P := fun f => (μ 121 f = 2) ∧ (μ 127 f = 8 * a + b)) (A := fun j => some (j, μ)) (N := 24) (by decide) (fun k j hj => if_pos (by omega)) (fun k => if_neg (by decide))).trans ?_
        rw [hcg, if_pos w.1, cb_e c2]
        simp only [bn]
        rw [if_pos hr, gd_pos (by omega), gd_pos (fun _ => by rw [m140]; omega), hrm]
        simp (disch := decide) only [u2_sc, sc_s, sc_k, sc_sc]
        rw [m140, m130, uc_n (show (4 : Int) ≠ 3 by decide), cb_e (e8_puts (n := m 129 rf) ⟨hr, c6⟩ (by decide) hFr2 hg hrf01 (by simp (disch := decide) only [sc_s, sc_k]) (by
          have hLs2 := hs.2.2.2.2.2.2.1
          obtain ⟨pos, hLp⟩ := hLs2
          exact ⟨hLp.1 rf hrf01.1 hrf01.2, m_Ls_23 hLp hrf01 ⟨hr, c6⟩ (Or.inl hk)⟩))]
        unfold ciM ptM enM
        simp (disch := decide) only [sc_s, sc_k, uc_uc]
      · refine WG_tr (WG_WF c4) ⟨fun k hk => ?_, fun k hk => ?_, fun e e0 e1 he => ?_, fun z => ?_, fun e e0 e1 he => ?_⟩
        · simp only [List.mem_cons, List.not_mem_nil, or_false] at hk
          unfold ciC brC bgC
          rcases hk with rfl | rfl | rfl | rfl | rfl | rfl | rfl | rfl | rfl | rfl | rfl | rfl <;> simp (disch := decide) only [sc_s, sc_k]
        · simp only [List.mem_cons, List.not_mem_nil, or_false] at hk
          unfold ciM ptM enM
          rcases hk with rfl | rfl | rfl | rfl | rfl | rfl | rfl | rfl | rfl | rfl | rfl | rfl | rfl | rfl <;> simp (disch := decide) only [sc_s, sc_k]
        · unfold ciC brC bgC
          simp (disch := decide) only [sc_s, sc_k]
          exact ⟨⟨trivial, trivial, trivial, trivial, trivial, trivial⟩, Or.inl ⟨trivial, trivial, trivial⟩⟩
        · left
          unfold ciC brC bgC
          simp (disch := decide) only [sc_s, sc_k]
        · unfold ciC brC bgC at he ⊢
          simp (disch := decide) only [sc_s, sc_k] at he ⊢
          exact ⟨he, trivial, trivial⟩
      · intro _
        unfold ciC brC bgC
        simp (disch := decide) only [sc_s, sc_k, uc_s]
      · intro z1 z2
        rw [← c9 z1 z2]
        unfold ciC brC bgC
        simp (disch := decide) only [sc_s, sc_k]
    · refine ⟨r, s, m, ?_, ?_, R_B (by omega) c3, WG_WF c4, c5, c6, fun z => absurd z hr, c8, c9⟩
      · unfold FX7_cachedFrame
        refine rgd_eq ?_ (by omega) (by omega)
        rw [gd_pos ha, gd_pos hb, gd_pos hq]
        refine (sC _).trans ?_
        rw [if_pos w.1, hgg, cb_e c1]
        unfold FX7_pageIn
        have hpi : rgd (-1) 23 (gd ((-2147483648) ≤ r ∧ r ≤ 2147483647) (some ((if (0 ≤ r) ∧ (r < 24) then r else (-1) : Int), s))) = some (-1, s) := by
          refine rgd_eq ?_ (by decide) (by decide)
          rw [gd_pos (by omega), if_neg (by omega)]
        rw [cb_e hpi, gd_pos (fun z => by omega), gd_pos (fun z => by omega), if_pos (by omega)]
      · unfold FX8_caches
        refine rgd_eq ?_ (by omega) (by omega)
        rw [gd_pos (by omega), gd_pos hg, gd_pos hq]
        refine (gl1_fst (P := fun f => (μ 121 f = 2) ∧ (μ 127 f = 8 * a + b)) (A := fun j => some (j, μ)) (N := 24) (by decide) (fun k j hj => if_pos (by omega)) (fun k => if_neg (by decide))).trans ?_
        rw [hcg, if_pos w.1, cb_e c2]
        simp only [bn]
        rw [if_neg hr]
  · refine ⟨fstI (fun f => ((σ 15 f = 2) ∧ (σ 24 f = a)) ∧ (σ 25 f = b)) 24, σ, μ, ?_, ?_, R_B (by omega) hh, WG_WF WF_rf, by omega, by omega, fun _ => w.2.2.1.1.1, fun z => by omega, fun _ _ => rfl⟩
    · unfold FX7_cachedFrame
      refine rgd_eq ?_ (by omega) (by omega)
      rw [gd_pos ha, gd_pos hb, gd_pos hq]
      refine (sC _).trans ?_
      rw [if_neg (by omega)]
    · unfold FX8_caches
      refine rgd_eq ?_ (by omega) (by omega)
      rw [gd_pos (by omega), gd_pos hg, gd_pos hq]
      refine (gl1_fst (P := fun f => (μ 121 f = 2) ∧ (μ 127 f = 8 * a + b)) (A := fun j => some (j, μ)) (N := 24) (by decide) (fun k j hj => if_pos (by omega)) (fun k => if_neg (by decide))).trans ?_
      rw [hcg, if_neg (by omega)]
