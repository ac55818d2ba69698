/-! the class's small methods, in closed form -/
def tl (e : Int) (σ : S2) : Int → Int := if σ 8 e = 1 then uc (σ 14) e 3 else σ 14
theorem e7_tell {e : Int} {σ : S2} (he : 0 ≤ e ∧ e ≤ 191) : FX1_tellProcessors e σ = some (0, sc σ 14 (tl e σ)) := by
  unfold FX1_tellProcessors tl
  rw [gd_pos he]
  simp only [bn]
  by_cases h : σ 8 e = 1
  · rw [if_pos h, if_pos h, u2_sc]
  · rw [if_neg h, if_neg h, sc_nop rfl]
theorem e7_setJ {b v : Int} {σ : S2} (hb : 0 ≤ b ∧ b ≤ 47) (hv : 0 ≤ v ∧ v ≤ 1) : FX7_setJoined b v σ = some (0, sc σ 46 (uc (σ 46) b v)) := by
  unfold FX7_setJoined
  rw [gd_pos hb, gd_pos hv]
  simp only [bn]
  rw [if_pos ⟨by omega, by omega⟩, u2_sc]
theorem e7_setJ0 {e : Int} {σ : S2} (he : 0 ≤ e ∧ e ≤ 191) : FX7_setJoined (e / 4) 0 σ = some (0, sc σ 46 (uc (σ 46) (e / 4) 0)) := e7_setJ (by omega) (by omega)
def abC (e : Int) (σ : S2) : S2 := sc (sc (sc (sc σ 8 (uc (σ 8) e 0)) 9 (uc (σ 9) e (-1))) 10 (uc (σ 10) e 0)) 11 (uc (σ 11) e (-1))
theorem e7_abs {e : Int} {σ : S2} (he : 0 ≤ e ∧ e ≤ 191) : FX1_becomeAbsent e σ = some (0, abC e σ) := by
  unfold FX1_becomeAbsent abC
  rw [gd_pos he]
  simp (disch := decide) only [bn, u2_sc, sc_s, sc_k]
theorem e7_est {e r f i h g : Int} {σ : S2} (he : 0 ≤ e ∧ e ≤ 191) (hr : 0 ≤ r ∧ r ≤ 3) (hf : -1 ≤ f ∧ f ≤ 2) (hi : f ≠ -1 → 0 ≤ i ∧ i ≤ 7) (hh : 0 ≤ h ∧ h ≤ 1) (hg : 0 ≤ g ∧ g ≤ 1) : FX1_establish e r f i h g σ = some (0, sc (sc (sc (sc (sc (sc σ 2 (uc (σ 2) e 1)) 3 (uc (σ 3) e r)) 4 (uc (σ 4) e f)) 5 (uc (σ 5) e (if f = -1 then 0 else i))) 6 (uc (σ 6) e (if f ≠ -1 ∧ h ≠ 0 then 1 else 0))) 7 (uc (σ 7) e g)) := by
  unfold FX1_establish
  rw [gd_pos he, gd_pos hr, gd_pos hf, gd_pos hh, gd_pos hg]
  simp (disch := decide) only [bn, u2_sc, sc_s, sc_k]
  rw [gd_pos (by split <;> omega)]
theorem e7_clear {e : Int} {σ : S2} (he : 0 ≤ e ∧ e ≤ 191) : FX1_clear e σ = some (0, abC e (sc (sc (sc (sc (sc (sc (sc σ 2 (uc (σ 2) e 0)) 3 (uc (σ 3) e 0)) 4 (uc (σ 4) e (-1))) 5 (uc (σ 5) e 0)) 6 (uc (σ 6) e 0)) 7 (uc (σ 7) e 0)) 12 (uc (σ 12) e 0))) := by
  unfold FX1_clear
  rw [gd_pos he]
  simp (disch := decide) only [bn, u2_sc, sc_s, sc_k, e7_abs he, cb_mk]
def fbC (e : Int) (σ : S2) : S2 := sc (sc σ 14 (if σ 10 e ≠ 0 then tl e σ else σ 14)) 10 (uc (σ 10) e 0)
theorem e7_forbid {e : Int} {σ : S2} (he : 0 ≤ e ∧ e ≤ 191) : FX1_forbidStores e σ = some (0, fbC e σ) := by
  unfold FX1_forbidStores fbC
  rw [gd_pos he]
  simp only [bn]
  by_cases h : σ 10 e = 0
  · rw [if_neg (fun q => q h), if_neg (fun q => q h), sc_nop rfl, sc_nop (uc_id h)]
  · rw [if_pos h, if_pos h, e7_tell he]
    simp (disch := decide) only [cb_mk, u2_sc, sc_k]
def bgC (f k v g : Int) (σ : S2) : S2 := sc (sc (sc (sc (sc (sc (sc σ 15 (uc (σ 15) f k)) 16 (uc (σ 16) f v)) 21 (uc (σ 21) f g)) 19 (uc (σ 19) f 0)) 20 (uc (σ 20) f 0)) 22 (uc (σ 22) f 0)) 23 (uc (σ 23) f 0)
theorem e7_begin {f k v g : Int} {σ : S2} (hf : 0 ≤ f ∧ f ≤ 23) (hk : 0 ≤ k ∧ k ≤ 2) (hv : 0 ≤ v ∧ v ≤ 99999) (hg : 0 ≤ g ∧ g ≤ 2) : FX2_begin f k v g σ = some (0, bgC f k v g σ) := by
  unfold FX2_begin bgC
  rw [gd_pos hf, gd_pos hk, gd_pos hv, gd_pos hg]
  simp (disch := decide) only [bn, u2_sc, sc_s, sc_k]
def brC (f l : Int) (σ : S2) : S2 := sc (sc (sc σ 40 (uc (σ 40) 0 (σ 40 0 + 1))) 18 (uc (σ 18) f (σ 40 0 + 1))) 17 (uc (σ 17) f l)
theorem e7_bring {f l : Int} {σ : S2} (hf : 0 ≤ f ∧ f ≤ 23) (hl : 0 ≤ l ∧ l ≤ 1) : FX7_bringToEnd f l σ = some (0, brC f l σ) := by
  unfold FX7_bringToEnd brC
  rw [gd_pos hf, gd_pos hl]
  simp (disch := decide) only [bn, u2_sc, sc_s, sc_k, uc_s]
def l30 (r : Int) (σ : S2) : Int → Int := uc (σ 30) r (σ 30 r - 1)
def l31 (r : Int) (σ : S2) : Int → Int := if σ 30 r ≤ 1 ∧ σ 28 r = 10 then uc (σ 31) 0 (σ 31 0 - σ 27 r) else σ 31
def l49 (r : Int) (σ : S2) : Int → Int := if σ 30 r ≤ 1 ∧ 0 ≤ σ 28 r ∧ σ 28 r < 10 then uc (σ 49) (σ 28 r) 0 else σ 49
theorem e7_release {r : Int} {σ : S2} (hr : 0 ≤ r ∧ r ≤ 17) (h30 : 1 ≤ σ 30 r ∧ σ 30 r ≤ 192) (h31 : σ 28 r = 10 → 0 ≤ σ 31 0 - σ 27 r ∧ σ 31 0 - σ 27 r ≤ 8) : FX4_release r σ = some (0, sc (sc (sc σ 30 (l30 r σ)) 31 (l31 r σ)) 49 (l49 r σ)) := by
  unfold FX4_release l30
  rw [gd_pos hr, gd_pos (by omega)]
  simp (disch := decide) only [bn, u2_sc, sc_s, sc_k, uc_s]
  by_cases h1 : σ 30 r ≤ 1
  · rw [if_neg (by omega)]
    by_cases h2 : σ 28 r = 10
    · have e1 : l31 r σ = uc (σ 31) 0 (σ 31 0 - σ 27 r) := if_pos ⟨h1, h2⟩
      have e2 : l49 r σ = σ 49 := if_neg (by omega)
      rw [if_pos h2, gd_pos (h31 h2), e1, e2, sc_nop (k := 49) (by simp (disch := decide) only [sc_k])]
    · have e1 : l31 r σ = σ 31 := if_neg (by omega)
      rw [if_neg h2, e1, sc_nop (k := 31) (by simp (disch := decide) only [sc_k])]
      by_cases h3 : 0 ≤ σ 28 r ∧ σ 28 r < 10
      · have e2 : l49 r σ = uc (σ 49) (σ 28 r) 0 := if_pos ⟨h1, h3⟩
        rw [if_pos h3, e2]
      · have e2 : l49 r σ = σ 49 := if_neg (by omega)
        rw [if_neg h3, e2, sc_nop (k := 49) (by simp (disch := decide) only [sc_k])]
  · have e1 : l31 r σ = σ 31 := if_neg (by omega)
    have e2 : l49 r σ = σ 49 := if_neg (by omega)
    rw [if_pos (by omega), e1, e2, sc_nop (k := 31) (by simp (disch := decide) only [sc_k]), sc_nop (k := 49) (by simp (disch := decide) only [sc_k])]
/-- an entry leaves its page, its record -/
def lbC (e : Int) (σ : S2) : S2 := abC e (sc (sc σ 14 (tl e σ)) 46 (uc (σ 46) (e / 4) 0))
theorem e7_leave0 {e : Int} {σ : S2} (he : 0 ≤ e ∧ e ≤ 191) (h9 : σ 9 e = -1) (h11 : σ 11 e = -1) : FX7_leave e σ = some (0, lbC e σ) := by
  unfold FX7_leave lbC
  rw [gd_pos he, cb_e (e7_tell he), cb_e (e7_setJ0 he), cb_e (e7_abs he)]
  simp (disch := decide) only [bn, sc_k, h9, h11]
  rw [if_neg (by decide), if_neg (by decide)]
def l15 (p : Int) (σ : S2) : Int → Int := if σ 15 p = 1 ∧ σ 20 p ≤ 1 then uc (σ 15) p 0 else σ 15
theorem e7_leave1 {e p : Int} {σ : S2} (he : 0 ≤ e ∧ e ≤ 191) (h9 : σ 9 e = p) (h11 : σ 11 e = -1) (hp : 0 ≤ p ∧ p ≤ 23) (h20 : 1 ≤ σ 20 p ∧ σ 20 p ≤ 192) : FX7_leave e σ = some (0, sc (sc (lbC e σ) 20 (uc (σ 20) p (σ 20 p - 1))) 15 (l15 p σ)) := by
  unfold FX7_leave
  rw [gd_pos he, cb_e (e7_tell he), cb_e (e7_setJ0 he), cb_e (e7_abs he)]
  unfold lbC abC l15
  simp (disch := decide) only [bn, sc_k, h9, h11, u2_sc, sc_s, uc_s]
  rw [if_pos hp.1, gd_pos (by omega)]
  by_cases h : σ 15 p = 1 ∧ σ 20 p ≤ 1
  · rw [if_pos (by omega), if_neg (by decide), if_pos h]
  · rw [if_neg (by omega), if_neg (by decide), if_neg h, sc_nop (k := 15) (by simp (disch := decide) only [sc_k])]
theorem e7_leave2 {e r : Int} {σ : S2} (he : 0 ≤ e ∧ e ≤ 191) (h9 : σ 9 e = -1) (h11 : σ 11 e = r) (hr : 0 ≤ r ∧ r ≤ 17) (h30 : 1 ≤ σ 30 r ∧ σ 30 r ≤ 192) (h31 : σ 28 r = 10 → 0 ≤ σ 31 0 - σ 27 r ∧ σ 31 0 - σ 27 r ≤ 8) : FX7_leave e σ = some (0, sc (sc (sc (lbC e σ) 30 (l30 r σ)) 31 (l31 r σ)) 49 (l49 r σ)) := by
  unfold FX7_leave
  rw [gd_pos he, cb_e (e7_tell he), cb_e (e7_setJ0 he), cb_e (e7_abs he)]
  simp (disch := decide) only [bn, sc_k, h9, h11]
  rw [if_neg (by decide), if_pos hr.1, e7_release hr (by unfold abC; simp (disch := decide) only [sc_k]; exact h30) (by unfold abC; simp (disch := decide) only [sc_k]; exact h31)]
  unfold lbC abC l30 l31 l49
  simp (disch := decide) only [cb_mk, sc_k]
