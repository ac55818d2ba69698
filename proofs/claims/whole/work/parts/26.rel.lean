/-! how the two stores hang together: modules of columns -/
/-- the columns that are alike -/
def rEq (σ μ : S2) : Prop := μ 102 = σ 41 ∧ μ 103 = σ 32 ∧ μ 106 = σ 35 ∧ μ 107 = σ 33 ∧ μ 108 = σ 34 ∧ μ 109 = σ 36 ∧ μ 110 = σ 47 ∧ μ 111 = σ 3 ∧ μ 116 = σ 8 ∧ μ 121 = σ 15 ∧ μ 122 = σ 16 ∧ μ 123 = σ 17 ∧ μ 124 = σ 19 ∧ μ 125 = σ 21 ∧ μ 130 = σ 44 ∧ μ 135 = σ 1 ∧ μ 140 = σ 48
/-- spaces: made, group, adjusted, living, merging, limits, rights -/
def rSp (c41 c33 c34 c35 c36 c47 c3 : Int → Int) : Prop := 0 ≤ c41 0 ∧ c41 0 ≤ 6 ∧ (∀ s, 0 ≤ s → s ≤ 5 → 0 ≤ c33 s ∧ c33 s ≤ 2 ∧ -50 ≤ c34 s ∧ c34 s ≤ 50 ∧ 0 ≤ c35 s ∧ c35 s ≤ 1 ∧ 0 ≤ c36 s ∧ c36 s ≤ 1) ∧ (∀ s, c41 0 ≤ s → s ≤ 5 → c35 s = 0) ∧ (∀ e, 32 * c41 0 ≤ e → e ≤ 191 → c3 e = 0) ∧ (∀ g, 0 ≤ g → g ≤ 2 → c47 g = -1 ∨ 1 ≤ c47 g ∧ c47 g ≤ 24)
/-- what addresses are mapped to -/
def rMp (c2 c3 c4 c5 c6 c7 m112 m113 m114 m115 : Int → Int) : Prop := ∀ e, 0 ≤ e → e ≤ 191 → 0 ≤ c3 e ∧ c3 e ≤ 3 ∧ (c3 e = 0 → c2 e = 0) ∧ (c3 e ≠ 0 → c2 e = 1 ∧ m112 e = c4 e ∧ m113 e = c5 e ∧ m114 e = c6 e ∧ m115 e = c7 e ∧ -1 ≤ c4 e ∧ c4 e ≤ 2 ∧ 0 ≤ c5 e ∧ c5 e ≤ 7 ∧ 0 ≤ c6 e ∧ c6 e ≤ 1 ∧ 0 ≤ c7 e ∧ c7 e ≤ 1 ∧ (c4 e = -1 → c5 e = 0 ∧ c6 e = 0))
/-- what entries have: rights, state, page, writable, record -/
def rPr (c3 c8 c9 c10 c11 m117 m118 m119 : Int → Int) : Prop := ∀ e, 0 ≤ e → e ≤ 191 → (c8 e = 0 ∨ c8 e = 1 ∨ c8 e = 2) ∧ (c3 e = 0 → c8 e = 0) ∧ (c8 e = 1 → c9 e = m117 e ∧ 0 ≤ c9 e ∧ c9 e ≤ 23 ∧ c10 e = m118 e ∧ 0 ≤ c10 e ∧ c10 e ≤ 1) ∧ (c8 e ≠ 1 → c9 e = -1 ∧ c10 e = 0) ∧ (c8 e = 2 → c11 e = m119 e ∧ 0 ≤ c11 e ∧ c11 e ≤ 17) ∧ (c8 e ≠ 2 → c11 e = -1)
/-- how many entries have a page; x is one that comes or goes -/
def rHd (x : Int) (c9 c15 c20 : Int → Int) : Prop := ∀ f, 0 ≤ f → f ≤ 23 → 0 ≤ c15 f ∧ c15 f ≤ 2 ∧ (c15 f = 0 → cC c9 192 f = 0) ∧ (f ≠ x → c15 f ≠ 0 → c20 f = cC c9 192 f) ∧ (f ≠ x → c15 f = 1 → 1 ≤ cC c9 192 f)
/-- frames: kind, value, seen, group, merged, dirty, file, index, mark, key; disk -/
def rFr (c15 c16 c19 c21 c22 c23 c24 c25 m126 m127 c44 : Int → Int) : Prop := (∀ f, 0 ≤ f → f ≤ 23 → 0 ≤ c16 f ∧ c16 f ≤ 99999 ∧ 0 ≤ c19 f ∧ c19 f ≤ 1 ∧ 0 ≤ c21 f ∧ c21 f ≤ 2 ∧ 0 ≤ c22 f ∧ c22 f ≤ 1 ∧ 0 ≤ c23 f ∧ c23 f ≤ 1 ∧ 0 ≤ m126 f ∧ m126 f ≤ 1 ∧ (c15 f = 1 → c22 f = m126 f) ∧ (c15 f = 2 → c23 f = m126 f ∧ m127 f = 8 * c24 f + c25 f ∧ 0 ≤ c24 f ∧ c24 f ≤ 2 ∧ 0 ≤ c25 f ∧ c25 f ≤ 7)) ∧ (∀ i, 0 ≤ i → i ≤ 23 → 0 ≤ c44 i ∧ c44 i ≤ 99999)
/-- the two lists: kind, list, turn, row, many, the last turn; pos is a page's place in its list -/
def rLp (pos c15 c17 c18 m128 m129 c40 : Int → Int) : Prop := (∀ l, 0 ≤ l → l ≤ 1 → 0 ≤ m129 l) ∧ (∀ f, 0 ≤ f → f ≤ 23 → c15 f ≠ 0 → 0 ≤ c17 f ∧ c17 f ≤ 1 ∧ 0 ≤ pos f ∧ pos f < m129 (c17 f) ∧ m128 (24 * c17 f + pos f) = f ∧ 0 ≤ c18 f ∧ c18 f ≤ c40 0) ∧ (∀ l k, 0 ≤ l → l ≤ 1 → 0 ≤ k → k < m129 l → 0 ≤ m128 (24 * l + k) ∧ m128 (24 * l + k) ≤ 23 ∧ c15 (m128 (24 * l + k)) ≠ 0 ∧ c17 (m128 (24 * l + k)) = l ∧ pos (m128 (24 * l + k)) = k) ∧ (∀ f g, 0 ≤ f → f ≤ 23 → 0 ≤ g → g ≤ 23 → c15 f ≠ 0 → c15 g ≠ 0 → c17 f = c17 g → (pos f < pos g ↔ c18 f < c18 g))
def rLs (c15 c17 c18 m128 m129 c40 : Int → Int) : Prop := ∃ pos, rLp pos c15 c17 c18 m128 m129 c40
/-- blocks -/
def rBl (c46 m120 c8 c9 c15 c22 : Int → Int) : Prop := (∀ b, 0 ≤ b → b ≤ 47 → 0 ≤ c46 b ∧ c46 b ≤ 1) ∧ (∀ e, 0 ≤ e → e ≤ 191 → m120 e = c46 (e / 4)) ∧ (∀ e, 0 ≤ e → e ≤ 191 → c46 (e / 4) ≠ 0 → c8 e = 1 ∧ c15 (c9 e) = 1 ∧ c22 (c9 e) = 0 ∧ ∀ d, 0 ≤ d → d ≤ 191 → c9 d = c9 e → d = e)
/-- who may be written -/
def rWr (c10 c9 c15 c22 : Int → Int) : Prop := ∀ e, 0 ≤ e → e ≤ 191 → c10 e ≠ 0 → c15 (c9 e) = 1 → c22 (c9 e) = 0 ∧ ∀ d, 0 ≤ d → d ≤ 191 → c9 d = c9 e → d = e
/-- caches: what they hold -/
def rC1 (c1 c50 c37 c38 c39 m136 m137 m138 : Int → Int) : Prop := (∀ p, 0 ≤ p → p ≤ 1 → 0 ≤ c1 p ∧ c1 p ≤ 4) ∧ (∀ p t, 0 ≤ p → p ≤ 1 → 4 * p ≤ t → t ≤ 4 * p + 3 → 4 * p ≤ c50 t ∧ c50 t ≤ 4 * p + 3) ∧ (∀ t u, 0 ≤ t → t ≤ 7 → 0 ≤ u → u ≤ 7 → c50 t = c50 u → t = u) ∧ (∀ p t, 0 ≤ p → p ≤ 1 → 4 * p ≤ t → t < 4 * p + c1 p → c37 (c50 t) = m136 t ∧ c38 (c50 t) = m137 t ∧ c39 (c50 t) = m138 t ∧ 0 ≤ m136 t ∧ m136 t ≤ 191 ∧ 0 ≤ m137 t ∧ m137 t ≤ 23 ∧ 0 ≤ m138 t ∧ m138 t ≤ 1) ∧ (∀ p t u, 0 ≤ p → p ≤ 1 → 4 * p ≤ t → t < 4 * p + c1 p → 4 * p ≤ u → u < 4 * p + c1 p → m136 t = m136 u → t = u)
/-- messages -/
def rC2 (c1 c14 m136 m139 : Int → Int) : Prop := (∀ e, 0 ≤ e → e ≤ 191 → 0 ≤ c14 e ∧ c14 e ≤ 3) ∧ (∀ t, 0 ≤ t → t ≤ 7 → 0 ≤ m139 t ∧ m139 t ≤ 1) ∧ (∀ p t, 0 ≤ p → p ≤ 1 → 4 * p ≤ t → t < 4 * p + c1 p → (m139 t ≠ 0 ↔ gAnd (c14 (m136 t)) (p + 1) ≠ 0))
/-- what no message waits for is so -/
def rC3 (c1 m136 m137 m139 c8 c9 : Int → Int) : Prop := ∀ p t, 0 ≤ p → p ≤ 1 → 4 * p ≤ t → t < 4 * p + c1 p → m139 t = 0 → c8 (m136 t) = 1 ∧ c9 (m136 t) = m137 t
/-- records; y is one that is kept just now -/
def rRc (y : Int) (c11 c26 c27 c28 c29 c30 c32 m132 m133 m134 : Int → Int) : Prop := ∀ r, 0 ≤ r → r ≤ 17 → c30 r = cC c11 192 r ∧ (m132 r = -1 ↔ c30 r = 0 ∧ r ≠ y) ∧ (m132 r ≠ -1 → c28 r = m132 r ∧ c26 r = m133 r ∧ c27 r = (if m133 r < 100 then 1 else 2) ∧ 0 ≤ m132 r ∧ m132 r ≤ 10 ∧ 0 ≤ m133 r ∧ m133 r ≤ 99999 ∧ c29 r = m134 r + 1 ∧ 0 ≤ m134 r ∧ m134 r < c32 0)
/-- the store's room and the places -/
def rRo (c31 c49 m132 m133 : Int → Int) : Prop := c31 0 = sumI (fun r => if m132 r = 10 then (if m133 r < 100 then 1 else 2) else 0) 18 ∧ c31 0 ≤ 8 ∧ (∀ a b, 0 ≤ a → a ≤ 17 → 0 ≤ b → b ≤ 17 → m132 a = m132 b → 0 ≤ m132 a → m132 a ≤ 9 → a = b) ∧ (∀ q, 0 ≤ q → q ≤ 9 → 0 ≤ c49 q ∧ c49 q ≤ 1 ∧ (c49 q ≠ 0 ↔ ∃ r, 0 ≤ r ∧ r ≤ 17 ∧ m132 r = q))
/-- scanning -/
def rSc (c42 c43 c12 c3 m104 m105 m141 : Int → Int) : Prop := 0 ≤ c42 0 ∧ c42 0 ≤ 5 ∧ 0 ≤ c43 0 ∧ c43 0 ≤ 31 ∧ m104 0 = 32 * c42 0 + c43 0 ∧ 0 ≤ m105 0 ∧ m105 0 ≤ m104 0 ∧ (∀ k, 0 ≤ k → k < m105 0 → -1 ≤ m141 k ∧ m141 k < m104 0) ∧ (∀ j k, 0 ≤ j → j < k → k < m105 0 → m141 k = -1 ∨ m141 j < m141 k) ∧ (∀ e, 0 ≤ e → e ≤ 191 → 0 ≤ c12 e ∧ c12 e ≤ 1 ∧ (c12 e ≠ 0 ↔ ∃ k, 0 ≤ k ∧ k < m105 0 ∧ m141 k = e) ∧ (c12 e ≠ 0 → c3 e ≠ 0))
/-- stamps of evictions -/
def rSt (c45 m131 c48 : Int → Int) : Prop := ∀ i, 0 ≤ i → i ≤ 23 → c45 i = -1 ∧ m131 i = 0 ∨ c45 i = m131 i ∧ 1 ≤ m131 i ∧ m131 i ≤ c48 2
/-- bounds -/
def rBd (B : Int) (c32 c40 c48 : Int → Int) : Prop := 0 ≤ c32 0 ∧ c32 0 ≤ B ∧ 0 ≤ c40 0 ∧ c40 0 ≤ B ∧ ∀ k, 0 ≤ k → k ≤ 7 → 0 ≤ c48 k ∧ c48 k ≤ B
def Rg (x y B : Int) (σ μ : S2) : Prop := rEq σ μ ∧ rSp (σ 41) (σ 33) (σ 34) (σ 35) (σ 36) (σ 47) (σ 3) ∧ rMp (σ 2) (σ 3) (σ 4) (σ 5) (σ 6) (σ 7) (μ 112) (μ 113) (μ 114) (μ 115) ∧ rPr (σ 3) (σ 8) (σ 9) (σ 10) (σ 11) (μ 117) (μ 118) (μ 119) ∧ rHd x (σ 9) (σ 15) (σ 20) ∧ rFr (σ 15) (σ 16) (σ 19) (σ 21) (σ 22) (σ 23) (σ 24) (σ 25) (μ 126) (μ 127) (σ 44) ∧ rLs (σ 15) (σ 17) (σ 18) (μ 128) (μ 129) (σ 40) ∧ rBl (σ 46) (μ 120) (σ 8) (σ 9) (σ 15) (σ 22) ∧ rWr (σ 10) (σ 9) (σ 15) (σ 22) ∧ rC1 (σ 1) (σ 50) (σ 37) (σ 38) (σ 39) (μ 136) (μ 137) (μ 138) ∧ rC2 (σ 1) (σ 14) (μ 136) (μ 139) ∧ rC3 (σ 1) (μ 136) (μ 137) (μ 139) (σ 8) (σ 9) ∧ rRc y (σ 11) (σ 26) (σ 27) (σ 28) (σ 29) (σ 30) (σ 32) (μ 132) (μ 133) (μ 134) ∧ rRo (σ 31) (σ 49) (μ 132) (μ 133) ∧ rSc (σ 42) (σ 43) (σ 12) (σ 3) (μ 104) (μ 105) (μ 141) ∧ rSt (σ 45) (μ 131) (σ 48) ∧ rBd B (σ 32) (σ 40) (σ 48)
