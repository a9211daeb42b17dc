/-! ===== loops that are alike; loops that end ===== -/
theorem lp_cong {σ ρ : Type} {b1 b2 : σ → Option (σ ⊕ ρ)} (P : σ → Prop) (h : ∀ s, P s → b1 s = b2 s ∧ ∀ s', b2 s = some (.inl s') → P s') : ∀ (F : Nat) (s : σ), P s → lpM b1 F s = lpM b2 F s := by
  intro F
  induction F with
  | zero => intro s _; rfl
  | succ F ih =>
    intro s hs
    obtain ⟨h1, h2⟩ := h s hs
    unfold lpM
    rw [h1]
    cases hb : b2 s with
    | none => rfl
    | some o =>
      cases o with
      | inl s' => exact ih s' (h2 s' hb)
      | inr r => rfl
theorem lp_tot {σ ρ : Type} {b : σ → Option (σ ⊕ ρ)} (P : Nat → σ → Prop) (Q : ρ → Prop) (n : Nat) (h : ∀ i s, P i s → (∃ r, b s = some (.inr r) ∧ Q r) ∨ (i < n ∧ ∃ s', b s = some (.inl s') ∧ P (i + 1) s')) (F : Nat) (hF : n < F) {s : σ} (hs : P 0 s) : ∃ r, lpM b F s = some r ∧ Q r := by
  have key : ∀ (k i F : Nat) (s : σ), n ≤ i + k → k < F → P i s → ∃ r, lpM b F s = some r ∧ Q r := by
    intro k
    induction k with
    | zero =>
      intro i F s h1 h2 hp
      obtain ⟨F, rfl⟩ : ∃ G, F = G + 1 := ⟨F - 1, by omega⟩
      unfold lpM
      rcases h i s hp with ⟨r, e, q⟩ | ⟨hi, _⟩
      · rw [e]; exact ⟨r, rfl, q⟩
      · omega
    | succ k ih =>
      intro i F s h1 h2 hp
      obtain ⟨F, rfl⟩ : ∃ G, F = G + 1 := ⟨F - 1, by omega⟩
      unfold lpM
      rcases h i s hp with ⟨r, e, q⟩ | ⟨hi, s', e, hp'⟩
      · rw [e]; exact ⟨r, rfl, q⟩
      · rw [e]; exact ih (i + 1) F s' (by omega) (by omega) hp'
  exact key n 0 F s (by omega) hF hs
theorem nI_m9 {k : Nat} (h : k < 2147483648) : ¬ nI k = (-9 : Int32) := by
  intro e
  have := congrArg Int32.toInt e
  rw [nI_toInt h] at this
  have h9 : (-9 : Int32).toInt = -9 := by decide
  omega
theorem m9_lt {k : Nat} (h : k < 2147483648) : (-9 : Int32) < nI k := by
  rw [Int32.lt_iff_toInt_lt, nI_toInt h]
  have h9 : (-9 : Int32).toInt = -9 := by decide
  omega
theorem mx_n {a b : Nat} (ha : a < 2147483648) (hb : b < 2147483648) : (if nI a < nI b then nI b else nI a) = nI (max a b) := by
  by_cases h : a < b
  · rw [if_pos (nI_lt h hb), Nat.max_eq_right (by omega)]
  · rw [if_neg (nI_nlt (by omega) ha), Nat.max_eq_left (by omega)]
theorem mn_n {a b : Nat} (ha : a < 2147483648) (hb : b < 2147483648) : (if nI b < nI a then nI b else nI a) = nI (min a b) := by
  by_cases h : b < a
  · rw [if_pos (nI_lt h ha), Nat.min_eq_right (by omega)]
  · rw [if_neg (nI_nlt (by omega) hb), Nat.min_eq_left (by omega)]
theorem mk2 {mk : Nat → Int32} {b : Nat} (hb : b < 8) (h : okMk mk b) : f_X4_markOf mk (nI b) 2 = some (nI (mN mk b 2)) := by
  have := markOf_n mk (w := 2) hb (by omega)
  rw [h.at.2.2.2.1] at this; exact this
theorem mk3 {mk : Nat → Int32} {b : Nat} (hb : b < 8) (h : okMk mk b) : f_X4_markOf mk (nI b) 3 = some (nI (mN mk b 3)) := by
  have := markOf_n mk (w := 3) hb (by omega)
  rw [h.at.2.2.2.2.1] at this; exact this
theorem mk4 {mk : Nat → Int32} {b : Nat} (hb : b < 8) (h : okMk mk b) : f_X4_markOf mk (nI b) 4 = some (nI (mN mk b 4)) := by
  have := markOf_n mk (w := 4) hb (by omega)
  rw [h.at.2.2.2.2.2.1] at this; exact this
theorem mk5 {mk : Nat → Int32} {b : Nat} (hb : b < 8) (h : okMk mk b) : f_X4_markOf mk (nI b) 5 = some (nI (mN mk b 5)) := by
  have := markOf_n mk (w := 5) hb (by omega)
  rw [h.at.2.2.2.2.2.2] at this; exact this
theorem mk0 {mk : Nat → Int32} {b : Nat} (hb : b < 8) : f_X4_markOf mk (nI b) 0 = some (mk (6 * b)) := markOf_n mk (w := 0) hb (by omega)
/-- the model's reads -/
theorem r2 {α : Type} {mk : Nat → Int32} {b : Nat} {k : Int32 → Option α} (hb : b < 8) (h : okMk mk b) : gd ((6 : Int32) * nI b + 2) 48 (k (mk ((6 : Int32) * nI b + 2).toNatClampNeg)) = k (nI (mN mk b 2)) := by
  rw [six (W := 2) (w := 2) rfl, gd_n (by omega) (by omega), nI_clamp (by omega), h.at.2.2.2.1]
theorem r3 {α : Type} {mk : Nat → Int32} {b : Nat} {k : Int32 → Option α} (hb : b < 8) (h : okMk mk b) : gd ((6 : Int32) * nI b + 3) 48 (k (mk ((6 : Int32) * nI b + 3).toNatClampNeg)) = k (nI (mN mk b 3)) := by
  rw [six (W := 3) (w := 3) rfl, gd_n (by omega) (by omega), nI_clamp (by omega), h.at.2.2.2.2.1]
theorem e2 {mk : Nat → Int32} {b : Nat} (hb : b < 8) (h : okMk mk b) : mk ((6 : Int32) * nI b + 2).toNatClampNeg = nI (mN mk b 2) := by
  rw [six (W := 2) (w := 2) rfl, nI_clamp (by omega), h.at.2.2.2.1]
theorem e3 {mk : Nat → Int32} {b : Nat} (hb : b < 8) (h : okMk mk b) : mk ((6 : Int32) * nI b + 3).toNatClampNeg = nI (mN mk b 3) := by
  rw [six (W := 3) (w := 3) rfl, nI_clamp (by omega), h.at.2.2.2.2.1]
theorem e4 {mk : Nat → Int32} {b : Nat} (hb : b < 8) (h : okMk mk b) : mk ((6 : Int32) * nI b + 4).toNatClampNeg = nI (mN mk b 4) := by
  rw [six (W := 4) (w := 4) rfl, nI_clamp (by omega), h.at.2.2.2.2.2.1]
theorem e5 {mk : Nat → Int32} {b : Nat} (hb : b < 8) (h : okMk mk b) : mk ((6 : Int32) * nI b + 5).toNatClampNeg = nI (mN mk b 5) := by
  rw [six (W := 5) (w := 5) rfl, nI_clamp (by omega), h.at.2.2.2.2.2.2]
theorem g2 {α : Type} {b : Nat} {A : Option α} (hb : b < 8) : gd ((6 : Int32) * nI b + 2) 48 A = A := by rw [six (W := 2) (w := 2) rfl, gd_n (by omega) (by omega)]
theorem g3 {α : Type} {b : Nat} {A : Option α} (hb : b < 8) : gd ((6 : Int32) * nI b + 3) 48 A = A := by rw [six (W := 3) (w := 3) rfl, gd_n (by omega) (by omega)]
theorem g4 {α : Type} {b : Nat} {A : Option α} (hb : b < 8) : gd ((6 : Int32) * nI b + 4) 48 A = A := by rw [six (W := 4) (w := 4) rfl, gd_n (by omega) (by omega)]
theorem g5 {α : Type} {b : Nat} {A : Option α} (hb : b < 8) : gd ((6 : Int32) * nI b + 5) 48 A = A := by rw [six (W := 5) (w := 5) rfl, gd_n (by omega) (by omega)]
theorem g0 {α : Type} {b : Nat} {A : Option α} (hb : b < 8) : gd ((6 : Int32) * nI b) 48 A = A := by rw [six0, gd_n (by omega) (by omega)]
theorem e0 {mk : Nat → Int32} {b : Nat} (hb : b < 8) : mk ((6 : Int32) * nI b).toNatClampNeg = mk (6 * b) := by rw [six0, nI_clamp (by omega)]
/-! ===== once ===== -/
def mxO (mk : Nat → Int32) : Nat → Nat
  | 0 => 0
  | b + 1 => if icB mk b = true then max (mxO mk b) (mN mk b 2) else mxO mk b
def mnY (mk : Nat → Int32) : Nat → Nat
  | 0 => 100
  | b + 1 => if icB mk b = true then min (mnY mk b) (mN mk b 3) else mnY mk b
theorem mxO_lt {mk : Nat → Int32} {n : Nat} (hB : ∀ b, b < n → okMk mk b) : ∀ i, i ≤ n → mxO mk i < 100 := by
  intro i
  induction i with
  | zero => intro _; exact Nat.zero_lt_succ _
  | succ i ih =>
    intro h
    have h1 := ih (by omega)
    have h2 := (hB i (by omega)).at.1
    unfold mxO
    split <;> omega
theorem mnY_le {mk : Nat → Int32} : ∀ i, mnY mk i ≤ 100 := by
  intro i
  induction i with
  | zero => exact Nat.le_refl _
  | succ i ih => unfold mnY; split <;> omega
theorem mnY_lt {mk : Nat → Int32} {n : Nat} (hB : ∀ b, b < n → okMk mk b) : ∀ i, i ≤ n → 0 < cIcy mk i → mnY mk i < 100 := by
  intro i
  induction i with
  | zero => intro _ h; exact absurd h (Nat.lt_irrefl 0)
  | succ i ih =>
    intro h hc
    have h2 := (hB i (by omega)).at.1
    unfold mnY
    unfold cIcy at hc
    split
    · omega
    · rename_i h9
      rw [if_neg h9] at hc
      exact ih (by omega) hc
theorem onceX {mk : Nat → Int32} {n : Nat} (hn : n ≤ 8) (hB : ∀ b, b < n → okMk mk b) : f_X2_firstCommonRound mk (nI n) = some (if cIcy mk n = 0 then -9 else if mnY mk n < mxO mk n then -9 else nI (mxO mk n)) := by
  unfold f_X2_firstCommonRound
  refine lp_bd (fun i => ((if cIcy mk i = 0 then (-9 : Int32) else nI (mxO mk i)), nI (mnY mk i), nI i)) ((if cIcy mk n = 0 then (-9 : Int32) else nI (mxO mk n)), nI (mnY mk n)) n (FU_lt (by omega)) rfl ?_ ?_ ?_
  · show f_X2_firstCommonRound_x52_1 (if cIcy mk n = 0 then (-9 : Int32) else nI (mxO mk n)) (nI (mnY mk n)) = _
    unfold f_X2_firstCommonRound_x52_1
    have h1 := mxO_lt hB n (Nat.le_refl n)
    have h2 := mnY_le (mk := mk) n
    by_cases hc : cIcy mk n = 0
    · rw [if_pos hc, if_pos hc, if_neg (Int32.not_lt.mpr (Int32.le_of_lt (m9_lt (by omega))))]
    · rw [if_neg hc, if_neg hc]
      by_cases h3 : mnY mk n < mxO mk n
      · rw [if_pos (nI_lt h3 (by omega)), if_pos h3]
      · rw [if_neg (nI_nlt (by omega) (by omega)), if_neg h3]
  · intro i hi
    show f_X2_firstCommonRound_b8 mk (nI n) (if cIcy mk i = 0 then (-9 : Int32) else nI (mxO mk i)) (nI (mnY mk i)) (nI i) = _
    unfold f_X2_firstCommonRound_b8
    have ok := hB i hi
    have b1 := ok.at.1
    have h1 := mxO_lt hB i (by omega)
    have h2 := mnY_le (mk := mk) i
    rw [if_neg (nle hi (by omega)), icX (by omega) ok, Option.bind_some, ite10]
    by_cases h : icB mk i = true
    · rw [if_pos h, mk2 (by omega) ok, mk3 (by omega) ok, Option.bind_some, Option.bind_some, nI1, mn_n (by omega) (by omega)]
      simp only [cIcy, mxO, mnY, if_pos h]
      rw [if_neg (show ¬ cIcy mk i + 1 = 0 by omega)]
      by_cases hc : cIcy mk i = 0
      · have hm : mxO mk i = 0 := by
          clear h1 h2 b1 ok h
          revert hc
          induction i with
          | zero => intro _; rfl
          | succ i ih =>
            intro hc
            unfold cIcy at hc
            unfold mxO
            by_cases h9 : icB mk i = true
            · rw [if_pos h9] at hc; omega
            · rw [if_neg h9] at hc ⊢; exact ih (by omega) hc
        rw [if_pos hc, if_pos (m9_lt (by omega)), hm, Nat.zero_max]
      · rw [if_neg hc, mx_n (by omega) (by omega)]
    · rw [if_neg h, nI1]
      simp only [cIcy, mxO, mnY, if_neg h]
      rfl
  · show f_X2_firstCommonRound_b8 mk (nI n) _ (nI (mnY mk n)) (nI n) = _
    unfold f_X2_firstCommonRound_b8
    rw [if_pos (Int32.le_refl _)]
theorem onceM {mk : Nat → Int32} {n : Nat} (hn : n ≤ 8) (hB : ∀ b, b < n → okMk mk b) : f_X11_once (nI n) mk = some (if cIcy mk n = 0 then -9 else if mnY mk n < mxO mk n then -9 else nI (mxO mk n)) := by
  unfold f_X11_once
  refine lp_bd (fun i => (nI (mxO mk i), nI (min 99 (mnY mk i)), nI (cIcy mk i), nI i)) (nI (mxO mk n), nI (min 99 (mnY mk n)), nI (cIcy mk n)) n (FU_lt (by omega)) rfl ?_ ?_ ?_
  · show f_X11_once_x103_1 (nI (mxO mk n)) (nI (min 99 (mnY mk n))) (nI (cIcy mk n)) = _
    unfold f_X11_once_x103_1
    have h1 := mxO_lt hB n (Nat.le_refl n)
    have hcl : ∀ i, cIcy mk i ≤ i := by
      intro i
      induction i with
      | zero => exact Nat.le_refl _
      | succ i ih => unfold cIcy; split <;> omega
    have h3 := hcl n
    by_cases hc : cIcy mk n = 0
    · rw [if_pos (show nI (cIcy mk n) = 0 by rw [hc]; rfl), if_pos hc]
    · have h2 := mnY_lt hB n (Nat.le_refl n) (by omega)
      rw [if_neg (nI_ne0 (by omega) (by omega)), if_neg hc, show min 99 (mnY mk n) = mnY mk n by omega]
      by_cases h3 : mnY mk n < mxO mk n
      · rw [if_neg (nI_ge h3 (by omega)), if_pos h3]
      · rw [if_pos (nI_le (by omega) (by omega)), if_neg h3]
  · intro i hi
    show f_X11_once_b10 (nI n) mk (nI (mxO mk i)) (nI (min 99 (mnY mk i))) (nI (cIcy mk i)) (nI i) = _
    unfold f_X11_once_b10
    have ok := hB i hi
    have b1 := ok.at.1
    have h1 := mxO_lt hB i (by omega)
    have h2 := mnY_le (mk := mk) i
    rw [if_neg (nle hi (by omega)), icM (by omega) ok, Option.bind_some, ite10]
    by_cases h : icB mk i = true
    · rw [if_pos h, g2 (by omega), g2 (by omega), e2 (by omega) ok]
      simp only [f_X11_once_j60, cIcy, mxO, mnY, if_pos h]
      rw [g3 (by omega), g3 (by omega), g3 (by omega), g3 (by omega), e3 (by omega) ok, nI1, nI1, Option.bind_some, Option.bind_some]
      by_cases c1 : mN mk i 2 ≤ mxO mk i
      · rw [if_pos (nI_le c1 (by omega)), Nat.max_eq_left c1]
        by_cases c2 : min 99 (mnY mk i) ≤ mN mk i 3
        · rw [if_pos (nI_le c2 (by omega)), show min 99 (min (mnY mk i) (mN mk i 3)) = min 99 (mnY mk i) by omega]
        · rw [if_neg (nI_ge (by omega) (by omega)), show min 99 (min (mnY mk i) (mN mk i 3)) = mN mk i 3 by omega]
      · rw [if_neg (nI_ge (by omega) (by omega)), Nat.max_eq_right (by omega)]
        by_cases c2 : min 99 (mnY mk i) ≤ mN mk i 3
        · rw [if_pos (nI_le c2 (by omega)), show min 99 (min (mnY mk i) (mN mk i 3)) = min 99 (mnY mk i) by omega]
        · rw [if_neg (nI_ge (by omega) (by omega)), show min 99 (min (mnY mk i) (mN mk i 3)) = mN mk i 3 by omega]
    · rw [if_neg h, nI1]
      simp only [cIcy, mxO, mnY, if_neg h]
      rfl
  · show f_X11_once_b10 (nI n) mk _ _ _ (nI n) = _
    unfold f_X11_once_b10
    rw [if_pos (Int32.le_refl _)]
theorem st_once : St_once := by
  intro tx tl lw ice mk wt bd s6 s8 s7 s1 s5 s2 u0 u1 sm kz kb km kw hI
  obtain ⟨n, hn, rfl, hB⟩ := hI.2.2.2.1
  refine ⟨_, ?_, onceM hn hB, hI⟩
  unfold f_X10_once
  rw [onceX hn hB]
  rfl
