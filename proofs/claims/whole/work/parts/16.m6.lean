/-! ===== order, gap ===== -/
theorem nI_nn {k : Nat} (h : k < 2147483648) : ¬ nI k < 0 := Int32.not_lt.mpr (nI_pos' h)
def liB (mk : Nat → Int32) (a : Int32) (b : Nat) : Bool := decide (mk (6 * b) = a)
theorem liB_iff {mk : Nat → Int32} {a : Int32} {b : Nat} : liB mk a b = true ↔ mk (6 * b) = a := by unfold liB; exact decide_eq_true_iff
theorem lies_n {mk : Nat → Int32} {a : Int32} {b : Nat} (hb : b < 8) : f_X4_liesIn mk (nI b) a = some (if liB mk a b = true then 1 else 0) := by
  unfold f_X4_liesIn
  rw [mk0 hb, Option.bind_some]
  by_cases h : mk (6 * b) = a
  · rw [if_pos h, if_pos (liB_iff.mpr h)]
  · rw [if_neg h, if_neg (fun q => h (liB_iff.mp q))]
def eaN (mk : Nat → Int32) (a : Int32) : Nat → Nat
  | 0 => 0
  | b + 1 => if liB mk a b = true then max (eaN mk a b) (mN mk b 2) else eaN mk a b
theorem eaN_lt {mk : Nat → Int32} {a : Int32} {n : Nat} (hB : ∀ b, b < n → okMk mk b) : ∀ i, i ≤ n → eaN mk a i < 100 := by
  intro i
  induction i with
  | zero => intro _; exact Nat.zero_lt_succ _
  | succ i ih =>
    intro h
    have h1 := ih (by omega)
    have h2 := (hB i (by omega)).at.1
    unfold eaN
    split <;> omega
def okO (mk : Nat → Int32) (a : Int32) : Nat → Bool
  | 0 => true
  | b + 1 => okO mk a b && (!liB mk a b || decide (eaN mk a (b + 1) ≤ mN mk b 3))
theorem okO_down {mk : Nat → Int32} {a : Int32} {i : Nat} (h : okO mk a i = false) : ∀ k, okO mk a (i + k) = false := by
  intro k
  induction k with
  | zero => exact h
  | succ k ih => rw [← Nat.add_assoc]; unfold okO; rw [ih]; rfl
theorem inOrderX {mk : Nat → Int32} {a : Int32} {n : Nat} (hn : n ≤ 8) (hB : ∀ b, b < n → okMk mk b) : f_X2_isInOrder mk (nI n) a = some (if okO mk a n = true then 1 else 0) := by
  unfold f_X2_isInOrder
  have key : ∀ (i : Nat) (s : Int32 × Int32), (s = (nI (eaN mk a i), nI i) ∧ okO mk a i = true ∧ i ≤ n) → (∃ r, f_X2_isInOrder_b4 mk (nI n) a s.1 s.2 = some (.inr r) ∧ (r = if okO mk a n = true then Sum.inl () else Sum.inr (0 : Int32))) ∨ (i < n ∧ ∃ s', f_X2_isInOrder_b4 mk (nI n) a s.1 s.2 = some (.inl s') ∧ (s' = (nI (eaN mk a (i + 1)), nI (i + 1)) ∧ okO mk a (i + 1) = true ∧ i + 1 ≤ n)) := by
    rintro i s ⟨rfl, ho, hi⟩
    by_cases hin : i = n
    · subst hin
      left
      refine ⟨_, ?_, rfl⟩
      show f_X2_isInOrder_b4 mk (nI i) a _ (nI i) = _
      unfold f_X2_isInOrder_b4
      rw [if_pos (Int32.le_refl _), if_pos ho]
    · have hi' : i < n := by omega
      have ok := hB i hi'
      have b1 := ok.at.1
      have h1 := eaN_lt (a := a) hB i hi
      have hb : f_X2_isInOrder_b4 mk (nI n) a (nI (eaN mk a i)) (nI i) = if liB mk a i = true then (if nI (max (eaN mk a i) (mN mk i 2)) ≤ nI (mN mk i 3) then some (Sum.inl (nI (max (eaN mk a i) (mN mk i 2)), nI (i + 1))) else some (Sum.inr (Sum.inr 0))) else some (Sum.inl (nI (eaN mk a i), nI (i + 1))) := by
        unfold f_X2_isInOrder_b4
        rw [if_neg (nle hi' (by omega)), lies_n (by omega), mk2 (by omega) ok, mk3 (by omega) ok, nI1]
        simp only [Option.bind_some, ite10, mx_n (show eaN mk a i < 2147483648 by omega) (show mN mk i 2 < 2147483648 by omega)]
      by_cases hl : liB mk a i = true
      · rw [if_pos hl] at hb
        have e1 : eaN mk a (i + 1) = max (eaN mk a i) (mN mk i 2) := by rw [eaN, if_pos hl]
        by_cases hc : max (eaN mk a i) (mN mk i 2) ≤ mN mk i 3
        · rw [if_pos (nI_le hc (by omega))] at hb
          right
          refine ⟨hi', _, hb, ?_, ?_, by omega⟩
          · rw [e1]
          · unfold okO; rw [ho, hl, e1, decide_eq_true hc]; rfl
        · rw [if_neg (nI_ge (by omega) (by omega))] at hb
          left
          refine ⟨_, hb, ?_⟩
          have e2 : okO mk a (i + 1) = false := by unfold okO; rw [ho, hl, e1, decide_eq_false hc]; rfl
          have e3 := okO_down e2 (n - (i + 1))
          rw [show i + 1 + (n - (i + 1)) = n by omega] at e3
          rw [e3]; rfl
      · rw [if_neg hl] at hb
        right
        refine ⟨hi', _, hb, ?_, ?_, by omega⟩
        · rw [show eaN mk a (i + 1) = eaN mk a i by rw [eaN, if_neg hl]]
        · unfold okO; rw [ho, Bool.eq_false_iff.mpr hl]; rfl
  obtain ⟨r, h1, h2⟩ := lp_tot (b := fun st => f_X2_isInOrder_b4 mk (nI n) a st.1 st.2) (fun i s => s = (nI (eaN mk a i), nI i) ∧ okO mk a i = true ∧ i ≤ n) (fun r => r = if okO mk a n = true then Sum.inl () else Sum.inr (0 : Int32)) n key FU (FU_lt (by omega)) (s := ((0 : Int32), (0 : Int32))) ⟨rfl, rfl, Nat.zero_le _⟩
  rw [h1, h2, Option.bind_some]
  by_cases h : okO mk a n = true
  · rw [if_pos h, if_pos h]; rfl
  · rw [if_neg h, if_neg h]; rfl
def eaA (f mk : Nat → Int32) (a : Int32) : Nat → Nat → Int32
  | 0 => f
  | b + 1 => if liB mk a b = true then upd (eaA f mk a b) b (nI (eaN mk a (b + 1))) else eaA f mk a b
theorem eaA_at {f mk : Nat → Int32} {a : Int32} : ∀ n b, b < n → liB mk a b = true → eaA f mk a n b = nI (eaN mk a (b + 1)) := by
  intro n
  induction n with
  | zero => intro b h; omega
  | succ n ih =>
    intro b h hl
    unfold eaA
    by_cases e : b = n
    · subst e; rw [if_pos hl]; exact pk_us
    · by_cases h2 : liB mk a n = true
      · rw [if_pos h2, pk_un e]; exact ih b (by omega) hl
      · rw [if_neg h2]; exact ih b (by omega) hl
def laN (mk : Nat → Int32) (a : Int32) (n : Nat) : Nat → Nat
  | 0 => 99
  | k + 1 => if liB mk a (n - 1 - k) = true then min (laN mk a n k) (mN mk (n - 1 - k) 3) else laN mk a n k
def laA (f mk : Nat → Int32) (a : Int32) (n : Nat) : Nat → Nat → Int32
  | 0 => f
  | k + 1 => if liB mk a (n - 1 - k) = true then upd (laA f mk a n k) (n - 1 - k) (nI (laN mk a n (k + 1))) else laA f mk a n k
theorem laN_le {mk : Nat → Int32} {a : Int32} {n : Nat} : ∀ k, laN mk a n k ≤ 99 := by
  intro k
  induction k with
  | zero => exact Nat.le_refl _
  | succ k ih => unfold laN; split <;> omega
theorem laA_at {f mk : Nat → Int32} {a : Int32} {n : Nat} : ∀ k b, k ≤ n → n - k ≤ b → b < n → liB mk a b = true → laA f mk a n k b = nI (laN mk a n (n - b)) := by
  intro k
  induction k with
  | zero => intro b _ h1 h2; omega
  | succ k ih =>
    intro b hk h1 h2 hl
    unfold laA
    by_cases e : b = n - 1 - k
    · rw [← e, if_pos hl, pk_us, show n - b = k + 1 by omega]
    · by_cases h3 : liB mk a (n - 1 - k) = true
      · rw [if_pos h3, pk_un e]; exact ih b (by omega) (by omega) h2 hl
      · rw [if_neg h3]; exact ih b (by omega) (by omega) h2 hl
theorem laN_iff {mk : Nat → Int32} {a : Int32} {n : Nat} (x : Nat) : ∀ k, k ≤ n → (x ≤ laN mk a n k ↔ x ≤ 99 ∧ ∀ b, n - k ≤ b → b < n → liB mk a b = true → x ≤ mN mk b 3) := by
  intro k
  induction k with
  | zero => intro _; exact ⟨fun h => ⟨h, fun b h1 h2 => by omega⟩, fun h => h.1⟩
  | succ k ih =>
    intro hk
    have h1 := ih (by omega)
    unfold laN
    by_cases hl : liB mk a (n - 1 - k) = true
    · rw [if_pos hl]
      constructor
      · intro h
        have h2 := h1.mp (by omega)
        refine ⟨h2.1, fun b h3 h4 h5 => ?_⟩
        by_cases e : b = n - 1 - k
        · rw [e]; omega
        · exact h2.2 b (by omega) h4 h5
      · intro h
        have h2 := h1.mpr ⟨h.1, fun b h3 h4 h5 => h.2 b (by omega) h4 h5⟩
        have h3 := h.2 (n - 1 - k) (by omega) (by omega) hl
        omega
    · rw [if_neg hl, h1]
      refine ⟨fun h => ⟨h.1, fun b h3 h4 h5 => ?_⟩, fun h => ⟨h.1, fun b h3 h4 h5 => h.2 b (by omega) h4 h5⟩⟩
      by_cases e : b = n - 1 - k
      · rw [e] at h5; exact absurd h5 hl
      · exact h.2 b (by omega) h4 h5
theorem m1_n (m : Nat) : nI m + (-1 : Int32) = nI m - 1 := by rw [Int32.sub_eq_add_neg]
theorem layOrder_n {mk : Nat → Int32} {a : Int32} {n : Nat} (f g : Nat → Int32) (hn : n ≤ 8) (hB : ∀ b, b < n → okMk mk b) : f_X11_layOrder (nI n) mk f g a = some ((if okO mk a n = true then 1 else 0), eaA f mk a n, laA g mk a n n) := by
  unfold f_X11_layOrder
  refine lp_bd (fun i => (nI (eaN mk a i), (if okO mk a i = true then (1 : Int32) else 0), nI i, eaA f mk a i)) ((if okO mk a n = true then (1 : Int32) else 0), eaA f mk a n) n (FU_lt (by omega)) rfl ?_ ?_ ?_
  · show f_X11_layOrder_x103_1 (nI n) mk g a (if okO mk a n = true then (1 : Int32) else 0) (eaA f mk a n) = _
    unfold f_X11_layOrder_x103_1
    refine lp_bd (fun i => (nI (laN mk a n i), nI (n - i) - 1, laA g mk a n i)) (laA g mk a n n) n (FU_lt (by omega)) rfl ?_ ?_ ?_
    · unfold f_X11_layOrder_x185_2; rw [zb_if]
    · intro i hi
      show f_X11_layOrder_b115 mk a (nI (laN mk a n i)) (nI (n - i) - 1) (laA g mk a n i) = _
      have ok := hB (n - 1 - i) (by omega)
      have b1 := ok.at.1
      have h1 := laN_le (mk := mk) (a := a) (n := n) i
      rw [show n - i = (n - 1 - i) + 1 by omega, nI_pred]
      unfold f_X11_layOrder_b115
      rw [if_neg (nI_nn (by omega)), g0 (by omega), e0 (mk := mk) (by omega)]
      simp only [f_X11_layOrder_j168, m1_n, nI_clamp (show n - 1 - i < 2 ^ 31 by omega)]
      rw [show n - (i + 1) = n - 1 - i by omega]
      by_cases hl : liB mk a (n - 1 - i) = true
      · simp only [laN, laA, if_pos hl]
        rw [if_pos (liB_iff.mp hl), g3 (by omega), g3 (by omega), e3 (by omega) ok, gd_n (by omega) (by omega), gd_n (by omega) (by omega)]
        by_cases hc : laN mk a n i ≤ mN mk (n - 1 - i) 3
        · rw [if_pos (nI_le hc (by omega)), Nat.min_eq_left hc]
        · rw [if_neg (nI_ge (by omega) (by omega)), Nat.min_eq_right (by omega)]
      · simp only [laN, laA, if_neg hl]
        rw [if_neg (fun q => hl (liB_iff.mpr q))]
    · show f_X11_layOrder_b115 mk a _ (nI (n - n) - 1) (laA g mk a n n) = _
      rw [Nat.sub_self]
      unfold f_X11_layOrder_b115
      rw [if_pos (by decide)]
  · intro i hi
    show f_X11_layOrder_b7 (nI n) mk a (nI (eaN mk a i)) (if okO mk a i = true then (1 : Int32) else 0) (nI i) (eaA f mk a i) = _
    have ok := hB i hi
    have b1 := ok.at.1
    have h1 := eaN_lt (a := a) hB i (by omega)
    unfold f_X11_layOrder_b7
    rw [if_neg (nle hi (by omega)), g0 (by omega), e0 (mk := mk) (by omega)]
    simp only [f_X11_layOrder_j62, nI_clamp (show i < 2 ^ 31 by omega), nI1]
    by_cases hl : liB mk a i = true
    · rw [if_pos (liB_iff.mp hl), g2 (by omega), g2 (by omega), e2 (by omega) ok, gd_n (by omega) (by omega), gd_n (by omega) (by omega), g3 (by omega), g3 (by omega), e3 (by omega) ok]
      simp only [ite10]
      have fin : (if okO mk a i = true then if nI (mN mk i 3) < nI (max (eaN mk a i) (mN mk i 2)) then some (Sum.inl (nI (max (eaN mk a i) (mN mk i 2)), (0 : Int32), nI (i + 1), upd (eaA f mk a i) i (nI (max (eaN mk a i) (mN mk i 2))))) else some (Sum.inl (nI (max (eaN mk a i) (mN mk i 2)), (1 : Int32), nI (i + 1), upd (eaA f mk a i) i (nI (max (eaN mk a i) (mN mk i 2))))) else some (Sum.inl (nI (max (eaN mk a i) (mN mk i 2)), (0 : Int32), nI (i + 1), upd (eaA f mk a i) i (nI (max (eaN mk a i) (mN mk i 2)))))) = (some (Sum.inl (nI (eaN mk a (i + 1)), (if okO mk a (i + 1) = true then (1 : Int32) else 0), nI (i + 1), eaA f mk a (i + 1))) : Option ((Int32 × Int32 × Int32 × (Nat → Int32)) ⊕ (Int32 × (Nat → Int32)))) := by
        have e1 : eaN mk a (i + 1) = max (eaN mk a i) (mN mk i 2) := by rw [eaN, if_pos hl]
        have e2 : eaA f mk a (i + 1) = upd (eaA f mk a i) i (nI (max (eaN mk a i) (mN mk i 2))) := by rw [eaA, if_pos hl, e1]
        rw [e2]
        by_cases ho : okO mk a i = true
        · rw [if_pos ho]
          by_cases hc : max (eaN mk a i) (mN mk i 2) ≤ mN mk i 3
          · rw [if_neg (nI_nlt hc (by omega)), if_pos (show okO mk a (i + 1) = true by unfold okO; rw [ho, hl, e1, decide_eq_true hc]; rfl), e1]
          · rw [if_pos (nI_lt (by omega) (by omega)), if_neg (show ¬ okO mk a (i + 1) = true by unfold okO; rw [ho, hl, e1, decide_eq_false hc]; decide), e1]
        · rw [if_neg ho, if_neg (show ¬ okO mk a (i + 1) = true by unfold okO; rw [Bool.eq_false_iff.mpr ho, Bool.false_and]; decide), e1]
      by_cases hc : mN mk i 2 ≤ eaN mk a i
      · rw [Nat.max_eq_left hc] at fin
        rw [if_pos (nI_le hc (by omega)), fin]
      · rw [Nat.max_eq_right (by omega)] at fin
        rw [if_neg (nI_ge (by omega) (by omega)), fin]
    · have e1 : eaN mk a (i + 1) = eaN mk a i := by rw [eaN, if_neg hl]
      have e2 : eaA f mk a (i + 1) = eaA f mk a i := by rw [eaA, if_neg hl]
      have e4 : okO mk a (i + 1) = okO mk a i := by rw [okO, Bool.eq_false_iff.mpr hl]; simp
      rw [if_neg (fun q => hl (liB_iff.mpr q)), e1, e2, e4]
  · show f_X11_layOrder_b7 (nI n) mk a _ _ (nI n) _ = _
    unfold f_X11_layOrder_b7
    rw [if_pos (Int32.le_refl _)]
theorem st_order : St_order := by
  intro tx tl lw ice mk wt bd s6 s8 s7 s1 s5 s2 u0 u1 sm kz kb km kw a1 hI
  obtain ⟨n, hn, rfl, hB⟩ := hI.2.2.2.1
  simp only [f_X10_order, f_X11_order, isLand_n, in_0_3, Option.bind_some, ite10, inOrderX hn hB, layOrder_n _ _ hn hB]
  by_cases h : (0 : Int32) ≤ a1 ∧ a1 ≤ 3
  · rw [if_pos h, if_pos h]
    by_cases ho : okO mk a1 n = true
    · rw [if_pos ho, if_pos ho]; exact ⟨1, _, _, rfl, rfl, hI⟩
    · rw [if_neg ho, if_neg ho]; exact ⟨0, _, _, rfl, rfl, hI⟩
  · rw [if_neg h, if_neg h]; exact ⟨-1, _, _, rfl, rfl, hI⟩
def lfN (mk : Nat → Int32) (a : Int32) (b0 : Nat) : Nat → Nat
  | 0 => 99
  | k + 1 => if liB mk a (b0 + k) = true then min (lfN mk a b0 k) (mN mk (b0 + k) 3) else lfN mk a b0 k
theorem lfN_le {mk : Nat → Int32} {a : Int32} {n : Nat} : ∀ k, lfN mk a n k ≤ 99 := by
  intro k
  induction k with
  | zero => exact Nat.le_refl _
  | succ k ih => unfold lfN; split <;> omega
theorem lfN_iff {mk : Nat → Int32} {a : Int32} {b0 : Nat} (x : Nat) : ∀ k, (x ≤ lfN mk a b0 k ↔ x ≤ 99 ∧ ∀ b, b0 ≤ b → b < b0 + k → liB mk a b = true → x ≤ mN mk b 3) := by
  intro k
  induction k with
  | zero => exact ⟨fun h => ⟨h, fun b h1 h2 => by omega⟩, fun h => h.1⟩
  | succ k ih =>
    unfold lfN
    by_cases hl : liB mk a (b0 + k) = true
    · rw [if_pos hl]
      constructor
      · intro h
        have h2 := ih.mp (by omega)
        refine ⟨h2.1, fun b h3 h4 h5 => ?_⟩
        by_cases e : b = b0 + k
        · rw [e]; omega
        · exact h2.2 b (by omega) (by omega) h5
      · intro h
        have h2 := ih.mpr ⟨h.1, fun b h3 h4 h5 => h.2 b (by omega) (by omega) h5⟩
        have h3 := h.2 (b0 + k) (by omega) (by omega) hl
        omega
    · rw [if_neg hl, ih]
      refine ⟨fun h => ⟨h.1, fun b h3 h4 h5 => ?_⟩, fun h => ⟨h.1, fun b h3 h4 h5 => h.2 b (by omega) (by omega) h5⟩⟩
      by_cases e : b = b0 + k
      · rw [e] at h5; exact absurd h5 hl
      · exact h.2 b (by omega) (by omega) h5
theorem lf_la {mk : Nat → Int32} {a : Int32} {n b : Nat} (hb : b ≤ n) : lfN mk a b (n - b) = laN mk a n (n - b) := by
  have h : ∀ x, x ≤ lfN mk a b (n - b) ↔ x ≤ laN mk a n (n - b) := by
    intro x
    rw [lfN_iff, laN_iff x (n - b) (by omega), show b + (n - b) = n by omega, show n - (n - b) = b by omega]
  have h1 := (h _).mp (Nat.le_refl _)
  have h2 := (h _).mpr (Nat.le_refl _)
  omega
theorem latestX {mk : Nat → Int32} {a : Int32} {n b : Nat} (hn : n ≤ 8) (hb : b < n) (hB : ∀ b, b < n → okMk mk b) : f_X2_latestFrom mk (nI n) a (nI b) = some (nI (laN mk a n (n - b))) := by
  unfold f_X2_latestFrom
  refine lp_bd (fun i => (nI (lfN mk a b i), nI (b + i))) (nI (lfN mk a b (n - b))) (n - b) (FU_lt (by omega)) rfl ?_ ?_ ?_
  · rw [lf_la (by omega)]; rfl
  · intro i hi
    show f_X2_latestFrom_b6 mk (nI n) a (nI (lfN mk a b i)) (nI (b + i)) = _
    unfold f_X2_latestFrom_b6
    have ok := hB (b + i) (by omega)
    have b1 := ok.at.1
    have h1 := lfN_le (mk := mk) (a := a) (n := b) i
    rw [if_neg (nle (by omega) (by omega)), lies_n (by omega), mk3 (by omega) ok, nI1]
    simp only [Option.bind_some, ite10, mn_n (show lfN mk a b i < 2147483648 by omega) (show mN mk (b + i) 3 < 2147483648 by omega)]
    by_cases hl : liB mk a (b + i) = true
    · simp only [lfN, if_pos hl]; rfl
    · simp only [lfN, if_neg hl]; rfl
  · show f_X2_latestFrom_b6 mk (nI n) a _ (nI (b + (n - b))) = _
    unfold f_X2_latestFrom_b6
    rw [show b + (n - b) = n by omega, if_pos (Int32.le_refl _)]
theorem eaN_0 {mk : Nat → Int32} {a : Int32} : ∀ i, cn (liB mk a) i = 0 → eaN mk a i = 0 := by
  intro i
  induction i with
  | zero => intro _; rfl
  | succ i ih =>
    intro h
    unfold cn at h
    unfold eaN
    by_cases hl : liB mk a i = true
    · rw [if_pos hl] at h; omega
    · rw [if_neg hl] at h ⊢; exact ih h
theorem earliestX {mk : Nat → Int32} {a : Int32} {n b : Nat} (hn : n ≤ 8) (hb : b < n) (hB : ∀ b, b < n → okMk mk b) : f_X2_earliestBelow mk a (nI b) = some (if cn (liB mk a) b = 0 then -9 else nI (eaN mk a b)) := by
  unfold f_X2_earliestBelow
  refine lp_bd (fun i => ((if cn (liB mk a) i = 0 then (-9 : Int32) else nI (eaN mk a i)), nI i)) (if cn (liB mk a) b = 0 then (-9 : Int32) else nI (eaN mk a b)) b (FU_lt (by omega)) rfl rfl ?_ ?_
  · intro i hi
    show f_X2_earliestBelow_b6 mk a (nI b) (if cn (liB mk a) i = 0 then (-9 : Int32) else nI (eaN mk a i)) (nI i) = _
    unfold f_X2_earliestBelow_b6
    have ok := hB i (by omega)
    have b1 := ok.at.1
    have h1 := eaN_lt (a := a) hB i (by omega)
    rw [if_neg (nle hi (by omega)), lies_n (by omega), mk2 (by omega) ok, nI1]
    simp only [Option.bind_some, ite10]
    by_cases hl : liB mk a i = true
    · simp only [cn, eaN, if_pos hl]
      rw [if_neg (show ¬ cn (liB mk a) i + 1 = 0 by omega)]
      by_cases hc : cn (liB mk a) i = 0
      · rw [if_pos hc, if_pos (m9_lt (by omega)), eaN_0 i hc, Nat.zero_max]
      · rw [if_neg hc, mx_n (by omega) (by omega)]
    · simp only [cn, eaN, if_neg hl]; rfl
  · show f_X2_earliestBelow_b6 mk a (nI b) _ (nI b) = _
    unfold f_X2_earliestBelow_b6
    rw [if_pos (Int32.le_refl _)]
theorem cn_0 {p : Nat → Bool} : ∀ n, (∀ b, b < n → ¬ p b = true) → cn p n = 0 := by
  intro n
  induction n with
  | zero => intro _; rfl
  | succ n ih => intro h; unfold cn; rw [if_neg (h n (by omega)), ih (fun b hb => h b (by omega))]
theorem cn_pos {p : Nat → Bool} : ∀ n b, b < n → p b = true → 0 < cn p n := by
  intro n
  induction n with
  | zero => intro b h; omega
  | succ n ih =>
    intro b h hp
    unfold cn
    by_cases e : b = n
    · subst e; rw [if_pos hp]; omega
    · have := ih b (by omega) hp; omega
theorem eaN_gap {mk : Nat → Int32} {a : Int32} {c : Nat} : ∀ k, (∀ d, c < d → d < c + 1 + k → ¬ liB mk a d = true) → eaN mk a (c + 1 + k) = eaN mk a (c + 1) := by
  intro k
  induction k with
  | zero => intro _; rfl
  | succ k ih =>
    intro h
    rw [← Nat.add_assoc]
    rw [eaN, if_neg (h (c + 1 + k) (by omega) (by omega))]
    exact ih (fun d h1 h2 => h d h1 (by omega))
theorem gapLoop {mk : Nat → Int32} {b : Nat} (hb : b < 8) : ∃ r, lpM (σ := Int32) (ρ := Int32) (fun st => f_X11_gap_b14 mk (nI b) st) FU (nI b - 1) = some r ∧ ((r = -1 ∧ ∀ c, c < b → ¬ liB mk (mk (6 * b)) c = true) ∨ ∃ c, c < b ∧ r = nI c ∧ liB mk (mk (6 * b)) c = true ∧ ∀ d, c < d → d < b → ¬ liB mk (mk (6 * b)) d = true) := by
  refine lp_tot (fun k s => s = nI (b - k) - 1 ∧ k ≤ b ∧ ∀ c, b - k ≤ c → c < b → ¬ liB mk (mk (6 * b)) c = true) _ b ?_ FU (FU_lt (by omega)) ⟨rfl, by omega, fun c h1 h2 => by omega⟩
  rintro k s ⟨rfl, hk, hc⟩
  by_cases e : k = b
  · left
    refine ⟨-1, ?_, Or.inl ⟨rfl, fun c h => hc c (by omega) h⟩⟩
    unfold f_X11_gap_b14
    rw [show b - k = 0 by omega, if_pos (by decide)]
    rfl
  · rw [show b - k = (b - k - 1) + 1 by omega, nI_pred]
    have hbody : f_X11_gap_b14 mk (nI b) (nI (b - k - 1)) = if mk (6 * (b - k - 1)) = mk (6 * b) then some (Sum.inr (nI (b - k - 1))) else some (Sum.inl (nI (b - k - 1) - 1)) := by
      unfold f_X11_gap_b14
      rw [if_neg (nI_nn (by omega)), g0 (by omega), g0 (by omega), e0 (mk := mk) (by omega), e0 (mk := mk) hb, m1_n]
    by_cases hl : mk (6 * (b - k - 1)) = mk (6 * b)
    · left
      rw [if_pos hl] at hbody
      exact ⟨_, hbody, Or.inr ⟨b - k - 1, by omega, rfl, liB_iff.mpr hl, fun d h1 h2 => hc d (by omega) h2⟩⟩
    · right
      rw [if_neg hl] at hbody
      refine ⟨by omega, _, hbody, ?_, by omega, fun c h1 h2 => ?_⟩
      · rw [show b - (k + 1) = b - k - 1 by omega]
      · by_cases ec : c = b - k - 1
        · rw [ec]; exact fun q => hl (liB_iff.mp q)
        · exact hc c (by omega) h2
theorem st_gap : St_gap := by
  intro tx tl lw ice mk wt bd s6 s8 s7 s1 s5 s2 u0 u1 sm kz kb km kw a1 hI
  obtain ⟨n, hn, rfl, hB⟩ := hI.2.2.2.1
  simp only [f_X10_gap, f_X11_gap, isBed_n, mBed_n, Option.bind_some, ite10]
  by_cases h : (0 : Int32) ≤ a1 ∧ a1 ≤ nI n - 1
  · simp only [if_pos h]
    obtain ⟨b, hb, rfl⟩ := (isBed_iff hn a1).mp h
    obtain ⟨r, h1, h2⟩ := gapLoop (mk := mk) (b := b) (by omega)
    rw [h1, Option.bind_some, mk0 (by omega), Option.bind_some, earliestX hn hb hB, Option.bind_some]
    unfold f_X11_gap_x45_3
    rcases h2 with ⟨rfl, h2⟩ | ⟨c, hc, rfl, h2, h3⟩
    · rw [if_pos (cn_0 b h2), if_pos rfl, if_pos (by decide)]
      exact ⟨-3, _, _, rfl, rfl, hI⟩
    · have hp := cn_pos b c hc h2
      have hl := eaN_lt (a := mk (6 * b)) hB b (by omega)
      rw [if_neg (show ¬ cn (liB mk (mk (6 * b))) b = 0 by omega), if_neg (nI_m9 (by omega)), if_neg (nI_nn (by omega)), g0 (by omega), e0 (mk := mk) (by omega), layOrder_n _ _ hn hB, Option.bind_some, inOrderX hn hB, Option.bind_some]
      simp only [ite10]
      by_cases ho : okO mk (mk (6 * b)) n = true
      · rw [if_pos ho, if_pos ho, gd_n (by omega) (by omega), gd_n (by omega) (by omega), nI_clamp (by omega), nI_clamp (by omega), latestX hn hb hB, Option.bind_some, eaA_at n c (by omega) h2, laA_at n b (by omega) (by omega) hb (liB_iff.mpr rfl)]
        have e := eaN_gap (mk := mk) (a := mk (6 * b)) (c := c) (b - (c + 1)) (fun d h4 h5 => h3 d h4 (by omega))
        rw [show c + 1 + (b - (c + 1)) = b by omega] at e
        rw [e]
        exact ⟨_, _, _, rfl, rfl, hI⟩
      · rw [if_neg ho, if_neg ho]
        exact ⟨-3, _, _, rfl, rfl, hI⟩
  · simp only [if_neg h]
    exact ⟨-1, _, _, rfl, rfl, hI⟩
