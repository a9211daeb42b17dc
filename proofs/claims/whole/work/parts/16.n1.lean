/-! ===== next ===== -/
def swN (ice : Nat → Int32) (P : Nat → Nat) (z t : Nat) : Nat → Nat
  | 0 => 0
  | s + 1 => swN ice P z t s + (if bN (iN ice (100 * s + 10 * t)) z = 1 then P s else 0)
theorem swN_le {ice : Nat → Int32} {P : Nat → Nat} {z t : Nat} : ∀ s, swN ice P z t s ≤ smS P s := by
  intro s
  induction s with
  | zero => exact Nat.le_refl _
  | succ s ih => unfold swN smS; split <;> omega
theorem shareX {ice : Nat → Int32} {P : Nat → Nat} {f : Nat → Int64} {z t : Nat} (hi : okI ice) (hf : ∀ s, s < 4 → f s = lN (P s)) (hz : z < 6) (ht : t < 10) : f_X5_shareWithIce f ice (nI z) ((10 : Int32) * nI t) = some (lN (swN ice P z t 4)) := by
  unfold f_X5_shareWithIce
  rw [show (10 : Int32) * nI t = nI (10 * t) by rw [show (10 : Int32) = nI 10 from rfl, pk_mul]]
  refine lp_bd (fun s => (lN (swN ice P z t s), nI s)) (lN (swN ice P z t 4)) 4 (FU_lt (by omega)) rfl rfl ?_ ?_
  · intro s hs
    show f_X5_shareWithIce_b6 f ice (nI z) (nI (10 * t)) (lN (swN ice P z t s)) (nI s) = _
    unfold f_X5_shareWithIce_b6
    have hv := iN_at hi (100 * s + 10 * t)
    rw [if_neg (nleL 4 4 rfl hs (by omega)), iceOf_n ice hs (by omega), Option.bind_some, hv.2, hasIce_n hv.1 hz, Option.bind_some, ite10, gd_n hs (by omega), nI_clamp (by omega), hf s hs, lN_add, nI1]
    simp only [swN]
    by_cases hb : bN (iN ice (100 * s + 10 * t)) z = 1
    · rw [if_pos hb, if_pos hb]
    · rw [if_neg hb, if_neg hb]; rfl
  · show f_X5_shareWithIce_b6 f ice (nI z) (nI (10 * t)) _ (nI 4) = _
    unfold f_X5_shareWithIce_b6
    rw [if_pos (by decide)]
def awN (ice : Nat → Int32) (P : Nat → Nat) (k : Nat) : Nat := dsN (2 * swN ice P (k / 10) (k % 10) 4) (smS P 4)
theorem awN_le {ice : Nat → Int32} {P : Nat → Nat} {k : Nat} : awN ice P k ≤ smS P 4 := by
  have := swN_le (ice := ice) (P := P) (z := k / 10) (t := k % 10) 4
  unfold awN dsN
  split <;> omega
theorem sub_n {a b : Nat} (h : a ≤ b) : lN a - lN b = - lN (b - a) := by
  rw [← lN_sub h, Int64.neg_sub]
theorem awX {a b : Nat} (ha : a < 2 ^ 62) (hb : b < 2 ^ 62) : (if (0 : Int64) < ((2 : Int64) * lN a) - lN b then ((2 : Int64) * lN a) - lN b else -(((2 : Int64) * lN a) - lN b)) = lN (dsN (2 * a) b) ∧ (if (0 : Int64) ≤ ((2 : Int64) * lN a) - lN b then ((2 : Int64) * lN a) - lN b else -(((2 : Int64) * lN a) - lN b)) = lN (dsN (2 * a) b) := by
  rw [show (2 : Int64) = lN 2 from rfl, lN_mul]
  unfold dsN
  by_cases h : b ≤ 2 * a
  · rw [if_pos h, lN_sub h]
    constructor
    · by_cases h2 : 2 * a - b = 0
      · rw [h2]; decide
      · rw [if_pos (show (0 : Int64) < lN (2 * a - b) from (pk_lLT (a := 0) (by omega) (by omega)).mpr (by omega))]
    · rw [if_pos (show (0 : Int64) ≤ lN (2 * a - b) from (pk_lLE (a := 0) (by omega) (by omega)).mpr (by omega))]
  · rw [if_neg h, sub_n (by omega), Int64.neg_neg]
    have hneg : (-(lN (b - 2 * a))).toInt < 0 := by
      rw [Int64.toInt_neg, pk_lT (by omega)]
      rw [Int.bmod_eq_of_le (by omega) (by omega)]
      omega
    constructor
    · rw [if_neg]
      rw [Int64.lt_iff_toInt_lt]
      have : (0 : Int64).toInt = 0 := by decide
      omega
    · rw [if_neg]
      rw [Int64.le_iff_toInt_le]
      have : (0 : Int64).toInt = 0 := by decide
      omega
def bxN (A : Nat → Nat) : Nat → Nat
  | 0 => 0
  | k + 1 => if A (bxN A k) ≤ A (k + 1) then bxN A k else k + 1
def csN (A : Nat → Nat) (T : Nat) : Nat → Int32 × Int64
  | 0 => (0, lN T + 1)
  | k + 1 => (nI (bxN A k), lN (A (bxN A k)))
def cmN (A : Nat → Nat) : Nat → Int32 × Int64
  | 0 => (0, -1)
  | k + 1 => (nI (bxN A k), lN (A (bxN A k)))
theorem cs_step {A : Nat → Nat} {T : Nat} (hA : ∀ k, A k ≤ T) (hT : T < 2 ^ 62) (k : Nat) : csN A T (k + 1) = if (csN A T k).2 ≤ lN (A k) then csN A T k else (nI k, lN (A k)) := by
  cases k with
  | zero =>
    show (nI 0, lN (A 0)) = if lN T + 1 ≤ lN (A 0) then ((0 : Int32), lN T + 1) else (nI 0, lN (A 0))
    have h0 := hA 0
    rw [lN_1, if_neg (by rw [pk_lLE (by omega) (by omega)]; omega)]
  | succ k =>
    show (nI (bxN A (k + 1)), lN (A (bxN A (k + 1)))) = if lN (A (bxN A k)) ≤ lN (A (k + 1)) then (nI (bxN A k), lN (A (bxN A k))) else (nI (k + 1), lN (A (k + 1)))
    have h0 := hA (k + 1)
    have h1 := hA (bxN A k)
    simp only [bxN]
    by_cases h : A (bxN A k) ≤ A (k + 1)
    · rw [if_pos h, if_pos ((pk_lLE (by omega) (by omega)).mpr h)]
    · rw [if_neg h, if_neg (fun q => h ((pk_lLE (by omega) (by omega)).mp q))]
theorem goX {ice : Nat → Int32} {P : Nat → Nat} {f : Nat → Int64} (hi : okI ice) (hf : ∀ s, s < 4 → f s = lN (P s)) (hT : smS P 4 < 2 ^ 61) : f_X5_whereToGo f (lN (smS P 4)) ice = some (nI (bxN (awN ice P) 59)) := by
  have hA : ∀ k, awN ice P k ≤ smS P 4 := fun k => awN_le
  unfold f_X5_whereToGo
  refine lp_bd (fun z => ((csN (awN ice P) (smS P 4) (10 * z)).1, (csN (awN ice P) (smS P 4) (10 * z)).2, nI z)) (csN (awN ice P) (smS P 4) 60).1 6 (FU_lt (by omega)) rfl rfl ?_ ?_
  · intro z hz
    show f_X5_whereToGo_b12 f (lN (smS P 4)) ice (csN (awN ice P) (smS P 4) (10 * z)).1 (csN (awN ice P) (smS P 4) (10 * z)).2 (nI z) = _
    unfold f_X5_whereToGo_b12
    rw [if_neg (nleL 6 6 rfl hz (by omega))]
    refine lp_bd (fun t => ((csN (awN ice P) (smS P 4) (10 * z + t)).1, (csN (awN ice P) (smS P 4) (10 * z + t)).2, nI t)) ((csN (awN ice P) (smS P 4) (10 * z + 10)).1, (csN (awN ice P) (smS P 4) (10 * z + 10)).2) 10 (FU_lt (by omega)) rfl ?_ ?_ ?_
    · unfold f_X5_whereToGo_x80_4; rw [nI1]; rfl
    · intro t ht
      show f_X5_whereToGo_b22 f (lN (smS P 4)) ice (nI z) (csN (awN ice P) (smS P 4) (10 * z + t)).1 (csN (awN ice P) (smS P 4) (10 * z + t)).2 (nI t) = _
      unfold f_X5_whereToGo_b22
      have hsw := swN_le (ice := ice) (P := P) (z := z) (t := t) 4
      have ez : (10 * z + t) / 10 = z := by omega
      have et : (10 * z + t) % 10 = t := by omega
      have ea : awN ice P (10 * z + t) = dsN (2 * swN ice P z t 4) (smS P 4) := by unfold awN; rw [ez, et]
      rw [if_neg (nleL 10 10 rfl ht (by omega)), shareX hi hf hz ht, Option.bind_some, Option.bind_some, (awX (by omega) (by omega)).1, ← ea, nI1, show (10 : Int32) * nI z + nI t = nI (10 * z + t) by rw [show (10 : Int32) = nI 10 from rfl, pk_mul, nI_add]]
      rw [← Nat.add_assoc, cs_step hA (by omega)]
      simp only [cmp_ge0]
      by_cases hc : (csN (awN ice P) (smS P 4) (10 * z + t)).2 ≤ lN (awN ice P (10 * z + t))
      · rw [if_pos hc, if_pos hc]
      · rw [if_neg hc, if_neg hc]
    · show f_X5_whereToGo_b22 f (lN (smS P 4)) ice (nI z) _ _ (nI 10) = _
      unfold f_X5_whereToGo_b22
      rw [if_pos (by decide)]
  · show f_X5_whereToGo_b12 f (lN (smS P 4)) ice _ _ (nI 6) = _
    unfold f_X5_whereToGo_b12
    rw [if_pos (by decide)]
theorem nextLoop {ice : Nat → Int32} {P : Nat → Nat} {f : Nat → Int64} {A : Int64} {k : Nat} (hi : okI ice) (hf : ∀ s, s < 4 → f s = lN (P s)) (hk : k < 60) : lpM (σ := Int64 × Int32) (ρ := Int64) (fun st => f_X11_next_b39 ice (f, A) (nI k) st.1 st.2) FU ((0 : Int64), (0 : Int32)) = some (lN (swN ice P (k / 10) (k % 10) 4)) := by
  refine lp_run (fun s => (lN (swN ice P (k / 10) (k % 10) s), nI s)) 4 ?_ ?_ FU (FU_lt (by omega)) rfl
  · intro s hs
    show f_X11_next_b39 ice (f, A) (nI k) (lN (swN ice P (k / 10) (k % 10) s)) (nI s) = _
    unfold f_X11_next_b39
    have hv := iN_at hi (100 * s + 10 * (k % 10))
    rw [if_neg (nleL 4 4 rfl hs (by omega)), dz_n (by decide), dz_n (by decide), show (10 : Int32) = nI 10 from rfl, pk_rem (by omega) (by omega) (by omega), pk_div (by omega) (by omega) (by omega), pk_mul, sx100, gd_n (by omega) (by omega), nI_clamp (by omega), hv.2, bit_384 _ hv.1 _ (by omega), gd_n hs (by omega), nI_clamp (by omega)]
    dsimp only
    rw [hf s hs]
    simp only [f_X11_next_j89, nI1, swN]
    have hb2 := bN_lt (iN ice (100 * s + 10 * (k % 10))) (k / 10)
    by_cases hb : bN (iN ice (100 * s + 10 * (k % 10))) (k / 10) = 1
    · rw [if_pos (show nI _ = 1 by rw [hb]; rfl), if_pos hb, lN_add]
    · rw [if_neg (show ¬ nI (bN (iN ice (100 * s + 10 * (k % 10))) (k / 10)) = 1 by rw [show bN (iN ice (100 * s + 10 * (k % 10))) (k / 10) = 0 by omega]; decide), if_neg hb, Int64.add_zero]; rfl
  · show f_X11_next_b39 ice (f, A) (nI k) _ (nI 4) = _
    unfold f_X11_next_b39
    rw [if_pos (by decide)]
theorem goM {ice : Nat → Int32} {P : Nat → Nat} {f : Nat → Int64} (hi : okI ice) (hf : ∀ s, s < 4 → f s = lN (P s)) (hT : smS P 4 < 2 ^ 61) : lpM (σ := Int32 × Int64 × Int32) (ρ := Int32) (fun st => f_X11_next_b26 ice (f, lN (smS P 4)) st.1 st.2.1 st.2.2) FU ((0 : Int32), (-1 : Int64), (0 : Int32)) = some (nI (bxN (awN ice P) 59)) := by
  have hA : ∀ k, awN ice P k ≤ smS P 4 := fun k => awN_le
  refine lp_run (fun k => ((cmN (awN ice P) k).1, (cmN (awN ice P) k).2, nI k)) 60 ?_ ?_ FU (FU_lt (by omega)) rfl
  · intro k hk
    show f_X11_next_b26 ice (f, lN (smS P 4)) (cmN (awN ice P) k).1 (cmN (awN ice P) k).2 (nI k) = _
    unfold f_X11_next_b26
    rw [if_neg (nleL 60 60 rfl hk (by omega)), nextLoop hi hf hk, Option.bind_some]
    unfold f_X11_next_x98_8
    have hsw := swN_le (ice := ice) (P := P) (z := k / 10) (t := k % 10) 4
    have ej : ∀ (c : Prop) [Decidable c] (v1 : Int32) (v2 : Int64) (v4 : Int32) (x y : Int64), (if c then f_X11_next_j126 v1 v2 v4 x else f_X11_next_j126 v1 v2 v4 y) = f_X11_next_j126 v1 v2 v4 (if c then x else y) := by
      intro c _ v1 v2 v4 x y; split <;> rfl
    simp only [cmp_ge0]
    rw [ej, (awX (by omega) (by omega)).2]
    have ea : awN ice P k = dsN (2 * swN ice P (k / 10) (k % 10) 4) (smS P 4) := rfl
    rw [← ea]
    simp only [f_X11_next_j126, f_X11_next_j141, cmp_lt0, cmp_ge0, nI1]
    cases k with
    | zero =>
      rw [if_pos (show (cmN (awN ice P) 0).2 < 0 by show (-1 : Int64) < 0; decide)]
      rfl
    | succ k =>
      have h0 := hA (k + 1)
      have h1 := hA (bxN (awN ice P) k)
      show (if lN (awN ice P (bxN (awN ice P) k)) < 0 then _ else if lN (awN ice P (bxN (awN ice P) k)) ≤ lN (awN ice P (k + 1)) then some (Sum.inl (nI (bxN (awN ice P) k), lN (awN ice P (bxN (awN ice P) k)), nI (k + 1 + 1))) else _) = some (Sum.inl (nI (bxN (awN ice P) (k + 1)), lN (awN ice P (bxN (awN ice P) (k + 1))), nI (k + 1 + 1)))
      rw [if_neg (fun q => by have := (pk_lLT (b := 0) (by omega) (by omega)).mp q; omega)]
      simp only [bxN]
      by_cases h : awN ice P (bxN (awN ice P) k) ≤ awN ice P (k + 1)
      · rw [if_pos ((pk_lLE (by omega) (by omega)).mpr h), if_pos h]
      · rw [if_neg (fun q => h ((pk_lLE (by omega) (by omega)).mp q)), if_neg h]
  · show f_X11_next_b26 ice (f, lN (smS P 4)) _ _ (nI 60) = _
    unfold f_X11_next_b26
    rw [if_pos (by decide)]
    rfl
theorem st_next : St_next := by
  intro tx tl lw ice mk wt bd s6 s8 s7 s1 s5 s2 u0 u1 sm kz kb km kw hI
  obtain ⟨n, hn, rfl, hB⟩ := hI.2.2.2.1
  have hi := hI.2.2.1
  have hw := hI.2.2.2.2.1
  have hP : ∀ s, s < 4 → prN ice mk wt 9 s n ≤ 90000000000000000 := fun s hs => pr_bd hn hw hs hB
  have hS := sm_bd hP
  simp only [f_X10_next, f_X11_next, Option.bind_some, weigh_n _ _ hi hn hw hB, layLots_n _ hi hn hw hB no1, cmp_eq0, l0_n (show smS (fun s => prN ice mk wt 9 s n) 4 < 2 ^ 63 by omega)]
  by_cases h0 : smS (fun s => prN ice mk wt 9 s n) 4 = 0
  · simp only [if_pos h0]; exact ⟨-3, _, _, _, _, _, rfl, rfl, hI⟩
  simp only [if_neg h0]
  rw [goX hi (P := fun s => prN ice mk wt 9 s n) (shA_at 4) (by omega), goM hi (P := fun s => prN ice mk wt 9 s n) (shA_at 4) (by omega)]
  exact ⟨_, _, _, _, _, _, rfl, rfl, hI⟩
