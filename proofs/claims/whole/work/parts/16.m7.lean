/-! ===== ice in rounds: explains, chance, pole ===== -/
def iN (ice : Nat → Int32) (k : Nat) : Nat := (ice k).toNatClampNeg
theorem iN_at {ice : Nat → Int32} (h : okI ice) (k : Nat) : iN ice k < 64 ∧ ice k = nI (iN ice k) := by
  obtain ⟨n, hn, e⟩ := h k
  unfold iN
  rw [e, nI_clamp (by omega)]
  exact ⟨hn, rfl⟩
def bN (v d : Nat) : Nat := v / 2 ^ d % 2
theorem bN_lt (v d : Nat) : bN v d < 2 := Nat.mod_lt _ (by omega)
theorem bN_tb (v d : Nat) : bN v d = 1 ↔ v.testBit d = true := by
  unfold bN
  rw [Nat.testBit_eq_decide_div_mod_eq, decide_eq_true_iff]
theorem bN_or (a b d : Nat) : bN (a ||| b) d = 1 ↔ bN a d = 1 ∨ bN b d = 1 := by
  rw [bN_tb, bN_tb, bN_tb, Nat.testBit_or, Bool.or_eq_true]
theorem bN_and (a b d : Nat) : bN (a &&& b) d = 1 ↔ bN a d = 1 ∧ bN b d = 1 := by
  rw [bN_tb, bN_tb, bN_tb, Nat.testBit_and, Bool.and_eq_true]
theorem bit_384 : ∀ v, v < 64 → ∀ d, d < 6 → (nI v >>> (nI d &&& 31)) &&& 1 = nI (bN v d) := by decide +kernel
theorem hasIce_n {v d : Nat} (hv : v < 64) (hd : d < 6) : f_X10_hasIce (nI v) (nI d) = some (if bN v d = 1 then 1 else 0) := by
  unfold f_X10_hasIce
  rw [bit_384 v hv d hd]
  have := bN_lt v d
  by_cases h : bN v d = 1
  · rw [if_pos (show nI (bN v d) = 1 by rw [h]; rfl), if_pos h]
  · rw [if_neg (show ¬ nI (bN v d) = 1 by rw [show bN v d = 0 by omega]; decide), if_neg h]
theorem tbOr (a b : Nat) : nI a ||| nI b = nI (a ||| b) := by
  apply Int32.toBitVec_inj.mp
  rw [Int32.toBitVec_or]
  show BitVec.ofNat 32 a ||| BitVec.ofNat 32 b = BitVec.ofNat 32 (a ||| b)
  rw [BitVec.ofNat_or]
/-- sums over rounds -/
def rsN (g : Nat → Nat) : Nat → Nat
  | 0 => 0
  | k + 1 => rsN g k + g k
theorem rsN_le {g : Nat → Nat} (h : ∀ k, g k ≤ 1) : ∀ k, rsN g k ≤ k := by
  intro k
  induction k with
  | zero => exact Nat.le_refl _
  | succ k ih => have := h k; unfold rsN; omega
def orN (g : Nat → Nat) : Nat → Nat
  | 0 => 0
  | k + 1 => orN g k ||| g k
def anN (g : Nat → Nat) : Nat → Nat
  | 0 => 63
  | k + 1 => anN g k &&& g k
theorem orN_lt {g : Nat → Nat} (h : ∀ k, g k < 64) : ∀ k, orN g k < 64 := by
  intro k
  induction k with
  | zero => exact Nat.zero_lt_succ _
  | succ k ih => exact Nat.or_lt_two_pow (n := 6) ih (h k)
theorem anN_lt {g : Nat → Nat} : ∀ k, anN g k < 64 := by
  intro k
  induction k with
  | zero => exact Nat.lt_succ_self 63
  | succ k ih => exact Nat.lt_of_le_of_lt Nat.and_le_left ih
theorem or_bits {g : Nat → Nat} (d : Nat) : ∀ k, 0 < rsN (fun i => bN (g i) d) k ↔ bN (orN g k) d = 1 := by
  intro k
  induction k with
  | zero =>
    have : bN 0 d = 0 := by unfold bN; rw [Nat.zero_div]
    show 0 < 0 ↔ bN 0 d = 1
    omega
  | succ k ih =>
    show 0 < rsN (fun i => bN (g i) d) k + bN (g k) d ↔ bN (orN g k ||| g k) d = 1
    rw [bN_or, ← ih]
    have := bN_lt (g k) d
    omega
theorem or_any {g : Nat → Nat} : ∀ k, 0 < rsN (fun i => if g i = 0 then 0 else 1) k ↔ ¬ orN g k = 0 := by
  intro k
  induction k with
  | zero => show 0 < 0 ↔ ¬ (0 = 0); omega
  | succ k ih =>
    show 0 < rsN (fun i => if g i = 0 then 0 else 1) k + (if g k = 0 then 0 else 1) ↔ ¬ (orN g k ||| g k) = 0
    have ho : (orN g k ||| g k) = 0 ↔ orN g k = 0 ∧ g k = 0 := by
      constructor
      · intro h
        have h1 : orN g k ≤ (orN g k ||| g k) := Nat.left_le_or
        have h2 : g k ≤ (orN g k ||| g k) := Nat.right_le_or
        omega
      · rintro ⟨h1, h2⟩; rw [h1, h2]; rfl
    rw [ho]
    by_cases h : g k = 0
    · rw [if_pos h, Nat.add_zero, ih]; simp [h]
    · rw [if_neg h]; simp [h]
theorem and_bits {g : Nat → Nat} {d : Nat} (hd : d < 6) : ∀ k, rsN (fun i => bN (g i) d) k = k ↔ bN (anN g k) d = 1 := by
  intro k
  induction k with
  | zero =>
    have : ∀ d, d < 6 → bN 63 d = 1 := by decide
    show 0 = 0 ↔ bN 63 d = 1
    simp [this d hd]
  | succ k ih =>
    show rsN (fun i => bN (g i) d) k + bN (g k) d = k + 1 ↔ bN (anN g k &&& g k) d = 1
    rw [bN_and, ← ih]
    have := bN_lt (g k) d
    have := rsN_le (g := fun i => bN (g i) d) (fun i => by have := bN_lt (g i) d; show bN (g i) d ≤ 1; omega) k
    omega
/-- the ice of a story in the rounds of a bed -/
def gI (ice mk : Nat → Int32) (s b : Nat) : Nat → Nat := fun i => iN ice (100 * s + (mN mk b 2 + i))
def lenB (mk : Nat → Int32) (b : Nat) : Nat := mN mk b 3 + 1 - mN mk b 2
theorem someX {ice mk : Nat → Int32} {s b : Nat} (hi : okI ice) (hs : s < 4) (ok : okMk mk b) : f_X0_someIce ice (nI s) (nI (mN mk b 2)) (nI (mN mk b 3)) = some (nI (orN (gI ice mk s b) (lenB mk b))) := by
  unfold f_X0_someIce
  have b1 := ok.at.1
  refine lp_bd (fun i => (nI (orN (gI ice mk s b) i), nI (mN mk b 2 + i))) (nI (orN (gI ice mk s b) (lenB mk b))) (lenB mk b) (FU_lt (by unfold lenB; omega)) rfl rfl ?_ ?_
  · intro i h
    unfold lenB at h
    show f_X0_someIce_b6 ice (nI s) (nI (mN mk b 3)) (nI (orN (gI ice mk s b) i)) (nI (mN mk b 2 + i)) = _
    unfold f_X0_someIce_b6
    rw [if_neg (nI_nlt (by omega) (by omega)), iceOf_n ice hs (by omega), Option.bind_some, (iN_at hi _).2, tbOr, nI1]
    rfl
  · show f_X0_someIce_b6 ice (nI s) (nI (mN mk b 3)) _ (nI (mN mk b 2 + lenB mk b)) = _
    unfold f_X0_someIce_b6
    rw [if_pos (nI_lt (by unfold lenB; omega) (by unfold lenB; omega))]
theorem lastX {ice mk : Nat → Int32} {s b : Nat} (hi : okI ice) (hs : s < 4) (ok : okMk mk b) : f_X0_lastingIce ice (nI s) (nI (mN mk b 2)) (nI (mN mk b 3)) = some (nI (anN (gI ice mk s b) (lenB mk b))) := by
  unfold f_X0_lastingIce
  have b1 := ok.at.1
  refine lp_bd (fun i => (nI (anN (gI ice mk s b) i), nI (mN mk b 2 + i))) (nI (anN (gI ice mk s b) (lenB mk b))) (lenB mk b) (FU_lt (by unfold lenB; omega)) rfl rfl ?_ ?_
  · intro i h
    unfold lenB at h
    show f_X0_lastingIce_b7 ice (nI s) (nI (mN mk b 3)) (nI (anN (gI ice mk s b) i)) (nI (mN mk b 2 + i)) = _
    unfold f_X0_lastingIce_b7
    rw [if_neg (nI_nlt (by omega) (by omega)), iceOf_n ice hs (by omega), Option.bind_some, (iN_at hi _).2, tbAnd, nI1]
    rfl
  · show f_X0_lastingIce_b7 ice (nI s) (nI (mN mk b 3)) _ (nI (mN mk b 2 + lenB mk b)) = _
    unfold f_X0_lastingIce_b7
    rw [if_pos (nI_lt (by unfold lenB; omega) (by unfold lenB; omega))]
theorem sx100 {s i : Nat} : (100 : Int32) * nI s + nI i = nI (100 * s + i) := by rw [show (100 : Int32) = nI 100 from rfl, pk_mul, nI_add]
theorem roundsM {ice mk : Nat → Int32} {s b d : Nat} (hi : okI ice) (hs : s < 4) (hb : b < 8) (hd : d < 6) (ok : okMk mk b) : f_X11_rounds ice mk (nI s) (nI b) (nI d) = some (nI (rsN (fun i => bN (gI ice mk s b i) d) (lenB mk b))) := by
  unfold f_X11_rounds
  have b1 := ok.at.1
  rw [g2 hb, e2 hb ok, Option.bind_some]
  refine lp_bd (fun i => (nI (rsN (fun i => bN (gI ice mk s b i) d) i), nI (mN mk b 2 + i))) (nI (rsN (fun i => bN (gI ice mk s b i) d) (lenB mk b))) (lenB mk b) (FU_lt (by unfold lenB; omega)) rfl rfl ?_ ?_
  · intro i h
    unfold lenB at h
    show f_X11_rounds_b16 ice mk (nI s) (nI b) (nI d) (nI (rsN (fun i => bN (gI ice mk s b i) d) i)) (nI (mN mk b 2 + i)) = _
    unfold f_X11_rounds_b16
    rw [g3 hb, e3 hb ok, if_neg (nI_nlt (by omega) (by omega)), sx100, gd_n (by omega) (by omega), nI_clamp (by omega), Option.bind_some, if_neg (show ¬ nI d = 6 from fun e => by have := (nI_eq (b := 6) (by omega) (by omega)).mp e; omega), Option.bind_some, (iN_at hi _).2, bit_384 _ (iN_at hi _).1 d hd, nI_add, nI1]
    rfl
  · show f_X11_rounds_b16 ice mk (nI s) (nI b) (nI d) _ (nI (mN mk b 2 + lenB mk b)) = _
    unfold f_X11_rounds_b16
    rw [g3 hb, e3 hb ok, if_pos (nI_lt (by unfold lenB; omega) (by unfold lenB; omega))]
theorem rounds6 {ice mk : Nat → Int32} {s b : Nat} (hi : okI ice) (hs : s < 4) (hb : b < 8) (ok : okMk mk b) : f_X11_rounds ice mk (nI s) (nI b) 6 = some (nI (rsN (fun i => if gI ice mk s b i = 0 then 0 else 1) (lenB mk b))) := by
  unfold f_X11_rounds
  have b1 := ok.at.1
  rw [g2 hb, e2 hb ok, Option.bind_some]
  refine lp_bd (fun i => (nI (rsN (fun i => if gI ice mk s b i = 0 then 0 else 1) i), nI (mN mk b 2 + i))) (nI (rsN (fun i => if gI ice mk s b i = 0 then 0 else 1) (lenB mk b))) (lenB mk b) (FU_lt (by unfold lenB; omega)) rfl rfl ?_ ?_
  · intro i h
    unfold lenB at h
    show f_X11_rounds_b16 ice mk (nI s) (nI b) 6 (nI (rsN (fun i => if gI ice mk s b i = 0 then 0 else 1) i)) (nI (mN mk b 2 + i)) = _
    unfold f_X11_rounds_b16
    have hv := iN_at hi (100 * s + (mN mk b 2 + i))
    rw [g3 hb, e3 hb ok, if_neg (nI_nlt (by omega) (by omega)), sx100, gd_n (by omega) (by omega), nI_clamp (by omega), Option.bind_some, if_pos rfl, hv.2]
    by_cases h0 : iN ice (100 * s + (mN mk b 2 + i)) = 0
    · rw [if_pos (show nI (iN ice (100 * s + (mN mk b 2 + i))) ≤ 0 by rw [h0]; decide)]
      have e : rsN (fun i => if gI ice mk s b i = 0 then 0 else 1) (i + 1) = rsN (fun i => if gI ice mk s b i = 0 then 0 else 1) i := by
        show _ + (if gI ice mk s b i = 0 then 0 else 1) = _
        rw [if_pos (show gI ice mk s b i = 0 from h0)]; rfl
      rw [e, nI1, show nI (rsN (fun i => if gI ice mk s b i = 0 then 0 else 1) i) + (0 : Int32) = _ from nI_add _ 0]; rfl
    · rw [if_neg (show ¬ nI (iN ice (100 * s + (mN mk b 2 + i))) ≤ 0 from nI_ge (a := 0) (by omega) (by omega)), nI1, nI1]
      have e : rsN (fun i => if gI ice mk s b i = 0 then 0 else 1) (i + 1) = rsN (fun i => if gI ice mk s b i = 0 then 0 else 1) i + 1 := by
        show _ + (if gI ice mk s b i = 0 then 0 else 1) = _
        rw [if_neg (show ¬ gI ice mk s b i = 0 from h0)]
      rw [e]; rfl
  · show f_X11_rounds_b16 ice mk (nI s) (nI b) 6 _ (nI (mN mk b 2 + lenB mk b)) = _
    unfold f_X11_rounds_b16
    rw [g3 hb, e3 hb ok, if_pos (nI_lt (by unfold lenB; omega) (by unfold lenB; omega))]
theorem le0_n {k : Nat} (h : k < 2147483648) : nI k ≤ 0 ↔ ¬ 0 < k := by
  rw [show (0 : Int32) = nI 0 from rfl, nI_leI (by omega) (by omega)]; omega
theorem lenB_le {mk : Nat → Int32} {b : Nat} (ok : okMk mk b) : lenB mk b ≤ 100 := by have := ok.at.1; unfold lenB; omega
theorem rsb_le {ice mk : Nat → Int32} {s b d : Nat} (ok : okMk mk b) : rsN (fun i => bN (gI ice mk s b i) d) (lenB mk b) ≤ 100 :=
  Nat.le_trans (rsN_le (fun i => by have := bN_lt (gI ice mk s b i) d; show bN (gI ice mk s b i) d ≤ 1; omega) _) (lenB_le ok)
theorem rs6_le {ice mk : Nat → Int32} {s b : Nat} (ok : okMk mk b) : rsN (fun i => if gI ice mk s b i = 0 then 0 else 1) (lenB mk b) ≤ 100 :=
  Nat.le_trans (rsN_le (fun i => by show (if gI ice mk s b i = 0 then 0 else 1) ≤ 1; split <;> omega) _) (lenB_le ok)
theorem gI_lt {ice mk : Nat → Int32} {s b : Nat} (hi : okI ice) (k : Nat) : gI ice mk s b k < 64 := (iN_at hi _).1
theorem eq0_n {k : Nat} (h : k < 2147483648) : nI k = 0 ↔ k = 0 := nI_eq (b := 0) h (by omega)
theorem st_explains : St_explains := by
  intro tx tl lw ice mk wt bd s6 s8 s7 s1 s5 s2 u0 u1 sm kz kb km kw a1 a2 hI
  obtain ⟨n, hn, rfl, hB⟩ := hI.2.2.2.1
  have hi := hI.2.2.1
  simp only [f_X10_explains, f_X11_explains, isStory_n, mStory_n, isBed_n, mBed_n, Option.bind_some, ite10]
  by_cases h : (0 : Int32) ≤ a1 ∧ a1 ≤ 3
  rotate_left
  · simp only [if_neg h]; exact ⟨-1, rfl, rfl, hI⟩
  simp only [if_pos h]
  by_cases h2 : (0 : Int32) ≤ a2 ∧ a2 ≤ nI n - 1
  rotate_left
  · simp only [if_neg h2]; exact ⟨-1, rfl, rfl, hI⟩
  simp only [if_pos h2]
  obtain ⟨s, hs, rfl⟩ := rg 3 (by omega) rfl h
  obtain ⟨b, hb, rfl⟩ := (isBed_iff hn a2).mp h2
  have ok := hB b hb
  have b1 := ok.at.1
  rw [icX (by omega) ok, icM (by omega) ok]
  simp only [Option.bind_some, ite10]
  by_cases hc : icB mk b = true
  rotate_left
  · simp only [if_neg hc]; exact ⟨-3, rfl, rfl, hI⟩
  simp only [if_pos hc]
  rw [mk2 (by omega) ok, mk3 (by omega) ok, mk4 (by omega) ok, g4 (by omega), e4 (by omega) ok, roundsM hi (by omega) (by omega) (by omega) ok, rounds6 hi (by omega) (by omega) ok]
  simp only [Option.bind_some]
  rw [someX hi (by omega) ok]
  simp only [Option.bind_some]
  have hor := orN_lt (gI_lt (ice := ice) (mk := mk) (s := s) (b := b) hi) (lenB mk b)
  rw [hasIce_n hor (by omega)]
  simp only [Option.bind_some, ite10]
  simp only [le0_n (Nat.lt_of_le_of_lt (rsb_le (ice := ice) (s := s) ok) (by omega : 100 < 2147483648)), le0_n (Nat.lt_of_le_of_lt (rs6_le (ice := ice) (s := s) ok) (by omega : 100 < 2147483648)), or_bits, or_any, eq0_n (show orN (gI ice mk s b) (lenB mk b) < 2147483648 by omega)]
  by_cases hd : bN (orN (gI ice mk s b) (lenB mk b)) (mN mk b 4) = 1
  · rw [if_pos hd, if_neg (fun q => q hd)]; exact ⟨2, rfl, rfl, hI⟩
  · rw [if_neg hd, if_pos hd]
    by_cases h0 : orN (gI ice mk s b) (lenB mk b) = 0
    · rw [if_pos h0, if_pos (fun q => q h0)]; exact ⟨0, rfl, rfl, hI⟩
    · rw [if_neg h0, if_neg (fun q => q h0)]; exact ⟨1, rfl, rfl, hI⟩
/-- chances in hundredths -/
def chN (ice mk : Nat → Int32) (s b : Nat) : Nat :=
  if icB mk b = true then mN mk b 5 * (if bN (orN (gI ice mk s b) (lenB mk b)) (mN mk b 4) = 1 then 10 else slN (mN mk b 1)) + (10 - mN mk b 5) * (if orN (gI ice mk s b) (lenB mk b) = 0 then slN (mN mk b 1) else 10)
  else mN mk b 5 * (if bN (anN (gI ice mk s b) (lenB mk b)) (mN mk b 4) = 1 then 5 else 10) + (10 - mN mk b 5) * 10
theorem ch_form {f x y : Nat} (hf : f ≤ 10) : nI f * nI x + ((10 : Int32) - nI f) * nI y = nI (f * x + (10 - f) * y) := by
  rw [show (10 : Int32) = nI 10 from rfl, pk_sub hf, pk_mul, pk_mul, nI_add]
theorem hundX {ice mk : Nat → Int32} {s b : Nat} (hi : okI ice) (hs : s < 4) (hb : b < 8) (ok : okMk mk b) : f_X5_hundredths ice mk (nI s) (nI b) = some (nI (chN ice mk s b)) := by
  have b1 := ok.at.1
  unfold f_X5_hundredths
  rw [mk2 hb ok, mk3 hb ok, mk4 hb ok, mk5 hb ok, icX hb ok]
  simp only [Option.bind_some, ite10]
  rw [someX hi hs ok, lastX hi hs ok, slide_n mk hb b1.2.1 ok.at.2.2.1]
  simp only [Option.bind_some, f_X5_hundredths_j117, f_X5_hundredths_j69]
  have hor := orN_lt (gI_lt (ice := ice) (mk := mk) (s := s) (b := b) hi) (lenB mk b)
  have han := anN_lt (g := gI ice mk s b) (lenB mk b)
  rw [hasIce_n hor (by omega), hasIce_n han (by omega)]
  simp only [Option.bind_some, ite10, eq0_n (show orN (gI ice mk s b) (lenB mk b) < 2147483648 by omega)]
  unfold chN
  have t10 : (10 : Int32) = nI 10 := rfl
  have t5 : (5 : Int32) = nI 5 := rfl
  by_cases hc : icB mk b = true
  · rw [if_pos hc, if_pos hc]
    by_cases hd : bN (orN (gI ice mk s b) (lenB mk b)) (mN mk b 4) = 1
    · rw [if_pos hd, if_pos hd]
      by_cases h0 : orN (gI ice mk s b) (lenB mk b) = 0
      · rw [if_pos h0, if_pos h0, ← ch_form (by omega)]; rfl
      · rw [if_neg h0, if_neg h0, ← ch_form (by omega)]; rfl
    · rw [if_neg hd, if_neg hd]
      by_cases h0 : orN (gI ice mk s b) (lenB mk b) = 0
      · rw [if_pos h0, if_pos h0, ← ch_form (by omega)]
      · rw [if_neg h0, if_neg h0, ← ch_form (by omega)]; rfl
  · rw [if_neg hc, if_neg hc]
    by_cases hd : bN (anN (gI ice mk s b) (lenB mk b)) (mN mk b 4) = 1
    · rw [if_pos hd, if_pos hd, ← ch_form (by omega)]; rfl
    · rw [if_neg hd, if_neg hd, ← ch_form (by omega)]; rfl
theorem chanceM {ice mk : Nat → Int32} {s b : Nat} (hi : okI ice) (hs : s < 4) (hb : b < 8) (ok : okMk mk b) : f_X11_chanceOf ice mk (nI s) (nI b) = some (nI (chN ice mk s b)) := by
  have b1 := ok.at.1
  unfold f_X11_chanceOf
  rw [g5 hb, e5 hb ok, Option.bind_some, g4 hb, e4 hb ok, roundsM hi hs hb (by omega) ok, icM hb ok]
  simp only [Option.bind_some, ite10]
  rw [g3 hb, e3 hb ok, g2 hb, e2 hb ok, mSlide_n mk hb b1.2.1 ok.at.2.2.1]
  simp only [Option.bind_some, f_X11_chanceOf_j114, f_X11_chanceOf_j88, f_X11_chanceOf_j74]
  rw [rounds6 hi hs hb ok, mSlide_n mk hb b1.2.1 ok.at.2.2.1]
  have e1 : nI (mN mk b 3) - nI (mN mk b 2) + 1 = nI (lenB mk b) := by
    rw [pk_sub b1.2.2.1, nI1]; unfold lenB; congr 1; omega
  have hr := rsb_le (ice := ice) (s := s) (d := mN mk b 4) ok
  have hl := lenB_le ok
  simp only [Option.bind_some, e1, le0_n (Nat.lt_of_le_of_lt (rsb_le (ice := ice) (s := s) ok) (by omega : 100 < 2147483648)), le0_n (Nat.lt_of_le_of_lt (rs6_le (ice := ice) (s := s) ok) (by omega : 100 < 2147483648)), or_bits, or_any, nI_eq (show rsN (fun i => bN (gI ice mk s b i) (mN mk b 4)) (lenB mk b) < 2 ^ 31 by omega) (show lenB mk b < 2 ^ 31 by omega), and_bits (show mN mk b 4 < 6 by omega)]
  unfold chN
  by_cases hc : icB mk b = true
  · rw [if_pos hc, if_pos hc]
    by_cases hd : bN (orN (gI ice mk s b) (lenB mk b)) (mN mk b 4) = 1
    · rw [if_pos hd, if_neg (fun q => q hd)]
      by_cases h0 : orN (gI ice mk s b) (lenB mk b) = 0
      · rw [if_pos h0, if_pos (fun q => q h0), ← ch_form (by omega)]; rfl
      · rw [if_neg h0, if_neg (fun q => q h0), ← ch_form (by omega)]; rfl
    · rw [if_neg hd, if_pos hd]
      by_cases h0 : orN (gI ice mk s b) (lenB mk b) = 0
      · rw [if_pos h0, if_pos (fun q => q h0), ← ch_form (by omega)]
      · rw [if_neg h0, if_neg (fun q => q h0), ← ch_form (by omega)]; rfl
  · rw [if_neg hc, if_neg hc]
    by_cases hd : bN (anN (gI ice mk s b) (lenB mk b)) (mN mk b 4) = 1
    · rw [if_pos hd, if_pos hd, ← ch_form (by omega), if_neg (by decide)]; rfl
    · rw [if_neg hd, if_neg hd, ← ch_form (by omega), if_pos trivial]; rfl
theorem chN_le {ice mk : Nat → Int32} {s b : Nat} (ok : okMk mk b) : chN ice mk s b ≤ 100 := by
  have b1 := ok.at.1
  have h2 := (sl_16 (mN mk b 1) b1.2.1).2.2
  have key : ∀ f x y : Nat, f ≤ 10 → x ≤ 10 → y ≤ 10 → f * x + (10 - f) * y ≤ 100 := by
    intro f x y hf hx hy
    have h1 : f * x ≤ f * 10 := Nat.mul_le_mul_left _ hx
    have h2 : (10 - f) * y ≤ (10 - f) * 10 := Nat.mul_le_mul_left _ hy
    omega
  unfold chN
  split
  · exact key _ _ _ (by omega) (by split <;> omega) (by split <;> omega)
  · exact key _ _ _ (by omega) (by split <;> omega) (by omega)
