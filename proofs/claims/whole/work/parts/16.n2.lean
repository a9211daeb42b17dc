/-! ===== the earth: warmth, round, lived, rests, rest ===== -/
def tkW (lw : Nat → Int32) (v k : Nat) : Int32 := if bN v k = 1 then lw k * ((10 : Int32) - lw 6) else lw k * (10 : Int32)
theorem gL {α : Type} {A : Option α} {x : Int32} {n k : Nat} (hx : x = nI k) (h : k < n) (hn : n < 2147483648) : gd x n A = A := by subst hx; exact gd_n h hn
theorem g6 {α : Type} {A : Option α} : gd (6 : Int32) 12 A = A := gL (k := 6) rfl (by omega) (by omega)
theorem g7 {α : Type} {A : Option α} : gd (7 : Int32) 12 A = A := gL (k := 7) rfl (by omega) (by omega)
theorem g8 {α : Type} {A : Option α} : gd (8 : Int32) 12 A = A := gL (k := 8) rfl (by omega) (by omega)
theorem g9 {α : Type} {A : Option α} : gd (9 : Int32) 12 A = A := gL (k := 9) rfl (by omega) (by omega)
theorem g10 {α : Type} {A : Option α} : gd (10 : Int32) 12 A = A := gL (k := 10) rfl (by omega) (by omega)
theorem g11 {α : Type} {A : Option α} : gd (11 : Int32) 12 A = A := gL (k := 11) rfl (by omega) (by omega)
theorem c6 : (6 : Int32).toNatClampNeg = 6 := by decide
theorem c7 : (7 : Int32).toNatClampNeg = 7 := by decide
theorem c8 : (8 : Int32).toNatClampNeg = 8 := by decide
theorem c9 : (9 : Int32).toNatClampNeg = 9 := by decide
theorem c10 : (10 : Int32).toNatClampNeg = 10 := by decide
theorem c11 : (11 : Int32).toNatClampNeg = 11 := by decide
theorem takenX {lw : Nat → Int32} {v k : Nat} (hv : v < 64) (hk : k < 6) : f_X3_takenBy lw (nI k) (nI v) = some (tkW lw v k) := by
  unfold f_X3_takenBy tkW
  rw [if_neg (nI_nn (by omega)), if_pos (nltL 6 6 rfl hk (by omega)), gd_n (by omega) (by omega), hasIce_n hv hk, Option.bind_some, ite10, g6, c6, nI_clamp (by omega)]
  by_cases h : bN v k = 1
  · rw [if_pos h, if_pos h]
  · rw [if_neg h, if_neg h]
theorem takenJ {lw : Nat → Int32} {v k : Nat} (hv : v < 64) (hk : k < 6) : f_X11_taken_j18 lw (nI v) (nI k) = some (tkW lw v k) := by
  unfold f_X11_taken_j18 tkW
  have := bN_lt v k
  rw [gd_n (by omega) (by omega), bit_384 v hv k hk, g6, c6, nI_clamp (by omega)]
  by_cases h : bN v k = 1
  · rw [if_pos (show nI (bN v k) = 1 by rw [h]; rfl), if_pos h]
  · rw [if_neg (show ¬ nI (bN v k) = 1 by rw [show bN v k = 0 by omega]; decide), if_neg h]
def clB (x : Int32) : Int32 := if (0 : Int32) ≤ x then (if x ≤ (5 : Int32) then x else 5) else 0
theorem takenC {lw : Nat → Int32} {v x : Int32} : f_X11_taken lw x v = f_X11_taken_j18 lw v (clB x) := by
  unfold f_X11_taken clB
  split
  · split <;> rfl
  · rfl
theorem clB_6 : ∀ k, k < 6 → clB (nI k) = nI k ∧ clB (nI k - 1) = nI (k - 1) ∧ clB (nI k + 1) = nI (min 5 (k + 1)) ∧ (if (nI k - 1) < 0 then (0 : Int32) else nI k - 1) = nI (k - 1) ∧ (if (5 : Int32) < nI k + 1 then (5 : Int32) else nI k + 1) = nI (min 5 (k + 1)) := by decide +kernel
def fwW (lw : Nat → Int32) (v : Nat) (a : Int32) (k : Nat) : Int32 := (((2 : Int32) * tkW lw v k) + tkW lw v (k - 1)) + tkW lw v (min 5 (k + 1)) + (((40 : Int32) * lw 7) * a)
theorem fortyX {lw : Nat → Int32} {v k : Nat} {a : Int32} (hv : v < 64) (hk : k < 6) : f_X3_fortyWarmth lw (nI k) (nI v) a = some (fwW lw v a k) := by
  unfold f_X3_fortyWarmth
  rw [(clB_6 k hk).2.2.2.1, (clB_6 k hk).2.2.2.2, Option.bind_some, Option.bind_some, takenX hv hk, takenX hv (by omega), takenX hv (by omega), Option.bind_some, Option.bind_some, Option.bind_some, g7, c7]
  rfl
theorem warmM {lw : Nat → Int32} {v k : Nat} {a : Int32} (hv : v < 64) (hk : k < 6) : f_X11_warmthOf lw (nI k) (nI v) a = some (fwW lw v a k) := by
  unfold f_X11_warmthOf
  rw [takenC, takenC, takenC, (clB_6 k hk).1, (clB_6 k hk).2.1, (clB_6 k hk).2.2.1, takenJ hv hk, takenJ hv (by omega), takenJ hv (by omega), Option.bind_some, Option.bind_some, Option.bind_some, g7, c7]
  rfl
theorem st_warmth : St_warmth := by
  intro tx tl lw ice mk wt bd s6 s8 s7 s1 s5 s2 u0 u1 sm kz kb km kw a1 a2 a3 hI
  simp only [f_X10_warmth, f_X11_warmth, isBand_n, isIce_n, isAir_n, in_0_5, mEarth_n, Option.bind_some, ite10]
  by_cases h1 : (0 : Int32) ≤ a1 ∧ a1 ≤ 5
  rotate_left
  · simp only [if_neg h1]; exact ⟨-1, rfl, rfl, hI⟩
  simp only [if_pos h1]
  by_cases h2 : (0 : Int32) ≤ a2 ∧ a2 ≤ 63
  rotate_left
  · rw [if_neg h2, if_neg (fun q => h2 q.1)]; exact ⟨-2, rfl, rfl, hI⟩
  by_cases h3 : (0 : Int32) ≤ a3 ∧ a3 ≤ 99
  rotate_left
  · rw [if_pos h2, if_neg h3, if_neg (fun q => h3 q.2)]; exact ⟨-2, rfl, rfl, hI⟩
  rw [if_pos h2, if_pos h3, if_pos ⟨h2, h3⟩]
  obtain ⟨k, hk, rfl⟩ := rg 5 (by omega) rfl h1
  obtain ⟨v, hv, rfl⟩ := rg 63 (by omega) rfl h2
  rw [fortyX (by omega) (by omega), warmM (by omega) (by omega)]
  exact ⟨_, rfl, rfl, hI⟩
def weB (lw : Nat → Int32) (v : Nat) (a : Int32) (i : Nat) : Bool := decide (fwW lw v a i < (40 : Int32) * lw 8) || (!decide ((40 : Int32) * lw 8 + (40 : Int32) * lw 9 ≤ fwW lw v a i) && decide (bN v i = 1))
def iaN (lw : Nat → Int32) (v : Nat) (a : Int32) : Nat → Nat
  | 0 => 0
  | i + 1 => iaN lw v a i ||| (if weB lw v a i = true then 2 ^ i else 0)
theorem iaN_lt {lw : Nat → Int32} {v : Nat} {a : Int32} : ∀ i, iaN lw v a i < 2 ^ i := by
  intro i
  induction i with
  | zero => exact Nat.zero_lt_succ _
  | succ i ih =>
    have h1 : 2 ^ i < 2 ^ (i + 1) := Nat.pow_lt_pow_right (by omega) (by omega)
    unfold iaN
    refine Nat.or_lt_two_pow (Nat.lt_trans ih h1) ?_
    split
    · exact h1
    · omega
def IA (lw : Nat → Int32) (v : Nat) (a : Int32) : Nat := iaN lw v a 6
theorem IA_lt {lw : Nat → Int32} {v : Nat} {a : Int32} : IA lw v a < 64 := iaN_lt 6
theorem shl_6 : ∀ i, i < 6 → (1 : Int32) <<< (nI i &&& 31) = nI (2 ^ i) := by decide +kernel
theorem iceX {lw : Nat → Int32} {v : Nat} {a : Int32} (hv : v < 64) : f_X3_iceAfter lw (nI v) a = some (nI (IA lw v a)) := by
  unfold f_X3_iceAfter
  rw [g8, c8, Option.bind_some, g9, c9, Option.bind_some]
  refine lp_bd (fun i => (nI (iaN lw v a i), nI i)) (nI (iaN lw v a 6)) 6 (FU_lt (by omega)) rfl rfl ?_ ?_
  · intro i hi
    show f_X3_iceAfter_b31 lw (nI v) a ((40 : Int32) * lw 8) ((40 : Int32) * lw 8 + (40 : Int32) * lw 9) (nI (iaN lw v a i)) (nI i) = _
    unfold f_X3_iceAfter_b31
    rw [if_neg (nleL 6 6 rfl hi (by omega)), fortyX hv hi, hasIce_n hv hi]
    simp only [Option.bind_some, ite10, f_X3_iceAfter_j70, nI1]
    rw [shl_6 i hi, tbOr]
    by_cases h1 : fwW lw v a i < (40 : Int32) * lw 8
    · rw [if_pos h1]
      simp only [iaN, if_pos (show weB lw v a i = true by unfold weB; rw [decide_eq_true h1]; rfl)]
    · rw [if_neg h1]
      by_cases h2 : (40 : Int32) * lw 8 + (40 : Int32) * lw 9 ≤ fwW lw v a i
      · rw [if_pos h2]
        simp only [iaN, if_neg (show ¬ weB lw v a i = true by unfold weB; rw [decide_eq_false h1, decide_eq_true h2]; simp), Nat.or_zero]
      · rw [if_neg h2]
        by_cases h3 : bN v i = 1
        · rw [if_pos h3]
          simp only [iaN, if_pos (show weB lw v a i = true by unfold weB; rw [decide_eq_false h1, decide_eq_false h2, decide_eq_true h3]; rfl)]
        · rw [if_neg h3]
          simp only [iaN, if_neg (show ¬ weB lw v a i = true by unfold weB; rw [decide_eq_false h1, decide_eq_false h2, decide_eq_false h3]; decide), Nat.or_zero]
  · show f_X3_iceAfter_b31 lw (nI v) a _ _ _ (nI 6) = _
    unfold f_X3_iceAfter_b31
    rw [if_pos (by decide)]
theorem iceM {lw : Nat → Int32} {v : Nat} {a : Int32} (hv : v < 64) : f_X11_iceThen lw (nI v) a = some (nI (IA lw v a)) := by
  unfold f_X11_iceThen
  refine lp_bd (fun i => (nI (iaN lw v a i), nI i)) (nI (iaN lw v a 6)) 6 (FU_lt (by omega)) rfl rfl ?_ ?_
  · intro i hi
    show f_X11_iceThen_b5 lw (nI v) a (nI (iaN lw v a i)) (nI i) = _
    unfold f_X11_iceThen_b5
    have hb2 := bN_lt v i
    rw [if_neg (nleL 6 6 rfl hi (by omega)), warmM hv hi, Option.bind_some, g8, g8, g9, c8, c9, bit_384 v hv i hi, Int32.mul_add]
    simp only [f_X11_iceThen_j70, f_X11_iceThen_j74, f_X11_iceThen_j75, f_X11_iceThen_j91, nI1, if_true]
    rw [if_neg (show ¬ (1 : Int32) = 0 by decide), shl_6 i hi, tbOr, show (0 : Int32) = nI 0 from rfl, tbOr, Nat.or_zero]
    by_cases h1 : fwW lw v a i < (40 : Int32) * lw 8
    · rw [if_pos h1]
      simp only [iaN, if_pos (show weB lw v a i = true by unfold weB; rw [decide_eq_true h1]; rfl)]
    · rw [if_neg h1]
      by_cases h2 : (40 : Int32) * lw 8 + (40 : Int32) * lw 9 ≤ fwW lw v a i
      · rw [if_pos h2]
        simp only [iaN, if_neg (show ¬ weB lw v a i = true by unfold weB; rw [decide_eq_false h1, decide_eq_true h2]; simp), Nat.or_zero]
      · rw [if_neg h2]
        by_cases h3 : bN v i = 1
        · rw [if_pos (show nI (bN v i) = 1 by rw [h3]; rfl)]
          simp only [iaN, if_pos (show weB lw v a i = true by unfold weB; rw [decide_eq_false h1, decide_eq_false h2, decide_eq_true h3]; rfl)]
        · rw [if_neg (show ¬ nI (bN v i) = 1 by rw [show bN v i = 0 by omega]; decide)]
          simp only [iaN, if_neg (show ¬ weB lw v a i = true by unfold weB; rw [decide_eq_false h1, decide_eq_false h2, decide_eq_false h3]; decide), Nat.or_zero]
  · show f_X11_iceThen_b5 lw (nI v) a _ (nI 6) = _
    unfold f_X11_iceThen_b5
    rw [if_pos (by decide)]
def onN (v : Nat) : Nat := rsN (fun i => bN v i) 6
theorem on_64 : ∀ v, v < 64 → f_J6_bitCount_0f7a4 (nI v) = some (nI (onN v)) := by decide +kernel
theorem onesM {v : Nat} (hv : v < 64) : f_X11_ones (nI v) = some (nI (onN v)) := by
  unfold f_X11_ones
  refine lp_bd (fun i => (nI (rsN (fun i => bN v i) i), nI i)) (nI (onN v)) 6 (FU_lt (by omega)) rfl rfl ?_ ?_
  · intro i hi
    show f_X11_ones_b4 (nI v) (nI (rsN (fun i => bN v i) i)) (nI i) = _
    unfold f_X11_ones_b4
    rw [if_neg (nleL 6 6 rfl hi (by omega)), bit_384 v hv i hi, Option.bind_some, nI_add, nI1]
    rfl
  · show f_X11_ones_b4 (nI v) _ (nI 6) = _
    unfold f_X11_ones_b4
    rw [if_pos (by decide)]
    rfl
def cl9 (u : Int32) : Int32 := if (0 : Int32) ≤ u then (if u ≤ (99 : Int32) then u else 99) else 0
theorem cl9_X (u : Int32) : (if (0 : Int32) < (if u < (99 : Int32) then u else (99 : Int32)) then (if u < (99 : Int32) then u else (99 : Int32)) else (0 : Int32)) = cl9 u := by
  unfold cl9
  have h99 : (99 : Int32).toInt = 99 := by decide
  have h0 : (0 : Int32).toInt = 0 := by decide
  by_cases h1 : (0 : Int32) ≤ u
  · rw [if_pos h1]
    by_cases h2 : u < (99 : Int32)
    · rw [if_pos h2, if_pos (Int32.le_of_lt h2)]
      by_cases h3 : (0 : Int32) < u
      · rw [if_pos h3]
      · rw [if_neg h3]
        exact Int32.le_antisymm h1 (Int32.not_lt.mp h3)
    · rw [if_neg h2, if_pos (by decide)]
      by_cases h3 : u ≤ 99
      · rw [if_pos h3]
        exact Int32.le_antisymm (Int32.not_lt.mp h2) h3
      · rw [if_neg h3]
  · rw [if_neg h1]
    have h2 : u < (99 : Int32) := by
      rw [Int32.lt_iff_toInt_lt]
      rw [Int32.le_iff_toInt_le] at h1
      omega
    rw [if_pos h2, if_neg (fun q => h1 (Int32.le_of_lt q))]
def clN (u : Int32) : Nat := (cl9 u).toNatClampNeg
theorem clN_at (u : Int32) : clN u < 100 ∧ cl9 u = nI (clN u) := by
  have h : ∃ k, k < 100 ∧ cl9 u = nI k := by
    unfold cl9
    by_cases h1 : (0 : Int32) ≤ u
    · rw [if_pos h1]
      by_cases h2 : u ≤ 99
      · rw [if_pos h2]
        obtain ⟨k, hk, e⟩ := rg 99 (by omega) rfl ⟨h1, h2⟩
        exact ⟨k, by omega, e⟩
      · rw [if_neg h2]; exact ⟨99, by omega, rfl⟩
    · rw [if_neg h1]; exact ⟨0, by omega, rfl⟩
  obtain ⟨k, hk, e⟩ := h
  unfold clN
  rw [e, nI_clamp (by omega)]
  exact ⟨hk, rfl⟩
/-- the air after a round -/
def aaU (lw : Nat → Int32) (v : Nat) (a : Int32) : Int32 := (a + lw 10) - (lw 11 * ((6 : Int32) - nI (onN v)))
def RN (lw : Nat → Int32) (st : Nat) : Nat := 100 * IA lw (st / 100) (nI (st % 100)) + clN (aaU lw (st / 100) (nI (st % 100)))
theorem RN_lt {lw : Nat → Int32} {st : Nat} : RN lw st < 6400 := by
  have h1 := IA_lt (lw := lw) (v := st / 100) (a := nI (st % 100))
  have h2 := (clN_at (aaU lw (st / 100) (nI (st % 100)))).1
  unfold RN
  omega
theorem iceIn_n {st : Nat} (h : st < 6400) : f_X3_iceIn (nI st) = some (nI (st / 100)) := by
  unfold f_X3_iceIn
  rw [dz100, show (100 : Int32) = nI 100 from rfl, pk_div (by omega) (by omega) (by omega)]
theorem airIn_n {st : Nat} (h : st < 6400) : f_X3_airIn (nI st) = some (nI (st % 100)) := by
  unfold f_X3_airIn
  rw [dz100, show (100 : Int32) = nI 100 from rfl, pk_rem (by omega) (by omega) (by omega)]
theorem stateX {lw : Nat → Int32} {st : Nat} (h : st < 6400) : f_X3_stateAfter lw (nI st) = some (nI (RN lw st)) := by
  unfold f_X3_stateAfter
  rw [iceIn_n h, airIn_n h, Option.bind_some, Option.bind_some, iceX (by omega), Option.bind_some]
  unfold f_X3_airAfter
  rw [on_64 _ (by omega), Option.bind_some, g10, g11, c10, c11, Option.bind_some, cl9_X, Option.bind_some]
  unfold f_X3_stateOf
  rw [Option.bind_some]
  have e := (clN_at (aaU lw (st / 100) (nI (st % 100)))).2
  unfold aaU at e
  rw [e, show (100 : Int32) = nI 100 from rfl, pk_mul, nI_add]
  rfl
theorem roundM {lw : Nat → Int32} {st : Nat} (h : st < 6400) : f_X11_roundOf lw (nI st) = some (nI (RN lw st)) := by
  unfold f_X11_roundOf
  rw [dz100, dz100, show (100 : Int32) = nI 100 from rfl, pk_rem (by omega) (by omega) (by omega), pk_div (by omega) (by omega) (by omega), Option.bind_some, g10, g11, onesM (by omega), Option.bind_some, c10, c11, Option.bind_some]
  have ej : (if (0 : Int32) ≤ aaU lw (st / 100) (nI (st % 100)) then (if aaU lw (st / 100) (nI (st % 100)) ≤ (99 : Int32) then f_X11_roundOf_j60 lw (nI (st / 100)) (nI (st % 100)) (aaU lw (st / 100) (nI (st % 100))) else f_X11_roundOf_j60 lw (nI (st / 100)) (nI (st % 100)) (99 : Int32)) else f_X11_roundOf_j60 lw (nI (st / 100)) (nI (st % 100)) (0 : Int32)) = f_X11_roundOf_j60 lw (nI (st / 100)) (nI (st % 100)) (cl9 (aaU lw (st / 100) (nI (st % 100)))) := by
    unfold cl9
    split
    · split <;> rfl
    · rfl
  unfold aaU at ej
  rw [ej]
  unfold f_X11_roundOf_j60
  rw [iceM (by omega), Option.bind_some]
  have e := (clN_at (aaU lw (st / 100) (nI (st % 100)))).2
  unfold aaU at e
  rw [e, show (100 : Int32) = nI 100 from rfl, pk_mul, nI_add]
  rfl
theorem st_round : St_round := by
  intro tx tl lw ice mk wt bd s6 s8 s7 s1 s5 s2 u0 u1 sm kz kb km kw a1 a2 hI
  simp only [f_X10_round, f_X11_round, isIce_n, isAir_n, mEarth_n, Option.bind_some, ite10]
  by_cases h2 : (0 : Int32) ≤ a1 ∧ a1 ≤ 63
  rotate_left
  · rw [if_neg h2, if_neg (fun q => h2 q.1)]; exact ⟨-2, rfl, rfl, hI⟩
  by_cases h3 : (0 : Int32) ≤ a2 ∧ a2 ≤ 99
  rotate_left
  · rw [if_pos h2, if_neg h3, if_neg (fun q => h3 q.2)]; exact ⟨-2, rfl, rfl, hI⟩
  rw [if_pos h2, if_pos h3, if_pos ⟨h2, h3⟩]
  obtain ⟨v, hv, rfl⟩ := rg 63 (by omega) rfl h2
  obtain ⟨a, ha, rfl⟩ := rg 99 (by omega) rfl h3
  unfold f_X3_stateOf
  rw [Option.bind_some, sx100, stateX (by omega), roundM (by omega)]
  exact ⟨_, rfl, rfl, hI⟩
def ob (lw : Nat → Int32) (st : Nat) : Nat → Nat
  | 0 => st
  | k + 1 => RN lw (ob lw st k)
theorem ob_lt {lw : Nat → Int32} {st : Nat} (h : st < 6400) : ∀ k, ob lw st k < 6400 := by
  intro k
  cases k with
  | zero => exact h
  | succ k => exact RN_lt
def wh (lw : Nat → Int32) (st k : Nat) : Bool := decide (ob lw st k / 100 = 63)
def livA (lw f : Nat → Int32) (st s : Nat) : Nat → Nat → Int32
  | 0 => f
  | k + 1 => upd (livA lw f st s k) (100 * s + k) (nI (ob lw st k / 100))
theorem livA_ok {lw f : Nat → Int32} {st s : Nat} (h : st < 6400) (hf : okI f) : ∀ k, okI (livA lw f st s k) := by
  intro k
  induction k with
  | zero => exact hf
  | succ k ih =>
    intro j
    unfold livA
    by_cases e : j = 100 * s + k
    · subst e
      refine ⟨ob lw st k / 100, ?_, pk_us⟩
      have := ob_lt (lw := lw) h k
      omega
    · rw [pk_un e]; exact ih j
theorem tell_n (ice : Nat → Int32) {s r : Nat} (v : Int32) (hs : s < 4) (hr : r < 100) : f_X0_tell ice (nI s) (nI r) v = some (upd ice (100 * s + r) v) := by
  simp only [f_X0_tell, isStory_n, isRound_n, Option.bind_some, ite10]
  rw [if_pos (gr3 (by omega)), if_pos (gr99 (by omega))]
  have e : nI s * (100 : Int32) + nI r = nI (100 * s + r) := by
    rw [show (100 : Int32) = nI 100 from rfl, pk_mul, nI_add, Nat.mul_comm]
  rw [e, gd_n (by omega) (by omega), nI_clamp (by omega)]
theorem eq63 {k : Nat} (h : k < 2147483648) : nI k = 63 ↔ k = 63 := nI_eq (b := 63) h (by omega)
theorem st_lived : St_lived := by
  intro tx tl lw ice mk wt bd s6 s8 s7 s1 s5 s2 u0 u1 sm kz kb km kw a1 a2 a3 hI
  simp only [f_X10_lived, f_X11_lived, isStory_n, mStory_n, isIce_n, isAir_n, mEarth_n, Option.bind_some, ite10]
  by_cases h1 : (0 : Int32) ≤ a1 ∧ a1 ≤ 3
  rotate_left
  · simp only [if_neg h1]; exact ⟨-1, _, rfl, rfl, hI⟩
  simp only [if_pos h1]
  by_cases h2 : (0 : Int32) ≤ a2 ∧ a2 ≤ 63
  rotate_left
  · rw [if_neg h2, if_neg (fun q => h2 q.1)]; exact ⟨-2, _, rfl, rfl, hI⟩
  by_cases h3 : (0 : Int32) ≤ a3 ∧ a3 ≤ 99
  rotate_left
  · rw [if_pos h2, if_neg h3, if_neg (fun q => h3 q.2)]; exact ⟨-2, _, rfl, rfl, hI⟩
  rw [if_pos h2, if_pos h3, if_pos ⟨h2, h3⟩]
  obtain ⟨s, hs, rfl⟩ := rg 3 (by omega) rfl h1
  obtain ⟨v, hv, rfl⟩ := rg 63 (by omega) rfl h2
  obtain ⟨a, ha, rfl⟩ := rg 99 (by omega) rfl h3
  unfold f_X3_stateOf
  rw [Option.bind_some, sx100]
  have hst : 100 * v + a < 6400 := by omega
  generalize 100 * v + a = st at hst
  refine ⟨nI (cn (wh lw st) 100), livA lw ice st s 100, ?_, ?_, hI.1, hI.2.1, livA_ok hst hI.2.2.1 100, hI.2.2.2⟩
  · refine lp_bd (fun k => (nI (cn (wh lw st) k), nI (ob lw st k), nI k, livA lw ice st s k)) (nI (cn (wh lw st) 100), livA lw ice st s 100) 100 (FU_lt (by omega)) rfl rfl ?_ ?_
    · intro k hk
      show f_X10_lived_b39 lw (nI s) (nI (cn (wh lw st) k)) (nI (ob lw st k)) (nI k) (livA lw ice st s k) = _
      have ho := ob_lt (lw := lw) hst k
      unfold f_X10_lived_b39
      rw [if_neg (nleL 100 100 rfl hk (by omega)), iceIn_n ho, Option.bind_some, tell_n _ _ (by omega) hk, Option.bind_some]
      simp only [f_X10_lived_j75, nI1, stateX ho, Option.bind_some, eq63 (show ob lw st k / 100 < 2147483648 by omega)]
      by_cases hw : ob lw st k / 100 = 63
      · rw [if_pos hw]; simp only [cn, if_pos (show wh lw st k = true from decide_eq_true hw)]; rfl
      · rw [if_neg hw]; simp only [cn, if_neg (show ¬ wh lw st k = true from fun q => hw (of_decide_eq_true q))]; rfl
    · show f_X10_lived_b39 lw (nI s) _ _ (nI 100) _ = _
      unfold f_X10_lived_b39
      rw [if_pos (by decide)]
  · refine lp_bd (fun k => (nI (ob lw st k), nI (cn (wh lw st) k), nI k, livA lw ice st s k)) (nI (cn (wh lw st) 100), livA lw ice st s 100) 100 (FU_lt (by omega)) rfl rfl ?_ ?_
    · intro k hk
      show f_X11_lived_b34 lw (nI s) (nI (ob lw st k)) (nI (cn (wh lw st) k)) (nI k) (livA lw ice st s k) = _
      have ho := ob_lt (lw := lw) hst k
      have ed : nI (ob lw st k) / 100 = nI (ob lw st k / 100) := by rw [show (100 : Int32) = nI 100 from rfl, pk_div (by omega) (by omega) (by omega)]
      unfold f_X11_lived_b34
      rw [if_neg (nleL 100 100 rfl hk (by omega)), dz100, dz100, ed, sx100, gd_n (by omega) (by omega), nI_clamp (by omega)]
      simp only [f_X11_lived_j75, nI1, roundM ho, Option.bind_some, eq63 (show ob lw st k / 100 < 2147483648 by omega), show nI (cn (wh lw st) k) + (0 : Int32) = nI (cn (wh lw st) k) from nI_add _ 0]
      by_cases hw : ob lw st k / 100 = 63
      · rw [if_pos hw]; simp only [cn, if_pos (show wh lw st k = true from decide_eq_true hw)]; rfl
      · rw [if_neg hw]; simp only [cn, if_neg (show ¬ wh lw st k = true from fun q => hw (of_decide_eq_true q))]; rfl
    · show f_X11_lived_b34 lw (nI s) _ _ (nI 100) _ = _
      unfold f_X11_lived_b34
      rw [if_pos (by decide)]
/-- a rest -/
def reB (lw : Nat → Int32) (a : Int32) (v : Nat) : Bool := decide (IA lw v a = v)
theorem restX {lw : Nat → Int32} {a : Int32} {v : Nat} (hv : v < 64) : f_X3_isRest lw (nI v) a = some (if reB lw a v = true then 1 else 0) := by
  have hl := IA_lt (lw := lw) (v := v) (a := a)
  unfold f_X3_isRest
  rw [iceX hv, Option.bind_some]
  by_cases h : IA lw v a = v
  · rw [if_pos (by rw [h]), if_pos (show reB lw a v = true from decide_eq_true h)]
  · rw [if_neg (fun q => h ((nI_eq (by omega) (by omega)).mp q)), if_neg (show ¬ reB lw a v = true from fun q => h (of_decide_eq_true q))]
theorem restM {lw : Nat → Int32} {a : Int32} {v : Nat} (hv : v < 64) : f_X11_isRest lw (nI v) a = some (if reB lw a v = true then 1 else 0) := by
  have hl := IA_lt (lw := lw) (v := v) (a := a)
  unfold f_X11_isRest
  rw [iceM hv, Option.bind_some]
  by_cases h : IA lw v a = v
  · rw [if_pos (by rw [h]), if_pos (show reB lw a v = true from decide_eq_true h)]
  · rw [if_neg (fun q => h ((nI_eq (by omega) (by omega)).mp q)), if_neg (show ¬ reB lw a v = true from fun q => h (of_decide_eq_true q))]
theorem st_rests : St_rests := by
  intro tx tl lw ice mk wt bd s6 s8 s7 s1 s5 s2 u0 u1 sm kz kb km kw a1 hI
  simp only [f_X10_rests, f_X11_rests, isAir_n, in_0_99, Option.bind_some, ite10]
  by_cases h : (0 : Int32) ≤ a1 ∧ a1 ≤ 99
  rotate_left
  · rw [if_neg h, if_neg h]; exact ⟨-2, rfl, rfl, hI⟩
  rw [if_pos h, if_pos h]
  refine ⟨nI (cn (reB lw a1) 64), ?_, ?_, hI⟩
  · refine lp_bd (fun k => (nI (cn (reB lw a1) k), nI k)) (nI (cn (reB lw a1) 64)) 64 (FU_lt (by omega)) rfl rfl ?_ ?_
    · intro k hk
      show f_X10_rests_b14 lw a1 (nI (cn (reB lw a1) k)) (nI k) = _
      unfold f_X10_rests_b14
      rw [if_neg (show ¬ (63 : Int32) < nI k from nI_nlt (a := 63) (by omega) (by omega)), restX hk, Option.bind_some, ite10, nI1, nI1]
      by_cases hr : reB lw a1 k = true
      · rw [if_pos hr]; simp only [cn, if_pos hr]
      · rw [if_neg hr]; simp only [cn, if_neg hr]; rfl
    · show f_X10_rests_b14 lw a1 _ (nI 64) = _
      unfold f_X10_rests_b14
      rw [if_pos (by decide)]
  · refine lp_bd (fun k => (nI (cn (reB lw a1) k), nI k)) (nI (cn (reB lw a1) 64)) 64 (FU_lt (by omega)) rfl rfl ?_ ?_
    · intro k hk
      show f_X11_rests_b19 lw a1 (nI (cn (reB lw a1) k)) (nI k) = _
      unfold f_X11_rests_b19
      rw [if_neg (nleL 64 64 rfl hk (by omega)), restM hk, Option.bind_some, ite10, nI1, nI1, show nI (cn (reB lw a1) k) + (0 : Int32) = nI (cn (reB lw a1) k) from nI_add _ 0]
      by_cases hr : reB lw a1 k = true
      · rw [if_pos hr]; simp only [cn, if_pos hr]
      · rw [if_neg hr]; simp only [cn, if_neg hr]; rfl
    · show f_X11_rests_b19 lw a1 _ (nI 64) = _
      unfold f_X11_rests_b19
      rw [if_pos (by decide)]
theorem st_rest : St_rest := by
  intro tx tl lw ice mk wt bd s6 s8 s7 s1 s5 s2 u0 u1 sm kz kb km kw a1 a2 hI
  simp only [f_X10_rest, f_X11_rest, isAir_n, in_0_99, Option.bind_some, ite10]
  by_cases h : (0 : Int32) ≤ a1 ∧ a1 ≤ 99
  rotate_left
  · rw [if_neg h, if_neg h]; exact ⟨-2, rfl, rfl, hI⟩
  rw [if_pos h, if_pos h]
  have bX : ∀ (c : Int32) (k : Nat), k ≤ 64 → f_X10_rest_b15 lw a1 a2 c (nI k) = if k = 64 then some (.inr (.inl ())) else if reB lw a1 k = true then (if c = a2 then some (.inr (.inr (nI k))) else some (.inl (c + 1, nI (k + 1)))) else some (.inl (c, nI (k + 1))) := by
    intro c k hk
    unfold f_X10_rest_b15
    by_cases e : k = 64
    · subst e; rw [if_pos (by decide), if_pos rfl]
    · rw [if_neg (show ¬ (63 : Int32) < nI k from nI_nlt (a := 63) (by omega) (by omega)), restX (by omega), Option.bind_some, ite10, nI1, if_neg e]
  have bM : ∀ (c : Int32) (k : Nat), k ≤ 64 → f_X11_rest_b20 lw a1 a2 c (nI k) = if k = 64 then some (.inr (.inl ())) else if reB lw a1 k = true then (if c = a2 then some (.inr (.inr (nI k))) else some (.inl (c + 1, nI (k + 1)))) else some (.inl (c, nI (k + 1))) := by
    intro c k hk
    unfold f_X11_rest_b20
    by_cases e : k = 64
    · subst e; rw [if_pos (by decide), if_pos rfl]
    · rw [if_neg (nleL 64 64 rfl (by omega) (by omega)), restM (by omega), Option.bind_some, ite10, nI1, if_neg e]
  have eqL : lpM (σ := Int32 × Int32) (ρ := (Unit) ⊕ (Int32)) (fun st => f_X10_rest_b15 lw a1 a2 st.1 st.2) FU ((0 : Int32), (0 : Int32)) = lpM (σ := Int32 × Int32) (ρ := (Unit) ⊕ (Int32)) (fun st => f_X11_rest_b20 lw a1 a2 st.1 st.2) FU ((0 : Int32), (0 : Int32)) := by
    refine lp_cong (fun s => ∃ k : Nat, k ≤ 64 ∧ s.2 = nI k) ?_ FU _ ⟨0, by omega, rfl⟩
    rintro ⟨c, p⟩ ⟨k, hk, e⟩
    dsimp only at e ⊢
    subst e
    refine ⟨by rw [bX c k hk, bM c k hk], ?_⟩
    intro s' hs
    rw [bM c k hk] at hs
    by_cases e64 : k = 64
    · rw [if_pos e64] at hs; cases hs
    · rw [if_neg e64] at hs
      refine ⟨k + 1, by omega, ?_⟩
      by_cases hr : reB lw a1 k = true
      · rw [if_pos hr] at hs
        by_cases hc : c = a2
        · rw [if_pos hc] at hs; cases hs
        · rw [if_neg hc] at hs; cases hs; rfl
      · rw [if_neg hr] at hs; cases hs; rfl
  obtain ⟨r, e, _⟩ := lp_tot (b := fun st => f_X11_rest_b20 lw a1 a2 st.1 st.2) (fun i s => i ≤ 64 ∧ s.2 = nI i) (fun _ => True) 64 (by
    rintro i ⟨c, p⟩ ⟨hi, e⟩
    dsimp only at e ⊢
    subst e
    rw [bM c i hi]
    by_cases e64 : i = 64
    · left; rw [if_pos e64]; exact ⟨_, rfl, trivial⟩
    · rw [if_neg e64]
      by_cases hr : reB lw a1 i = true
      · rw [if_pos hr]
        by_cases hc : c = a2
        · left; rw [if_pos hc]; exact ⟨_, rfl, trivial⟩
        · right; rw [if_neg hc]; exact ⟨by omega, _, rfl, by omega, rfl⟩
      · right; rw [if_neg hr]; exact ⟨by omega, _, rfl, by omega, rfl⟩) FU (FU_lt (by omega)) (s := ((0 : Int32), (0 : Int32))) ⟨by omega, rfl⟩
  rw [eqL, e, Option.bind_some, Option.bind_some]
  cases r with
  | inl u => exact ⟨-9, rfl, rfl, hI⟩
  | inr r => exact ⟨r, rfl, rfl, hI⟩
