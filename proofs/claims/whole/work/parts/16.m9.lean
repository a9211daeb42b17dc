/-! ===== odds, best, mover, next ===== -/
def wN (wt : Nat → Int32) (s : Nat) : Nat := (wt s).toNatClampNeg
theorem wN_at {wt : Nat → Int32} (h : okW wt) {s : Nat} (hs : s < 4) : wN wt s ≤ 9 ∧ wt s = nI (wN wt s) := by
  obtain ⟨w, hw, e⟩ := h s hs
  unfold wN
  rw [e, nI_clamp (by omega)]
  exact ⟨hw, rfl⟩
/-- a story's lots without bed x -/
def prN (ice mk wt : Nat → Int32) (x s : Nat) : Nat → Nat
  | 0 => wN wt s
  | k + 1 => if k = x then prN ice mk wt x s k else prN ice mk wt x s k * chN ice mk s k
theorem prN_le {ice mk wt : Nat → Int32} {x s n : Nat} (hw : okW wt) (hs : s < 4) (hB : ∀ b, b < n → okMk mk b) : ∀ k, k ≤ n → prN ice mk wt x s k ≤ 9 * 100 ^ k := by
  intro k
  induction k with
  | zero => intro _; exact Nat.le_trans (wN_at hw hs).1 (by omega)
  | succ k ih =>
    intro h
    have h1 := ih (by omega)
    have h2 := chN_le (ice := ice) (s := s) (hB k (by omega))
    have h3 : prN ice mk wt x s k * chN ice mk s k ≤ (9 * 100 ^ k) * 100 := Nat.mul_le_mul h1 h2
    have h4 : prN ice mk wt x s k * 1 ≤ (9 * 100 ^ k) * 100 := Nat.mul_le_mul h1 (by omega)
    rw [Nat.pow_succ, ← Nat.mul_assoc]
    unfold prN
    split <;> omega
theorem pr_bd {ice mk wt : Nat → Int32} {x s n : Nat} (hn : n ≤ 8) (hw : okW wt) (hs : s < 4) (hB : ∀ b, b < n → okMk mk b) : prN ice mk wt x s n ≤ 90000000000000000 := by
  have h1 := prN_le (ice := ice) (x := x) hw hs hB n (Nat.le_refl n)
  have h2 : 100 ^ n ≤ 100 ^ 8 := Nat.pow_le_pow_right (by omega) hn
  have h3 : (100 : Nat) ^ 8 = 10000000000000000 := by decide
  omega
def smS (P : Nat → Nat) : Nat → Nat
  | 0 => 0
  | s + 1 => smS P s + P s
def shA (P : Nat → Nat) (f : Nat → Int64) : Nat → Nat → Int64
  | 0 => f
  | s + 1 => vp_updL (shA P f s) s (lN (P s))
theorem shA_at {P : Nat → Nat} {f : Nat → Int64} : ∀ n s, s < n → shA P f n s = lN (P s) := by
  intro n
  induction n with
  | zero => intro s h; omega
  | succ n ih =>
    intro s h
    unfold shA
    by_cases e : s = n
    · subst e; exact pk_uLs
    · rw [pk_uLn e]; exact ih s (by omega)
theorem upLL (f : Nat → Int64) (k : Nat) (x y : Int64) : vp_updL (vp_updL f k x) k y = vp_updL f k y := by
  funext j
  unfold vp_updL
  by_cases h : j = k
  · rw [if_pos h, if_pos h]
  · rw [if_neg h, if_neg h, if_neg h]
theorem layLots_n {ice mk wt : Nat → Int32} {n x : Nat} {a : Int32} (f : Nat → Int64) (hi : okI ice) (hn : n ≤ 8) (hw : okW wt) (hB : ∀ b, b < n → okMk mk b) (ha : ∀ k, k < 8 → (nI k = a ↔ k = x)) : f_X11_layLots ice wt (nI n) mk f a = some (shA (fun s => prN ice mk wt x s n) f 4, lN (smS (fun s => prN ice mk wt x s n) 4)) := by
  unfold f_X11_layLots
  refine lp_bd (fun s => (nI s, shA (fun s => prN ice mk wt x s n) f s, lN (smS (fun s => prN ice mk wt x s n) s))) (shA (fun s => prN ice mk wt x s n) f 4, lN (smS (fun s => prN ice mk wt x s n) 4)) 4 (FU_lt (by omega)) rfl rfl ?_ ?_
  · intro s hs
    show f_X11_layLots_b7 ice wt (nI n) mk a (nI s) (shA (fun s => prN ice mk wt x s n) f s) (lN (smS (fun s => prN ice mk wt x s n) s)) = _
    unfold f_X11_layLots_b7
    have hws := wN_at hw hs
    rw [if_neg (nleL 4 4 rfl hs (by omega)), gd_n hs (by omega), gd_n hs (by omega), nI_clamp (by omega), hws.2, nI_l (by omega)]
    refine lp_bd (fun k => (nI k, vp_updL (shA (fun s => prN ice mk wt x s n) f s) s (lN (prN ice mk wt x s k)))) (vp_updL (shA (fun s => prN ice mk wt x s n) f s) s (lN (prN ice mk wt x s n))) n (FU_lt (by omega)) rfl ?_ ?_ ?_
    · unfold f_X11_layLots_x66_6
      rw [gd_n hs (by omega), nI_clamp (by omega), nI1, pk_uLs, lN_add]
      rfl
    · intro k hk
      show f_X11_layLots_b27 ice (nI n) mk a (nI s) (nI k) (vp_updL (shA (fun s => prN ice mk wt x s n) f s) s (lN (prN ice mk wt x s k))) = _
      unfold f_X11_layLots_b27
      have hc := chN_le (ice := ice) (s := s) (hB k hk)
      rw [if_neg (nle hk (by omega)), gd_n hs (by omega), nI_clamp (by omega), pk_uLs, chanceM hi hs (by omega) (hB k hk)]
      simp only [Option.bind_some, f_X11_layLots_j58]
      rw [gd_n hs (by omega), gd_n hs (by omega), nI_clamp (by omega), nI1, upLL, upLL, nI_l (by omega), lN_mul, show (1 : Int64) = lN 1 from rfl, lN_mul, Nat.mul_one]
      by_cases hx : k = x
      · rw [if_pos ((ha k (by omega)).mpr hx)]
        simp only [prN, if_pos hx]
      · rw [if_neg (fun q => hx ((ha k (by omega)).mp q))]
        simp only [prN, if_neg hx]
    · show f_X11_layLots_b27 ice (nI n) mk a (nI s) (nI n) _ = _
      unfold f_X11_layLots_b27
      rw [if_pos (Int32.le_refl _)]
  · show f_X11_layLots_b7 ice wt (nI n) mk a (nI 4) _ _ = _
    unfold f_X11_layLots_b7
    rw [if_pos (by decide)]
theorem e8 {s k : Nat} : nI s * (8 : Int32) + nI k = nI (8 * s + k) := by rw [show (8 : Int32) = nI 8 from rfl, pk_mul, nI_add, Nat.mul_comm]
theorem without_n {ice mk wt ch : Nat → Int32} {n x : Nat} {a : Int32} (f : Nat → Int64) (hn : n ≤ 8) (hw : okW wt) (hB : ∀ b, b < n → okMk mk b) (ha : ∀ k, k < 8 → (nI k = a ↔ k = x)) (hc : ∀ s, s < 4 → ∀ b, b < n → ch (8 * s + b) = nI (chN ice mk s b)) : f_X5_weighWithout f ch wt (nI n) a = some (shA (fun s => prN ice mk wt x s n) f 4, lN (smS (fun s => prN ice mk wt x s n) 4)) := by
  unfold f_X5_weighWithout
  refine lp_bd (fun s => (nI s, shA (fun s => prN ice mk wt x s n) f s, lN (smS (fun s => prN ice mk wt x s n) s))) (shA (fun s => prN ice mk wt x s n) f 4, lN (smS (fun s => prN ice mk wt x s n) 4)) 4 (FU_lt (by omega)) rfl rfl ?_ ?_
  · intro s hs
    show f_X5_weighWithout_b7 ch wt (nI n) a (nI s) (shA (fun s => prN ice mk wt x s n) f s) (lN (smS (fun s => prN ice mk wt x s n) s)) = _
    unfold f_X5_weighWithout_b7
    have hws := wN_at hw hs
    rw [if_neg (nleL 4 4 rfl hs (by omega)), gd_n hs (by omega), nI_clamp (by omega), hws.2, nI_l (by omega)]
    refine lp_bd (fun k => (lN (prN ice mk wt x s k), nI k)) (lN (prN ice mk wt x s n)) n (FU_lt (by omega)) rfl ?_ ?_ ?_
    · unfold f_X5_weighWithout_x70_5
      rw [gd_n hs (by omega), nI_clamp (by omega), nI1, lN_add]
      rfl
    · intro k hk
      show f_X5_weighWithout_b24 ch (nI n) a (nI s) (lN (prN ice mk wt x s k)) (nI k) = _
      unfold f_X5_weighWithout_b24
      have hc' := chN_le (ice := ice) (s := s) (hB k hk)
      rw [if_neg (nle hk (by omega)), if_neg (nleL 8 8 rfl (by omega) (by omega)), e8, gd_n (by omega) (by omega), nI_clamp (by omega), hc s hs k hk, nI_l (by omega), lN_mul, nI1, Option.bind_some]
      by_cases hx : k = x
      · rw [if_pos ((ha k (by omega)).mpr hx)]
        simp only [prN, if_pos hx]
      · rw [if_neg (fun q => hx ((ha k (by omega)).mp q))]
        simp only [prN, if_neg hx]
    · show f_X5_weighWithout_b24 ch (nI n) a (nI s) _ (nI n) = _
      unfold f_X5_weighWithout_b24
      rw [if_pos (Int32.le_refl _)]
  · show f_X5_weighWithout_b7 ch wt (nI n) a (nI 4) _ _ = _
    unfold f_X5_weighWithout_b7
    rw [if_pos (by decide)]
def chA (ice mk f : Nat → Int32) (s : Nat) : Nat → Nat → Int32
  | 0 => f
  | k + 1 => upd (chA ice mk f s k) (8 * s + k) (nI (chN ice mk s k))
theorem chA_in {ice mk f : Nat → Int32} {s : Nat} : ∀ n b, b < n → chA ice mk f s n (8 * s + b) = nI (chN ice mk s b) := by
  intro n
  induction n with
  | zero => intro b h; omega
  | succ n ih =>
    intro b h
    unfold chA
    by_cases e : b = n
    · subst e; exact pk_us
    · rw [pk_un (by omega)]; exact ih b (by omega)
theorem chA_out {ice mk f : Nat → Int32} {s : Nat} : ∀ n j, n ≤ 8 → j < 8 * s → chA ice mk f s n j = f j := by
  intro n
  induction n with
  | zero => intro j _ h; rfl
  | succ n ih =>
    intro j hn h
    unfold chA
    rw [pk_un (by omega)]; exact ih j (by omega) h
def chB (ice mk f : Nat → Int32) (n : Nat) : Nat → Nat → Int32
  | 0 => f
  | s + 1 => chA ice mk (chB ice mk f n s) s n
theorem chB_at {ice mk f : Nat → Int32} {n : Nat} (hn : n ≤ 8) : ∀ S s, s < S → ∀ b, b < n → chB ice mk f n S (8 * s + b) = nI (chN ice mk s b) := by
  intro S
  induction S with
  | zero => intro s h; omega
  | succ S ih =>
    intro s h b hb
    unfold chB
    by_cases e : s = S
    · subst e; exact chA_in n b hb
    · rw [chA_out n _ hn (by omega)]; exact ih s (by omega) b hb
theorem no9 : ∀ k, k < 8 → (nI k = (-9 : Int32) ↔ k = 9) := fun k hk => ⟨fun e => absurd e (nI_m9 (by omega)), fun e => by omega⟩
theorem no1 : ∀ k, k < 8 → (nI k = (-1 : Int32) ↔ k = 9) := by decide
theorem yes_x {x : Nat} (hx : x < 8) : ∀ k, k < 8 → (nI k = nI x ↔ k = x) := fun k hk => nI_eq (by omega) (by omega)
theorem weigh_n {ice mk wt : Nat → Int32} {n : Nat} (f : Nat → Int64) (ch : Nat → Int32) (hi : okI ice) (hn : n ≤ 8) (hw : okW wt) (hB : ∀ b, b < n → okMk mk b) : f_X5_weigh f ch ice mk wt (nI n) = some (shA (fun s => prN ice mk wt 9 s n) f 4, chB ice mk ch n 4, lN (smS (fun s => prN ice mk wt 9 s n) 4)) := by
  unfold f_X5_weigh
  refine lp_bd (fun s => (nI s, chB ice mk ch n s)) (chB ice mk ch n 4) 4 (FU_lt (by omega)) rfl ?_ ?_ ?_
  · unfold f_X5_weigh_x58_1
    rw [without_n (ice := ice) (mk := mk) f hn hw hB no9 (chB_at hn 4)]
    rfl
  · intro s hs
    show f_X5_weigh_b2 ice mk (nI n) (nI s) (chB ice mk ch n s) = _
    unfold f_X5_weigh_b2
    rw [if_neg (nleL 4 4 rfl hs (by omega))]
    refine lp_bd (fun k => (nI k, chA ice mk (chB ice mk ch n s) s k)) (chA ice mk (chB ice mk ch n s) s n) n (FU_lt (by omega)) rfl ?_ ?_ ?_
    · unfold f_X5_weigh_x52_5; rw [nI1]; rfl
    · intro k hk
      show f_X5_weigh_b10 ice mk (nI n) (nI s) (nI k) (chA ice mk (chB ice mk ch n s) s k) = _
      unfold f_X5_weigh_b10
      rw [if_neg (nle hk (by omega)), if_neg (nleL 8 8 rfl (by omega) (by omega)), hundX hi hs (by omega) (hB k hk), Option.bind_some, e8, gd_n (by omega) (by omega), nI_clamp (by omega), nI1]
      rfl
    · show f_X5_weigh_b10 ice mk (nI n) (nI s) (nI n) _ = _
      unfold f_X5_weigh_b10
      rw [if_pos (Int32.le_refl _)]
  · show f_X5_weigh_b2 ice mk (nI n) (nI 4) _ = _
    unfold f_X5_weigh_b2
    rw [if_pos (by decide)]
theorem sm_bd {P : Nat → Nat} (h : ∀ s, s < 4 → P s ≤ 90000000000000000) : smS P 4 ≤ 360000000000000000 := by
  have h0 := h 0 (by omega)
  have h1 := h 1 (by omega)
  have h2 := h 2 (by omega)
  have h3 := h 3 (by omega)
  show 0 + P 0 + P 1 + P 2 + P 3 ≤ _
  omega
theorem sm_ge {P : Nat → Nat} {s : Nat} (hs : s < 4) : P s ≤ smS P 4 := by
  show P s ≤ 0 + P 0 + P 1 + P 2 + P 3
  have : s = 0 ∨ s = 1 ∨ s = 2 ∨ s = 3 := by omega
  rcases this with rfl | rfl | rfl | rfl <;> omega
theorem cmp_le0 (x y : Int64) : lg_cmp x y ≤ 0 ↔ x ≤ y := by
  rw [← Int32.not_lt, cmp_gt0, Int64.not_lt]
theorem cmp_ge0 (x y : Int64) : 0 ≤ lg_cmp x y ↔ y ≤ x := by
  rw [← Int32.not_lt, cmp_lt0, Int64.not_lt]
theorem greatest_n {P : Nat → Nat} {f : Nat → Int64} (h : ∀ s, s < 4 → f s = lN (P s)) (hP : ∀ s, s < 4 → P s ≤ 90000000000000000) : f_X5_greatest f = some (nI (bzN P 3)) ∧ f_X11_bestOf f = some (nI (bzN P 3)) := by
  constructor
  · unfold f_X5_greatest
    refine lp_bd (fun k => (nI (bzN P k), nI (k + 1))) (nI (bzN P 3)) 3 (FU_lt (by omega)) rfl rfl ?_ ?_
    · intro k hk
      show f_X5_greatest_b4 f (nI (bzN P k)) (nI (k + 1)) = _
      have hz := bzN_le P k
      have p1 := hP (k + 1) (by omega)
      have p2 := hP (bzN P k) (by omega)
      unfold f_X5_greatest_b4
      rw [if_neg (nleL 4 4 rfl (by omega) (by omega)), gd_n (by omega) (by omega), gd_n (by omega) (by omega), nI_clamp (by omega), nI_clamp (by omega), h (k + 1) (by omega), h (bzN P k) (by omega), nI1]
      simp only [bzN, cmp_le0, pk_lLE (show P (k + 1) < 2 ^ 63 by omega) (show P (bzN P k) < 2 ^ 63 by omega)]
      by_cases hc : P (k + 1) ≤ P (bzN P k)
      · rw [if_pos hc, if_pos hc]
      · rw [if_neg hc, if_neg hc]
    · show f_X5_greatest_b4 f _ (nI 4) = _
      unfold f_X5_greatest_b4
      rw [if_pos (by decide)]
  · unfold f_X11_bestOf
    refine lp_bd (fun k => (nI (bzN P k), nI (k + 1))) (nI (bzN P 3)) 3 (FU_lt (by omega)) rfl rfl ?_ ?_
    · intro k hk
      show f_X11_bestOf_b4 f (nI (bzN P k)) (nI (k + 1)) = _
      have hz := bzN_le P k
      have p1 := hP (k + 1) (by omega)
      have p2 := hP (bzN P k) (by omega)
      unfold f_X11_bestOf_b4
      rw [if_neg (nleL 4 4 rfl (by omega) (by omega)), gd_n (by omega) (by omega), gd_n (by omega) (by omega), nI_clamp (by omega), nI_clamp (by omega), h (k + 1) (by omega), h (bzN P k) (by omega), nI1]
      simp only [bzN, cmp_le0, pk_lLE (show P (k + 1) < 2 ^ 63 by omega) (show P (bzN P k) < 2 ^ 63 by omega)]
      by_cases hc : P (k + 1) ≤ P (bzN P k)
      · rw [if_pos hc, if_pos hc]
      · rw [if_neg hc, if_neg hc]
    · show f_X11_bestOf_b4 f _ (nI 4) = _
      unfold f_X11_bestOf_b4
      rw [if_pos (by decide)]
theorem st_odds : St_odds := by
  intro tx tl lw ice mk wt bd s6 s8 s7 s1 s5 s2 u0 u1 sm kz kb km kw a1 a2 hI _
  obtain ⟨n, hn, rfl, hB⟩ := hI.2.2.2.1
  have hi := hI.2.2.1
  have hw := hI.2.2.2.2.1
  simp only [f_X10_odds, f_X11_odds, isStory_n, mStory_n, Option.bind_some, ite10, weigh_n _ _ hi hn hw hB, layLots_n _ hi hn hw hB no1, cmp_eq0]
  by_cases h : (0 : Int32) ≤ a1 ∧ a1 ≤ 3
  rotate_left
  · simp only [if_neg h]; exact ⟨-1, _, _, _, _, _, rfl, rfl, hI⟩
  simp only [if_pos h]
  obtain ⟨s, hs, rfl⟩ := rg 3 (by omega) rfl h
  have hP : ∀ s, s < 4 → prN ice mk wt 9 s n ≤ 90000000000000000 := fun s hs => pr_bd hn hw hs hB
  have hS := sm_bd hP
  have hg := sm_ge (P := fun s => prN ice mk wt 9 s n) (s := s) (by omega)
  simp only [l0_n (show smS (fun s => prN ice mk wt 9 s n) 4 < 2 ^ 63 by omega)]
  by_cases h0 : smS (fun s => prN ice mk wt 9 s n) 4 = 0
  · simp only [if_pos h0]; exact ⟨-3, _, _, _, _, _, rfl, rfl, hI⟩
  simp only [if_neg h0]
  rw [gd_n (by omega) (by omega), gd_n (by omega) (by omega), nI_clamp (by omega), shA_at 4 s (by omega), shA_at 4 s (by omega)]
  have hp := hP s (by omega)
  obtain ⟨r, e1, e2⟩ := told_n (a := prN ice mk wt 9 s n) (b := smS (fun s => prN ice mk wt 9 s n) 4) a2 (by omega) (by omega) (by omega)
  rw [e1, e2]
  exact ⟨r, _, _, _, _, _, rfl, rfl, hI⟩
theorem st_best : St_best := by
  intro tx tl lw ice mk wt bd s6 s8 s7 s1 s5 s2 u0 u1 sm kz kb km kw hI
  obtain ⟨n, hn, rfl, hB⟩ := hI.2.2.2.1
  have hi := hI.2.2.1
  have hw := hI.2.2.2.2.1
  have hP : ∀ s, s < 4 → prN ice mk wt 9 s n ≤ 90000000000000000 := fun s hs => pr_bd hn hw hs hB
  have hS := sm_bd hP
  simp only [f_X10_best, f_X11_best, Option.bind_some, weigh_n _ _ hi hn hw hB, layLots_n _ hi hn hw hB no1, cmp_eq0, l0_n (show smS (fun s => prN ice mk wt 9 s n) 4 < 2 ^ 63 by omega)]
  by_cases h0 : smS (fun s => prN ice mk wt 9 s n) 4 = 0
  · simp only [if_pos h0]; exact ⟨-3, _, _, _, _, _, rfl, rfl, hI⟩
  simp only [if_neg h0]
  rw [(greatest_n (P := fun s => prN ice mk wt 9 s n) (shA_at 4) hP).1, (greatest_n (P := fun s => prN ice mk wt 9 s n) (shA_at 4) hP).2]
  exact ⟨_, _, _, _, _, _, rfl, rfl, hI⟩
def miS (x a : Int64) : Nat → Int32 × Int64
  | 0 => ((x / a).toInt32, x - x / a * a)
  | k + 1 => ((10 : Int32) * (miS x a k).1 + (((miS x a k).2 * (10 : Int64)) / a).toInt32, ((miS x a k).2 * (10 : Int64)) - ((miS x a k).2 * (10 : Int64)) / a * a)
def mil (x : Int64) (A : Nat) : Int32 := if A = 0 then 0 else (miS x (lN A) 6).1
theorem milX {x : Int64} {A : Nat} (hA : A < 2 ^ 63) : f_X5_millionths x (lN A) = some (mil x A) := by
  unfold f_X5_millionths mil
  simp only [cmp_gt0]
  by_cases h : A = 0
  · rw [if_neg (by rw [h]; decide), if_pos h]
  · have hz : ¬ lN A = 0 := fun e => h ((l0_n hA).mp e)
    rw [if_pos (show (0 : Int64) < lN A from (pk_lLT (a := 0) (by omega) hA).mpr (by omega)), if_neg h, dzL_n hz, dzL_n hz]
    refine lp_bd (fun k => ((miS x (lN A) k).1, (miS x (lN A) k).2, nI k)) (miS x (lN A) 6).1 6 (FU_lt (by omega)) rfl rfl ?_ ?_
    · intro k hk
      show f_X5_millionths_b22 (lN A) (miS x (lN A) k).1 (miS x (lN A) k).2 (nI k) = _
      unfold f_X5_millionths_b22
      rw [if_neg (nleL 6 6 rfl hk (by omega)), dzL_n hz, Option.bind_some, dzL_n hz, Option.bind_some, nI1]
      rfl
    · show f_X5_millionths_b22 (lN A) _ _ (nI 6) = _
      unfold f_X5_millionths_b22
      rw [if_pos (by decide)]
theorem milM {f : Nat → Int64} {A b : Nat} (hb : b < 4) (hA : A < 2 ^ 63) : f_X11_millionths f (lN A) (nI b) = some (mil (f b) A) := by
  unfold f_X11_millionths mil
  simp only [cmp_eq0, l0_n hA]
  by_cases h : A = 0
  · rw [if_pos h, if_pos h]
  · have hz : ¬ lN A = 0 := fun e => h ((l0_n hA).mp e)
    rw [if_neg h, if_neg h, gd_n hb (by omega), dzL_n hz, nI_clamp (by omega), Option.bind_some, gd_n hb (by omega), dzL_n hz, Option.bind_some]
    refine lp_bd (fun k => ((miS (f b) (lN A) k).2, (miS (f b) (lN A) k).1, nI k)) (miS (f b) (lN A) 6).1 6 (FU_lt (by omega)) rfl rfl ?_ ?_
    · intro k hk
      show f_X11_millionths_b40 (lN A) (miS (f b) (lN A) k).2 (miS (f b) (lN A) k).1 (nI k) = _
      unfold f_X11_millionths_b40
      rw [if_neg (nleL 6 6 rfl hk (by omega)), dzL_n hz, Option.bind_some, dzL_n hz, Option.bind_some, nI1]
      rfl
    · show f_X11_millionths_b40 (lN A) _ _ (nI 6) = _
      unfold f_X11_millionths_b40
      rw [if_pos (by decide)]
/-- how far bed k moves story B -/
def mvD (ice mk wt : Nat → Int32) (n B : Nat) (q : Int32) (k : Nat) : Int32 :=
  let u := mil (lN (prN ice mk wt k B n)) (smS (fun s => prN ice mk wt k s n) 4) - q
  if (0 : Int32) ≤ u then u else -u
def mvS (D : Nat → Int32) : Nat → Int32 × Int32
  | 0 => (-9, -1)
  | k + 1 => if D k ≤ (mvS D k).2 then mvS D k else (nI k, D k)
def seA (ice mk wt : Nat → Int32) (n : Nat) (f : (Nat → Int64) × Int64) : Nat → (Nat → Int64) × Int64
  | 0 => f
  | k + 1 => (shA (fun s => prN ice mk wt k s n) (seA ice mk wt n f k).1 4, lN (smS (fun s => prN ice mk wt k s n) 4))
theorem st_mover : St_mover := by
  intro tx tl lw ice mk wt bd s6 s8 s7 s1 s5 s2 u0 u1 sm kz kb km kw hI
  obtain ⟨n, hn, rfl, hB⟩ := hI.2.2.2.1
  have hi := hI.2.2.1
  have hw := hI.2.2.2.2.1
  have hP : ∀ x s, s < 4 → prN ice mk wt x s n ≤ 90000000000000000 := fun x s hs => pr_bd hn hw hs hB
  have hS : ∀ x, smS (fun s => prN ice mk wt x s n) 4 ≤ 360000000000000000 := fun x => sm_bd (hP x)
  have hS9 := hS 9
  simp only [f_X10_mover, f_X11_mover, Option.bind_some, weigh_n _ _ hi hn hw hB, layLots_n _ hi hn hw hB no1, cmp_eq0, l0_n (show smS (fun s => prN ice mk wt 9 s n) 4 < 2 ^ 63 by omega)]
  by_cases h0 : smS (fun s => prN ice mk wt 9 s n) 4 = 0
  · simp only [if_pos h0]; exact ⟨-3, _, _, _, _, _, rfl, rfl, hI⟩
  simp only [if_neg h0, f_X5_bedThatMovesMost]
  rw [(greatest_n (P := fun s => prN ice mk wt 9 s n) (shA_at 4) (hP 9)).1, (greatest_n (P := fun s => prN ice mk wt 9 s n) (shA_at 4) (hP 9)).2]
  have hz := bzN_le (fun s => prN ice mk wt 9 s n) 3
  generalize bzN (fun s => prN ice mk wt 9 s n) 3 = B at hz
  simp only [Option.bind_some]
  rw [gd_n (by omega) (by omega), nI_clamp (by omega), milX (by omega), milM (by omega) (by omega), shA_at 4 B (by omega), shA_at 4 B (by omega)]
  simp only [Option.bind_some]
  generalize mil (lN (prN ice mk wt 9 B n)) (smS (fun s => prN ice mk wt 9 s n) 4) = q
  generalize shA (fun s => prN ice mk wt 9 s n) s5.1 4 = f1
  generalize shA (fun s => prN ice mk wt 9 s n) sm.2.2.2.2.2.2.2.2.2.2.2.2.2.2.1 4 = f2
  generalize lN (smS (fun s => prN ice mk wt 9 s n) 4) = A
  have L1 : lpM (σ := Int32 × Int32 × Int32 × (Nat → Int64) × Int64) (ρ := Int32 × (Nat → Int64) × Int64) (fun st => f_X5_bedThatMovesMost_b29 (chB ice mk s5.2.1 n 4) wt (nI n) (nI B) q st.1 st.2.1 st.2.2.1 st.2.2.2.1 st.2.2.2.2) FU ((-9 : Int32), (-1 : Int32), (0 : Int32), f1, A) = some ((mvS (mvD ice mk wt n B q) n).1, (seA ice mk wt n (f1, A) n).1, (seA ice mk wt n (f1, A) n).2) := by
    refine lp_run (fun k => ((mvS (mvD ice mk wt n B q) k).1, (mvS (mvD ice mk wt n B q) k).2, nI k, (seA ice mk wt n (f1, A) k).1, (seA ice mk wt n (f1, A) k).2)) n ?_ ?_ FU (FU_lt (by omega)) rfl
    · intro k hk
      show f_X5_bedThatMovesMost_b29 (chB ice mk s5.2.1 n 4) wt (nI n) (nI B) q (mvS (mvD ice mk wt n B q) k).1 (mvS (mvD ice mk wt n B q) k).2 (nI k) (seA ice mk wt n (f1, A) k).1 (seA ice mk wt n (f1, A) k).2 = _
      unfold f_X5_bedThatMovesMost_b29
      have hk9 := hS k
      rw [if_neg (nle hk (by omega)), without_n (ice := ice) (mk := mk) (x := k) _ hn hw hB (yes_x (by omega)) (chB_at hn 4), Option.bind_some, gd_n (by omega) (by omega), nI_clamp (by omega)]
      dsimp only
      rw [milX (by omega), shA_at 4 B (by omega), Option.bind_some, Option.bind_some, Int32.zero_sub, nI1]
      have eD : mvD ice mk wt n B q k = (if (0 : Int32) ≤ mil (lN (prN ice mk wt k B n)) (smS (fun s => prN ice mk wt k s n) 4) - q then mil (lN (prN ice mk wt k B n)) (smS (fun s => prN ice mk wt k s n) 4) - q else -(mil (lN (prN ice mk wt k B n)) (smS (fun s => prN ice mk wt k s n) 4) - q)) := rfl
      rw [← eD]
      simp only [mvS, seA]
      by_cases hc : mvD ice mk wt n B q k ≤ (mvS (mvD ice mk wt n B q) k).2
      · rw [if_pos hc, if_pos hc]
      · rw [if_neg hc, if_neg hc]
    · show f_X5_bedThatMovesMost_b29 (chB ice mk s5.2.1 n 4) wt (nI n) (nI B) q _ _ (nI n) _ _ = _
      unfold f_X5_bedThatMovesMost_b29
      rw [if_pos (Int32.le_refl _)]
  have L2 : lpM (σ := Int32 × Int32 × Int32 × (Nat → Int64) × Int64) (ρ := Int32 × (Nat → Int64) × Int64) (fun st => f_X11_mover_b37 ice wt (nI n) mk (nI B) q st.1 st.2.1 st.2.2.1 st.2.2.2.1 st.2.2.2.2) FU ((-9 : Int32), (-1 : Int32), (0 : Int32), f2, A) = some ((mvS (mvD ice mk wt n B q) n).1, (seA ice mk wt n (f2, A) n).1, (seA ice mk wt n (f2, A) n).2) := by
    refine lp_run (fun k => ((mvS (mvD ice mk wt n B q) k).1, (mvS (mvD ice mk wt n B q) k).2, nI k, (seA ice mk wt n (f2, A) k).1, (seA ice mk wt n (f2, A) k).2)) n ?_ ?_ FU (FU_lt (by omega)) rfl
    · intro k hk
      show f_X11_mover_b37 ice wt (nI n) mk (nI B) q (mvS (mvD ice mk wt n B q) k).1 (mvS (mvD ice mk wt n B q) k).2 (nI k) (seA ice mk wt n (f2, A) k).1 (seA ice mk wt n (f2, A) k).2 = _
      unfold f_X11_mover_b37
      have hk9 := hS k
      rw [if_neg (nle hk (by omega)), layLots_n (x := k) _ hi hn hw hB (yes_x (by omega)), Option.bind_some]
      dsimp only
      rw [milM (by omega) (by omega), shA_at 4 B (by omega), Option.bind_some]
      have eD : mvD ice mk wt n B q k = (if (0 : Int32) ≤ mil (lN (prN ice mk wt k B n)) (smS (fun s => prN ice mk wt k s n) 4) - q then mil (lN (prN ice mk wt k B n)) (smS (fun s => prN ice mk wt k s n) 4) - q else -(mil (lN (prN ice mk wt k B n)) (smS (fun s => prN ice mk wt k s n) 4) - q)) := rfl
      have ej : ∀ (c : Prop) [Decidable c] (x y v3 v4 v5 : Int32) (l : Nat → Int64) (a : Int64), (if c then f_X11_mover_j74 v3 v4 v5 x l a else f_X11_mover_j74 v3 v4 v5 y l a) = f_X11_mover_j74 v3 v4 v5 (if c then x else y) l a := by
        intro c _ x y v3 v4 v5 l a; split <;> rfl
      rw [ej, ← eD]
      simp only [f_X11_mover_j74, f_X11_mover_j89, nI1, mvS, seA]
      by_cases hc : mvD ice mk wt n B q k ≤ (mvS (mvD ice mk wt n B q) k).2
      · simp only [if_pos hc]
      · simp only [if_neg hc]
    · show f_X11_mover_b37 ice wt (nI n) mk (nI B) q _ _ (nI n) _ _ = _
      unfold f_X11_mover_b37
      rw [if_pos (Int32.le_refl _)]
  rw [L1, L2]
  exact ⟨_, _, _, _, _, _, rfl, rfl, hI⟩
