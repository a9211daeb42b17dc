/-! ===== lowest terms; chance, pole, elsewhere ===== -/
def ge : Nat → Nat × Nat → Nat × Nat
  | 0, p => p
  | k + 1, p => ((ge k p).2, (ge k p).1 % (ge k p).2)
theorem ge_front : ∀ k p, ge (k + 1) p = ge k (p.2, p.1 % p.2) := by
  intro k
  induction k with
  | zero => intro p; rfl
  | succ k ih => intro p; rw [ge, ih p]; rfl
def fbP : Nat → Nat × Nat
  | 0 => (0, 1)
  | k + 1 => ((fbP k).2, (fbP k).1 + (fbP k).2)
theorem lame : ∀ k a b, b < a → (∀ j, j < k → ¬ (ge j (a, b)).2 = 0) → (fbP k).1 ≤ b ∧ (fbP k).2 ≤ a := by
  intro k
  induction k with
  | zero => intro a b h _; exact ⟨Nat.zero_le _, by show 1 ≤ a; omega⟩
  | succ k ih =>
    intro a b h hj
    have hb : ¬ b = 0 := hj 0 (by omega)
    have h1 := ih b (a % b) (Nat.mod_lt _ (by omega)) (fun j h2 => by
      have := hj (j + 1) (by omega)
      rw [ge_front] at this
      exact this)
    refine ⟨h1.2, ?_⟩
    show (fbP k).1 + (fbP k).2 ≤ a
    have h3 := Nat.div_add_mod a b
    have h4 : 1 ≤ a / b := (Nat.le_div_iff_mul_le (by omega)).mpr (by omega)
    have h5 : b * 1 ≤ b * (a / b) := Nat.mul_le_mul_left b h4
    omega
theorem ge_end (a b : Nat) (hb : b < 679891637638612258) : ∃ K, K < 90 ∧ (∀ j, j < K → ¬ (ge j (a, b)).2 = 0) ∧ (ge K (a, b)).2 = 0 := by
  have hex : ∃ k, k < 90 ∧ (ge k (a, b)).2 = 0 := by
    by_cases h : ∃ k, k < 90 ∧ (ge k (a, b)).2 = 0
    · exact h
    · exfalso
      have hall : ∀ j, j < 90 → ¬ (ge j (a, b)).2 = 0 := fun j hj e => h ⟨j, hj, e⟩
      have hb0 : ¬ b = 0 := hall 0 (by omega)
      have h1 := lame 88 b (a % b) (Nat.mod_lt _ (by omega)) (fun j h2 => by
        have := hall (j + 1) (by omega)
        rw [ge_front] at this
        exact this)
      have h2 : (fbP 88).1 = 1100087778366101931 := by decide
      have h3 := Nat.mod_lt a (show b > 0 by omega)
      omega
  obtain ⟨K, h1, h2⟩ := pk_least (fun k => k < 90 ∧ (ge k (a, b)).2 = 0) hex
  exact ⟨K, h1.1, fun j hj e => h2 j hj ⟨by omega, e⟩, h1.2⟩
theorem ge_le {a b M : Nat} (ha : a ≤ M) (hb : b ≤ M) : ∀ k, (ge k (a, b)).1 ≤ M ∧ (ge k (a, b)).2 ≤ M := by
  intro k
  induction k with
  | zero => exact ⟨ha, hb⟩
  | succ k ih => exact ⟨ih.2, Nat.le_trans (Nat.mod_le _ _) ih.1⟩
theorem l0_n {k : Nat} (h : k < 2 ^ 63) : lN k = 0 ↔ k = 0 := pk_lEQ (b := 0) h (by omega)
theorem gcd_n {a b : Nat} (ha : a < 679891637638612258) (hb : b < 679891637638612258) : ∃ g : Nat, g < 679891637638612258 ∧ (0 < b → 0 < g) ∧ (b = 0 → g = a) ∧ f_X10_greatestCommon (lN a) (lN b) = some (lN g) ∧ lpM (σ := Int64 × Int64) (ρ := Int64) (fun st => f_X11_told_b6 st.1 st.2) FU (lN a, lN b) = some (lN g) := by
  obtain ⟨K, hK, h1, h2⟩ := ge_end a b hb
  have hl : ∀ k, (ge k (a, b)).1 < 679891637638612258 ∧ (ge k (a, b)).2 < 679891637638612258 := by
    intro k
    have := ge_le (M := 679891637638612257) (show a ≤ 679891637638612257 by omega) (show b ≤ 679891637638612257 by omega) k
    omega
  refine ⟨(ge K (a, b)).1, (hl K).1, fun h0 => ?_, fun h0 => ?_, ?_, ?_⟩
  · cases K with
    | zero => exact absurd (show b = 0 from h2) (by omega)
    | succ K => have := h1 K (by omega); show 0 < (ge K (a, b)).2; omega
  · cases K with
    | zero => rfl
    | succ K => exact absurd h0 (h1 0 (by omega))
  · unfold f_X10_greatestCommon
    refine lp_bd (fun i => (lN (ge i (a, b)).1, lN (ge i (a, b)).2, nI i)) (lN (ge K (a, b)).1) K (FU_lt (by omega)) rfl rfl ?_ ?_
    · intro i hi
      show f_X10_greatestCommon_b9 (lN (ge i (a, b)).1) (lN (ge i (a, b)).2) (nI i) = _
      have hv := h1 i hi
      have hi' := hl i
      unfold f_X10_greatestCommon_b9
      rw [if_neg (nleL 100 100 rfl (by omega) (by omega)), if_neg (by rw [cmp_eq0, l0_n (by omega)]; exact hv), dzL_n (by rw [l0_n (by omega)]; exact hv), pk_lRem (by omega) (by omega) (by omega), nI1]
      rfl
    · show f_X10_greatestCommon_b9 (lN (ge K (a, b)).1) (lN (ge K (a, b)).2) (nI K) = _
      unfold f_X10_greatestCommon_b9
      rw [if_neg (nleL 100 100 rfl (by omega) (by omega)), if_pos (by rw [cmp_eq0, h2]; rfl)]
  · refine lp_run (fun i => (lN (ge i (a, b)).1, lN (ge i (a, b)).2)) K ?_ ?_ FU (FU_lt (by omega)) rfl
    · intro i hi
      show f_X11_told_b6 (lN (ge i (a, b)).1) (lN (ge i (a, b)).2) = _
      have hv := h1 i hi
      have hi' := hl i
      unfold f_X11_told_b6
      rw [if_neg (by rw [cmp_eq0, l0_n (by omega)]; exact hv), dzL_n (by rw [l0_n (by omega)]; exact hv), pk_lRem (by omega) (by omega) (by omega)]
      rfl
    · show f_X11_told_b6 (lN (ge K (a, b)).1) (lN (ge K (a, b)).2) = _
      unfold f_X11_told_b6
      rw [if_pos (by rw [cmp_eq0, h2]; rfl)]
theorem told_n {a b : Nat} (x : Int32) (ha : a < 679891637638612258) (hb : b < 679891637638612258) (h0 : 0 < b) : ∃ r, f_X10_told (lN a) (lN b) x = some r ∧ f_X11_told (lN a) (lN b) x = some r := by
  obtain ⟨g, hg, hp, _, e1, e2⟩ := gcd_n ha hb
  have h1 := hp h0
  unfold f_X10_told f_X11_told
  rw [e1, e2]
  simp only [Option.bind_some, f_X11_told_x31_1]
  rw [if_pos (by rw [cmp_gt0]; exact (pk_lLT (a := 0) (by omega) (by omega)).mpr h1), dzL_n (by rw [l0_n (by omega)]; omega), dzL_n (by rw [l0_n (by omega)]; omega)]
  by_cases hx : x = 0
  · rw [if_pos hx]; exact ⟨_, rfl, rfl⟩
  · rw [if_neg hx]; exact ⟨_, rfl, rfl⟩
theorem st_chance : St_chance := by
  intro tx tl lw ice mk wt bd s6 s8 s7 s1 s5 s2 u0 u1 sm kz kb km kw a1 a2 a3 hI _
  obtain ⟨n, hn, rfl, hB⟩ := hI.2.2.2.1
  have hi := hI.2.2.1
  simp only [f_X10_chance, f_X11_chance, isStory_n, mStory_n, isBed_n, mBed_n, Option.bind_some, ite10, f_X10_chance_j15, f_X11_chance_j32]
  by_cases h : (0 : Int32) ≤ a1 ∧ a1 ≤ 3
  rotate_left
  · simp only [if_neg h]; exact ⟨-1, rfl, rfl, hI⟩
  simp only [if_pos h]
  by_cases h2 : (0 : Int32) ≤ a2 ∧ a2 ≤ nI n - 1
  rotate_left
  · simp only [if_neg h2]; exact ⟨-1, rfl, rfl, hI⟩
  simp only [if_pos h2]
  obtain ⟨s, hs, rfl⟩ := rg 3 (by omega) rfl h
  obtain ⟨b, hb, rfl⟩ := (isBed_iff hn a2).mp h2
  have ok := hB b hb
  have hc := chN_le (ice := ice) (s := s) ok
  rw [hundX hi (by omega) (by omega) ok, chanceM hi (by omega) (by omega) ok]
  simp only [Option.bind_some]
  rw [nI_l (by omega), show (100 : Int64) = lN 100 from rfl]
  obtain ⟨r, e1, e2⟩ := told_n (a := chN ice mk s b) (b := 100) a3 (by omega) (by omega) (by omega)
  rw [e1, e2]
  exact ⟨r, rfl, rfl, hI⟩
def dsN (a b : Nat) : Nat := if b ≤ a then a - b else b - a
theorem ds_36 : ∀ a, a < 6 → ∀ b, b < 6 → (if (0 : Int32) ≤ (nI a - nI b) then (nI a - nI b) else (0 : Int32) - (nI a - nI b)) = nI (dsN a b) ∧ (if (0 : Int32) ≤ (nI a - nI b) then (nI a - nI b) else -(nI a - nI b)) = nI (dsN a b) ∧ dsN a b < 6 := by decide +kernel
def poB (ice mk : Nat → Int32) (s z b : Nat) : Bool := icB mk b && decide (bN (orN (gI ice mk s b) (lenB mk b)) (dsN (mN mk b 4) z) = 1)
theorem poB_iff {ice mk : Nat → Int32} {s z b : Nat} : poB ice mk s z b = true ↔ icB mk b = true ∧ bN (orN (gI ice mk s b) (lenB mk b)) (dsN (mN mk b 4) z) = 1 := by
  unfold poB; rw [Bool.and_eq_true, decide_eq_true_iff]
theorem poleX {ice mk : Nat → Int32} {s z n : Nat} (hi : okI ice) (hs : s < 4) (hz : z < 6) (hn : n ≤ 8) (hB : ∀ b, b < n → okMk mk b) : f_X5_explainedBy ice mk (nI n) (nI s) (nI z) = some (nI (cn (poB ice mk s z) n)) := by
  unfold f_X5_explainedBy
  refine lp_bd (fun i => (nI (cn (poB ice mk s z) i), nI i)) (nI (cn (poB ice mk s z) n)) n (FU_lt (by omega)) rfl rfl ?_ ?_
  · intro i h
    show f_X5_explainedBy_b6 ice mk (nI n) (nI s) (nI z) (nI (cn (poB ice mk s z) i)) (nI i) = _
    have ok := hB i h
    have b1 := ok.at.1
    unfold f_X5_explainedBy_b6
    rw [if_neg (nle h (by omega)), mk2 (by omega) ok, mk3 (by omega) ok, mk4 (by omega) ok, icX (by omega) ok]
    simp only [Option.bind_some, ite10]
    rw [someX hi hs ok]
    simp only [Option.bind_some]
    have hd := ds_36 (mN mk i 4) (by omega) z hz
    rw [hd.1, hasIce_n (orN_lt (gI_lt hi) _) hd.2.2]
    simp only [Option.bind_some, ite10, nI1]
    by_cases hc : icB mk i = true
    · rw [if_pos hc]
      by_cases hb : bN (orN (gI ice mk s i) (lenB mk i)) (dsN (mN mk i 4) z) = 1
      · rw [if_pos hb]; simp only [cn, if_pos (poB_iff.mpr ⟨hc, hb⟩)]
      · rw [if_neg hb]; simp only [cn, if_neg (fun q => hb (poB_iff.mp q).2)]; rfl
    · rw [if_neg hc]; simp only [cn, if_neg (fun q => hc (poB_iff.mp q).1)]; rfl
  · show f_X5_explainedBy_b6 ice mk (nI n) (nI s) (nI z) _ (nI n) = _
    unfold f_X5_explainedBy_b6
    rw [if_pos (Int32.le_refl _)]
theorem poleM {ice mk : Nat → Int32} {s z n : Nat} (hi : okI ice) (hs : s < 4) (hz : z < 6) (hn : n ≤ 8) (hB : ∀ b, b < n → okMk mk b) : f_X11_poleOf ice (nI n) mk (nI s) (nI z) = some (nI (cn (poB ice mk s z) n)) := by
  unfold f_X11_poleOf
  refine lp_bd (fun i => (nI (cn (poB ice mk s z) i), nI i)) (nI (cn (poB ice mk s z) n)) n (FU_lt (by omega)) rfl rfl ?_ ?_
  · intro i h
    show f_X11_poleOf_b5 ice (nI n) mk (nI s) (nI z) (nI (cn (poB ice mk s z) i)) (nI i) = _
    have ok := hB i h
    have b1 := ok.at.1
    unfold f_X11_poleOf_b5
    have hd := ds_36 (mN mk i 4) (by omega) z hz
    have z0 : nI (cn (poB ice mk s z) i) + (0 : Int32) = nI (cn (poB ice mk s z) i) := nI_add _ 0
    have ej : (if (0 : Int32) ≤ nI (mN mk i 4) - nI z then f_X11_poleOf_j57 ice mk (nI i) (nI (cn (poB ice mk s z) i)) (nI s) (nI i) (nI (mN mk i 4) - nI z) else f_X11_poleOf_j57 ice mk (nI i) (nI (cn (poB ice mk s z) i)) (nI s) (nI i) (-(nI (mN mk i 4) - nI z))) = f_X11_poleOf_j57 ice mk (nI i) (nI (cn (poB ice mk s z) i)) (nI s) (nI i) (nI (dsN (mN mk i 4) z)) := by
      rw [← hd.2.1]; split <;> rfl
    rw [if_neg (nle h (by omega)), g4 (by omega), e4 (by omega) ok, icM (by omega) ok]
    simp only [Option.bind_some, ite10]
    rw [ej]
    unfold f_X11_poleOf_j57
    rw [roundsM hi hs (by omega) hd.2.2 ok]
    simp only [Option.bind_some, nI1, z0, le0_n (Nat.lt_of_le_of_lt (rsb_le (ice := ice) (s := s) ok) (by omega : 100 < 2147483648)), or_bits]
    by_cases hc : icB mk i = true
    · rw [if_pos hc]
      by_cases hb : bN (orN (gI ice mk s i) (lenB mk i)) (dsN (mN mk i 4) z) = 1
      · rw [if_neg (fun q => q hb)]; simp only [cn, if_pos (poB_iff.mpr ⟨hc, hb⟩)]
      · rw [if_pos hb]; simp only [cn, if_neg (fun q => hb (poB_iff.mp q).2)]; rfl
    · rw [if_neg hc]; simp only [cn, if_neg (fun q => hc (poB_iff.mp q).1)]; rfl
  · show f_X11_poleOf_b5 ice (nI n) mk (nI s) (nI z) _ (nI n) = _
    unfold f_X11_poleOf_b5
    rw [if_pos (Int32.le_refl _)]
theorem st_pole : St_pole := by
  intro tx tl lw ice mk wt bd s6 s8 s7 s1 s5 s2 u0 u1 sm kz kb km kw a1 a2 hI
  obtain ⟨n, hn, rfl, hB⟩ := hI.2.2.2.1
  have hi := hI.2.2.1
  simp only [f_X10_pole, f_X11_pole, isStory_n, mStory_n, isBand_n, in_0_5, Option.bind_some, ite10]
  by_cases h : (0 : Int32) ≤ a1 ∧ a1 ≤ 3
  rotate_left
  · simp only [if_neg h]; exact ⟨-1, rfl, rfl, hI⟩
  simp only [if_pos h]
  by_cases h2 : (0 : Int32) ≤ a2 ∧ a2 ≤ 5
  rotate_left
  · simp only [if_neg h2]; exact ⟨-2, rfl, rfl, hI⟩
  simp only [if_pos h2]
  obtain ⟨s, hs, rfl⟩ := rg 3 (by omega) rfl h
  obtain ⟨z, hz, rfl⟩ := rg 5 (by omega) rfl h2
  rw [poleX hi (by omega) (by omega) hn hB, poleM hi (by omega) (by omega) hn hB]
  exact ⟨_, rfl, rfl, hI⟩
def bzN (P : Nat → Nat) : Nat → Nat
  | 0 => 0
  | k + 1 => if P (k + 1) ≤ P (bzN P k) then bzN P k else k + 1
theorem bzN_le (P : Nat → Nat) : ∀ k, bzN P k ≤ k := by
  intro k
  induction k with
  | zero => exact Nat.le_refl _
  | succ k ih => unfold bzN; split <;> omega
theorem st_elsewhere : St_elsewhere := by
  intro tx tl lw ice mk wt bd s6 s8 s7 s1 s5 s2 u0 u1 sm kz kb km kw a1 hI
  obtain ⟨n, hn, rfl, hB⟩ := hI.2.2.2.1
  have hi := hI.2.2.1
  simp only [f_X10_elsewhere, f_X11_elsewhere, isStory_n, mStory_n, Option.bind_some, ite10]
  by_cases h : (0 : Int32) ≤ a1 ∧ a1 ≤ 3
  rotate_left
  · simp only [if_neg h]; exact ⟨-1, rfl, rfl, hI⟩
  simp only [if_pos h]
  obtain ⟨s, hs, rfl⟩ := rg 3 (by omega) rfl h
  have hP : ∀ z, cn (poB ice mk s z) n ≤ 8 := fun z => Nat.le_trans (cn_le_n _ _) hn
  refine ⟨nI (bzN (fun z => cn (poB ice mk s z) n) 5), ?_, ?_, hI⟩
  · refine lp_bd (fun i => match i with | 0 => ((0 : Int32), (-1 : Int32), (0 : Int32)) | k + 1 => (nI (bzN (fun z => cn (poB ice mk s z) n) k), nI (cn (poB ice mk s (bzN (fun z => cn (poB ice mk s z) n) k)) n), nI (k + 1))) (nI (bzN (fun z => cn (poB ice mk s z) n) 5)) 6 (FU_lt (by omega)) rfl rfl ?_ ?_
    · intro i hi6
      cases i with
      | zero =>
        show f_X10_elsewhere_b16 ice mk (nI n) (nI s) 0 (-1) (nI 0) = _
        unfold f_X10_elsewhere_b16
        rw [if_neg (by decide), poleX hi (by omega) (by omega) hn hB, Option.bind_some, if_neg, nI1]
        · rfl
        · rw [Int32.le_iff_toInt_le, nI_toInt (by have := hP 0; omega)]
          have : (-1 : Int32).toInt = -1 := by decide
          omega
      | succ k =>
        show f_X10_elsewhere_b16 ice mk (nI n) (nI s) (nI (bzN (fun z => cn (poB ice mk s z) n) k)) (nI (cn (poB ice mk s (bzN (fun z => cn (poB ice mk s z) n) k)) n)) (nI (k + 1)) = _
        unfold f_X10_elsewhere_b16
        rw [if_neg (nleL 6 6 rfl (by omega) (by omega)), poleX hi (by omega) (by omega) hn hB, Option.bind_some, nI1]
        have p1 := hP (k + 1)
        have p2 := hP (bzN (fun z => cn (poB ice mk s z) n) k)
        simp only [bzN]
        by_cases hc : cn (poB ice mk s (k + 1)) n ≤ cn (poB ice mk s (bzN (fun z => cn (poB ice mk s z) n) k)) n
        · rw [if_pos (nI_le hc (by omega)), if_pos hc]
        · rw [if_neg (nI_ge (by omega) (by omega)), if_neg hc]
    · show f_X10_elsewhere_b16 ice mk (nI n) (nI s) _ _ (nI 6) = _
      unfold f_X10_elsewhere_b16
      rw [if_pos (by decide)]
  · refine lp_bd (fun k => (nI (bzN (fun z => cn (poB ice mk s z) n) k), nI (k + 1))) (nI (bzN (fun z => cn (poB ice mk s z) n) 5)) 5 (FU_lt (by omega)) rfl rfl ?_ ?_
    · intro k hk
      show f_X11_elsewhere_b13 ice (nI n) mk (nI s) (nI (bzN (fun z => cn (poB ice mk s z) n) k)) (nI (k + 1)) = _
      unfold f_X11_elsewhere_b13
      have hz := bzN_le (fun z => cn (poB ice mk s z) n) k
      rw [if_neg (nleL 6 6 rfl (by omega) (by omega)), poleM hi (by omega) (by omega) hn hB, Option.bind_some, poleM hi (by omega) (by omega) hn hB, Option.bind_some, nI1]
      have p1 := hP (k + 1)
      have p2 := hP (bzN (fun z => cn (poB ice mk s z) n) k)
      simp only [bzN]
      by_cases hc : cn (poB ice mk s (k + 1)) n ≤ cn (poB ice mk s (bzN (fun z => cn (poB ice mk s z) n) k)) n
      · rw [if_pos (nI_le hc (by omega)), if_pos hc]
      · rw [if_neg (nI_ge (by omega) (by omega)), if_neg hc]
    · show f_X11_elsewhere_b13 ice (nI n) mk (nI s) _ (nI 6) = _
      unfold f_X11_elsewhere_b13
      rw [if_pos (by decide)]
