/-! ===== toolbox of the pure part ===== -/
theorem lp_run {σ ρ : Type} {b : σ → Option (σ ⊕ ρ)} (I : Nat → σ) {r : ρ} (n : Nat) (hs : ∀ i, i < n → b (I i) = some (.inl (I (i + 1)))) (he : b (I n) = some (.inr r)) (F : Nat) (hF : n < F) {s0 : σ} (h0 : s0 = I 0) : lpM b F s0 = some r := by
  have key : ∀ (k i F : Nat), i + k = n → k < F → lpM b F (I i) = some r := by
    intro k
    induction k with
    | zero =>
      intro i F h1 h2
      obtain ⟨F, rfl⟩ : ∃ G, F = G + 1 := ⟨F - 1, by omega⟩
      have : i = n := by omega
      subst this
      unfold lpM
      rw [he]
    | succ k ih =>
      intro i F h1 h2
      obtain ⟨F, rfl⟩ : ∃ G, F = G + 1 := ⟨F - 1, by omega⟩
      unfold lpM
      rw [hs i (by omega)]
      exact ih (i + 1) F (by omega) (by omega)
  rw [h0]
  exact key n 0 F (by omega) hF
theorem lp_bd {σ ρ τ : Type} {b : σ → Option (σ ⊕ ρ)} (I : Nat → σ) (r : ρ) (n : Nat) {F : Nat} {s0 : σ} {k : ρ → Option τ} {z : Option τ} (hF : n < F) (h0 : s0 = I 0) (hk : k r = z) (hs : ∀ i, i < n → b (I i) = some (.inl (I (i + 1)))) (he : b (I n) = some (.inr r)) : (lpM b F s0).bind k = z := by
  rw [lp_run I n hs he F hF h0]
  exact hk
theorem nleL {i : Nat} (N : Int32) (n : Nat) (hN : N = nI n) (h : i < n) (hb : n < 2147483648) : ¬ N ≤ nI i := by subst hN; exact nI_ge h hb
theorem nltL {i : Nat} (N : Int32) (n : Nat) (hN : N = nI n) (h : i < n) (hb : n < 2147483648) : nI i < N := by subst hN; exact nI_lt h hb
theorem gd_n {α : Type} {k n : Nat} {A : Option α} (h : k < n) (hn : n < 2147483648) : gd (nI k) n A = A := by
  unfold gd
  rw [if_neg (nI_in h (by omega))]
theorem dz_n {α : Type} {y : Int32} {A : Option α} (h : ¬ y = 0) : dz y A = A := by
  unfold dz
  rw [if_neg h]
theorem dzL_n {α : Type} {y : Int64} {A : Option α} (h : ¬ y = 0) : dzL y A = A := by
  unfold dzL
  rw [if_neg h]
theorem dz100 {α : Type} {A : Option α} : dz (100 : Int32) A = A := dz_n (by decide)
theorem zb_1 {α : Type} {A : Option α} : zb (1 : Int32) A = A := rfl
theorem zb_0 {α : Type} {A : Option α} : zb (0 : Int32) A = A := rfl
theorem zb_if {α : Type} {c : Prop} [Decidable c] {A : Option α} : zb (if c then (1 : Int32) else 0) A = A := by
  by_cases h : c
  · rw [if_pos h]; rfl
  · rw [if_neg h]; rfl
theorem ite10 {α : Type} {c : Prop} [Decidable c] {A B : α} : (if (if c then (1 : Int32) else 0) = 0 then A else B) = if c then B else A := by
  by_cases h : c
  · rw [if_pos h, if_pos h, if_neg (by decide)]
  · rw [if_neg h, if_neg h, if_pos rfl]
theorem within_n (a lo hi : Int32) : f_X10_within a lo hi = some (if lo ≤ a ∧ a ≤ hi then 1 else 0) := by
  unfold f_X10_within
  by_cases h1 : a < lo
  · rw [if_pos h1, if_neg (fun h => Int32.not_lt.mpr h.1 h1)]
  · rw [if_neg h1]
    by_cases h2 : hi < a
    · rw [if_pos h2, if_neg (fun h => Int32.not_lt.mpr h.2 h2)]
    · rw [if_neg h2, if_pos ⟨Int32.not_lt.mp h1, Int32.not_lt.mp h2⟩]
theorem wide_lt (a b : Int32) : a.toInt64 < b.toInt64 ↔ a < b := by
  rw [Int64.lt_iff_toInt_lt, Int32.lt_iff_toInt_lt, Int32.toInt_toInt64, Int32.toInt_toInt64]
theorem wide_eq (a b : Int32) : a.toInt64 = b.toInt64 ↔ a = b := by
  rw [← Int64.toInt_inj, ← Int32.toInt_inj, Int32.toInt_toInt64, Int32.toInt_toInt64]
theorem cmp_lt0 (x y : Int64) : lg_cmp x y < 0 ↔ x < y := by
  unfold lg_cmp
  by_cases h1 : x > y
  · rw [if_pos h1]
    exact ⟨fun h => absurd h (by decide), fun h => absurd (Int64.lt_iff_toInt_lt.mp h) (by have := Int64.lt_iff_toInt_lt.mp h1; omega)⟩
  · rw [if_neg h1]
    by_cases h2 : x = y
    · subst h2
      rw [if_pos rfl]
      exact ⟨fun h => absurd h (by decide), fun h => absurd h h1⟩
    · rw [if_neg h2]
      refine ⟨fun _ => ?_, fun _ => by decide⟩
      rw [Int64.lt_iff_toInt_lt]
      have h3 : ¬ y.toInt < x.toInt := fun h => h1 (Int64.lt_iff_toInt_lt.mpr h)
      have h4 : x.toInt ≠ y.toInt := fun h => h2 (Int64.toInt_inj.mp h)
      omega
theorem cmp_gt0 (x y : Int64) : 0 < lg_cmp x y ↔ y < x := by
  unfold lg_cmp
  by_cases h1 : x > y
  · rw [if_pos h1]
    exact ⟨fun _ => h1, fun _ => by decide⟩
  · rw [if_neg h1]
    by_cases h2 : x = y
    · rw [if_pos h2]
      exact ⟨fun h => absurd h (by decide), fun h => absurd h h1⟩
    · rw [if_neg h2]
      exact ⟨fun h => absurd h (by decide), fun h => absurd h h1⟩
theorem cmp_eq0 (x y : Int64) : lg_cmp x y = 0 ↔ x = y := by
  unfold lg_cmp
  by_cases h1 : x > y
  · rw [if_pos h1]
    refine ⟨fun h => absurd h (by decide), fun h => ?_⟩
    subst h
    have := Int64.lt_iff_toInt_lt.mp h1
    omega
  · rw [if_neg h1]
    by_cases h2 : x = y
    · rw [if_pos h2]
      exact ⟨fun _ => h2, fun _ => rfl⟩
    · rw [if_neg h2]
      exact ⟨fun h => absurd h (by decide), fun h => absurd h h2⟩
theorem in_n (a lo hi : Int32) : f_X11_in a.toInt64 lo.toInt64 hi.toInt64 = some (if lo ≤ a ∧ a ≤ hi then 1 else 0) := by
  unfold f_X11_in
  simp only [cmp_lt0, cmp_gt0, wide_lt]
  by_cases h1 : a < lo
  · rw [if_pos h1, if_neg (fun h => Int32.not_lt.mpr h.1 h1)]
  · rw [if_neg h1]
    by_cases h2 : hi < a
    · rw [if_pos h2, if_neg (fun h => Int32.not_lt.mpr h.2 h2)]
    · rw [if_neg h2, if_pos ⟨Int32.not_lt.mp h1, Int32.not_lt.mp h2⟩]
theorem rg {a hi : Int32} (n : Nat) (hn : n < 2147483648) (hh : hi = nI n) (h : (0 : Int32) ≤ a ∧ a ≤ hi) : ∃ k : Nat, k ≤ n ∧ a = nI k := by
  subst hh
  obtain ⟨k, hk, e⟩ := nI_of (Int32.not_lt.mpr h.1)
  subst e
  exact ⟨k, (nI_leI hk (by omega)).mp h.2, rfl⟩
theorem gr {n k : Nat} {hi : Int32} (hn : n < 2147483648) (hh : hi = nI n) (h : k ≤ n) : (0 : Int32) ≤ nI k ∧ nI k ≤ hi := by
  subst hh
  exact ⟨nI_pos' (by omega), nI_le h (by omega)⟩
theorem isStory_n (a : Int32) : f_X10_isStory a = some (if (0 : Int32) ≤ a ∧ a ≤ 3 then 1 else 0) := by simp only [f_X10_isStory, within_n, Option.bind_some, zb_if]
theorem isRound_n (a : Int32) : f_X10_isRound a = some (if (0 : Int32) ≤ a ∧ a ≤ 99 then 1 else 0) := by simp only [f_X10_isRound, within_n, Option.bind_some, zb_if]
theorem isBand_n (a : Int32) : f_X10_isBand a = some (if (0 : Int32) ≤ a ∧ a ≤ 5 then 1 else 0) := by simp only [f_X10_isBand, within_n, Option.bind_some, zb_if]
theorem isIce_n (a : Int32) : f_X10_isIce a = some (if (0 : Int32) ≤ a ∧ a ≤ 63 then 1 else 0) := by simp only [f_X10_isIce, within_n, Option.bind_some, zb_if]
theorem isAir_n (a : Int32) : f_X10_isAir a = some (if (0 : Int32) ≤ a ∧ a ≤ 99 then 1 else 0) := by simp only [f_X10_isAir, within_n, Option.bind_some, zb_if]
theorem isLand_n (a : Int32) : f_X10_isLand a = some (if (0 : Int32) ≤ a ∧ a ≤ 3 then 1 else 0) := by simp only [f_X10_isLand, within_n, Option.bind_some, zb_if]
theorem isSlot_n (a : Int32) : f_X10_isSlot a = some (if (0 : Int32) ≤ a ∧ a ≤ 1 then 1 else 0) := by simp only [f_X10_isSlot, within_n, Option.bind_some, zb_if]
theorem in_lit (a : Int32) (lo hi : Int32) (lo' hi' : Int64) (h1 : lo' = lo.toInt64) (h2 : hi' = hi.toInt64) : f_X11_in a.toInt64 lo' hi' = some (if lo ≤ a ∧ a ≤ hi then 1 else 0) := by rw [h1, h2]; exact in_n a lo hi
theorem in_1_8 (a : Int32) : f_X11_in a.toInt64 1 8 = some (if (1 : Int32) ≤ a ∧ a ≤ 8 then 1 else 0) := in_lit a 1 8 1 8 (by decide) (by decide)
theorem in_0_1 (a : Int32) : f_X11_in a.toInt64 0 1 = some (if (0 : Int32) ≤ a ∧ a ≤ 1 then 1 else 0) := in_lit a 0 1 0 1 (by decide) (by decide)
theorem in_0_3 (a : Int32) : f_X11_in a.toInt64 0 3 = some (if (0 : Int32) ≤ a ∧ a ≤ 3 then 1 else 0) := in_lit a 0 3 0 3 (by decide) (by decide)
theorem in_0_4 (a : Int32) : f_X11_in a.toInt64 0 4 = some (if (0 : Int32) ≤ a ∧ a ≤ 4 then 1 else 0) := in_lit a 0 4 0 4 (by decide) (by decide)
theorem in_0_5 (a : Int32) : f_X11_in a.toInt64 0 5 = some (if (0 : Int32) ≤ a ∧ a ≤ 5 then 1 else 0) := in_lit a 0 5 0 5 (by decide) (by decide)
theorem in_0_7 (a : Int32) : f_X11_in a.toInt64 0 7 = some (if (0 : Int32) ≤ a ∧ a ≤ 7 then 1 else 0) := in_lit a 0 7 0 7 (by decide) (by decide)
theorem in_0_9 (a : Int32) : f_X11_in a.toInt64 0 9 = some (if (0 : Int32) ≤ a ∧ a ≤ 9 then 1 else 0) := in_lit a 0 9 0 9 (by decide) (by decide)
theorem in_0_10 (a : Int32) : f_X11_in a.toInt64 0 10 = some (if (0 : Int32) ≤ a ∧ a ≤ 10 then 1 else 0) := in_lit a 0 10 0 10 (by decide) (by decide)
theorem in_0_11 (a : Int32) : f_X11_in a.toInt64 0 11 = some (if (0 : Int32) ≤ a ∧ a ≤ 11 then 1 else 0) := in_lit a 0 11 0 11 (by decide) (by decide)
theorem in_0_15 (a : Int32) : f_X11_in a.toInt64 0 15 = some (if (0 : Int32) ≤ a ∧ a ≤ 15 then 1 else 0) := in_lit a 0 15 0 15 (by decide) (by decide)
theorem in_0_63 (a : Int32) : f_X11_in a.toInt64 0 63 = some (if (0 : Int32) ≤ a ∧ a ≤ 63 then 1 else 0) := in_lit a 0 63 0 63 (by decide) (by decide)
theorem in_0_99 (a : Int32) : f_X11_in a.toInt64 0 99 = some (if (0 : Int32) ≤ a ∧ a ≤ 99 then 1 else 0) := in_lit a 0 99 0 99 (by decide) (by decide)
theorem in_0_100000 (a : Int32) : f_X11_in a.toInt64 0 100000 = some (if (0 : Int32) ≤ a ∧ a ≤ 100000 then 1 else 0) := in_lit a 0 100000 0 100000 (by decide) (by decide)
theorem in_x_99 (a b : Int32) : f_X11_in a.toInt64 b.toInt64 99 = some (if b ≤ a ∧ a ≤ 99 then 1 else 0) := in_lit a b 99 _ 99 rfl (by decide)
theorem in_0_x (a b : Int32) : f_X11_in a.toInt64 0 b.toInt64 = some (if (0 : Int32) ≤ a ∧ a ≤ b then 1 else 0) := in_lit a 0 b 0 _ (by decide) rfl
theorem mStory_n (a : Int32) : f_X11_isStory a = some (if (0 : Int32) ≤ a ∧ a ≤ 3 then 1 else 0) := by simp only [f_X11_isStory, in_0_3, Option.bind_some, zb_if]
theorem mEarth_n (a b : Int32) : f_X11_isEarth a b = some (if ((0 : Int32) ≤ a ∧ a ≤ 63) ∧ ((0 : Int32) ≤ b ∧ b ≤ 99) then 1 else 0) := by
  simp only [f_X11_isEarth, in_0_63, in_0_99, Option.bind_some, ite10]
  by_cases h1 : (0 : Int32) ≤ a ∧ a ≤ 63
  · by_cases h2 : (0 : Int32) ≤ b ∧ b ≤ 99
    · rw [if_pos h1, if_pos h2, if_pos ⟨h1, h2⟩]
    · rw [if_pos h1, if_neg h2, if_neg (fun h => h2 h.2)]
  · rw [if_neg h1, if_neg (fun h => h1 h.1)]
theorem gr1 {k : Nat} (h : k ≤ 1) : (0 : Int32) ≤ nI k ∧ nI k ≤ 1 := gr (n := 1) (by omega) rfl h
theorem gr3 {k : Nat} (h : k ≤ 3) : (0 : Int32) ≤ nI k ∧ nI k ≤ 3 := gr (n := 3) (by omega) rfl h
theorem gr4 {k : Nat} (h : k ≤ 4) : (0 : Int32) ≤ nI k ∧ nI k ≤ 4 := gr (n := 4) (by omega) rfl h
theorem gr5 {k : Nat} (h : k ≤ 5) : (0 : Int32) ≤ nI k ∧ nI k ≤ 5 := gr (n := 5) (by omega) rfl h
theorem gr7 {k : Nat} (h : k ≤ 7) : (0 : Int32) ≤ nI k ∧ nI k ≤ 7 := gr (n := 7) (by omega) rfl h
theorem gr8 {k : Nat} (h : k ≤ 8) : (0 : Int32) ≤ nI k ∧ nI k ≤ 8 := gr (n := 8) (by omega) rfl h
theorem gr9 {k : Nat} (h : k ≤ 9) : (0 : Int32) ≤ nI k ∧ nI k ≤ 9 := gr (n := 9) (by omega) rfl h
theorem gr10 {k : Nat} (h : k ≤ 10) : (0 : Int32) ≤ nI k ∧ nI k ≤ 10 := gr (n := 10) (by omega) rfl h
theorem gr11 {k : Nat} (h : k ≤ 11) : (0 : Int32) ≤ nI k ∧ nI k ≤ 11 := gr (n := 11) (by omega) rfl h
theorem gr15 {k : Nat} (h : k ≤ 15) : (0 : Int32) ≤ nI k ∧ nI k ≤ 15 := gr (n := 15) (by omega) rfl h
theorem gr63 {k : Nat} (h : k ≤ 63) : (0 : Int32) ≤ nI k ∧ nI k ≤ 63 := gr (n := 63) (by omega) rfl h
theorem gr99 {k : Nat} (h : k ≤ 99) : (0 : Int32) ≤ nI k ∧ nI k ≤ 99 := gr (n := 99) (by omega) rfl h
theorem gr100000 {k : Nat} (h : k ≤ 100000) : (0 : Int32) ≤ nI k ∧ nI k ≤ 100000 := gr (n := 100000) (by omega) rfl h
/-! ===== the simplest steps ===== -/
theorem st_wipe : St_wipe := by
  intro tx tl lw ice mk wt bd s6 s8 s7 s1 s5 s2 u0 u1 sm kz kb km kw hI
  refine ⟨tl, 0, rfl, rfl, ?_⟩
  exact ⟨⟨⟨0, by omega, rfl⟩, hI.1.2⟩, hI.2⟩
theorem st_lawful : St_lawful := by
  intro tx tl lw ice mk wt bd s6 s8 s7 s1 s5 s2 u0 u1 sm kz kb km kw a1 hI
  by_cases h : (0 : Int32) ≤ a1 ∧ a1 ≤ 11
  · obtain ⟨k, hk, rfl⟩ := rg 11 (by omega) rfl h
    refine ⟨lw k, ?_, ?_, hI⟩
    · simp only [f_X10_lawful, within_n, Option.bind_some, ite10]
      rw [if_pos h, gd_n (by omega) (by omega), nI_clamp (by omega)]
    · simp only [f_X11_lawful, in_0_11, Option.bind_some, ite10]
      rw [if_pos h, gd_n (by omega) (by omega), nI_clamp (by omega)]
  · refine ⟨-2, ?_, ?_, hI⟩
    · simp only [f_X10_lawful, within_n, Option.bind_some, ite10]
      rw [if_neg h]
    · simp only [f_X11_lawful, in_0_11, Option.bind_some, ite10]
      rw [if_neg h]
theorem iceOf_n (ice : Nat → Int32) {s r : Nat} (hs : s < 4) (hr : r < 100) : f_X0_iceOf ice (nI s) (nI r) = some (ice (100 * s + r)) := by
  simp only [f_X0_iceOf, isStory_n, isRound_n, Option.bind_some, ite10]
  rw [if_pos (gr3 (by omega)), if_pos (gr99 (by omega))]
  have e : nI s * (100 : Int32) + nI r = nI (100 * s + r) := by
    rw [show (100 : Int32) = nI 100 from rfl, pk_mul, nI_add, Nat.mul_comm]
  rw [e, gd_n (by omega) (by omega), nI_clamp (by omega)]
theorem st_at : St_at := by
  intro tx tl lw ice mk wt bd s6 s8 s7 s1 s5 s2 u0 u1 sm kz kb km kw a1 a2 hI
  have eX : f_X10_at ice a1 a2 = if (0 : Int32) ≤ a1 ∧ a1 ≤ 3 then (if (0 : Int32) ≤ a2 ∧ a2 ≤ 99 then (f_X0_iceOf ice a1 a2).bind (fun q5 => some q5) else some (-2)) else some (-1) := by
    simp only [f_X10_at, isStory_n, isRound_n, Option.bind_some, ite10]
  have eM : f_X11_at ice a1 a2 = if (0 : Int32) ≤ a1 ∧ a1 ≤ 3 then (if (0 : Int32) ≤ a2 ∧ a2 ≤ 99 then gd ((100 : Int32) * a1 + a2) 400 (some (ice ((100 : Int32) * a1 + a2).toNatClampNeg)) else some (-2)) else some (-1) := by
    simp only [f_X11_at, mStory_n, in_0_99, Option.bind_some, ite10]
  rw [eX, eM]
  by_cases h : (0 : Int32) ≤ a1 ∧ a1 ≤ 3
  · rw [if_pos h, if_pos h]
    by_cases h2 : (0 : Int32) ≤ a2 ∧ a2 ≤ 99
    · rw [if_pos h2, if_pos h2]
      obtain ⟨k, hk, rfl⟩ := rg 3 (by omega) rfl h
      obtain ⟨r, hr, rfl⟩ := rg 99 (by omega) rfl h2
      refine ⟨ice (100 * k + r), ?_, ?_, hI⟩
      · rw [iceOf_n ice (by omega) (by omega)]; rfl
      · have e : (100 : Int32) * nI k + nI r = nI (100 * k + r) := by rw [show (100 : Int32) = nI 100 from rfl, pk_mul, nI_add]
        rw [e, gd_n (by omega) (by omega), nI_clamp (by omega)]
    · rw [if_neg h2, if_neg h2]
      exact ⟨-2, rfl, rfl, hI⟩
  · rw [if_neg h, if_neg h]
    exact ⟨-1, rfl, rfl, hI⟩
