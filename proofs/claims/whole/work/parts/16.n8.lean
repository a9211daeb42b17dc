/-! ===== the two story readers side by side ===== -/
theorem le_m1 {x A : Nat} (hx : x < 10000) (hA : A < 10000) : nI x ≤ nI A - 1 ↔ x < A := by
  rw [show (1 : Int32) = nI 1 from rfl, Int32.le_iff_toInt_le, pk_sub_toInt (by omega) (by omega), nI_toInt (by omega)]
  omega
def mkN (g : Nat → Bool) : Nat → Nat
  | 0 => 0
  | k + 1 => mkN g k ||| (if g k = true then 2 ^ k else 0)
theorem mkN_tb {g : Nat → Bool} (d : Nat) : ∀ k, (mkN g k).testBit d = (decide (d < k) && g d) := by
  intro k
  induction k with
  | zero => show (0 : Nat).testBit d = _; rw [Nat.zero_testBit, decide_eq_false (by omega)]; rfl
  | succ k ih =>
    unfold mkN
    rw [Nat.testBit_or, ih]
    by_cases hg : g k = true
    · rw [if_pos hg, Nat.testBit_two_pow]
      by_cases e : k = d
      · subst e; rw [decide_eq_true rfl, hg]; simp
      · rw [decide_eq_false e, Bool.or_false]
        by_cases h : d < k
        · rw [decide_eq_true h, decide_eq_true (show d < k + 1 by omega)]
        · rw [decide_eq_false h, decide_eq_false (show ¬ d < k + 1 by omega)]
    · rw [if_neg hg, Nat.zero_testBit, Bool.or_false]
      by_cases e : k = d
      · subst e; rw [Bool.eq_false_iff.mpr hg]; simp
      · by_cases h : d < k
        · rw [decide_eq_true h, decide_eq_true (show d < k + 1 by omega)]
        · rw [decide_eq_false h, decide_eq_false (show ¬ d < k + 1 by omega)]
theorem mkN_lt {g : Nat → Bool} : ∀ k, mkN g k < 2 ^ k := by
  intro i
  induction i with
  | zero => exact Nat.zero_lt_succ _
  | succ i ih =>
    have h1 : 2 ^ i < 2 ^ (i + 1) := Nat.pow_lt_pow_right (by omega) (by omega)
    unfold mkN
    refine Nat.or_lt_two_pow (Nat.lt_trans ih h1) ?_
    split
    · exact h1
    · omega
theorem mkN_bit {g : Nat → Bool} {d : Nat} (hd : d < 10) : ((nI (mkN g 10) >>> (nI d &&& 31)) &&& 1) = 0 ↔ ¬ g d = true := by
  have h := mkN_lt (g := g) 10
  rw [bit_n (by omega) (by omega), eq0_n (by have := bN_lt (mkN g 10) d; omega), bN_0, mkN_tb, decide_eq_true hd, Bool.true_and]
  exact Bool.eq_false_iff
theorem tensM {A : Nat} (hA : A < 10000) : lpM (σ := Int32 × Int32) (ρ := Int32) (fun st => f_X11_readEntry_b4_13 (nI A - 1) st.1 st.2) FU ((0 : Int32), (0 : Int32)) = some (nI (mkN (fun t => decide (¬ 10 * t + 9 < A)) 10)) := by
  refine lp_run (fun k => (nI (mkN (fun t => decide (¬ 10 * t + 9 < A)) k), nI k)) 10 ?_ ?_ FU (FU_lt (by omega)) rfl
  · intro k hk
    show f_X11_readEntry_b4_13 (nI A - 1) (nI (mkN (fun t => decide (¬ 10 * t + 9 < A)) k)) (nI k) = _
    unfold f_X11_readEntry_b4_13
    rw [if_neg (nleL 10 10 rfl hk (by omega)), show (9 : Int32) = nI 9 from rfl, ten_n]
    simp only [le_m1 (show 10 * k + 9 < 10000 by omega) hA, f_X11_readEntry_j29, nI1, mkN]
    by_cases h : 10 * k + 9 < A
    · rw [if_pos h, if_neg (by simp [h]), show (0 : Int32) = nI 0 from rfl, tbOr]
    · rw [if_neg h, if_pos (by simp [h]), (sh_12 k (by omega)).1, tbOr]
  · show f_X11_readEntry_b4_13 (nI A - 1) _ (nI 10) = _
    unfold f_X11_readEntry_b4_13
    rw [if_pos (by decide)]
theorem onesMk {A t : Nat} {a b : Int32} (hA : A < 10000) (ht : t < 100) : lpM (σ := Int32 × Int32) (ρ := Int32) (fun st => f_X11_readEntry_b49 (nI A - 1) (nI t, a, b) st.1 st.2) FU ((0 : Int32), (0 : Int32)) = some (nI (mkN (fun o => decide (¬ 10 * t + o < A)) 10)) := by
  refine lp_run (fun k => (nI (mkN (fun o => decide (¬ 10 * t + o < A)) k), nI k)) 10 ?_ ?_ FU (FU_lt (by omega)) rfl
  · intro k hk
    show f_X11_readEntry_b49 (nI A - 1) (nI t, a, b) (nI (mkN (fun o => decide (¬ 10 * t + o < A)) k)) (nI k) = _
    unfold f_X11_readEntry_b49
    dsimp only
    rw [if_neg (nleL 10 10 rfl hk (by omega)), ten_n]
    simp only [le_m1 (show 10 * t + k < 10000 by omega) hA, f_X11_readEntry_j77, nI1, mkN]
    by_cases h : 10 * t + k < A
    · rw [if_pos h, if_neg (by simp [h]), show (0 : Int32) = nI 0 from rfl, tbOr]
    · rw [if_neg h, if_pos (by simp [h]), (sh_12 k (by omega)).1, tbOr]
  · show f_X11_readEntry_b49 (nI A - 1) (nI t, a, b) _ (nI 10) = _
    unfold f_X11_readEntry_b49
    rw [if_pos (by decide)]
theorem fig_k {tx : Nat → Int32} {n a : Nat} {g : Nat → Bool} (hx : okX tx) (hn : n ≤ 48) (hA : a < 1000) : f_X11_figure tx (nI n) (nI a) (-9) (nI (mkN g 10)) = some (match dgt tx n a with | some d => (if g d = true then (nI d, nI (a + 1), -9) else (0, nI a, nI a)) | none => (0, nI a, nI a)) := by
  rw [fig_m hx hn hA]
  cases h : dgt tx n a with
  | none => rfl
  | some d =>
    have hd := dgt_some h
    dsimp only
    by_cases hg : g d = true
    · rw [if_pos hg, if_neg (fun q => (mkN_bit hd.2.2).mp q hg)]
    · rw [if_neg hg, if_pos ((mkN_bit hd.2.2).mpr hg)]
theorem next_f {tx : Nat → Int32} {n a f C : Int32} (h : ¬ f = -9) : f_X11_isNext tx n a f C = some 0 := by
  unfold f_X11_isNext
  rw [if_neg h]
theorem fail_f {a f : Int32} (h : ¬ f = -9) : f_X11_fail a f = some f := by
  unfold f_X11_fail f_X11_fail_j21
  rw [if_neg h]
theorem j125_f {tx eR eI : Nat → Int32} {n at' v5 : Int32} {f E : Nat} (hf : f < 1000) (hE : E < 48) : f_X11_readEntry_j125 tx n v5 at' (nI f) eR eI (nI E) = some (99, at', nI f, upd eR E v5, upd eI E 0, nI (E + 1)) := by
  unfold f_X11_readEntry_j125
  refine lp_bd (fun _ => ((0 : Int32), (0 : Int32), at', nI f)) ((0 : Int32), at', nI f) 0 (FU_lt (by omega)) rfl ?_ (fun i hi => absurd hi (Nat.not_lt_zero i)) ?_
  · show f_X11_readEntry_x210_1 v5 eR eI (nI E) 0 at' (nI f) = _
    unfold f_X11_readEntry_x210_1
    rw [gd_n hE (by omega), gd_n hE (by omega), if_neg (nI_m9 (by omega)), nI_clamp (by omega), nI1]
  · show f_X11_readEntry_b131 tx n 0 0 at' (nI f) = _
    unfold f_X11_readEntry_b131
    rw [if_neg (nI_m9 (by omega))]
theorem bm_70 : ∀ w, w < 7 → ∀ d, d < 10 → (((((63 : Int32) >>> (nI w &&& 31)) <<< (nI w &&& 31)) >>> (nI d &&& 31)) &&& 1 = 0 ↔ ¬ (w ≤ d ∧ d < 6)) := by decide +kernel
theorem fig_w {tx : Nat → Int32} {n a w : Nat} {M : Int32} (hx : okX tx) (hn : n ≤ 48) (hA : a < 1000) (hM : ∀ d, d < 10 → (((M >>> (nI d &&& 31)) &&& 1) = 0 ↔ ¬ (w ≤ d ∧ d < 6))) : f_X11_figure tx (nI n) (nI a) (-9) M = some (match dgt tx n a with | some d => (if w ≤ d ∧ d < 6 then (nI d, nI (a + 1), -9) else (0, nI a, nI a)) | none => (0, nI a, nI a)) := by
  rw [fig_m hx hn hA]
  cases h : dgt tx n a with
  | none => rfl
  | some d =>
    have hd := dgt_some h
    dsimp only
    by_cases hg : w ≤ d ∧ d < 6
    · rw [if_pos hg, if_neg (fun q => (hM d hd.2.2).mp q hg)]
    · rw [if_neg hg, if_pos ((hM d hd.2.2).mpr hg)]
/-! the class -/
def sX (tx : Nat → Int32) (n : Nat) : (Int32 × (Nat → Int32) × Int32 × Int32 × Int32 × Int32 × Int32 × Int32) → Option ((Int32 × (Nat → Int32) × Int32 × Int32 × Int32 × Int32 × Int32 × Int32) ⊕ (((Nat → Int32) × Int32 × Int32 × Int32 × Int32 × Int32 × Int32) ⊕ (Int32 × (Nat → Int32) × Int32 × Int32 × Int32 × Int32 × Int32 × Int32))) :=
  fun st => f_X8_faultOf_b6 tx (nI n) st.1 st.2.1 st.2.2.1 st.2.2.2.1 st.2.2.2.2.1 st.2.2.2.2.2.1 st.2.2.2.2.2.2.1 st.2.2.2.2.2.2.2
def OutS (n : Nat) (ρ : ((Nat → Int32) × Int32 × Int32 × Int32 × Int32 × Int32 × Int32) ⊕ (Int32 × (Nat → Int32) × Int32 × Int32 × Int32 × Int32 × Int32 × Int32)) (r : Option Nat) (ic : Nat → Int32) (E : Int32) : Prop :=
  ∃ a b c d e, Sum.elim (fun sx : (Nat → Int32) × Int32 × Int32 × Int32 × Int32 × Int32 × Int32 => f_X8_faultOf_x41_2 (nI n) sx.1 sx.2.1 sx.2.2.1 sx.2.2.2.1 sx.2.2.2.2.1 sx.2.2.2.2.2.1 sx.2.2.2.2.2.2) (fun r => some r) ρ = some (enc9 r, ic, E, a, b, c, d, e)
theorem sX_in {tx : Nat → Int32} {n j : Nat} {ic : Nat → Int32} {E due ra t rn ba : Int32} (hn : n ≤ 48) (hj : j < n) : sX tx n (nI j, ic, E, due, ra, t, rn, ba) = (f_X8_takes ic E due ra t rn ba (tx j)).bind (fun q9 => (if q9.1 = (0 : Int32) then some (.inr (.inr (nI j, q9.2.1, q9.2.2.1, q9.2.2.2.1, q9.2.2.2.2.1, q9.2.2.2.2.2.1, q9.2.2.2.2.2.2.1, q9.2.2.2.2.2.2.2))) else some (.inl (nI (j + 1), q9.2.1, q9.2.2.1, q9.2.2.2.1, q9.2.2.2.2.1, q9.2.2.2.2.2.1, q9.2.2.2.2.2.2.1, q9.2.2.2.2.2.2.2)))) := by
  show f_X8_faultOf_b6 tx (nI n) (nI j) ic E due ra t rn ba = _
  unfold f_X8_faultOf_b6
  rw [if_neg (nle hj (by omega)), if_neg (nleL 48 48 rfl (by omega) (by omega)), gd_n (by omega) (by omega), nI_clamp (by omega), nI1]
theorem sX_out {tx : Nat → Int32} {n : Nat} {ic : Nat → Int32} {E due ra t rn ba : Int32} : sX tx n (nI n, ic, E, due, ra, t, rn, ba) = some (.inr (.inl (ic, E, due, ra, t, rn, ba))) := by
  show f_X8_faultOf_b6 tx (nI n) (nI n) ic E due ra t rn ba = _
  unfold f_X8_faultOf_b6
  rw [if_pos (Int32.le_refl _)]
/-- a fault at j -/
def FauX (tx : Nat → Int32) (n j : Nat) (s : Int32 × (Nat → Int32) × Int32 × Int32 × Int32 × Int32 × Int32 × Int32) : Prop := ∃ ρ ic' E', (∀ m, En (sX tx n) m s ρ) ∧ OutS n ρ (some j) ic' E'
theorem fau_end {tx : Nat → Int32} {n : Nat} {ic : Nat → Int32} {E due ra t rn ba : Int32} (hd : ¬ due = 3) : FauX tx n n (nI n, ic, E, due, ra, t, rn, ba) := by
  refine ⟨_, ic, E, fun m => En_end m sX_out, due, ra, t, rn, ba, ?_⟩
  show f_X8_faultOf_x41_2 (nI n) ic E due ra t rn ba = _
  unfold f_X8_faultOf_x41_2
  rw [if_neg hd]; rfl
theorem fau_in {tx : Nat → Int32} {n j : Nat} {s : Int32 × (Nat → Int32) × Int32 × Int32 × Int32 × Int32 × Int32 × Int32} {ic : Nat → Int32} {E a b c d e : Int32} (h : sX tx n s = some (.inr (.inr (nI j, ic, E, a, b, c, d, e)))) : FauX tx n j s :=
  ⟨_, ic, E, fun m => En_end m h, a, b, c, d, e, rfl⟩
theorem tensX {tx : Nat → Int32} {n i A : Nat} {ic : Nat → Int32} {E t rn ba : Int32} (hx : okX tx) (hn : n ≤ 48) (hi : i ≤ n) (hA : A ≤ 100) :
    (match dgt tx n i with
      | some d => if 10 * d + 9 < A then FauX tx n i (nI i, ic, E, 0, nI A - 1, t, rn, ba) else sX tx n (nI i, ic, E, 0, nI A - 1, t, rn, ba) = some (.inl (nI (i + 1), ic, E, 1, nI A - 1, nI d, rn, ba))
      | none => FauX tx n i (nI i, ic, E, 0, nI A - 1, t, rn, ba)) := by
  by_cases e : i = n
  · subst e
    have : dgt tx i i = none := by unfold dgt; rw [if_neg (by omega)]
    rw [this]
    exact fau_end (by decide)
  have hj : i < n := by omega
  have hc := tC_at hx i
  have base : sX tx n (nI i, ic, E, 0, nI A - 1, t, rn, ba) = _ := sX_in hn hj
  unfold f_X8_takes at base
  rw [if_pos rfl] at base
  unfold f_X8_takesTens at base
  rw [hc.2, fig_n hc.1, Option.bind_some] at base
  cases h : dgt tx n i with
  | none =>
    rw [if_neg (dgt_none h hj), if_pos rfl] at base
    exact fau_in base
  | some d =>
    obtain ⟨_, ec, hd⟩ := dgt_some h
    rw [if_pos (show 48 ≤ tC tx i ∧ tC tx i ≤ 57 from ⟨by omega, by omega⟩), show tC tx i - 48 = d by omega, if_neg (nI_m9 (by omega)), show (9 : Int32) = nI 9 from rfl, ten_n] at base
    dsimp only
    by_cases hl : 10 * d + 9 < A
    · rw [if_pos hl]
      rw [if_pos ((le_m1 (by omega) (by omega)).mpr hl)] at base
      exact fau_in base
    · rw [if_neg hl]
      rw [if_neg (fun q => hl ((le_m1 (by omega) (by omega)).mp q))] at base
      exact base
theorem onesX {tx : Nat → Int32} {n i A t : Nat} {ic : Nat → Int32} {E rn ba : Int32} (hx : okX tx) (hn : n ≤ 48) (hi : i ≤ n) (hA : A ≤ 100) (ht : t < 10) :
    (match dgt tx n i with
      | some d => if 10 * t + d < A then FauX tx n i (nI i, ic, E, 1, nI A - 1, nI t, rn, ba) else sX tx n (nI i, ic, E, 1, nI A - 1, nI t, rn, ba) = some (.inl (nI (i + 1), ic, E, 2, nI A - 1, nI t, nI (10 * t + d), ba))
      | none => FauX tx n i (nI i, ic, E, 1, nI A - 1, nI t, rn, ba)) := by
  by_cases e : i = n
  · subst e
    have : dgt tx i i = none := by unfold dgt; rw [if_neg (by omega)]
    rw [this]
    exact fau_end (by decide)
  have hj : i < n := by omega
  have hc := tC_at hx i
  have base : sX tx n (nI i, ic, E, 1, nI A - 1, nI t, rn, ba) = _ := sX_in hn hj
  unfold f_X8_takes at base
  rw [if_neg (by decide), if_pos rfl] at base
  unfold f_X8_takesOnes at base
  rw [hc.2, fig_n hc.1, Option.bind_some] at base
  cases h : dgt tx n i with
  | none =>
    rw [if_neg (dgt_none h hj), if_pos rfl] at base
    exact fau_in base
  | some d =>
    obtain ⟨_, ec, hd⟩ := dgt_some h
    rw [if_pos (show 48 ≤ tC tx i ∧ tC tx i ≤ 57 from ⟨by omega, by omega⟩), show tC tx i - 48 = d by omega, if_neg (nI_m9 (by omega)), ten_n] at base
    dsimp only
    by_cases hl : 10 * t + d < A
    · rw [if_pos hl]
      rw [if_pos ((le_m1 (by omega) (by omega)).mpr hl)] at base
      exact fau_in base
    · rw [if_neg hl]
      rw [if_neg (fun q => hl ((le_m1 (by omega) (by omega)).mp q))] at base
      exact base
theorem colonX {tx : Nat → Int32} {n i p : Nat} {ic : Nat → Int32} {E ra t ba : Int32} (hx : okX tx) (hn : n ≤ 48) (hi : i ≤ n) (hp : p < 100) :
    if i < n ∧ tC tx i = 58 then sX tx n (nI i, ic, E, 2, ra, t, nI p, ba) = some (.inl (nI (i + 1), upd ic p 0, E + 1, 3, ra, t, nI p, -1)) else FauX tx n i (nI i, ic, E, 2, ra, t, nI p, ba) := by
  by_cases e : i = n
  · subst e
    rw [if_neg (by omega)]
    exact fau_end (by decide)
  have hj : i < n := by omega
  have hc := tC_at hx i
  have base : sX tx n (nI i, ic, E, 2, ra, t, nI p, ba) = _ := sX_in hn hj
  unfold f_X8_takes at base
  rw [if_neg (by decide), if_neg (by decide), if_pos rfl] at base
  unfold f_X8_takesColon at base
  rw [hc.2] at base
  by_cases h : tC tx i = 58
  · rw [if_pos ⟨hj, h⟩]
    rw [if_pos (show nI (tC tx i) = 58 by rw [h]; rfl), isRound_n, Option.bind_some, ite10, if_pos (gr99 (show p ≤ 99 by omega)), gd_n hp (by omega), nI_clamp (by omega)] at base
    exact base
  · rw [if_neg (fun q => h q.2)]
    rw [if_neg (show ¬ nI (tC tx i) = 58 from fun q => h ((nI_eq (b := 58) (by omega) (by omega)).mp q))] at base
    exact fau_in base
/-- within the bands of an entry -/
theorem bandS {tx : Nat → Int32} {n i p v w : Nat} {ic : Nat → Int32} {E ra t : Int32} (hx : okX tx) (hn : n ≤ 48) (hi : i < n) (hp : p < 100) (hw : w ≤ 6) (h59 : ¬ tC tx i = 59) :
    (match dgt tx n i with
      | some d => if w ≤ d ∧ d < 6 then sX tx n (nI i, upd ic p (nI v), E, 3, ra, t, nI p, nI w - 1) = some (.inl (nI (i + 1), upd ic p (nI (v ||| 2 ^ d)), E, 3, ra, t, nI p, nI (d + 1) - 1)) else FauX tx n i (nI i, upd ic p (nI v), E, 3, ra, t, nI p, nI w - 1)
      | none => FauX tx n i (nI i, upd ic p (nI v), E, 3, ra, t, nI p, nI w - 1)) := by
  have hc := tC_at hx i
  have base : sX tx n (nI i, upd ic p (nI v), E, 3, ra, t, nI p, nI w - 1) = _ := sX_in hn hi
  unfold f_X8_takes at base
  rw [if_neg (by decide), if_neg (by decide), if_neg (by decide), hc.2, if_neg (show ¬ nI (tC tx i) = 59 from fun q => h59 ((nI_eq (b := 59) (by omega) (by omega)).mp q))] at base
  unfold f_X8_takesBand at base
  rw [fig_n hc.1, Option.bind_some, isBand_n, Option.bind_some, ite10] at base
  cases h : dgt tx n i with
  | none =>
    rw [if_neg (dgt_none h hi), if_neg (by decide)] at base
    exact fau_in base
  | some d =>
    obtain ⟨_, ec, hd⟩ := dgt_some h
    rw [if_pos (show 48 ≤ tC tx i ∧ tC tx i ≤ 57 from ⟨by omega, by omega⟩), show tC tx i - 48 = d by omega] at base
    dsimp only
    by_cases h6 : d < 6
    · rw [if_pos (gr5 (show d ≤ 5 by omega))] at base
      by_cases hl : d < w
      · rw [if_neg (by omega)]
        rw [if_pos ((le_m1 (by omega) (by omega)).mpr hl)] at base
        exact fau_in base
      · rw [if_pos ⟨by omega, h6⟩]
        rw [if_neg (fun q => hl ((le_m1 (by omega) (by omega)).mp q)), isRound_n, Option.bind_some, ite10, if_pos (gr99 (show p ≤ 99 by omega)), gd_n hp (by omega), gd_n hp (by omega), nI_clamp (by omega), pk_us, (sh_12 d (by omega)).1, tbOr, upd_upd] at base
        rw [nI_pred]
        exact base
    · rw [if_neg (fun q => h6 q.2)]
      rw [if_neg (fun q => h6 (by have := (nI_leI (b := 5) (by omega) (by omega)).mp q.2; omega))] at base
      exact fau_in base
def bM (tx : Nat → Int32) (n : Nat) : (Int32 × Int32 × Int32 × Int32) → Option ((Int32 × Int32 × Int32 × Int32) ⊕ (Int32 × Int32 × Int32)) := fun st => f_X11_readEntry_b131 tx (nI n) st.1 st.2.1 st.2.2.1 st.2.2.2
theorem bandSim {tx : Nat → Int32} {n p : Nat} {ic : Nat → Int32} {E ra t : Int32} (hx : okX tx) (hn : n ≤ 48) (hp : p < 100) : ∀ m i v w, n - i ≤ m → i ≤ n → v < 64 → w ≤ 6 → ∃ j v' w' V F, i ≤ j ∧ j ≤ n ∧ v' < 64 ∧ w' ≤ 6 ∧ (∀ ρ k, En (sX tx n) k (nI j, upd ic p (nI v'), E, 3, ra, t, nI p, nI w' - 1) ρ → En (sX tx n) (k + (j - i)) (nI i, upd ic p (nI v), E, 3, ra, t, nI p, nI w - 1) ρ) ∧ En (bM tx n) (n - i + 1) (nI v, nI w, nI i, -9) (V, nI j, F) ∧ ((F = -9 ∧ V = nI v' ∧ (j = n ∨ (j < n ∧ tC tx j = 59))) ∨ (F = nI j ∧ FauX tx n j (nI j, upd ic p (nI v'), E, 3, ra, t, nI p, nI w' - 1))) := by
  intro m
  induction m with
  | zero =>
    intro i v w h1 h2 hv hw
    have e : i = n := by omega
    subst e
    refine ⟨i, v, w, nI v, -9, Nat.le_refl _, Nat.le_refl _, hv, hw, fun ρ k h => by rw [Nat.sub_self, Nat.add_zero]; exact h, En_end _ ?_, Or.inl ⟨rfl, rfl, Or.inl rfl⟩⟩
    show f_X11_readEntry_b131 tx (nI i) (nI v) (nI w) (nI i) (-9) = _
    unfold f_X11_readEntry_b131
    rw [if_pos rfl, if_pos (Int32.le_refl _)]
  | succ m ih =>
    intro i v w h1 h2 hv hw
    by_cases e : i = n
    · subst e
      refine ⟨i, v, w, nI v, -9, Nat.le_refl _, Nat.le_refl _, hv, hw, fun ρ k h => by rw [Nat.sub_self, Nat.add_zero]; exact h, En_end _ ?_, Or.inl ⟨rfl, rfl, Or.inl rfl⟩⟩
      show f_X11_readEntry_b131 tx (nI i) (nI v) (nI w) (nI i) (-9) = _
      unfold f_X11_readEntry_b131
      rw [if_pos rfl, if_pos (Int32.le_refl _)]
    have hi : i < n := by omega
    have hc := tC_at hx i
    have base : bM tx n (nI v, nI w, nI i, -9) = if tC tx i = 59 then some (.inr (nI v, nI i, -9)) else (f_X11_figure tx (nI n) (nI i) (-9) (((63 : Int32) >>> (nI w &&& (31 : Int32))) <<< (nI w &&& (31 : Int32)))).bind (fun q11 => (if q11.2.2 = (-9 : Int32) then f_X11_readEntry_j198 q11.1 (nI v) ((1 : Int32) <<< (q11.1 &&& (31 : Int32))) q11.2.1 q11.2.2 else f_X11_readEntry_j198 q11.1 (nI v) (0 : Int32) q11.2.1 q11.2.2)) := by
      show f_X11_readEntry_b131 tx (nI n) (nI v) (nI w) (nI i) (-9) = _
      unfold f_X11_readEntry_b131
      rw [if_pos rfl, if_neg (nle hi (by omega)), gd_n (by omega) (by omega), nI_clamp (by omega), hc.2]
      simp only [show nI (tC tx i) = (59 : Int32) ↔ tC tx i = 59 from nI_eq (b := 59) (by omega) (by omega)]
    by_cases h59 : tC tx i = 59
    · rw [if_pos h59] at base
      exact ⟨i, v, w, nI v, -9, Nat.le_refl _, h2, hv, hw, fun ρ k h => by rw [Nat.sub_self, Nat.add_zero]; exact h, En_end _ base, Or.inl ⟨rfl, rfl, Or.inr ⟨hi, h59⟩⟩⟩
    · rw [if_neg h59, fig_w hx hn (by omega) (bm_70 w (by omega))] at base
      have cX := bandS (v := v) (w := w) (ic := ic) (E := E) (ra := ra) (t := t) hx hn hi hp hw h59
      have bad : ∀ x : Int32, bM tx n (nI v, nI w, nI i, -9) = some (.inl (x, 0 + 1, nI i, nI i)) → FauX tx n i (nI i, upd ic p (nI v), E, 3, ra, t, nI p, nI w - 1) → ∃ j v' w' V F, i ≤ j ∧ j ≤ n ∧ v' < 64 ∧ w' ≤ 6 ∧ (∀ ρ k, En (sX tx n) k (nI j, upd ic p (nI v'), E, 3, ra, t, nI p, nI w' - 1) ρ → En (sX tx n) (k + (j - i)) (nI i, upd ic p (nI v), E, 3, ra, t, nI p, nI w - 1) ρ) ∧ En (bM tx n) (n - i + 1) (nI v, nI w, nI i, -9) (V, nI j, F) ∧ ((F = -9 ∧ V = nI v' ∧ (j = n ∨ (j < n ∧ tC tx j = 59))) ∨ (F = nI j ∧ FauX tx n j (nI j, upd ic p (nI v'), E, 3, ra, t, nI p, nI w' - 1))) := by
        intro x e1 hf
        refine ⟨i, v, w, x, nI i, Nat.le_refl _, h2, hv, hw, fun ρ k h => by rw [Nat.sub_self, Nat.add_zero]; exact h, En_step _ (n := 0) (by omega) e1 (En_end _ ?_), Or.inr ⟨rfl, hf⟩⟩
        show f_X11_readEntry_b131 tx (nI n) x (0 + 1) (nI i) (nI i) = _
        unfold f_X11_readEntry_b131
        rw [if_neg (nI_m9 (by omega))]
      cases h : dgt tx n i with
      | none =>
        rw [h, Option.bind_some] at base
        rw [h] at cX
        dsimp only at base cX
        rw [if_neg (nI_m9 (by omega))] at base
        exact bad _ base cX
      | some d =>
        rw [h] at base cX
        dsimp only at base cX
        have hd := dgt_some h
        by_cases hok : w ≤ d ∧ d < 6
        · rw [if_pos hok] at cX
          rw [if_pos hok, Option.bind_some] at base
          dsimp only at base
          rw [if_pos rfl, (sh_12 d (by omega)).1] at base
          unfold f_X11_readEntry_j198 at base
          rw [tbOr, nI1] at base
          have hv2 : v ||| 2 ^ d < 64 := Nat.or_lt_two_pow (n := 6) hv (Nat.pow_lt_pow_right (by omega) hok.2)
          obtain ⟨j, v', w', V, F, q1, q2, q3, q4, q5, q6, q7⟩ := ih (i + 1) (v ||| 2 ^ d) (d + 1) (by omega) (by omega) hv2 (by omega)
          refine ⟨j, v', w', V, F, by omega, q2, q3, q4, fun ρ k hk => ?_, En_step _ (by omega) base q6, q7⟩
          exact En_step _ (by omega) cX (q5 ρ k hk)
        · rw [if_neg hok] at cX
          rw [if_neg hok, Option.bind_some] at base
          dsimp only at base
          rw [if_neg (nI_m9 (by omega))] at base
          exact bad _ base cX
