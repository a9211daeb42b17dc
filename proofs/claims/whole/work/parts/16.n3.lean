/-! ===== least, settle ===== -/
theorem st_least : St_least := by
  intro tx tl lw ice mk wt bd s6 s8 s7 s1 s5 s2 u0 u1 sm kz kb km kw a1 hI ha
  have main : ∀ (V : Nat) (c : Bool), V < 64 → (∀ (k : Nat), k ≤ 100 → f_X10_least_b14 lw a1 (nI V) (nI k) = if k = 100 then some (.inr (.inl ())) else if reB lw (nI k) V = c then some (.inr (.inr (nI k))) else some (.inl (nI (k + 1)))) → (∀ (k : Nat), k ≤ 100 → f_X11_least_b2 lw a1 (nI k) = if k = 100 then some (.inr (.inl ())) else if reB lw (nI k) V = c then some (.inr (.inr (nI k))) else some (.inl (nI (k + 1)))) → ∃ r, f_X10_least_j11 lw a1 (nI V) = some r ∧ f_X11_least lw a1 = some r := by
    intro V c hV bX bM
    have eqL : lpM (σ := Int32) (ρ := (Unit) ⊕ (Int32)) (fun st => f_X10_least_b14 lw a1 (nI V) st) FU (0 : Int32) = lpM (σ := Int32) (ρ := (Unit) ⊕ (Int32)) (fun st => f_X11_least_b2 lw a1 st) FU (0 : Int32) := by
      refine lp_cong (fun s => ∃ k : Nat, k ≤ 100 ∧ s = nI k) ?_ FU _ ⟨0, by omega, rfl⟩
      rintro s ⟨k, hk, rfl⟩
      refine ⟨by rw [bX k hk, bM k hk], ?_⟩
      intro s' hs
      rw [bM k hk] at hs
      by_cases e64 : k = 100
      · rw [if_pos e64] at hs; cases hs
      · rw [if_neg e64] at hs
        refine ⟨k + 1, by omega, ?_⟩
        by_cases hr : reB lw (nI k) V = c
        · rw [if_pos hr] at hs; cases hs
        · rw [if_neg hr] at hs; cases hs; rfl
    obtain ⟨r, e, _⟩ := lp_tot (b := fun st => f_X11_least_b2 lw a1 st) (fun i s => i ≤ 100 ∧ s = nI i) (fun _ => True) 100 (by
      rintro i s ⟨hi, rfl⟩
      rw [bM i hi]
      by_cases e64 : i = 100
      · left; rw [if_pos e64]; exact ⟨_, rfl, trivial⟩
      · rw [if_neg e64]
        by_cases hr : reB lw (nI i) V = c
        · left; rw [if_pos hr]; exact ⟨_, rfl, trivial⟩
        · right; rw [if_neg hr]; exact ⟨by omega, _, rfl, by omega, rfl⟩) FU (FU_lt (by omega)) (s := (0 : Int32)) ⟨by omega, rfl⟩
    unfold f_X10_least_j11 f_X11_least
    rw [eqL, e, Option.bind_some, Option.bind_some]
    cases r with
    | inl u => exact ⟨-9, rfl, rfl⟩
    | inr r => exact ⟨r, rfl, rfl⟩
  unfold f_X10_least
  rcases ha with rfl | rfl
  · rw [if_pos rfl]
    obtain ⟨r, h1, h2⟩ := main 63 false (by omega) (by
      intro k hk
      unfold f_X10_least_b14
      by_cases e : k = 100
      · subst e; rw [if_pos (by decide), if_pos rfl]
      · rw [if_neg (nleL 100 100 rfl (by omega) (by omega)), restX (by omega), Option.bind_some, nI1, if_neg e]
        by_cases hr : reB lw (nI k) 63 = true
        · rw [if_pos hr, if_neg (by decide), if_neg (by rw [hr]; decide)]
        · rw [if_neg hr, if_pos rfl, if_pos (Bool.eq_false_iff.mpr hr)]) (by
      intro k hk
      unfold f_X11_least_b2
      by_cases e : k = 100
      · subst e; rw [if_pos (by decide), if_pos rfl]
      · rw [if_neg (nleL 100 100 rfl (by omega) (by omega)), if_pos rfl, show (63 : Int32) = nI 63 from rfl, restM (by omega), Option.bind_some, nI1, if_neg e, ite10]
        by_cases hr : reB lw (nI k) 63 = true
        · rw [if_pos hr, if_neg (by rw [hr]; decide)]
        · rw [if_neg hr, if_pos (Bool.eq_false_iff.mpr hr)])
    exact ⟨r, h1, h2, hI⟩
  · rw [if_neg (by decide)]
    obtain ⟨r, h1, h2⟩ := main 62 true (by omega) (by
      intro k hk
      unfold f_X10_least_b14
      by_cases e : k = 100
      · subst e; rw [if_pos (by decide), if_pos rfl]
      · rw [if_neg (nleL 100 100 rfl (by omega) (by omega)), restX (by omega), Option.bind_some, nI1, if_neg e]
        by_cases hr : reB lw (nI k) 62 = true
        · rw [if_pos hr, if_pos rfl, if_pos hr]
        · rw [if_neg hr, if_neg (by decide), if_neg hr]) (by
      intro k hk
      unfold f_X11_least_b2
      by_cases e : k = 100
      · subst e; rw [if_pos (by decide), if_pos rfl]
      · rw [if_neg (nleL 100 100 rfl (by omega) (by omega)), if_neg (show ¬ (1 : Int32) = 0 by decide), show (62 : Int32) = nI 62 from rfl, restM (by omega), Option.bind_some, nI1, if_neg e, ite10])
    exact ⟨r, h1, h2, hI⟩
/-- more pigeons than holes -/
theorem pigeon : ∀ (m n : Nat) (f : Nat → Nat), (∀ i, i < n → f i < m) → (∀ i j, i < j → j < n → ¬ f i = f j) → n ≤ m := by
  intro m
  induction m with
  | zero =>
    intro n f h _
    cases n with
    | zero => exact Nat.le_refl _
    | succ n => exact absurd (h 0 (by omega)) (by omega)
  | succ m ih =>
    intro n f h hd
    by_cases hx : ∃ i, i < n ∧ f i = m
    · obtain ⟨q, hq, eq⟩ := hx
      have := ih (n - 1) (fun i => if i < q then f i else f (i + 1)) (by
        intro i hi
        by_cases hl : i < q
        · rw [if_pos hl]
          have h1 := h i (by omega)
          have h2 := hd i q hl hq
          omega
        · rw [if_neg hl]
          have h1 := h (i + 1) (by omega)
          have h2 := hd q (i + 1) (by omega) (by omega)
          omega) (by
        intro i j hij hj
        by_cases hl : j < q
        · rw [if_pos hl, if_pos (show i < q by omega)]; exact hd i j hij (by omega)
        · rw [if_neg hl]
          by_cases hl2 : i < q
          · rw [if_pos hl2]; exact hd i (j + 1) (by omega) (by omega)
          · rw [if_neg hl2]; exact hd (i + 1) (j + 1) (by omega) (by omega))
      omega
    · have := ih n f (by
        intro i hi
        have h1 := h i hi
        have h2 : ¬ f i = m := fun e => hx ⟨i, hi, e⟩
        omega) hd
      omega
theorem pigeon2 {m : Nat} {f : Nat → Nat} (h : ∀ i, f i < m) : ∃ j, j ≤ m ∧ ∃ i, i < j ∧ f i = f j := by
  by_cases hx : ∃ j, j ≤ m ∧ ∃ i, i < j ∧ f i = f j
  · exact hx
  · have := pigeon m (m + 1) f (fun i _ => h i) (fun i j hij hj e => hx ⟨j, by omega, i, hij, e⟩)
    omega
theorem seq_shift {x f : Nat → Nat} (hx : ∀ k, x (k + 1) = f (x k)) {i j : Nat} (h : x i = x j) : ∀ t, x (i + t) = x (j + t) := by
  intro t
  induction t with
  | zero => exact h
  | succ t ih => rw [← Nat.add_assoc, ← Nat.add_assoc, hx, hx, ih]
theorem seq_per {x f : Nat → Nat} (hx : ∀ k, x (k + 1) = f (x k)) {i p : Nat} (h : x (i + p) = x i) : ∀ m t, x (i + m * p + t) = x (i + t) := by
  intro m
  induction m with
  | zero => intro t; rw [Nat.zero_mul, Nat.add_zero]
  | succ m ih =>
    intro t
    have h1 := seq_shift hx h (m * p + t)
    rw [show i + (m + 1) * p + t = i + p + (m * p + t) by rw [Nat.succ_mul]; omega, h1, ← Nat.add_assoc, ih t]
def io (lw : Nat → Int32) (a : Int32) (v : Nat) : Nat → Nat
  | 0 => v
  | k + 1 => IA lw (io lw a v k) a
theorem io_lt {lw : Nat → Int32} {a : Int32} {v : Nat} (h : v < 64) : ∀ k, io lw a v k < 64 := by
  intro k
  cases k with
  | zero => exact h
  | succ k => exact IA_lt
theorem io_64 {lw : Nat → Int32} {a : Int32} {v : Nat} (hv : v < 64) (h : ∀ k, k < 64 → ¬ reB lw a (io lw a v k) = true) : ¬ reB lw a (io lw a v 64) = true := by
  intro h64
  have e64 : IA lw (io lw a v 64) a = io lw a v 64 := of_decide_eq_true h64
  have hx : ∀ k, io lw a v (k + 1) = (fun w => IA lw w a) (io lw a v k) := fun k => rfl
  have hc : ∀ t, io lw a v (64 + t) = io lw a v 64 := by
    intro t
    induction t with
    | zero => rfl
    | succ t ih => rw [← Nat.add_assoc, hx, ih]; exact e64
  obtain ⟨j, hj, i, hij, e⟩ := pigeon2 (m := 64) (f := io lw a v) (io_lt hv)
  have e2 := seq_per (f := fun w => IA lw w a) hx (i := i) (p := j - i) (by rw [show i + (j - i) = j by omega]; exact e.symm) 64 0
  have h1 : 64 ≤ i + 64 * (j - i) + 0 := by omega
  have e3 := hc (i + 64 * (j - i) + 0 - 64)
  rw [show 64 + (i + 64 * (j - i) + 0 - 64) = i + 64 * (j - i) + 0 by omega, e2, Nat.add_zero] at e3
  apply h i (by omega)
  rw [e3]; exact h64
theorem settle_n {lw : Nat → Int32} {a : Int32} {v : Nat} (hv : v < 64) : ∃ o : Option Nat, (∀ w, o = some w → w < 64) ∧ f_X3_settled lw (nI v) a = some (enc9 o) ∧ f_X11_settleOf lw (nI v) a = some (enc9 o) := by
  have bX : ∀ k, k < 64 → f_X3_settled_b5 lw a (nI (io lw a v k)) (nI k) = if reB lw a (io lw a v k) = true then some (.inr (.inr (nI (io lw a v k)))) else some (.inl (nI (io lw a v (k + 1)), nI (k + 1))) := by
    intro k hk
    have ho := io_lt (lw := lw) (a := a) hv k
    have hl := IA_lt (lw := lw) (v := io lw a v k) (a := a)
    unfold f_X3_settled_b5
    rw [if_neg (show ¬ (63 : Int32) < nI k from nI_nlt (a := 63) (by omega) (by omega)), iceX ho, Option.bind_some, nI1]
    by_cases hr : IA lw (io lw a v k) a = io lw a v k
    · rw [if_pos (by rw [hr]), if_pos (show reB lw a (io lw a v k) = true from decide_eq_true hr)]
    · rw [if_neg (fun q => hr ((nI_eq (by omega) (by omega)).mp q)), if_neg (show ¬ reB lw a (io lw a v k) = true from fun q => hr (of_decide_eq_true q))]
      rfl
  have bM : ∀ k, k < 65 → f_X11_settleOf_b5 lw a (nI (io lw a v k)) (nI k) = if reB lw a (io lw a v k) = true then some (.inr (.inr (nI (io lw a v k)))) else some (.inl (nI (io lw a v (k + 1)), nI (k + 1))) := by
    intro k hk
    have ho := io_lt (lw := lw) (a := a) hv k
    unfold f_X11_settleOf_b5
    rw [if_neg (nleL 65 65 rfl hk (by omega)), restM ho, Option.bind_some, ite10, iceM ho, Option.bind_some, nI1]
    rfl
  unfold f_X3_settled f_X11_settleOf
  by_cases hx : ∃ k, k < 64 ∧ reB lw a (io lw a v k) = true
  · obtain ⟨K, ⟨hK, h1⟩, h2⟩ := pk_least (fun k => k < 64 ∧ reB lw a (io lw a v k) = true) hx
    have h3 : ∀ k, k < K → ¬ reB lw a (io lw a v k) = true := fun k hk q => h2 k hk ⟨by omega, q⟩
    refine ⟨some (io lw a v K), fun w e => by cases e; exact io_lt hv K, ?_, ?_⟩
    · refine lp_bd (fun k => (nI (io lw a v k), nI k)) (Sum.inr (nI (io lw a v K))) K (FU_lt (by omega)) rfl rfl ?_ ?_
      · intro k hk
        show f_X3_settled_b5 lw a (nI (io lw a v k)) (nI k) = _
        rw [bX k (by omega), if_neg (h3 k hk)]
      · show f_X3_settled_b5 lw a (nI (io lw a v K)) (nI K) = _
        rw [bX K hK, if_pos h1]
    · refine lp_bd (fun k => (nI (io lw a v k), nI k)) (Sum.inr (nI (io lw a v K))) K (FU_lt (by omega)) rfl rfl ?_ ?_
      · intro k hk
        show f_X11_settleOf_b5 lw a (nI (io lw a v k)) (nI k) = _
        rw [bM k (by omega), if_neg (h3 k hk)]
      · show f_X11_settleOf_b5 lw a (nI (io lw a v K)) (nI K) = _
        rw [bM K (by omega), if_pos h1]
  · have h3 : ∀ k, k < 64 → ¬ reB lw a (io lw a v k) = true := fun k hk q => hx ⟨k, hk, q⟩
    refine ⟨none, (fun w e => by cases e), ?_, ?_⟩
    · refine lp_bd (fun k => (nI (io lw a v k), nI k)) (Sum.inl ()) 64 (FU_lt (by omega)) rfl rfl ?_ ?_
      · intro k hk
        show f_X3_settled_b5 lw a (nI (io lw a v k)) (nI k) = _
        rw [bX k (by omega), if_neg (h3 k hk)]
      · show f_X3_settled_b5 lw a _ (nI 64) = _
        unfold f_X3_settled_b5
        rw [if_pos (by decide)]
    · refine lp_bd (fun k => (nI (io lw a v k), nI k)) (Sum.inl ()) 65 (FU_lt (by omega)) rfl rfl ?_ ?_
      · intro k hk
        show f_X11_settleOf_b5 lw a (nI (io lw a v k)) (nI k) = _
        rw [bM k hk, if_neg]
        by_cases e : k = 64
        · rw [e]; exact io_64 hv h3
        · exact h3 k (by omega)
      · show f_X11_settleOf_b5 lw a _ (nI 65) = _
        unfold f_X11_settleOf_b5
        rw [if_pos (by decide)]
theorem st_settle : St_settle := by
  intro tx tl lw ice mk wt bd s6 s8 s7 s1 s5 s2 u0 u1 sm kz kb km kw a1 a2 hI
  simp only [f_X10_settle, f_X11_settle, isIce_n, isAir_n, mEarth_n, Option.bind_some, ite10]
  by_cases h2 : (0 : Int32) ≤ a1 ∧ a1 ≤ 63
  rotate_left
  · rw [if_neg h2, if_neg (fun q => h2 q.1)]; exact ⟨-2, rfl, rfl, hI⟩
  by_cases h3 : (0 : Int32) ≤ a2 ∧ a2 ≤ 99
  rotate_left
  · rw [if_pos h2, if_neg h3, if_neg (fun q => h3 q.2)]; exact ⟨-2, rfl, rfl, hI⟩
  rw [if_pos h2, if_pos h3, if_pos ⟨h2, h3⟩]
  obtain ⟨v, hv, rfl⟩ := rg 63 (by omega) rfl h2
  obtain ⟨o, _, e1, e2⟩ := settle_n (lw := lw) (a := a2) (v := v) (by omega)
  rw [e1, e2]
  exact ⟨_, rfl, rfl, hI⟩
/-! ===== the curve ===== -/
def sO (lw : Nat → Int32) (v : Nat) (a : Int32) : Option Nat := match f_X3_settled lw (nI v) a with
  | some r => if r = -9 then none else some r.toNatClampNeg
  | none => none
theorem sO_n {lw : Nat → Int32} {a : Int32} {v : Nat} (hv : v < 64) : (∀ w, sO lw v a = some w → w < 64) ∧ f_X3_settled lw (nI v) a = some (enc9 (sO lw v a)) ∧ f_X11_settleOf lw (nI v) a = some (enc9 (sO lw v a)) := by
  obtain ⟨o, h1, e1, e2⟩ := settle_n (lw := lw) (a := a) (v := v) hv
  have h : sO lw v a = o := by
    unfold sO
    rw [e1]
    cases o with
    | none => rfl
    | some w =>
      have hw := h1 w rfl
      show (if nI w = -9 then none else some (nI w).toNatClampNeg) = some w
      rw [if_neg (nI_m9 (by omega)), nI_clamp (by omega)]
  rw [h]
  exact ⟨h1, e1, e2⟩
def jpB (w w' : Nat) : Bool := decide (2 ≤ dsN (onN w) (onN w'))
theorem jp_49 : ∀ a, a < 7 → ∀ b, b < 7 → (((if (0 : Int32) ≤ (nI a - nI b) then (nI a - nI b) else (0 : Int32) - (nI a - nI b)) < 2) ↔ ¬ 2 ≤ dsN a b) ∧ ((1 < nI b - nI a ∨ ¬ (-1 : Int32) ≤ nI b - nI a) ↔ 2 ≤ dsN a b) := by decide +kernel
theorem onN_lt (v : Nat) : onN v < 7 := by
  have := rsN_le (g := fun i => bN v i) (fun i => by have := bN_lt v i; show bN v i ≤ 1; omega) 6
  unfold onN; omega
theorem jumpX {w w' : Nat} (h : w < 64) (h' : w' < 64) : f_X1_isJump (nI w) (nI w') = some (if jpB w w' = true then 1 else 0) := by
  unfold f_X1_isJump
  rw [on_64 w h, on_64 w' h', Option.bind_some, Option.bind_some]
  have h1 := (jp_49 (onN w) (onN_lt w) (onN w') (onN_lt w')).1
  by_cases hj : 2 ≤ dsN (onN w) (onN w')
  · rw [if_neg (fun q => h1.mp q hj), if_pos (show jpB w w' = true from decide_eq_true hj)]
  · rw [if_pos (h1.mpr hj), if_neg (show ¬ jpB w w' = true from fun q => hj (of_decide_eq_true q))]
def cE (lw : Nat → Int32) (v : Nat) (p : Nat → Int32) : Nat → Option Nat
  | 0 => some v
  | k + 1 => match cE lw v p k with
    | none => none
    | some w => sO lw w (p k)
theorem cE_lt {lw : Nat → Int32} {v : Nat} {p : Nat → Int32} (hv : v < 64) : ∀ k w, cE lw v p k = some w → w < 64 := by
  intro k
  induction k with
  | zero => intro w e; cases e; exact hv
  | succ k ih =>
    intro w e
    unfold cE at e
    cases hk : cE lw v p k with
    | none => rw [hk] at e; cases e
    | some w0 =>
      rw [hk] at e
      exact (sO_n (ih w0 hk)).1 w e
def jB (lw : Nat → Int32) (v : Nat) (p : Nat → Int32) (k : Nat) : Bool := match cE lw v p k, cE lw v p (k + 1) with
  | some w, some w' => jpB w w'
  | _, _ => false
def cA (lw : Nat → Int32) (v : Nat) (p : Nat → Int32) (f : Nat → Int32) : Nat → Nat → Int32
  | 0 => f
  | k + 1 => if jB lw v p k = true then upd (cA lw v p f k) (cn (jB lw v p) k) (p k) else cA lw v p f k
theorem cA_eq {lw : Nat → Int32} {v : Nat} {p f g : Nat → Int32} : ∀ k j, j < cn (jB lw v p) k → cA lw v p f k j = cA lw v p g k j := by
  intro k
  induction k with
  | zero => intro j h; exact absurd h (Nat.not_lt_zero j)
  | succ k ih =>
    intro j h
    unfold cn at h
    unfold cA
    by_cases hj : jB lw v p k = true
    · rw [if_pos hj] at h ⊢
      rw [if_pos hj]
      by_cases e : j = cn (jB lw v p) k
      · subst e; rw [pk_us, pk_us]
      · rw [pk_un e, pk_un e]; exact ih j (by omega)
    · rw [if_neg hj] at h ⊢
      rw [if_neg hj]; exact ih j (by omega)
theorem add_n {f : Nat → Int32} {c : Nat} {x : Int32} (hc : c < 100) : f_X1_add f (nI c) x = some (upd f c x, nI (c + 1)) := by
  unfold f_X1_add
  rw [if_neg (nleL 100 100 rfl hc (by omega)), gd_n hc (by omega), nI_clamp (by omega), nI1]
theorem curve_n {lw f g : Nat → Int32} {v p q : Nat} (hv : v < 64) (hp : p < 100) (hq : q < 100) : ∃ (pp : Nat → Int32) (K : Nat), K ≤ 100 ∧ f_X1_follow f lw (nI v) (nI p) (nI q) = some (cA lw v pp f K, nI (cn (jB lw v pp) K), enc9 (cE lw v pp K)) ∧ f_X11_layCurve lw g (nI v) (nI p) (nI q) = some (cA lw v pp g K, nI (cn (jB lw v pp) K), enc9 (cE lw v pp K)) := by
  have main : ∀ (k0 : Int32) (D : Nat), D < 100 → (∀ k, k ≤ D → (nI p + k0 * nI k = nI q ↔ k = D)) → (if (0 : Int32) ≤ (nI q - nI p) then (nI q - nI p) else (0 : Int32) - (nI q - nI p)) = nI D → ∃ (pp : Nat → Int32) (K : Nat), K ≤ 100 ∧ f_X1_follow_j11 lw (nI v) (nI p) (nI q) k0 f = some (cA lw v pp f K, nI (cn (jB lw v pp) K), enc9 (cE lw v pp K)) ∧ f_X11_layCurve_j20 lw (nI p) (nI q) k0 g (0 : Int32) (nI v) = some (cA lw v pp g K, nI (cn (jB lw v pp) K), enc9 (cE lw v pp K)) := by
    intro k0 D hD hpos hu
    let pp : Nat → Int32 := fun k => nI p + k0 * nI k
    obtain ⟨K, hK1, hK2⟩ := pk_least (fun k => k = D + 1 ∨ cE lw v pp k = none) ⟨D + 1, Or.inl rfl⟩
    have hKD : K ≤ D + 1 := by
      by_cases h : K ≤ D + 1
      · exact h
      · exact absurd (Or.inl rfl) (hK2 (D + 1) (by omega))
    have hs : ∀ k, k < K → k ≤ D ∧ ∃ w, cE lw v pp k = some w ∧ w < 64 := by
      intro k hk
      refine ⟨?_, ?_⟩
      · have := hK2 k hk; by_cases h : k ≤ D
        · exact h
        · omega
      · cases hc : cE lw v pp k with
        | none => exact absurd (Or.inr hc) (hK2 k hk)
        | some w => exact ⟨w, rfl, cE_lt hv k w hc⟩
    have hcn : ∀ k, cn (jB lw v pp) k ≤ k := cn_le_n _
    have ppS : ∀ k, pp (k + 1) = pp k + k0 := by
      intro k
      show nI p + k0 * nI (k + 1) = nI p + k0 * nI k + k0
      rw [← nI1, Int32.mul_add, Int32.mul_one, Int32.add_assoc]
    have stepX : ∀ k, k < K → f_X1_follow_b35 lw (nI p) k0 (nI D) (nI k) (cA lw v pp f k) (nI (cn (jB lw v pp) k)) (enc9 (cE lw v pp k)) = some (.inl (nI (k + 1), cA lw v pp f (k + 1), nI (cn (jB lw v pp) (k + 1)), enc9 (cE lw v pp (k + 1)))) := by
      intro k hk
      obtain ⟨hk1, w, hw, hw64⟩ := hs k hk
      have hc := hcn k
      have e1 : cE lw v pp (k + 1) = sO lw w (pp k) := by unfold cE; rw [hw]
      unfold f_X1_follow_b35
      rw [if_neg (nI_nlt (by omega) (by omega)), if_neg (show ¬ enc9 (cE lw v pp k) = -9 by rw [hw]; exact nI_m9 (by omega))]
      have eset : f_X3_settled lw (enc9 (cE lw v pp k)) (nI p + k0 * nI k) = some (enc9 (cE lw v pp (k + 1))) := by
        rw [hw, e1]; exact (sO_n hw64).2.1
      rw [eset, Option.bind_some]
      cases hn : cE lw v pp (k + 1) with
      | none =>
        have hj : ¬ jB lw v pp k = true := by unfold jB; rw [hw, hn]; exact Bool.false_ne_true
        rw [if_pos (show enc9 none = -9 from rfl)]
        simp only [f_X1_follow_j98, nI1, cA, cn, if_neg hj]
        rfl
      | some w' =>
        have hw' := cE_lt hv (k + 1) w' hn
        have hj : jB lw v pp k = jpB w w' := by unfold jB; rw [hw, hn]
        rw [if_neg (show ¬ enc9 (some w') = -9 from nI_m9 (by omega))]
        have ej : f_X1_isJump (enc9 (cE lw v pp k)) (enc9 (some w')) = some (if jpB w w' = true then 1 else 0) := by rw [hw]; exact jumpX hw64 hw'
        rw [ej, Option.bind_some, ite10, add_n (by omega), Option.bind_some]
        simp only [f_X1_follow_j98, nI1, cA, cn, hj]
        by_cases hjj : jpB w w' = true
        · simp only [if_pos hjj]; rfl
        · simp only [if_neg hjj]; rfl
    have endX : f_X1_follow_b35 lw (nI p) k0 (nI D) (nI K) (cA lw v pp f K) (nI (cn (jB lw v pp) K)) (enc9 (cE lw v pp K)) = some (.inr (cA lw v pp f K, nI (cn (jB lw v pp) K), enc9 (cE lw v pp K))) := by
      unfold f_X1_follow_b35
      rcases hK1 with h | h
      · rw [if_pos (nI_lt (by omega) (by omega))]
      · by_cases hlt : nI D < nI K
        · rw [if_pos hlt]
        · rw [if_neg hlt, if_pos (show enc9 (cE lw v pp K) = -9 by rw [h]; rfl)]
    refine ⟨pp, K, by omega, ?_, ?_⟩
    · unfold f_X1_follow_j11
      rw [hu, Option.bind_some]
      exact lp_bd (fun k => (nI k, cA lw v pp f k, nI (cn (jB lw v pp) k), enc9 (cE lw v pp k))) (cA lw v pp f K, nI (cn (jB lw v pp) K), enc9 (cE lw v pp K)) K (FU_lt (by omega)) rfl rfl stepX endX
    · have bodyM : ∀ k, k < K → f_X11_layCurve_b28 lw (nI q) k0 1 (pp k) (cA lw v pp g k) (nI (cn (jB lw v pp) k)) (enc9 (cE lw v pp k)) = if cE lw v pp (k + 1) = none then some (.inr (.inr (cA lw v pp g (k + 1), nI (cn (jB lw v pp) (k + 1)), enc9 (cE lw v pp (k + 1))))) else some (.inl ((if k = D then 0 else 1), pp (k + 1), cA lw v pp g (k + 1), nI (cn (jB lw v pp) (k + 1)), enc9 (cE lw v pp (k + 1)))) := by
        intro k hk
        obtain ⟨hk1, w, hw, hw64⟩ := hs k hk
        have hc := hcn k
        have e1 : cE lw v pp (k + 1) = sO lw w (pp k) := by unfold cE; rw [hw]
        unfold f_X11_layCurve_b28
        rw [if_neg (show ¬ (1 : Int32) = 0 by decide)]
        have eset : f_X11_settleOf lw (enc9 (cE lw v pp k)) (pp k) = some (enc9 (cE lw v pp (k + 1))) := by
          rw [hw, e1]; exact (sO_n hw64).2.2
        rw [eset, Option.bind_some]
        cases hn : cE lw v pp (k + 1) with
        | none =>
          have hj : ¬ jB lw v pp k = true := by unfold jB; rw [hw, hn]; exact Bool.false_ne_true
          rw [if_pos (show enc9 none = -9 from rfl), if_pos rfl]
          simp only [cA, cn, if_neg hj]
          rfl
        | some w' =>
          have hw' := cE_lt hv (k + 1) w' hn
          have hj : jB lw v pp k = jpB w w' := by unfold jB; rw [hw, hn]
          rw [if_neg (show ¬ enc9 (some w') = -9 from nI_m9 (by omega)), if_neg (show ¬ (some w') = none by simp)]
          have eo1 : f_X11_ones (enc9 (some w')) = some (nI (onN w')) := onesM hw'
          have eo2 : f_X11_ones (enc9 (cE lw v pp k)) = some (nI (onN w)) := by rw [hw]; exact onesM hw64
          rw [eo1, eo2, Option.bind_some, Option.bind_some]
          simp only [f_X11_layCurve_j86]
          rw [gd_n (by omega) (by omega), nI_clamp (by omega), nI1]
          have h49 := (jp_49 (onN w) (onN_lt w) (onN w') (onN_lt w')).2
          have efin : ∀ (A : Nat → Int32) (m : Int32), f_X11_layCurve_j107 (nI q) k0 (pp k) (enc9 (some w')) A m = some (.inl ((if k = D then 0 else 1), pp (k + 1), A, m, enc9 (some w'))) := by
            intro A m
            unfold f_X11_layCurve_j107
            rw [ppS]
            by_cases hkD : k = D
            · rw [if_pos ((hpos k hk1).mpr hkD), if_pos hkD]
            · rw [if_neg (fun e => hkD ((hpos k hk1).mp e)), if_neg hkD]
          rw [efin, efin]
          simp only [cA, cn, hj]
          by_cases hjj : jpB w w' = true
          · simp only [if_pos hjj]
            rcases h49.mpr (of_decide_eq_true hjj) with h | h
            · rw [if_pos h]
            · by_cases h1 : 1 < nI (onN w') - nI (onN w)
              · rw [if_pos h1]
              · rw [if_neg h1, if_neg h]
          · simp only [if_neg hjj]
            have hno := fun q => hjj (decide_eq_true (h49.mp q))
            rw [if_neg (fun q => hno (Or.inl q))]
            by_cases h1 : (-1 : Int32) ≤ nI (onN w') - nI (onN w)
            · rw [if_pos h1]; rfl
            · exact absurd (Or.inr h1) hno
      unfold f_X11_layCurve_j20
      have hp0 : pp 0 = nI p := by
        show nI p + k0 * nI 0 = nI p
        rw [show nI 0 = (0 : Int32) from rfl, Int32.mul_zero, Int32.add_zero]
      by_cases hKn : cE lw v pp K = none
      · have hK0 : K ≠ 0 := by intro e; rw [e] at hKn; cases hKn
        obtain ⟨J, rfl⟩ : ∃ J, K = J + 1 := ⟨K - 1, by omega⟩
        refine lp_bd (fun k => ((1 : Int32), pp k, cA lw v pp g k, nI (cn (jB lw v pp) k), enc9 (cE lw v pp k))) (Sum.inr (cA lw v pp g (J + 1), nI (cn (jB lw v pp) (J + 1)), enc9 (cE lw v pp (J + 1)))) J (FU_lt (by omega)) (by rw [hp0]; rfl) rfl ?_ ?_
        · intro k hk
          show f_X11_layCurve_b28 lw (nI q) k0 1 (pp k) (cA lw v pp g k) (nI (cn (jB lw v pp) k)) (enc9 (cE lw v pp k)) = _
          obtain ⟨_, w, hw, _⟩ := hs (k + 1) (by omega)
          have := (hs (k + 1) (by omega)).1
          rw [bodyM k (by omega), if_neg (by rw [hw]; simp), if_neg (by omega)]
        · show f_X11_layCurve_b28 lw (nI q) k0 1 (pp J) (cA lw v pp g J) (nI (cn (jB lw v pp) J)) (enc9 (cE lw v pp J)) = _
          rw [bodyM J (by omega), if_pos hKn]
      · have hKD1 : K = D + 1 := hK1.resolve_right hKn
        refine lp_bd (fun k => ((if k = D + 1 then (0 : Int32) else 1), pp k, cA lw v pp g k, nI (cn (jB lw v pp) k), enc9 (cE lw v pp k))) (Sum.inl (cA lw v pp g K, nI (cn (jB lw v pp) K), enc9 (cE lw v pp K))) K (FU_lt (by omega)) (by rw [hp0]; rfl) rfl ?_ ?_
        · intro k hk
          show f_X11_layCurve_b28 lw (nI q) k0 (if k = D + 1 then (0 : Int32) else 1) (pp k) (cA lw v pp g k) (nI (cn (jB lw v pp) k)) (enc9 (cE lw v pp k)) = _
          have hne : ¬ cE lw v pp (k + 1) = none := by
            by_cases e : k + 1 = K
            · rw [e]; exact hKn
            · obtain ⟨_, w, hw, _⟩ := hs (k + 1) (by omega)
              rw [hw]; simp
          rw [if_neg (show ¬ k = D + 1 by omega), bodyM k hk, if_neg hne]
          by_cases hkD : k = D
          · rw [if_pos hkD]; rw [if_pos (show k + 1 = D + 1 by omega)]
          · rw [if_neg hkD]; rw [if_neg (show ¬ k + 1 = D + 1 by omega)]
        · show f_X11_layCurve_b28 lw (nI q) k0 (if K = D + 1 then (0 : Int32) else 1) (pp K) (cA lw v pp g K) (nI (cn (jB lw v pp) K)) (enc9 (cE lw v pp K)) = _
          rw [if_pos hKD1]
          unfold f_X11_layCurve_b28
          rw [if_pos rfl]
  unfold f_X1_follow f_X11_layCurve
  by_cases h : p ≤ q
  · rw [if_pos (nI_le h (by omega)), if_pos (nI_le h (by omega))]
    refine main 1 (q - p) (by omega) ?_ ?_
    · intro k hk
      rw [Int32.one_mul, nI_add, nI_eq (by omega) (by omega)]; omega
    · rw [pk_sub h, if_pos (nI_pos' (by omega))]
  · rw [if_neg (nI_ge (by omega) (by omega)), if_neg (nI_ge (by omega) (by omega))]
    refine main (-1) (p - q) (by omega) ?_ ?_
    · intro k hk
      rw [Int32.neg_mul, Int32.one_mul, ← Int32.sub_eq_add_neg, pk_sub (by omega), nI_eq (by omega) (by omega)]; omega
    · rw [if_neg (Int32.not_le.mpr (pk_sneg (by omega) (by omega))), Int32.zero_sub, Int32.neg_sub, pk_sub (by omega)]
theorem st_jumps : St_jumps := by
  intro tx tl lw ice mk wt bd s6 s8 s7 s1 s5 s2 u0 u1 sm kz kb km kw a1 a2 a3 hI
  simp only [f_X10_jumps, f_X11_jumps, isIce_n, isAir_n, mEarth_n, in_0_99, Option.bind_some, ite10]
  by_cases h2 : (0 : Int32) ≤ a1 ∧ a1 ≤ 63
  rotate_left
  · rw [if_neg h2, if_neg (fun q => h2 q.1)]; exact ⟨-2, _, _, _, _, _, _, rfl, rfl, hI⟩
  by_cases h3 : (0 : Int32) ≤ a2 ∧ a2 ≤ 99
  rotate_left
  · rw [if_pos h2, if_neg h3, if_neg (fun q => h3 q.2)]; exact ⟨-2, _, _, _, _, _, _, rfl, rfl, hI⟩
  rw [if_pos h2, if_pos h3, if_pos (show ((0 : Int32) ≤ a1 ∧ a1 ≤ 63) ∧ ((0 : Int32) ≤ a2 ∧ a2 ≤ 99) from ⟨h2, h3⟩)]
  by_cases h4 : (0 : Int32) ≤ a3 ∧ a3 ≤ 99
  rotate_left
  · rw [if_neg h4, if_neg h4]; exact ⟨-2, _, _, _, _, _, _, rfl, rfl, hI⟩
  rw [if_pos h4, if_pos h4]
  obtain ⟨v, hv, rfl⟩ := rg 63 (by omega) rfl h2
  obtain ⟨p, hp, rfl⟩ := rg 99 (by omega) rfl h3
  obtain ⟨q, hq, rfl⟩ := rg 99 (by omega) rfl h4
  obtain ⟨pp, K, hK, e1, e2⟩ := curve_n (lw := lw) (f := s1.1) (g := sm.2.2.2.2.2.2.2.2.2.2.2.1) (v := v) (p := p) (q := q) (by omega) (by omega) (by omega)
  rw [e1, e2]
  exact ⟨_, _, _, _, _, _, _, rfl, rfl, hI⟩
theorem st_curve : St_curve := by
  intro tx tl lw ice mk wt bd s6 s8 s7 s1 s5 s2 u0 u1 sm kz kb km kw a1 a2 a3 hI
  simp only [f_X10_curve, f_X11_curve, isIce_n, isAir_n, mEarth_n, in_0_99, Option.bind_some, ite10]
  by_cases h2 : (0 : Int32) ≤ a1 ∧ a1 ≤ 63
  rotate_left
  · rw [if_neg h2, if_neg (fun q => h2 q.1)]; exact ⟨-2, _, _, _, _, _, _, rfl, rfl, hI⟩
  by_cases h3 : (0 : Int32) ≤ a2 ∧ a2 ≤ 99
  rotate_left
  · rw [if_pos h2, if_neg h3, if_neg (fun q => h3 q.2)]; exact ⟨-2, _, _, _, _, _, _, rfl, rfl, hI⟩
  rw [if_pos h2, if_pos h3, if_pos (show ((0 : Int32) ≤ a1 ∧ a1 ≤ 63) ∧ ((0 : Int32) ≤ a2 ∧ a2 ≤ 99) from ⟨h2, h3⟩)]
  by_cases h4 : (0 : Int32) ≤ a3 ∧ a3 ≤ 99
  rotate_left
  · rw [if_neg h4, if_neg h4]; exact ⟨-2, _, _, _, _, _, _, rfl, rfl, hI⟩
  rw [if_pos h4, if_pos h4]
  obtain ⟨v, hv, rfl⟩ := rg 63 (by omega) rfl h2
  obtain ⟨p, hp, rfl⟩ := rg 99 (by omega) rfl h3
  obtain ⟨q, hq, rfl⟩ := rg 99 (by omega) rfl h4
  obtain ⟨pp, K, hK, e1, e2⟩ := curve_n (lw := lw) (f := s1.1) (g := sm.2.2.2.2.2.2.2.2.2.2.2.1) (v := v) (p := p) (q := q) (by omega) (by omega) (by omega)
  rw [e1, e2]
  exact ⟨_, _, _, _, _, _, _, rfl, rfl, hI⟩
theorem in_iff {n : Nat} (hn : n < 1000000) (a : Int32) : ((0 : Int32) ≤ a ∧ a ≤ nI n - 1) ↔ ∃ k : Nat, k < n ∧ a = nI k := by
  constructor
  · intro h
    obtain ⟨k, hk, e⟩ := nI_of (Int32.not_lt.mpr h.1)
    subst e
    refine ⟨k, ?_, rfl⟩
    have h2 := h.2
    rw [show (1 : Int32) = nI 1 from rfl, Int32.le_iff_toInt_le, pk_sub_toInt (by omega) (by omega), nI_toInt hk] at h2
    omega
  · rintro ⟨k, hk, rfl⟩
    refine ⟨nI_pos' (by omega), ?_⟩
    rw [show (1 : Int32) = nI 1 from rfl, Int32.le_iff_toInt_le, pk_sub_toInt (by omega) (by omega), nI_toInt (by omega)]
    omega
theorem st_jump : St_jump := by
  intro tx tl lw ice mk wt bd s6 s8 s7 s1 s5 s2 u0 u1 sm kz kb km kw a1 a2 a3 a4 hI
  simp only [f_X10_jump, f_X11_jump, isIce_n, isAir_n, mEarth_n, in_0_99, Option.bind_some, ite10]
  by_cases h2 : (0 : Int32) ≤ a1 ∧ a1 ≤ 63
  rotate_left
  · rw [if_neg h2, if_neg (fun q => h2 q.1)]; exact ⟨-2, _, _, _, _, _, _, rfl, rfl, hI⟩
  by_cases h3 : (0 : Int32) ≤ a2 ∧ a2 ≤ 99
  rotate_left
  · rw [if_pos h2, if_neg h3, if_neg (fun q => h3 q.2)]; exact ⟨-2, _, _, _, _, _, _, rfl, rfl, hI⟩
  rw [if_pos h2, if_pos h3, if_pos (show ((0 : Int32) ≤ a1 ∧ a1 ≤ 63) ∧ ((0 : Int32) ≤ a2 ∧ a2 ≤ 99) from ⟨h2, h3⟩)]
  by_cases h4 : (0 : Int32) ≤ a3 ∧ a3 ≤ 99
  rotate_left
  · rw [if_neg h4, if_neg h4]; exact ⟨-2, _, _, _, _, _, _, rfl, rfl, hI⟩
  rw [if_pos h4, if_pos h4]
  obtain ⟨v, hv, rfl⟩ := rg 63 (by omega) rfl h2
  obtain ⟨p, hp, rfl⟩ := rg 99 (by omega) rfl h3
  obtain ⟨q, hq, rfl⟩ := rg 99 (by omega) rfl h4
  obtain ⟨pp, K, hK, e1, e2⟩ := curve_n (lw := lw) (f := s1.1) (g := sm.2.2.2.2.2.2.2.2.2.2.2.1) (v := v) (p := p) (q := q) (by omega) (by omega) (by omega)
  rw [e1, e2]
  simp only [Option.bind_some, f_X1_airOf, within_n, in_0_x, ite10]
  have hc := cn_le_n (jB lw v pp) K
  by_cases h5 : (0 : Int32) ≤ a4 ∧ a4 ≤ nI (cn (jB lw v pp) K) - 1
  · obtain ⟨j, hj, rfl⟩ := (in_iff (by omega) a4).mp h5
    rw [if_pos h5, if_pos h5, gd_n (by omega) (by omega), gd_n (by omega) (by omega), nI_clamp (by omega), cA_eq (f := s1.1) (g := sm.2.2.2.2.2.2.2.2.2.2.2.1) K j hj]
    exact ⟨_, _, _, _, _, _, _, rfl, rfl, hI⟩
  · rw [if_neg h5, if_neg h5]
    exact ⟨-9, _, _, _, _, _, _, rfl, rfl, hI⟩
