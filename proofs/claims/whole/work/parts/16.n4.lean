/-! ===== runs: after, run, till ===== -/
/-- the first return -/
def Ret (lw : Nat → Int32) (st L M : Nat) : Prop := L ≤ 6400 ∧ M < L ∧ ob lw st M = ob lw st L ∧ ∀ i j, i < j → j < L → ¬ ob lw st i = ob lw st j
theorem Ret.hL {lw : Nat → Int32} {st L M : Nat} (h : Ret lw st L M) : L ≤ 6400 := h.1
theorem Ret.hM {lw : Nat → Int32} {st L M : Nat} (h : Ret lw st L M) : M < L := h.2.1
theorem Ret.eq {lw : Nat → Int32} {st L M : Nat} (h : Ret lw st L M) : ob lw st M = ob lw st L := h.2.2.1
theorem Ret.inj {lw : Nat → Int32} {st L M : Nat} (h : Ret lw st L M) : ∀ i j, i < j → j < L → ¬ ob lw st i = ob lw st j := h.2.2.2
theorem ret_ex {lw : Nat → Int32} {st : Nat} (h : st < 6400) : ∃ L M, Ret lw st L M := by
  obtain ⟨j, hj, i, hij, e⟩ := pigeon2 (m := 6400) (f := ob lw st) (ob_lt h)
  obtain ⟨L, ⟨hL, M, hM, eM⟩, h2⟩ := pk_least (fun j => j ≤ 6400 ∧ ∃ i, i < j ∧ ob lw st i = ob lw st j) ⟨j, hj, i, hij, e⟩
  exact ⟨L, M, hL, hM, eM, fun i j hij hj e => h2 j hj ⟨by omega, i, hij, e⟩⟩
def stA (lw f : Nat → Int32) (st : Nat) : Nat → Nat → Int32
  | 0 => f
  | k + 1 => upd (stA lw f st k) k (nI (ob lw st k))
theorem stA_at {lw f : Nat → Int32} {st : Nat} : ∀ n k, k < n → stA lw f st n k = nI (ob lw st k) := by
  intro n
  induction n with
  | zero => intro k h; omega
  | succ n ih =>
    intro k h
    unfold stA
    by_cases e : k = n
    · subst e; exact pk_us
    · rw [pk_un e]; exact ih k (by omega)
def plA (lw : Nat → Int32) (st : Nat) : Nat → Nat → Int32
  | 0 => fun _ => 0
  | k + 1 => upd (plA lw st k) (ob lw st k) (nI (k + 1))
theorem plA_out {lw : Nat → Int32} {st : Nat} : ∀ n j, (∀ i, i < n → ¬ ob lw st i = j) → plA lw st n j = 0 := by
  intro n
  induction n with
  | zero => intro j _; rfl
  | succ n ih =>
    intro j h
    unfold plA
    rw [pk_un (fun e => h n (by omega) e.symm)]
    exact ih j (fun i hi => h i (by omega))
theorem plA_at {lw : Nat → Int32} {st : Nat} : ∀ n i, i < n → (∀ j, i < j → j < n → ¬ ob lw st i = ob lw st j) → plA lw st n (ob lw st i) = nI (i + 1) := by
  intro n
  induction n with
  | zero => intro i h; omega
  | succ n ih =>
    intro i h hd
    unfold plA
    by_cases e : i = n
    · subst e; exact pk_us
    · rw [pk_un (hd n (by omega) (by omega))]
      exact ih i (by omega) (fun j h1 h2 => hd j h1 (by omega))
def plC (lw : Nat → Int32) (st : Nat) (f : Nat → Int32) : Nat → Nat → Int32
  | 0 => f
  | k + 1 => upd (plC lw st f k) (ob lw st k) 0
theorem plC_z {lw : Nat → Int32} {st : Nat} {f : Nat → Int32} {j : Nat} : ∀ n, ((∃ i, i < n ∧ ob lw st i = j) ∨ f j = 0) → plC lw st f n j = 0 := by
  intro n
  induction n with
  | zero => rintro (⟨i, h, _⟩ | h); · omega
            · exact h
  | succ n ih =>
    intro h
    unfold plC
    by_cases e : ob lw st n = j
    · subst e; exact pk_us
    · rw [pk_un (fun q => e q.symm)]
      apply ih
      rcases h with ⟨i, hi, ei⟩ | h
      · left
        by_cases e2 : i = n
        · subst e2; exact absurd ei e
        · exact ⟨i, by omega, ei⟩
      · exact Or.inr h
theorem gr6399 {k : Nat} (h : k ≤ 6399) : (0 : Int32) ≤ nI k ∧ nI k ≤ 6399 := gr (n := 6399) (by omega) rfl h
theorem isNew_n {p : Nat → Int32} {s : Nat} (h : s < 6400) : f_X7_isNew p (nI s) = some (if p s = 0 then 1 else 0) := by
  simp only [f_X7_isNew, within_n, Option.bind_some, ite10]
  rw [if_pos (gr6399 (show s ≤ 6399 by omega)), gd_n h (by omega), nI_clamp (by omega)]
  by_cases e : p s = 0
  · rw [if_pos e, if_pos e]
  · rw [if_neg e, if_neg e]
theorem follow_n {lw f : Nat → Int32} {v a L M : Nat} (hv : v < 64) (ha : a < 100) (hr : Ret lw (100 * v + a) L M) : f_X7_follow f (fun _ => 0) lw (nI v) (nI a) = some (stA lw f (100 * v + a) L, (fun _ => 0), nI L, nI M) := by
  unfold f_X7_follow f_X3_stateOf
  rw [Option.bind_some, sx100]
  have hst : 100 * v + a < 6400 := by omega
  generalize 100 * v + a = st at hr hst
  have hL := hr.hL
  have hM := hr.hM
  have hob := ob_lt (lw := lw) hst
  refine lp_bd (fun k => (nI (ob lw st k), stA lw f st k, plA lw st k, nI k)) (nI (ob lw st L), stA lw f st L, plA lw st L, nI L) L (FU_lt (by omega)) rfl ?_ ?_ ?_
  · show f_X7_follow_x74_7 (nI (ob lw st L)) (stA lw f st L) (plA lw st L) (nI L) = _
    unfold f_X7_follow_x74_7
    have hoL := hob L
    have epl : plA lw st L (ob lw st L) = nI (M + 1) := by
      rw [← hr.eq]
      exact plA_at L M hM (fun j h1 h2 => hr.inj M j h1 h2)
    rw [within_n, Option.bind_some, ite10, if_pos (gr6399 (show ob lw st L ≤ 6399 by omega)), gd_n hoL (by omega), nI_clamp (by omega), epl, nI_pred, if_neg (nI_nn (by omega))]
    unfold f_X7_follow_j104
    refine lp_bd (fun k => (nI k, plC lw st (plA lw st L) k)) (plC lw st (plA lw st L) L) L (FU_lt (by omega)) rfl ?_ ?_ ?_
    · unfold f_X7_follow_x138_1
      have e : plC lw st (plA lw st L) L = fun _ => 0 := by
        funext j
        apply plC_z
        by_cases h : ∃ i, i < L ∧ ob lw st i = j
        · exact Or.inl h
        · exact Or.inr (plA_out L j (fun i hi e => h ⟨i, hi, e⟩))
      rw [e]
    · intro k hk
      show f_X7_follow_b110 (stA lw f st L) (nI L) (nI k) (plC lw st (plA lw st L) k) = _
      unfold f_X7_follow_b110
      have hok := hob k
      rw [if_neg (nle hk (by omega)), gd_n (by omega) (by omega), nI_clamp (by omega), stA_at L k hk, gd_n hok (by omega), nI_clamp (by omega), nI1]
      rfl
    · show f_X7_follow_b110 (stA lw f st L) (nI L) (nI L) _ = _
      unfold f_X7_follow_b110
      rw [if_pos (Int32.le_refl _)]
  · intro k hk
    show f_X7_follow_b12 lw (nI (ob lw st k)) (stA lw f st k) (plA lw st k) (nI k) = _
    unfold f_X7_follow_b12
    have hok := hob k
    rw [if_neg (nleL 6400 6400 rfl (by omega) (by omega)), isNew_n hok, Option.bind_some, ite10, if_pos (plA_out k _ (fun i hi => hr.inj i k hi hk)), gd_n (by omega) (by omega), gd_n hok (by omega), stateX hok, Option.bind_some, nI_clamp (by omega), nI_clamp (by omega), nI1]
    rfl
  · show f_X7_follow_b12 lw (nI (ob lw st L)) (stA lw f st L) (plA lw st L) (nI L) = _
    unfold f_X7_follow_b12
    have hoL := hob L
    by_cases h6 : (6400 : Int32) ≤ nI L
    · rw [if_pos h6]
    · rw [if_neg h6, isNew_n hoL, Option.bind_some, ite10, if_neg]
      rw [← hr.eq, plA_at L M hM (fun j h1 h2 => hr.inj M j h1 h2)]
      exact nI_ne0 (by omega) (by omega)
def m9A (f : Nat → Int32) : Nat → Nat → Int32
  | 0 => f
  | k + 1 => upd (m9A f k) k (-9)
theorem m9A_at {f : Nat → Int32} : ∀ n k, k < n → m9A f n k = -9 := by
  intro n
  induction n with
  | zero => intro k h; omega
  | succ n ih =>
    intro k h
    unfold m9A
    by_cases e : k = n
    · subst e; exact pk_us
    · rw [pk_un e]; exact ih k (by omega)
def meA (lw : Nat → Int32) (st : Nat) (f : Nat → Int32) : Nat → Nat → Int32
  | 0 => f
  | k + 1 => upd (meA lw st f k) (ob lw st k) (nI k)
theorem meA_out {lw : Nat → Int32} {st : Nat} {f : Nat → Int32} : ∀ n j, (∀ i, i < n → ¬ ob lw st i = j) → meA lw st f n j = f j := by
  intro n
  induction n with
  | zero => intro j _; rfl
  | succ n ih =>
    intro j h
    unfold meA
    rw [pk_un (fun e => h n (by omega) e.symm)]
    exact ih j (fun i hi => h i (by omega))
theorem meA_at {lw : Nat → Int32} {st : Nat} {f : Nat → Int32} : ∀ n i, i < n → (∀ j, i < j → j < n → ¬ ob lw st i = ob lw st j) → meA lw st f n (ob lw st i) = nI i := by
  intro n
  induction n with
  | zero => intro i h; omega
  | succ n ih =>
    intro i h hd
    unfold meA
    by_cases e : i = n
    · subst e; exact pk_us
    · rw [pk_un (hd n (by omega) (by omega))]
      exact ih i (by omega) (fun j h1 h2 => hd j h1 (by omega))
theorem layRun_n {lw f : Nat → Int32} {v a L M : Nat} (hv : v < 64) (ha : a < 100) (hr : Ret lw (100 * v + a) L M) : f_X11_layRun lw f (nI v) (nI a) = some (meA lw (100 * v + a) (m9A f 6400) L, nI (ob lw (100 * v + a) L), nI M, nI (L - M)) := by
  unfold f_X11_layRun
  refine lp_bd (fun k => (nI k, m9A f k)) (m9A f 6400) 6400 (FU_lt (by omega)) rfl ?_ ?_ ?_
  · unfold f_X11_layRun_x23_1
    rw [sx100]
    have hst : 100 * v + a < 6400 := by omega
    generalize 100 * v + a = st at hr hst
    have hL := hr.hL
    have hM := hr.hM
    have hob := ob_lt (lw := lw) hst
    have hoL := hob L
    have eL : meA lw st (m9A f 6400) L (ob lw st L) = nI M := by
      rw [← hr.eq]
      exact meA_at L M hM (fun j h1 h2 => hr.inj M j h1 h2)
    refine lp_bd (fun k => (nI (ob lw st k), nI k, meA lw st (m9A f 6400) k)) (nI (ob lw st L), nI L, meA lw st (m9A f 6400) L) L (FU_lt (by omega)) rfl ?_ ?_ ?_
    · show f_X11_layRun_x64_2 (nI (ob lw st L)) (nI L) (meA lw st (m9A f 6400) L) = _
      unfold f_X11_layRun_x64_2
      rw [gd_n hoL (by omega), nI_clamp (by omega), eL, pk_sub (by omega)]
    · intro k hk
      show f_X11_layRun_b33 lw (nI (ob lw st k)) (nI k) (meA lw st (m9A f 6400) k) = _
      unfold f_X11_layRun_b33
      have hok := hob k
      rw [gd_n hok (by omega), nI_clamp (by omega), if_pos (by rw [meA_out k _ (fun i hi => hr.inj i k hi hk)]; exact m9A_at 6400 _ hok), gd_n hok (by omega), roundM hok, Option.bind_some, nI1]
      rfl
    · show f_X11_layRun_b33 lw (nI (ob lw st L)) (nI L) (meA lw st (m9A f 6400) L) = _
      unfold f_X11_layRun_b33
      rw [gd_n hoL (by omega), nI_clamp (by omega), if_neg (by rw [eL]; exact nI_m9 (by omega))]
  · intro k hk
    show f_X11_layRun_b2 (nI k) (m9A f k) = _
    unfold f_X11_layRun_b2
    rw [if_neg (nleL 6400 6400 rfl hk (by omega)), gd_n hk (by omega), nI_clamp (by omega), nI1]
    rfl
  · show f_X11_layRun_b2 (nI 6400) _ = _
    unfold f_X11_layRun_b2
    rw [if_pos (by decide)]
theorem ob_x {lw : Nat → Int32} {st : Nat} : ∀ k, ob lw st (k + 1) = RN lw (ob lw st k) := fun _ => rfl
theorem ob_ring {lw : Nat → Int32} {st L M t : Nat} (hr : Ret lw st L M) (ht : M ≤ t) : ob lw st (M + (t - M) % (L - M)) = ob lw st t := by
  have hM := hr.hM
  have h := seq_per (f := RN lw) ob_x (i := M) (p := L - M) (by rw [show M + (L - M) = L by omega]; exact hr.eq.symm) ((t - M) / (L - M)) ((t - M) % (L - M))
  rw [← h]
  congr 1
  have h2 := Nat.div_add_mod (t - M) (L - M)
  rw [Nat.mul_comm] at h2
  omega
theorem stateAt_n {lw f : Nat → Int32} {st L M t : Nat} (hr : Ret lw st L M) (ht : t ≤ 100000) : f_X7_stateAt (stA lw f st L) (nI L) (nI M) (nI t) = some (nI (ob lw st t)) := by
  have hL := hr.hL
  have hM := hr.hM
  have ej : ∀ k, k < L → f_X7_stateAt_j34 (stA lw f st L) (nI L) (nI k) = some (nI (ob lw st k)) := by
    intro k hk
    unfold f_X7_stateAt_j34
    rw [within_n, Option.bind_some, ite10, if_pos ((in_iff (by omega) (nI k)).mpr ⟨k, hk, rfl⟩), gd_n (by omega) (by omega), nI_clamp (by omega), stA_at L k hk]
  unfold f_X7_stateAt f_X7_ring
  by_cases h : t < L
  · rw [if_pos (nI_lt h (by omega)), ej t h]
  · rw [if_neg (nI_nlt (by omega) (by omega)), Option.bind_some, pk_sub (by omega), if_neg (by rw [le0_n (by omega)]; omega), Option.bind_some, dz_n (nI_ne0 (by omega) (by omega)), pk_sub (by omega), pk_rem (by omega) (by omega) (by omega), Option.bind_some, nI_add]
    have hm := Nat.mod_lt (t - M) (show L - M > 0 by omega)
    rw [ej _ (by omega), ob_ring hr (by omega)]
theorem st_after : St_after := by
  intro tx tl lw ice mk wt bd s6 s8 s7 s1 s5 s2 u0 u1 sm kz kb km kw a1 a2 a3 hI
  have h7 : s7.2.1 = fun _ => 0 := hI.2.2.2.2.2.1
  simp only [f_X10_after, f_X11_after, isIce_n, isAir_n, mEarth_n, within_n, in_0_100000, Option.bind_some, ite10]
  by_cases h2 : (0 : Int32) ≤ a1 ∧ a1 ≤ 63
  rotate_left
  · rw [if_neg h2, if_neg (fun q => h2 q.1)]; exact ⟨-2, _, _, _, _, rfl, rfl, hI⟩
  by_cases h3 : (0 : Int32) ≤ a2 ∧ a2 ≤ 99
  rotate_left
  · rw [if_pos h2, if_neg h3, if_neg (fun q => h3 q.2)]; exact ⟨-2, _, _, _, _, rfl, rfl, hI⟩
  rw [if_pos h2, if_pos h3, if_pos (show ((0 : Int32) ≤ a1 ∧ a1 ≤ 63) ∧ ((0 : Int32) ≤ a2 ∧ a2 ≤ 99) from ⟨h2, h3⟩)]
  by_cases h4 : (0 : Int32) ≤ a3 ∧ a3 ≤ 100000
  rotate_left
  · rw [if_neg h4, if_neg h4]; exact ⟨-2, _, _, _, _, rfl, rfl, hI⟩
  rw [if_pos h4, if_pos h4]
  obtain ⟨v, hv, rfl⟩ := rg 63 (by omega) rfl h2
  obtain ⟨a, ha, rfl⟩ := rg 99 (by omega) rfl h3
  obtain ⟨t, ht, rfl⟩ := rg 100000 (by omega) rfl h4
  have hst : 100 * v + a < 6400 := by omega
  obtain ⟨L, M, hr⟩ := ret_ex (lw := lw) hst
  rw [h7, follow_n (by omega) (by omega) hr, Option.bind_some]
  dsimp only
  rw [stateAt_n hr ht, Option.bind_some, sx100]
  refine ⟨_, _, _, _, _, rfl, ?_, hI.1, hI.2.1, hI.2.2.1, hI.2.2.2.1, hI.2.2.2.2.1, rfl, hI.2.2.2.2.2.2⟩
  refine lp_bd (fun k => (nI (ob lw (100 * v + a) k), nI k)) (nI (ob lw (100 * v + a) t)) t (FU_lt (by omega)) rfl rfl ?_ ?_
  · intro k hk
    show f_X11_after_b34 lw (nI t) (nI (ob lw (100 * v + a) k)) (nI k) = _
    unfold f_X11_after_b34
    rw [if_neg (nle hk (by omega)), roundM (ob_lt hst k), Option.bind_some, nI1]
    rfl
  · show f_X11_after_b34 lw (nI t) _ (nI t) = _
    unfold f_X11_after_b34
    rw [if_pos (Int32.le_refl _)]
theorem st_till : St_till := by
  intro tx tl lw ice mk wt bd s6 s8 s7 s1 s5 s2 u0 u1 sm kz kb km kw a1 a2 a3 hI ha3
  have h7 : s7.2.1 = fun _ => 0 := hI.2.2.2.2.2.1
  simp only [f_X10_till, f_X11_till, isIce_n, isAir_n, mEarth_n, Option.bind_some, ite10]
  by_cases h2 : (0 : Int32) ≤ a1 ∧ a1 ≤ 63
  rotate_left
  · rw [if_neg h2, if_neg (fun q => h2 q.1)]; exact ⟨-2, _, _, _, _, _, _, _, _, rfl, rfl, hI⟩
  by_cases h3 : (0 : Int32) ≤ a2 ∧ a2 ≤ 99
  rotate_left
  · rw [if_pos h2, if_neg h3, if_neg (fun q => h3 q.2)]; exact ⟨-2, _, _, _, _, _, _, _, _, rfl, rfl, hI⟩
  rw [if_pos h2, if_pos h3, if_pos (show ((0 : Int32) ≤ a1 ∧ a1 ≤ 63) ∧ ((0 : Int32) ≤ a2 ∧ a2 ≤ 99) from ⟨h2, h3⟩)]
  obtain ⟨v, hv, rfl⟩ := rg 63 (by omega) rfl h2
  obtain ⟨a, ha, rfl⟩ := rg 99 (by omega) rfl h3
  have hst : 100 * v + a < 6400 := by omega
  obtain ⟨L, M, hr⟩ := ret_ex (lw := lw) hst
  have hL := hr.hL
  have hM := hr.hM
  rw [h7, follow_n (by omega) (by omega) hr, Option.bind_some, layRun_n (by omega) (by omega) hr, Option.bind_some, sx100]
  dsimp only
  generalize 100 * v + a = st at hr hst
  have hob := ob_lt (lw := lw) hst
  generalize hmet : meA lw st (m9A sm.2.2.2.2.2.2.2.1 6400) L = met
  let wv : Nat → Int32 := fun k => if ob lw st k / 100 = 63 then (1 : Int32) else 0
  have bX : ∀ k, k ≤ L → f_X7_firstWhite_b2 (stA lw s7.1 st L) (nI L) a3 (nI k) = if k = L then some (.inr (.inl ())) else if wv k = a3 then some (.inr (.inr (nI k))) else some (.inl (nI (k + 1))) := by
    intro k hk
    unfold f_X7_firstWhite_b2
    by_cases e : k = L
    · rw [e, if_pos (Int32.le_refl _), if_pos rfl]
    · have hok := hob k
      rw [if_neg (nle (show k < L by omega) (by omega)), gd_n (by omega) (by omega), nI_clamp (by omega), stA_at L k (by omega), iceIn_n hok, Option.bind_some, if_neg e]
      simp only [f_X7_firstWhite_j29, nI1, eq63 (show ob lw st k / 100 < 2147483648 by omega)]
      show _ = if (if ob lw st k / 100 = 63 then (1 : Int32) else 0) = a3 then _ else _
      by_cases hw : ob lw st k / 100 = 63
      · rw [if_pos hw, if_pos hw]
      · rw [if_neg hw, if_neg hw]
  have bM : ∀ k, k ≤ L → f_X11_till_b28 lw a3 (met, nI (ob lw st L), nI M, nI (L - M)) (nI (ob lw st k)) (nI k) = if k = L then some (.inr (.inl ())) else if wv k = a3 then some (.inr (.inr (nI k, met, nI (ob lw st L), nI M, nI (L - M)))) else some (.inl (nI (ob lw st (k + 1)), nI (k + 1))) := by
    intro k hk
    unfold f_X11_till_b28
    dsimp only
    rw [nI_add, show M + (L - M) = L by omega]
    by_cases e : k = L
    · rw [e, if_pos (Int32.le_refl _), if_pos rfl]
    · have hok := hob k
      rw [if_neg (nle (show k < L by omega) (by omega)), dz100, show (100 : Int32) = nI 100 from rfl, pk_div (by omega) (by omega) (by omega), if_neg e]
      simp only [f_X11_till_j57, nI1, roundM hok, Option.bind_some, eq63 (show ob lw st k / 100 < 2147483648 by omega)]
      show _ = if (if ob lw st k / 100 = 63 then (1 : Int32) else 0) = a3 then _ else _
      by_cases hw : ob lw st k / 100 = 63
      · rw [if_pos hw, if_pos hw]; rfl
      · rw [if_neg hw, if_neg hw]; rfl
  by_cases hx : ∃ k, k < L ∧ wv k = a3
  · obtain ⟨K, ⟨hK, e1⟩, hmin⟩ := pk_least (fun k => k < L ∧ wv k = a3) hx
    have hne : ∀ k, k < K → ¬ wv k = a3 := fun k hk e => hmin k hk ⟨by omega, e⟩
    have e1' : f_X7_firstWhite (stA lw s7.1 st L) (nI L) a3 = some (nI K) := by
      unfold f_X7_firstWhite
      refine lp_bd (fun k => nI k) (Sum.inr (nI K)) K (FU_lt (by omega)) rfl rfl ?_ ?_
      · intro k hk
        show f_X7_firstWhite_b2 (stA lw s7.1 st L) (nI L) a3 (nI k) = _
        rw [bX k (by omega), if_neg (by omega), if_neg (hne k hk)]
      · show f_X7_firstWhite_b2 (stA lw s7.1 st L) (nI L) a3 (nI K) = _
        rw [bX K (by omega), if_neg (by omega), if_pos e1]
    rw [e1', Option.bind_some]
    refine ⟨_, _, _, _, _, met, nI (ob lw st L), nI M, nI (L - M), rfl, ?_, hI.1, hI.2.1, hI.2.2.1, hI.2.2.2.1, hI.2.2.2.2.1, rfl, hI.2.2.2.2.2.2⟩
    refine lp_bd (fun k => (nI (ob lw st k), nI k)) (Sum.inr (nI K, met, nI (ob lw st L), nI M, nI (L - M))) K (FU_lt (by omega)) rfl rfl ?_ ?_
    · intro k hk
      show f_X11_till_b28 lw a3 (met, nI (ob lw st L), nI M, nI (L - M)) (nI (ob lw st k)) (nI k) = _
      rw [bM k (by omega), if_neg (by omega), if_neg (hne k hk)]
    · show f_X11_till_b28 lw a3 (met, nI (ob lw st L), nI M, nI (L - M)) (nI (ob lw st K)) (nI K) = _
      rw [bM K (by omega), if_neg (by omega), if_pos e1]
  · have hne : ∀ k, k < L → ¬ wv k = a3 := fun k hk e => hx ⟨k, hk, e⟩
    have e1' : f_X7_firstWhite (stA lw s7.1 st L) (nI L) a3 = some (-9) := by
      unfold f_X7_firstWhite
      refine lp_bd (fun k => nI k) (Sum.inl ()) L (FU_lt (by omega)) rfl rfl ?_ ?_
      · intro k hk
        show f_X7_firstWhite_b2 (stA lw s7.1 st L) (nI L) a3 (nI k) = _
        rw [bX k (by omega), if_neg (by omega), if_neg (hne k hk)]
      · show f_X7_firstWhite_b2 (stA lw s7.1 st L) (nI L) a3 (nI L) = _
        rw [bX L (by omega), if_pos rfl]
    rw [e1', Option.bind_some]
    refine ⟨_, _, _, _, _, met, nI (ob lw st L), nI M, nI (L - M), rfl, ?_, hI.1, hI.2.1, hI.2.2.1, hI.2.2.2.1, hI.2.2.2.2.1, rfl, hI.2.2.2.2.2.2⟩
    refine lp_bd (fun k => (nI (ob lw st k), nI k)) (Sum.inl ()) L (FU_lt (by omega)) rfl rfl ?_ ?_
    · intro k hk
      show f_X11_till_b28 lw a3 (met, nI (ob lw st L), nI M, nI (L - M)) (nI (ob lw st k)) (nI k) = _
      rw [bM k (by omega), if_neg (by omega), if_neg (hne k hk)]
    · show f_X11_till_b28 lw a3 (met, nI (ob lw st L), nI M, nI (L - M)) (nI (ob lw st L)) (nI L) = _
      rw [bM L (by omega), if_pos rfl]
def mnA (lw : Nat → Int32) (st M : Nat) : Nat → Nat
  | 0 => 100
  | k + 1 => min (mnA lw st M k) (ob lw st (M + k) % 100)
def mxA (lw : Nat → Int32) (st M : Nat) : Nat → Nat
  | 0 => 0
  | k + 1 => max (mxA lw st M k) (ob lw st (M + k) % 100)
theorem mnA_le {lw : Nat → Int32} {st M : Nat} : ∀ k, mnA lw st M k ≤ 100 := by
  intro k
  induction k with
  | zero => exact Nat.le_refl _
  | succ k ih => unfold mnA; omega
theorem mxA_le {lw : Nat → Int32} {st M : Nat} : ∀ k, mxA lw st M k < 100 := by
  intro k
  induction k with
  | zero => exact Nat.zero_lt_succ _
  | succ k ih => have := Nat.mod_lt (ob lw st (M + k)) (show 100 > 0 by omega); unfold mxA; omega
theorem st_run : St_run := by
  intro tx tl lw ice mk wt bd s6 s8 s7 s1 s5 s2 u0 u1 sm kz kb km kw a1 a2 a3 hI
  have h7 : s7.2.1 = fun _ => 0 := hI.2.2.2.2.2.1
  simp only [f_X10_run, f_X11_run, isIce_n, isAir_n, mEarth_n, within_n, in_0_4, Option.bind_some, ite10]
  by_cases h2 : (0 : Int32) ≤ a1 ∧ a1 ≤ 63
  rotate_left
  · rw [if_neg h2, if_neg (fun q => h2 q.1)]; exact ⟨-2, _, _, _, _, _, _, _, _, rfl, rfl, hI⟩
  by_cases h3 : (0 : Int32) ≤ a2 ∧ a2 ≤ 99
  rotate_left
  · rw [if_pos h2, if_neg h3, if_neg (fun q => h3 q.2)]; exact ⟨-2, _, _, _, _, _, _, _, _, rfl, rfl, hI⟩
  rw [if_pos h2, if_pos h3, if_pos (show ((0 : Int32) ≤ a1 ∧ a1 ≤ 63) ∧ ((0 : Int32) ≤ a2 ∧ a2 ≤ 99) from ⟨h2, h3⟩)]
  by_cases h4 : (0 : Int32) ≤ a3 ∧ a3 ≤ 4
  rotate_left
  · rw [if_neg h4, if_neg h4]; exact ⟨-2, _, _, _, _, _, _, _, _, rfl, rfl, hI⟩
  rw [if_pos h4, if_pos h4]
  obtain ⟨v, hv, rfl⟩ := rg 63 (by omega) rfl h2
  obtain ⟨a, ha, rfl⟩ := rg 99 (by omega) rfl h3
  have hst : 100 * v + a < 6400 := by omega
  obtain ⟨L, M, hr⟩ := ret_ex (lw := lw) hst
  have hL := hr.hL
  have hM := hr.hM
  rw [h7, follow_n (by omega) (by omega) hr, Option.bind_some, layRun_n (by omega) (by omega) hr, Option.bind_some]
  dsimp only
  generalize 100 * v + a = st at hr hst
  have hob := ob_lt (lw := lw) hst
  generalize hmet : meA lw st (m9A sm.2.2.2.2.2.2.2.1 6400) L = met
  let wr : Nat → Bool := fun k => wh lw st (M + k)
  have L2 : lpM (σ := Int32 × Int32 × Int32 × Int32 × Int32) (ρ := Int32 × Int32 × Int32) (fun s => f_X11_run_b48 lw (met, nI (ob lw st L), nI M, nI (L - M)) s.1 s.2.1 s.2.2.1 s.2.2.2.1 s.2.2.2.2) FU ((0 : Int32), (99 : Int32), (0 : Int32), nI (ob lw st L), (0 : Int32)) = some (nI (cn wr (L - M)), nI (mnA lw st M (L - M)), nI (mxA lw st M (L - M))) := by
    refine lp_run (fun k => (nI (cn wr k), nI (min 99 (mnA lw st M k)), nI (mxA lw st M k), nI (ob lw st (M + k)), nI k)) (L - M) ?_ ?_ FU (FU_lt (by omega)) (by rw [← hr.eq]; rfl)
    · intro k hk
      show f_X11_run_b48 lw (met, nI (ob lw st L), nI M, nI (L - M)) (nI (cn wr k)) (nI (min 99 (mnA lw st M k))) (nI (mxA lw st M k)) (nI (ob lw st (M + k))) (nI k) = _
      have hok := hob (M + k)
      have hmod := Nat.mod_lt (ob lw st (M + k)) (show 100 > 0 by omega)
      have hmx := mxA_le (lw := lw) (st := st) (M := M) k
      have hmn := mnA_le (lw := lw) (st := st) (M := M) k
      have er : nI (ob lw st (M + k)) - nI (ob lw st (M + k)) / (100 : Int32) * (100 : Int32) = nI (ob lw st (M + k) % 100) := by rw [show (100 : Int32) = nI 100 from rfl, pk_rem (by omega) (by omega) (by omega)]
      have ed : nI (ob lw st (M + k)) / (100 : Int32) = nI (ob lw st (M + k) / 100) := by rw [show (100 : Int32) = nI 100 from rfl, pk_div (by omega) (by omega) (by omega)]
      unfold f_X11_run_b48
      dsimp only
      rw [if_neg (nle hk (by omega)), dz100, ed]
      simp only [f_X11_run_j74, f_X11_run_j97, f_X11_run_j119, er, dz100, roundM hok, Option.bind_some, nI1, eq63 (show ob lw st (M + k) / 100 < 2147483648 by omega), show nI (cn wr k) + (0 : Int32) = nI (cn wr k) from nI_add _ 0]
      have e1 : (if nI (min 99 (mnA lw st M k)) ≤ nI (ob lw st (M + k) % 100) then nI (min 99 (mnA lw st M k)) else nI (ob lw st (M + k) % 100)) = nI (min 99 (mnA lw st M (k + 1))) := by
        rw [show mnA lw st M (k + 1) = min (mnA lw st M k) (ob lw st (M + k) % 100) from rfl]
        by_cases hc : min 99 (mnA lw st M k) ≤ ob lw st (M + k) % 100
        · rw [if_pos (nI_le hc (by omega))]; congr 1; omega
        · rw [if_neg (nI_ge (by omega) (by omega))]; congr 1; omega
      have e2 : (if nI (ob lw st (M + k) % 100) ≤ nI (mxA lw st M k) then nI (mxA lw st M k) else nI (ob lw st (M + k) % 100)) = nI (mxA lw st M (k + 1)) := by
        rw [show mxA lw st M (k + 1) = max (mxA lw st M k) (ob lw st (M + k) % 100) from rfl]
        by_cases hc : ob lw st (M + k) % 100 ≤ mxA lw st M k
        · rw [if_pos (nI_le hc (by omega)), Nat.max_eq_left hc]
        · rw [if_neg (nI_ge (by omega) (by omega)), Nat.max_eq_right (by omega)]
      have e3 : ∀ c : Int32, (if nI (min 99 (mnA lw st M k)) ≤ nI (ob lw st (M + k) % 100) then (if nI (ob lw st (M + k) % 100) ≤ nI (mxA lw st M k) then some (Sum.inl (c, nI (min 99 (mnA lw st M k)), nI (mxA lw st M k), nI (RN lw (ob lw st (M + k))), nI (k + 1))) else some (Sum.inl (c, nI (min 99 (mnA lw st M k)), nI (ob lw st (M + k) % 100), nI (RN lw (ob lw st (M + k))), nI (k + 1)))) else (if nI (ob lw st (M + k) % 100) ≤ nI (mxA lw st M k) then some (Sum.inl (c, nI (ob lw st (M + k) % 100), nI (mxA lw st M k), nI (RN lw (ob lw st (M + k))), nI (k + 1))) else some (Sum.inl (c, nI (ob lw st (M + k) % 100), nI (ob lw st (M + k) % 100), nI (RN lw (ob lw st (M + k))), nI (k + 1))))) = (some (Sum.inl (c, nI (min 99 (mnA lw st M (k + 1))), nI (mxA lw st M (k + 1)), nI (RN lw (ob lw st (M + k))), nI (k + 1))) : Option ((Int32 × Int32 × Int32 × Int32 × Int32) ⊕ (Int32 × Int32 × Int32))) := by
        intro c
        rw [← e1, ← e2]
        split <;> split <;> rfl
      rw [e3, e3]
      by_cases hw : ob lw st (M + k) / 100 = 63
      · rw [if_pos hw]; simp only [cn, if_pos (show wr k = true from decide_eq_true hw)]; rfl
      · rw [if_neg hw]; simp only [cn, if_neg (show ¬ wr k = true from fun q => hw (of_decide_eq_true q))]; rfl
    · show f_X11_run_b48 lw (met, nI (ob lw st L), nI M, nI (L - M)) _ _ _ _ (nI (L - M)) = _
      unfold f_X11_run_b48
      dsimp only
      rw [if_pos (Int32.le_refl _)]
      have : mnA lw st M (L - M) ≤ 99 := by
        obtain ⟨J, hJ⟩ : ∃ J, L - M = J + 1 := ⟨L - M - 1, by omega⟩
        rw [hJ]
        have hmod := Nat.mod_lt (ob lw st (M + J)) (show 100 > 0 by omega)
        unfold mnA; omega
      rw [show min 99 (mnA lw st M (L - M)) = mnA lw st M (L - M) by omega]
  rw [L2, Option.bind_some]
  have eW : f_X7_whiteInRing (stA lw s7.1 st L) (nI L) (nI M) = some (nI (cn wr (L - M))) := by
    unfold f_X7_whiteInRing
    refine lp_bd (fun k => (nI (cn wr k), nI (M + k))) (nI (cn wr (L - M))) (L - M) (FU_lt (by omega)) rfl rfl ?_ ?_
    · intro k hk
      show f_X7_whiteInRing_b7 (stA lw s7.1 st L) (nI L) (nI (cn wr k)) (nI (M + k)) = _
      have hok := hob (M + k)
      unfold f_X7_whiteInRing_b7
      rw [if_neg (nle (show M + k < L by omega) (by omega)), gd_n (by omega) (by omega), nI_clamp (by omega), stA_at L _ (by omega), iceIn_n hok, Option.bind_some, nI1, nI1]
      simp only [eq63 (show ob lw st (M + k) / 100 < 2147483648 by omega)]
      by_cases hw : ob lw st (M + k) / 100 = 63
      · rw [if_pos hw]; simp only [cn, if_pos (show wr k = true from decide_eq_true hw)]; rfl
      · rw [if_neg hw]; simp only [cn, if_neg (show ¬ wr k = true from fun q => hw (of_decide_eq_true q))]; rfl
    · show f_X7_whiteInRing_b7 (stA lw s7.1 st L) (nI L) _ (nI (M + (L - M))) = _
      unfold f_X7_whiteInRing_b7
      rw [show M + (L - M) = L by omega, if_pos (Int32.le_refl _)]
  have eN : f_X7_leastAirInRing (stA lw s7.1 st L) (nI L) (nI M) = some (nI (mnA lw st M (L - M))) := by
    unfold f_X7_leastAirInRing
    refine lp_bd (fun k => (nI (mnA lw st M k), nI (M + k))) (nI (mnA lw st M (L - M))) (L - M) (FU_lt (by omega)) rfl rfl ?_ ?_
    · intro k hk
      show f_X7_leastAirInRing_b8 (stA lw s7.1 st L) (nI L) (nI (mnA lw st M k)) (nI (M + k)) = _
      have hok := hob (M + k)
      have hmn := mnA_le (lw := lw) (st := st) (M := M) k
      unfold f_X7_leastAirInRing_b8
      rw [if_neg (nle (show M + k < L by omega) (by omega)), gd_n (by omega) (by omega), nI_clamp (by omega), stA_at L _ (by omega), airIn_n hok, Option.bind_some, nI1, mn_n (by omega) (by omega)]
      rfl
    · show f_X7_leastAirInRing_b8 (stA lw s7.1 st L) (nI L) _ (nI (M + (L - M))) = _
      unfold f_X7_leastAirInRing_b8
      rw [show M + (L - M) = L by omega, if_pos (Int32.le_refl _)]
  have eG : f_X7_greatestAirInRing (stA lw s7.1 st L) (nI L) (nI M) = some (nI (mxA lw st M (L - M))) := by
    unfold f_X7_greatestAirInRing
    refine lp_bd (fun k => (nI (mxA lw st M k), nI (M + k))) (nI (mxA lw st M (L - M))) (L - M) (FU_lt (by omega)) rfl rfl ?_ ?_
    · intro k hk
      show f_X7_greatestAirInRing_b7 (stA lw s7.1 st L) (nI L) (nI (mxA lw st M k)) (nI (M + k)) = _
      have hok := hob (M + k)
      have hmx := mxA_le (lw := lw) (st := st) (M := M) k
      unfold f_X7_greatestAirInRing_b7
      rw [if_neg (nle (show M + k < L by omega) (by omega)), gd_n (by omega) (by omega), nI_clamp (by omega), stA_at L _ (by omega), airIn_n hok, Option.bind_some, nI1, mx_n (by omega) (by omega)]
      rfl
    · show f_X7_greatestAirInRing_b7 (stA lw s7.1 st L) (nI L) _ (nI (M + (L - M))) = _
      unfold f_X7_greatestAirInRing_b7
      rw [show M + (L - M) = L by omega, if_pos (Int32.le_refl _)]
  have hI' : InvS tx tl lw ice mk wt bd (stA lw s7.1 st L, (fun _ => 0), nI L, nI M) u0 u1 kz kb km kw := ⟨hI.1, hI.2.1, hI.2.2.1, hI.2.2.2.1, hI.2.2.2.2.1, rfl, hI.2.2.2.2.2.2⟩
  simp only [eW, eN, eG, f_X7_ring, pk_sub (show M ≤ L by omega), Option.bind_some, f_X11_run_x135_7]
  by_cases c0 : a3 = 0
  · simp only [if_pos c0]; exact ⟨_, _, _, _, _, _, _, _, _, rfl, rfl, hI'⟩
  simp only [if_neg c0]
  by_cases c1 : a3 = 1
  · simp only [if_pos c1]; exact ⟨_, _, _, _, _, _, _, _, _, rfl, rfl, hI'⟩
  simp only [if_neg c1]
  by_cases c2 : a3 = 2
  · simp only [if_pos c2]; exact ⟨_, _, _, _, _, _, _, _, _, rfl, rfl, hI'⟩
  simp only [if_neg c2]
  by_cases c3 : a3 = 3
  · simp only [if_pos c3]; exact ⟨_, _, _, _, _, _, _, _, _, rfl, rfl, hI'⟩
  simp only [if_neg c3]
  exact ⟨_, _, _, _, _, _, _, _, _, rfl, rfl, hI'⟩
