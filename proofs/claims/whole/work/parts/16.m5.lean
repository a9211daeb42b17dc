/-! ===== times, time ===== -/
def cn (p : Nat → Bool) : Nat → Nat
  | 0 => 0
  | b + 1 => cn p b + if p b = true then 1 else 0
theorem cn_le_n (p : Nat → Bool) : ∀ n, cn p n ≤ n := by
  intro n
  induction n with
  | zero => exact Nat.le_refl _
  | succ n ih => unfold cn; split <;> omega
theorem cn_le {p q : Nat → Bool} : ∀ n, (∀ b, b < n → p b = true → q b = true) → cn p n ≤ cn q n := by
  intro n
  induction n with
  | zero => intro _; exact Nat.le_refl _
  | succ n ih =>
    intro h
    have h1 := ih (fun b hb => h b (by omega))
    have h2 := h n (by omega)
    unfold cn
    by_cases hp : p n = true
    · rw [if_pos hp, if_pos (h2 hp)]; omega
    · rw [if_neg hp]; omega
theorem cn_lt {p q : Nat → Bool} : ∀ n, (∀ b, b < n → p b = true → q b = true) → (∃ b, b < n ∧ q b = true ∧ ¬ p b = true) → cn p n < cn q n := by
  intro n
  induction n with
  | zero => rintro _ ⟨b, hb, _⟩; omega
  | succ n ih =>
    rintro h ⟨b, hb, h1, h2⟩
    unfold cn
    by_cases e : b = n
    · subst e
      have := cn_le (p := p) (q := q) b (fun b hb => h b (by omega))
      rw [if_neg h2, if_pos h1]; omega
    · have h3 := ih (fun b hb => h b (by omega)) ⟨b, by omega, h1, h2⟩
      have h4 := h n (by omega)
      by_cases hp : p n = true
      · rw [if_pos hp, if_pos (h4 hp)]; omega
      · rw [if_neg hp]; omega
def feB (mk : Nat → Int32) (a : Int32) (b : Nat) : Bool := icB mk b && decide (¬ nI (mN mk b 2) ≤ a)
theorem feB_iff {mk : Nat → Int32} {a : Int32} {b : Nat} : feB mk a b = true ↔ icB mk b = true ∧ ¬ nI (mN mk b 2) ≤ a := by
  unfold feB
  rw [Bool.and_eq_true, decide_eq_true_iff]
def feN (mk : Nat → Int32) (a : Int32) : Nat → Option Nat
  | 0 => none
  | b + 1 => if feB mk a b = true then some (match feN mk a b with | none => mN mk b 3 | some m => min m (mN mk b 3)) else feN mk a b
def enc9 : Option Nat → Int32
  | none => -9
  | some m => nI m
theorem feN_ex {mk : Nat → Int32} {a : Int32} : ∀ n y, feN mk a n = some y → ∃ b, b < n ∧ feB mk a b = true ∧ mN mk b 3 = y := by
  intro n
  induction n with
  | zero => intro y h; cases h
  | succ n ih =>
    intro y h
    unfold feN at h
    by_cases hf : feB mk a n = true
    · rw [if_pos hf] at h
      cases hm : feN mk a n with
      | none =>
        rw [hm] at h
        exact ⟨n, by omega, hf, by simpa using h⟩
      | some m =>
        rw [hm] at h
        have h' : min m (mN mk n 3) = y := by simpa using h
        by_cases hc : m ≤ mN mk n 3
        · obtain ⟨b, hb, e1, e2⟩ := ih m hm
          exact ⟨b, by omega, e1, by omega⟩
        · exact ⟨n, by omega, hf, by omega⟩
    · rw [if_neg hf] at h
      obtain ⟨b, hb, e⟩ := ih y h
      exact ⟨b, by omega, e⟩
theorem feN_lt {mk : Nat → Int32} {a : Int32} {n y : Nat} (hB : ∀ b, b < n → okMk mk b) (h : feN mk a n = some y) : y < 100 := by
  obtain ⟨b, hb, _, e⟩ := feN_ex n y h
  have := (hB b hb).at.1
  omega
theorem feN_dec {mk : Nat → Int32} {a : Int32} {n y : Nat} (hB : ∀ b, b < n → okMk mk b) (h : feN mk a n = some y) : cn (feB mk (nI y)) n < cn (feB mk a) n := by
  have hy := feN_lt hB h
  obtain ⟨b, hb, e1, e2⟩ := feN_ex n y h
  have ok := (hB b hb).at.1
  rw [feB_iff] at e1
  have hay : a < nI y := by
    have h1 := Int32.not_le.mp e1.2
    have h2 : nI (mN mk b 2) ≤ nI y := nI_le (by omega) (by omega)
    rw [Int32.lt_iff_toInt_lt] at h1 ⊢
    rw [Int32.le_iff_toInt_le] at h2
    omega
  refine cn_lt n (fun c hc hp => ?_) ⟨b, hb, feB_iff.mpr e1, fun h => ?_⟩
  · rw [feB_iff] at hp ⊢
    refine ⟨hp.1, fun h => hp.2 ?_⟩
    exact Int32.le_trans h (Int32.le_of_lt hay)
  · rw [feB_iff] at h
    exact h.2 (nI_le (by omega) (by omega))
theorem firstEndM {mk : Nat → Int32} {n : Nat} (a : Int32) (hn : n ≤ 8) (hB : ∀ b, b < n → okMk mk b) : f_X11_firstEnd (nI n) mk a = some (enc9 (feN mk a n)) := by
  unfold f_X11_firstEnd
  refine lp_bd (fun i => (enc9 (feN mk a i), nI i)) (enc9 (feN mk a n)) n (FU_lt (by omega)) rfl rfl ?_ ?_
  · intro i hi
    show f_X11_firstEnd_b5 (nI n) mk a (enc9 (feN mk a i)) (nI i) = _
    unfold f_X11_firstEnd_b5
    have ok := hB i hi
    have b1 := ok.at.1
    rw [if_neg (nle hi (by omega)), icM (by omega) ok]
    simp only [Option.bind_some, ite10]
    rw [g3 (by omega), g2 (by omega), e3 (by omega) ok, e2 (by omega) ok, nI1]
    by_cases h : icB mk i = true
    · rw [if_pos h]
      by_cases h2 : nI (mN mk i 2) ≤ a
      · rw [if_pos h2]
        simp only [feN, if_neg (show ¬ feB mk a i = true from fun q => (feB_iff.mp q).2 h2)]
      · rw [if_neg h2]
        simp only [feN, if_pos (show feB mk a i = true from feB_iff.mpr ⟨h, h2⟩)]
        cases hm : feN mk a i with
        | none =>
          rw [if_pos (show enc9 none = -9 from rfl)]; rfl
        | some m =>
          have hm' := feN_lt (fun b hb => hB b (Nat.lt_trans hb hi)) hm
          rw [if_neg (show ¬ enc9 (some m) = -9 from nI_m9 (by omega))]
          by_cases hc : m ≤ mN mk i 3
          · rw [if_pos (show enc9 (some m) ≤ nI (mN mk i 3) from nI_le hc (by omega))]
            simp only [Nat.min_eq_left hc]
          · rw [if_neg (show ¬ enc9 (some m) ≤ nI (mN mk i 3) from nI_ge (by omega) (by omega))]
            simp only [Nat.min_eq_right (show mN mk i 3 ≤ m by omega)]
            rfl
    · rw [if_neg h]
      simp only [feN, if_neg (show ¬ feB mk a i = true from fun q => h (feB_iff.mp q).1)]
  · show f_X11_firstEnd_b5 (nI n) mk a _ (nI n) = _
    unfold f_X11_firstEnd_b5
    rw [if_pos (Int32.le_refl _)]
theorem firstEndX {mk : Nat → Int32} {n : Nat} (a : Int32) (hn : n ≤ 8) (hB : ∀ b, b < n → okMk mk b) : f_X2_firstEndBehind mk (nI n) a = some (enc9 (feN mk a n)) := by
  unfold f_X2_firstEndBehind
  refine lp_bd (fun i => (enc9 (feN mk a i), nI i)) (enc9 (feN mk a n)) n (FU_lt (by omega)) rfl rfl ?_ ?_
  · intro i hi
    show f_X2_firstEndBehind_b5 mk (nI n) a (enc9 (feN mk a i)) (nI i) = _
    unfold f_X2_firstEndBehind_b5
    have ok := hB i hi
    have b1 := ok.at.1
    rw [if_neg (nle hi (by omega)), icX (by omega) ok, mk3 (by omega) ok, mk2 (by omega) ok]
    simp only [Option.bind_some, ite10, f_X2_firstEndBehind_j43, f_X2_firstEndBehind_j44, nI1, if_true]
    rw [if_neg (show ¬ (1 : Int32) = 0 by decide)]
    by_cases h : icB mk i = true
    · rw [if_pos h]
      by_cases h2 : nI (mN mk i 2) ≤ a
      · rw [if_pos h2]
        simp only [feN, if_neg (show ¬ feB mk a i = true from fun q => (feB_iff.mp q).2 h2)]
      · rw [if_neg h2]
        simp only [feN, if_pos (show feB mk a i = true from feB_iff.mpr ⟨h, h2⟩)]
        cases hm : feN mk a i with
        | none =>
          rw [if_pos (show enc9 none = -9 from rfl)]; rfl
        | some m =>
          have hm' := feN_lt (fun b hb => hB b (Nat.lt_trans hb hi)) hm
          rw [if_neg (show ¬ enc9 (some m) = -9 from nI_m9 (by omega))]
          by_cases hc : m ≤ mN mk i 3
          · rw [if_pos (show enc9 (some m) ≤ nI (mN mk i 3) from nI_le hc (by omega))]
            simp only [Nat.min_eq_left hc]
          · rw [if_neg (show ¬ enc9 (some m) ≤ nI (mN mk i 3) from nI_ge (by omega) (by omega))]
            simp only [Nat.min_eq_right (show mN mk i 3 ≤ m by omega)]
            rfl
    · rw [if_neg h]
      simp only [feN, if_neg (show ¬ feB mk a i = true from fun q => h (feB_iff.mp q).1)]
  · show f_X2_firstEndBehind_b5 mk (nI n) a _ (nI n) = _
    unfold f_X2_firstEndBehind_b5
    rw [if_pos (Int32.le_refl _)]
def sqT (mk : Nat → Int32) (n : Nat) : Nat → Int32
  | 0 => -1
  | k + 1 => enc9 (feN mk (sqT mk n k) n)
theorem sqT_end {mk : Nat → Int32} {n : Nat} (hB : ∀ b, b < n → okMk mk b) : ∀ d m, cn (feB mk (sqT mk n m)) n ≤ d → ∃ K, m ≤ K ∧ K ≤ m + d ∧ (∀ k, m ≤ k → k < K → ¬ sqT mk n (k + 1) = -9) ∧ sqT mk n (K + 1) = -9 := by
  intro d
  induction d with
  | zero =>
    intro m h
    refine ⟨m, by omega, by omega, fun k h1 h2 => by omega, ?_⟩
    show enc9 (feN mk (sqT mk n m) n) = -9
    cases hm : feN mk (sqT mk n m) n with
    | none => rfl
    | some y => have := feN_dec hB hm; omega
  | succ d ih =>
    intro m h
    by_cases he : sqT mk n (m + 1) = -9
    · exact ⟨m, by omega, by omega, fun k h1 h2 => by omega, he⟩
    · have hd : cn (feB mk (sqT mk n (m + 1))) n ≤ d := by
        have he' : ¬ enc9 (feN mk (sqT mk n m) n) = -9 := he
        show cn (feB mk (enc9 (feN mk (sqT mk n m) n))) n ≤ d
        cases hm : feN mk (sqT mk n m) n with
        | none => rw [hm] at he'; exact absurd rfl he'
        | some y => have := feN_dec hB hm; show cn (feB mk (nI y)) n ≤ d; omega
      obtain ⟨K, h1, h2, h3, h4⟩ := ih (m + 1) hd
      refine ⟨K, by omega, by omega, fun k h5 h6 => ?_, h4⟩
      by_cases e : k = m
      · subst e; exact he
      · exact h3 k (by omega) h6
theorem sqT_K {mk : Nat → Int32} {n : Nat} (hn : n ≤ 8) (hB : ∀ b, b < n → okMk mk b) : ∃ K, K ≤ 8 ∧ (∀ k, k < K → ¬ sqT mk n (k + 1) = -9) ∧ sqT mk n (K + 1) = -9 := by
  obtain ⟨K, _, h2, h3, h4⟩ := sqT_end hB n 0 (cn_le_n _ _)
  exact ⟨K, by omega, fun k hk => h3 k (by omega) hk, h4⟩
def rdT (f : Nat → Int32) (mk : Nat → Int32) (n : Nat) : Nat → Nat → Int32
  | 0 => f
  | k + 1 => upd (rdT f mk n k) k (sqT mk n (k + 1))
theorem rdT_at {f mk : Nat → Int32} {n : Nat} : ∀ K j, j < K → rdT f mk n K j = sqT mk n (j + 1) := by
  intro K
  induction K with
  | zero => intro j h; omega
  | succ K ih =>
    intro j h
    unfold rdT
    by_cases e : j = K
    · subst e; exact pk_us
    · rw [pk_un e]; exact ih j (by omega)
theorem partX {f mk : Nat → Int32} {n K : Nat} (hn : n ≤ 8) (hB : ∀ b, b < n → okMk mk b) (hK : K ≤ 8) (h1 : ∀ k, k < K → ¬ sqT mk n (k + 1) = -9) (h2 : sqT mk n (K + 1) = -9) : f_X2_part f mk (nI n) = some (rdT f mk n K, nI K) := by
  unfold f_X2_part
  refine lp_bd (fun i => (sqT mk n i, nI i, rdT f mk n i, nI i)) (rdT f mk n K, nI K) K (FU_lt (by omega)) rfl rfl ?_ ?_
  · intro i hi
    show f_X2_part_b9 mk (nI n) (sqT mk n i) (nI i) (rdT f mk n i) (nI i) = _
    unfold f_X2_part_b9
    rw [if_neg (nleL 8 8 rfl (by omega) (by omega)), firstEndX _ hn hB, Option.bind_some, if_neg (show ¬ enc9 (feN mk (sqT mk n i) n) = -9 from h1 i hi), gd_n (by omega) (by omega), nI_clamp (by omega), nI1]
    rfl
  · show f_X2_part_b9 mk (nI n) (sqT mk n K) (nI K) (rdT f mk n K) (nI K) = _
    unfold f_X2_part_b9
    by_cases h8 : (8 : Int32) ≤ nI K
    · rw [if_pos h8]
    · rw [if_neg h8, firstEndX _ hn hB, Option.bind_some, if_pos (show enc9 (feN mk (sqT mk n K) n) = -9 from h2)]
theorem st_times : St_times := by
  intro tx tl lw ice mk wt bd s6 s8 s7 s1 s5 s2 u0 u1 sm kz kb km kw hI
  obtain ⟨n, hn, rfl, hB⟩ := hI.2.2.2.1
  obtain ⟨K, hK, h1, h2⟩ := sqT_K hn hB
  refine ⟨nI K, rdT s2.1 mk n K, nI K, ?_, ?_, hI⟩
  · unfold f_X10_times
    rw [partX hn hB hK h1 h2]
    rfl
  · unfold f_X11_times
    rw [firstEndM _ hn hB, Option.bind_some]
    refine lp_bd (fun i => (nI i, sqT mk n (i + 1))) (nI K) K (FU_lt (by omega)) rfl rfl ?_ ?_
    · intro i hi
      show f_X11_times_b8 (nI n) mk (nI i) (sqT mk n (i + 1)) = _
      unfold f_X11_times_b8
      rw [if_neg (h1 i hi), firstEndM _ hn hB, Option.bind_some, nI1]
      rfl
    · show f_X11_times_b8 (nI n) mk (nI K) (sqT mk n (K + 1)) = _
      unfold f_X11_times_b8
      rw [if_pos h2]
theorem st_time : St_time := by
  intro tx tl lw ice mk wt bd s6 s8 s7 s1 s5 s2 u0 u1 sm kz kb km kw a1 hI
  obtain ⟨n, hn, rfl, hB⟩ := hI.2.2.2.1
  obtain ⟨K, hK, h1, h2⟩ := sqT_K hn hB
  have eX : f_X10_time mk (nI n) s2.1 a1 = (f_X2_roundOf (rdT s2.1 mk n K) (nI K) a1).bind (fun q2 => some (q2, rdT s2.1 mk n K, nI K)) := by
    unfold f_X10_time
    rw [partX hn hB hK h1 h2]
    rfl
  rw [eX]
  simp only [f_X2_roundOf, within_n, Option.bind_some, ite10]
  unfold f_X11_time
  rw [firstEndM _ hn hB, Option.bind_some]
  by_cases h : (0 : Int32) ≤ a1 ∧ a1 ≤ nI K - 1
  · obtain ⟨j, hj, rfl⟩ := (isBed_iff hK a1).mp h
    rw [if_pos h, gd_n (by omega) (by omega), nI_clamp (by omega), rdT_at K j hj]
    refine ⟨sqT mk n (j + 1), _, _, rfl, ?_, hI⟩
    refine lp_bd (fun i => (nI i, sqT mk n (i + 1))) (Sum.inr (sqT mk n (j + 1))) j (FU_lt (by omega)) rfl rfl ?_ ?_
    · intro i hi
      show f_X11_time_b8 (nI n) mk (nI j) (nI i) (sqT mk n (i + 1)) = _
      unfold f_X11_time_b8
      rw [if_neg (h1 i (by omega)), if_neg (fun e => by have := (nI_eq (by omega) (by omega)).mp e; omega), firstEndM _ hn hB, Option.bind_some, nI1]
      rfl
    · show f_X11_time_b8 (nI n) mk (nI j) (nI j) (sqT mk n (j + 1)) = _
      unfold f_X11_time_b8
      rw [if_neg (h1 j hj), if_pos rfl]
  · rw [if_neg h]
    refine ⟨-9, _, _, rfl, ?_, hI⟩
    refine lp_bd (fun i => (nI i, sqT mk n (i + 1))) (Sum.inl ()) K (FU_lt (by omega)) rfl rfl ?_ ?_
    · intro i hi
      show f_X11_time_b8 (nI n) mk a1 (nI i) (sqT mk n (i + 1)) = _
      unfold f_X11_time_b8
      rw [if_neg (h1 i (by omega)), if_neg (fun e => h ((isBed_iff hK a1).mpr ⟨i, hi, e.symm⟩)), firstEndM _ hn hB, Option.bind_some, nI1]
      rfl
    · show f_X11_time_b8 (nI n) mk a1 (nI K) (sqT mk n (K + 1)) = _
      unfold f_X11_time_b8
      rw [if_pos h2]
