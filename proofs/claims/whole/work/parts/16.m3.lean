/-! ===== beds as numbers; count, keep, again ===== -/
def mN (mk : Nat → Int32) (b w : Nat) : Nat := (mk (6 * b + w)).toNatClampNeg
theorem okMk.at {mk : Nat → Int32} {b : Nat} (h : okMk mk b) : (mN mk b 0 < 4 ∧ mN mk b 1 < 16 ∧ mN mk b 2 ≤ mN mk b 3 ∧ mN mk b 3 < 100 ∧ mN mk b 4 < 6 ∧ mN mk b 5 ≤ 10) ∧ mk (6 * b) = nI (mN mk b 0) ∧ mk (6 * b + 1) = nI (mN mk b 1) ∧ mk (6 * b + 2) = nI (mN mk b 2) ∧ mk (6 * b + 3) = nI (mN mk b 3) ∧ mk (6 * b + 4) = nI (mN mk b 4) ∧ mk (6 * b + 5) = nI (mN mk b 5) := by
  obtain ⟨la, si, ol, yo, ne, fi, h1, h2, h3, h4, h5, h6, e0, e1, e2, e3, e4, e5⟩ := h
  have n0 : mN mk b 0 = la := by unfold mN; rw [Nat.add_zero, e0, nI_clamp (by omega)]
  have n1 : mN mk b 1 = si := by unfold mN; rw [e1, nI_clamp (by omega)]
  have n2 : mN mk b 2 = ol := by unfold mN; rw [e2, nI_clamp (by omega)]
  have n3 : mN mk b 3 = yo := by unfold mN; rw [e3, nI_clamp (by omega)]
  have n4 : mN mk b 4 = ne := by unfold mN; rw [e4, nI_clamp (by omega)]
  have n5 : mN mk b 5 = fi := by unfold mN; rw [e5, nI_clamp (by omega)]
  rw [n0, n1, n2, n3, n4, n5]
  exact ⟨⟨h1, h2, h3, h4, h5, h6⟩, e0, e1, e2, e3, e4, e5⟩
/-- whether a bed is icy -/
def icB (mk : Nat → Int32) (b : Nat) : Bool := icN (mN mk b 1)
theorem icX {mk : Nat → Int32} {b : Nat} (hb : b < 8) (h : okMk mk b) : f_X4_isIcy mk (nI b) = some (if icB mk b = true then 1 else 0) := isIcy_n mk hb h.at.1.2.1 h.at.2.2.1
theorem icM {mk : Nat → Int32} {b : Nat} (hb : b < 8) (h : okMk mk b) : f_X11_isIcy mk (nI b) = some (if icB mk b = true then 1 else 0) := mIcy_n mk hb h.at.1.2.1 h.at.2.2.1
def cIcy (mk : Nat → Int32) : Nat → Nat
  | 0 => 0
  | b + 1 => cIcy mk b + if icB mk b = true then 1 else 0
theorem nI1 (n : Nat) : nI n + (1 : Int32) = nI (n + 1) := nI_1 n
theorem nle {a b : Nat} (h : a < b) (hb : b < 2147483648) : ¬ nI b ≤ nI a := nI_ge h hb
theorem FU_lt {n : Nat} (h : n < 200000) : n < FU := h
theorem icyBeds_n {mk : Nat → Int32} {n : Nat} (hn : n ≤ 8) (hB : ∀ b, b < n → okMk mk b) : f_X4_icyBeds mk (nI n) = some (nI (cIcy mk n)) := by
  unfold f_X4_icyBeds
  refine lp_bd (fun i => (nI (cIcy mk i), nI i)) (nI (cIcy mk n)) n (FU_lt (by omega)) rfl rfl ?_ ?_
  · intro i hi
    show f_X4_icyBeds_b4 mk (nI n) (nI (cIcy mk i)) (nI i) = _
    unfold f_X4_icyBeds_b4
    rw [if_neg (nle hi (by omega)), icX (by omega) (hB i hi), Option.bind_some, ite10, nI1, nI1]
    by_cases h : icB mk i = true
    · rw [if_pos h]
      show _ = some (Sum.inl (nI (cIcy mk i + if icB mk i = true then 1 else 0), nI (i + 1)))
      rw [if_pos h]
    · rw [if_neg h]
      show _ = some (Sum.inl (nI (cIcy mk i + if icB mk i = true then 1 else 0), nI (i + 1)))
      rw [if_neg h]; rfl
  · show f_X4_icyBeds_b4 mk (nI n) (nI (cIcy mk n)) (nI n) = _
    unfold f_X4_icyBeds_b4
    rw [if_pos (Int32.le_refl _)]
def sumW (wt : Nat → Int32) : Nat → Int32
  | 0 => 0
  | s + 1 => sumW wt s + wt s
theorem weightsTogether_n (wt : Nat → Int32) : f_X4_weightsTogether wt = some (sumW wt 4) := by
  unfold f_X4_weightsTogether
  refine lp_bd (fun i => (sumW wt i, nI i)) (sumW wt 4) 4 (FU_lt (by omega)) rfl rfl ?_ ?_
  · intro i hi
    show f_X4_weightsTogether_b4 wt (sumW wt i) (nI i) = _
    unfold f_X4_weightsTogether_b4
    rw [if_neg (nleL 4 4 rfl hi (by omega)), gd_n hi (by omega), nI_clamp (by omega), nI1]
    rfl
  · show f_X4_weightsTogether_b4 wt (sumW wt 4) (nI 4) = _
    unfold f_X4_weightsTogether_b4
    rw [if_pos (by decide)]
theorem mCount_n {tl : Int32} {wt mk : Nat → Int32} {n : Nat} (a1 : Int32) (hn : n ≤ 8) (hB : ∀ b, b < n → okMk mk b) : f_X11_count tl wt (nI n) mk a1 = f_X11_count_x64_2 tl (nI n) a1 (nI (cIcy mk n)) (sumW wt 4) := by
  unfold f_X11_count
  refine lp_bd (fun i => (nI (cIcy mk i), nI i)) (nI (cIcy mk n)) n (FU_lt (by omega)) rfl ?_ ?_ ?_
  · unfold f_X11_count_x39_1
    refine lp_bd (fun i => (sumW wt i, nI i)) (sumW wt 4) 4 (FU_lt (by omega)) rfl rfl ?_ ?_
    · intro i hi
      show f_X11_count_b42 wt (sumW wt i) (nI i) = _
      unfold f_X11_count_b42
      rw [if_neg (nleL 4 4 rfl hi (by omega)), gd_n hi (by omega), nI_clamp (by omega), nI1]
      rfl
    · show f_X11_count_b42 wt (sumW wt 4) (nI 4) = _
      unfold f_X11_count_b42
      rw [if_pos (by decide)]
  · intro i hi
    show f_X11_count_b7 (nI n) mk (nI (cIcy mk i)) (nI i) = _
    unfold f_X11_count_b7
    rw [if_neg (nle hi (by omega)), icM (by omega) (hB i hi), Option.bind_some, ite10, nI1, nI1, show nI (cIcy mk i) + (0 : Int32) = nI (cIcy mk i) from nI_add _ 0]
    by_cases h : icB mk i = true
    · rw [if_pos h]
      show _ = some (Sum.inl (nI (cIcy mk i + if icB mk i = true then 1 else 0), nI (i + 1)))
      rw [if_pos h]
    · rw [if_neg h]
      show _ = some (Sum.inl (nI (cIcy mk i + if icB mk i = true then 1 else 0), nI (i + 1)))
      rw [if_neg h]; rfl
  · show f_X11_count_b7 (nI n) mk (nI (cIcy mk n)) (nI n) = _
    unfold f_X11_count_b7
    rw [if_pos (Int32.le_refl _)]
theorem st_count : St_count := by
  intro tx tl lw ice mk wt bd s6 s8 s7 s1 s5 s2 u0 u1 sm kz kb km kw a1 hI
  obtain ⟨n, hn, rfl, hB⟩ := hI.2.2.2.1
  rw [mCount_n a1 hn hB]
  simp only [f_X10_count, icyBeds_n hn hB, weightsTogether_n, Option.bind_some, f_X11_count_x64_2]
  by_cases h0 : a1 = 0
  · simp only [if_pos h0]; exact ⟨_, rfl, rfl, hI⟩
  simp only [if_neg h0]
  by_cases h1 : a1 = 1
  · simp only [if_pos h1]; exact ⟨_, rfl, rfl, hI⟩
  simp only [if_neg h1]
  by_cases h2 : a1 = 2
  · simp only [if_pos h2]; exact ⟨_, rfl, rfl, hI⟩
  simp only [if_neg h2]
  by_cases h3 : a1 = 3
  · simp only [if_pos h3]; exact ⟨_, rfl, rfl, hI⟩
  simp only [if_neg h3]
  exact ⟨_, rfl, rfl, hI⟩
theorem cpy_succ (f g : Nat → Int32) (sp dp i : Nat) : upd (va_cpy f g sp dp i) (dp + i) (f (sp + i)) = va_cpy f g sp dp (i + 1) := by
  funext k
  unfold upd va_cpy
  by_cases h : k = dp + i
  · subst h
    rw [if_pos rfl, if_pos ⟨by omega, by omega⟩]
    congr 1; omega
  · rw [if_neg h]
    by_cases h2 : dp ≤ k ∧ k < dp + i
    · rw [if_pos h2, if_pos ⟨h2.1, by omega⟩]
    · rw [if_neg h2, if_neg (fun h3 => h2 ⟨h3.1, by omega⟩)]
theorem cpy_0 (f g : Nat → Int32) (sp dp : Nat) : va_cpy f g sp dp 0 = g := by
  funext k
  unfold va_cpy
  rw [if_neg (fun h => by omega)]
theorem cpy_eq {f f2 g : Nat → Int32} {sp sp2 dp n : Nat} (h : ∀ j, j < n → f (sp + j) = f2 (sp2 + j)) : va_cpy f g sp dp n = va_cpy f2 g sp2 dp n := by
  funext k
  unfold va_cpy
  by_cases hk : dp ≤ k ∧ k < dp + n
  · rw [if_pos hk, if_pos hk]; exact h _ (by omega)
  · rw [if_neg hk, if_neg hk]
theorem sx48 {s i : Nat} : (48 : Int32) * nI s + nI i = nI (48 * s + i) := by rw [show (48 : Int32) = nI 48 from rfl, pk_mul, nI_add]
theorem sx4 {s i : Nat} : (4 : Int32) * nI s + nI i = nI (4 * s + i) := by rw [show (4 : Int32) = nI 4 from rfl, pk_mul, nI_add]
theorem mKeep_n {wt mk kz kb km kw : Nat → Int32} {bd : Int32} {s : Nat} (hs : s < 2) : f_X11_keep wt bd mk kz kb km kw (nI s) = some (bd, upd kz s 1, upd kb s bd, va_cpy mk km 0 (48 * s) 48, va_cpy wt kw 0 (4 * s) 4) := by
  unfold f_X11_keep
  rw [in_0_1, Option.bind_some, ite10, if_pos (gr1 (by omega)), gd_n (by omega) (by omega), gd_n (by omega) (by omega), nI_clamp (by omega)]
  rw [lp_run (fun i => (nI i, upd kz s 1, upd kb s bd, va_cpy mk km 0 (48 * s) i)) (r := (upd kz s 1, upd kb s bd, va_cpy mk km 0 (48 * s) 48)) 48 ?_ ?_ FU (FU_lt (by omega)) (by rw [cpy_0]; rfl), Option.bind_some]
  · show f_X11_keep_x60_5 wt bd kw (nI s) (upd kz s 1) (upd kb s bd) (va_cpy mk km 0 (48 * s) 48) = _
    unfold f_X11_keep_x60_5
    rw [lp_run (fun i => (nI i, va_cpy wt kw 0 (4 * s) i)) (r := va_cpy wt kw 0 (4 * s) 4) 4 ?_ ?_ FU (FU_lt (by omega)) (by rw [cpy_0]; rfl), Option.bind_some]
    · rfl
    · intro i hi
      show f_X11_keep_b62 wt (nI s) (nI i) (va_cpy wt kw 0 (4 * s) i) = _
      unfold f_X11_keep_b62
      rw [if_neg (nleL 4 4 rfl hi (by omega)), gd_n hi (by omega), sx4, gd_n (by omega) (by omega), nI_clamp (by omega), nI_clamp (by omega), nI1, ← cpy_succ, Nat.zero_add]
    · show f_X11_keep_b62 wt (nI s) (nI 4) (va_cpy wt kw 0 (4 * s) 4) = _
      unfold f_X11_keep_b62
      rw [if_pos (by decide)]
  · intro i hi
    show f_X11_keep_b31 mk (nI s) (nI i) (upd kz s 1) (upd kb s bd) (va_cpy mk km 0 (48 * s) i) = _
    unfold f_X11_keep_b31
    rw [if_neg (nleL 48 48 rfl hi (by omega)), gd_n hi (by omega), sx48, gd_n (by omega) (by omega), nI_clamp (by omega), nI_clamp (by omega), nI1, ← cpy_succ, Nat.zero_add]
  · show f_X11_keep_b31 mk (nI s) (nI 48) (upd kz s 1) (upd kb s bd) (va_cpy mk km 0 (48 * s) 48) = _
    unfold f_X11_keep_b31
    rw [if_pos (by decide)]
theorem mAgain_n {wt mk kz kb km kw : Nat → Int32} {bd : Int32} {s : Nat} (hs : s < 2) : f_X11_again wt bd mk kz kb km kw (nI s) = if kz s = 0 then some (-3, wt, bd, mk) else some (kb s, va_cpy kw wt (4 * s) 0 4, kb s, va_cpy km mk (48 * s) 0 48) := by
  unfold f_X11_again
  rw [in_0_1, Option.bind_some, ite10, if_pos (gr1 (by omega)), gd_n (by omega) (by omega), gd_n (by omega) (by omega), nI_clamp (by omega)]
  by_cases hk : kz s = 0
  · rw [if_pos hk, if_pos hk]
  rw [if_neg hk, if_neg hk]
  rw [lp_run (fun i => (nI i, kb s, va_cpy km mk (48 * s) 0 i)) (r := (kb s, va_cpy km mk (48 * s) 0 48)) 48 ?_ ?_ FU (FU_lt (by omega)) (by rw [cpy_0]; rfl), Option.bind_some]
  · show f_X11_again_x65_6 wt kw (nI s) (kb s) (va_cpy km mk (48 * s) 0 48) = _
    unfold f_X11_again_x65_6
    rw [lp_run (fun i => (nI i, va_cpy kw wt (4 * s) 0 i)) (r := va_cpy kw wt (4 * s) 0 4) 4 ?_ ?_ FU (FU_lt (by omega)) (by rw [cpy_0]; rfl), Option.bind_some]
    · rfl
    · intro i hi
      show f_X11_again_b67 kw (nI s) (nI i) (va_cpy kw wt (4 * s) 0 i) = _
      unfold f_X11_again_b67
      rw [if_neg (nleL 4 4 rfl hi (by omega)), sx4, gd_n (by omega) (by omega), gd_n hi (by omega), nI_clamp (by omega), nI_clamp (by omega), nI1, ← cpy_succ, Nat.zero_add]
    · show f_X11_again_b67 kw (nI s) (nI 4) (va_cpy kw wt (4 * s) 0 4) = _
      unfold f_X11_again_b67
      rw [if_pos (by decide)]
  · intro i hi
    show f_X11_again_b36 km (nI s) (nI i) (kb s) (va_cpy km mk (48 * s) 0 i) = _
    unfold f_X11_again_b36
    rw [if_neg (nleL 48 48 rfl hi (by omega)), sx48, gd_n (by omega) (by omega), gd_n hi (by omega), nI_clamp (by omega), nI_clamp (by omega), nI1, ← cpy_succ, Nat.zero_add]
  · show f_X11_again_b36 km (nI s) (nI 48) (kb s) (va_cpy km mk (48 * s) 0 48) = _
    unfold f_X11_again_b36
    rw [if_pos (by decide)]
theorem okB_cpy {mk g : Nat → Int32} {bd : Int32} (h : okB mk bd) : okB (va_cpy mk g 0 0 48) bd := by
  obtain ⟨n, hn, e, hB⟩ := h
  refine ⟨n, hn, e, fun b hb => okMk_keep (fun j hj => ?_) (hB b hb)⟩
  rw [pk_cpy_in (by omega) (by omega)]
  congr 1; omega
theorem okW_cpy {wt g : Nat → Int32} (h : okW wt) : okW (va_cpy wt g 0 0 4) := by
  intro s hs
  rw [pk_cpy_in (by omega) (by omega), show 0 + (s - 0) = s by omega]
  exact h s hs
theorem st_keep : St_keep := by
  intro tx tl lw ice mk wt bd s6 s8 s7 s1 s5 s2 u0 u1 sm kz kb km kw a1 hI
  by_cases h : (0 : Int32) ≤ a1 ∧ a1 ≤ 1
  · obtain ⟨s, hs, rfl⟩ := rg 1 (by omega) rfl h
    rw [mKeep_n (by omega)]
    have hm : okB mk bd := hI.2.2.2.1
    have hw : okW wt := hI.2.2.2.2.1
    have o0 := hI.2.2.2.2.2.2.1
    have o1 := hI.2.2.2.2.2.2.2
    by_cases h0 : s = 0
    · subst h0
      refine ⟨bd, va_cpy mk u0.1 0 0 48, va_cpy wt u0.2.1 0 0 4, bd, 1, u1.1, u1.2.1, u1.2.2.1, u1.2.2.2, _, _, _, _, ?_, rfl, hI.1, hI.2.1, hI.2.2.1, hm, hw, hI.2.2.2.2.2.1, ?_, ?_⟩
      · simp only [f_X10_keep, isSlot_n, Option.bind_some, ite10]
        rw [if_pos h, gd_n (by omega) (by omega), if_pos (show nI 0 = 0 from rfl)]
        simp only [f_X4_copyFrom, Option.bind_some]
        rw [gd_n (by omega) (by omega)]
        rfl
      · refine ⟨pk_us.symm, Or.inr pk_us, fun _ => ⟨pk_us.symm, fun j hj => ?_, fun j hj => ?_, okB_cpy hm, okW_cpy hw⟩⟩
        · dsimp only; rw [pk_cpy_in (by omega) (by omega), pk_cpy_in (by omega) (by omega)]; congr 1; omega
        · dsimp only; rw [pk_cpy_in (by omega) (by omega), pk_cpy_in (by omega) (by omega)]; congr 1; omega
      · have e1 : upd kz 0 1 1 = kz 1 := pk_un (by omega)
        have e2 : upd kb 0 bd 1 = kb 1 := pk_un (by omega)
        rw [e1, e2]
        refine ⟨o1.1, o1.2.1, fun hz => ⟨(o1.2.2 hz).1, fun j hj => ?_, fun j hj => ?_, (o1.2.2 hz).2.2.2.1, (o1.2.2 hz).2.2.2.2⟩⟩
        · rw [pk_cpy_out (by omega)]; exact (o1.2.2 hz).2.1 j hj
        · rw [pk_cpy_out (by omega)]; exact (o1.2.2 hz).2.2.1 j hj
    · have h1 : s = 1 := by omega
      subst h1
      refine ⟨bd, u0.1, u0.2.1, u0.2.2.1, u0.2.2.2, va_cpy mk u1.1 0 0 48, va_cpy wt u1.2.1 0 0 4, bd, 1, _, _, _, _, ?_, rfl, hI.1, hI.2.1, hI.2.2.1, hm, hw, hI.2.2.2.2.2.1, ?_, ?_⟩
      · simp only [f_X10_keep, isSlot_n, Option.bind_some, ite10]
        rw [if_pos h, gd_n (by omega) (by omega), if_neg (by decide)]
        simp only [f_X4_copyFrom, Option.bind_some]
        rw [gd_n (by omega) (by omega)]
        rfl
      · have e1 : upd kz 1 1 0 = kz 0 := pk_un (by omega)
        have e2 : upd kb 1 bd 0 = kb 0 := pk_un (by omega)
        rw [e1, e2]
        refine ⟨o0.1, o0.2.1, fun hz => ⟨(o0.2.2 hz).1, fun j hj => ?_, fun j hj => ?_, (o0.2.2 hz).2.2.2.1, (o0.2.2 hz).2.2.2.2⟩⟩
        · rw [pk_cpy_out (by omega)]; exact (o0.2.2 hz).2.1 j hj
        · rw [pk_cpy_out (by omega)]; exact (o0.2.2 hz).2.2.1 j hj
      · refine ⟨pk_us.symm, Or.inr pk_us, fun _ => ⟨pk_us.symm, fun j hj => ?_, fun j hj => ?_, okB_cpy hm, okW_cpy hw⟩⟩
        · dsimp only; rw [pk_cpy_in (by omega) (by omega), pk_cpy_in (by omega) (by omega)]; congr 1; omega
        · dsimp only; rw [pk_cpy_in (by omega) (by omega), pk_cpy_in (by omega) (by omega)]; congr 1; omega
  · refine ⟨-1, u0.1, u0.2.1, u0.2.2.1, u0.2.2.2, u1.1, u1.2.1, u1.2.2.1, u1.2.2.2, kz, kb, km, kw, ?_, ?_, hI⟩
    · simp only [f_X10_keep, isSlot_n, Option.bind_some, ite10]
      rw [if_neg h]
    · simp only [f_X11_keep, in_0_1, Option.bind_some, ite10]
      rw [if_neg h]
theorem st_again : St_again := by
  intro tx tl lw ice mk wt bd s6 s8 s7 s1 s5 s2 u0 u1 sm kz kb km kw a1 hI
  by_cases h : (0 : Int32) ≤ a1 ∧ a1 ≤ 1
  · obtain ⟨s, hs, rfl⟩ := rg 1 (by omega) rfl h
    rw [mAgain_n (by omega)]
    simp only [f_X10_again, isSlot_n, Option.bind_some, ite10]
    rw [if_pos h, gd_n (by omega) (by omega)]
    have o0 := hI.2.2.2.2.2.2.1
    have o1 := hI.2.2.2.2.2.2.2
    by_cases h0 : s = 0
    · subst h0
      rw [if_pos (show nI 0 = 0 from rfl), o0.1]
      by_cases hz : kz 0 = 0
      · simp only [if_pos hz]
        exact ⟨-3, mk, wt, bd, rfl, rfl, hI⟩
      · simp only [if_neg hz]
        have q := o0.2.2 (o0.2.1.resolve_left hz)
        rw [gd_n (by omega) (by omega)]
        simp only [f_X4_copyFrom, Option.bind_some]
        refine ⟨u0.2.2.1, va_cpy u0.1 mk 0 0 48, va_cpy u0.2.1 wt 0 0 4, u0.2.2.1, rfl, ?_, hI.1, hI.2.1, hI.2.2.1, okB_cpy q.2.2.2.1, okW_cpy q.2.2.2.2, hI.2.2.2.2.2⟩
        rw [q.1, cpy_eq (f := kw) (f2 := u0.2.1) (sp2 := 0) (fun j hj => by rw [q.2.2.1 j hj, Nat.zero_add]), cpy_eq (f := km) (f2 := u0.1) (sp2 := 0) (fun j hj => by rw [q.2.1 j hj, Nat.zero_add])]
    · have h1 : s = 1 := by omega
      subst h1
      rw [if_neg (by decide), o1.1]
      by_cases hz : kz 1 = 0
      · simp only [if_pos hz]
        exact ⟨-3, mk, wt, bd, rfl, rfl, hI⟩
      · simp only [if_neg hz]
        have q := o1.2.2 (o1.2.1.resolve_left hz)
        rw [gd_n (by omega) (by omega)]
        simp only [f_X4_copyFrom, Option.bind_some]
        refine ⟨u1.2.2.1, va_cpy u1.1 mk 0 0 48, va_cpy u1.2.1 wt 0 0 4, u1.2.2.1, rfl, ?_, hI.1, hI.2.1, hI.2.2.1, okB_cpy q.2.2.2.1, okW_cpy q.2.2.2.2, hI.2.2.2.2.2⟩
        rw [q.1, cpy_eq (f := kw) (f2 := u1.2.1) (sp2 := 0) (fun j hj => by rw [q.2.2.1 j hj, Nat.zero_add]), cpy_eq (f := km) (f2 := u1.1) (sp2 := 0) (fun j hj => by rw [q.2.1 j hj, Nat.zero_add])]
  · refine ⟨-1, mk, wt, bd, ?_, ?_, hI⟩
    · simp only [f_X10_again, isSlot_n, Option.bind_some, ite10]
      rw [if_neg h]
    · simp only [f_X11_again, in_0_1, Option.bind_some, ite10]
      rw [if_neg h]
