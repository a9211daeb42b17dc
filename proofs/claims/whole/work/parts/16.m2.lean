/-! ===== beds: marks, signs ===== -/
theorem tbAnd (a b : Nat) : nI a &&& nI b = nI (a &&& b) := by
  apply Int32.toBitVec_inj.mp
  rw [Int32.toBitVec_and]
  show BitVec.ofNat 32 a &&& BitVec.ofNat 32 b = BitVec.ofNat 32 (a &&& b)
  rw [BitVec.ofNat_and]
theorem markOf_n (mk : Nat → Int32) {b w : Nat} (hb : b < 8) (hw : w < 6) : f_X4_markOf mk (nI b) (nI w) = some (mk (6 * b + w)) := by
  simp only [f_X4_markOf, within_n, Option.bind_some, ite10, f_X4_markOf_j24, f_X4_markOf_j23]
  rw [if_pos (gr7 (by omega)), if_pos (gr5 (by omega)), if_neg (by decide)]
  have e : nI b * (6 : Int32) + nI w = nI (6 * b + w) := by rw [show (6 : Int32) = nI 6 from rfl, pk_mul, nI_add, Nat.mul_comm]
  rw [e, gd_n (by omega) (by omega), nI_clamp (by omega)]
theorem mark_n (mk : Nat → Int32) {b w : Nat} (v : Int32) (hb : b < 8) (hw : w < 6) : f_X4_mark mk (nI b) (nI w) v = some (upd mk (6 * b + w) v) := by
  simp only [f_X4_mark, within_n, Option.bind_some, ite10]
  rw [if_pos (gr7 (by omega)), if_pos (gr5 (by omega))]
  have e : nI b * (6 : Int32) + nI w = nI (6 * b + w) := by rw [show (6 : Int32) = nI 6 from rfl, pk_mul, nI_add, Nat.mul_comm]
  rw [e, gd_n (by omega) (by omega), nI_clamp (by omega)]
def sgX (v m : Int32) : Int32 := if v &&& m = 0 then 0 else 1
theorem hasSign_n (mk : Nat → Int32) {b : Nat} (m : Int32) (hb : b < 8) : f_X4_hasSign mk (nI b) m = some (sgX (mk (6 * b + 1)) m) := by
  unfold f_X4_hasSign
  rw [show (1 : Int32) = nI 1 from rfl, markOf_n mk hb (by omega)]
  simp only [Option.bind_some, sgX]
  by_cases h : mk (6 * b + 1) &&& m = 0
  · rw [if_pos h, if_pos h]
  · rw [if_neg h, if_neg h]; rfl
def icN (si : Nat) : Bool := si % 4 != 0
theorem icy_16 : ∀ si, si < 16 → sgX (nI si) 3 = (if icN si = true then 1 else 0) ∧ ((nI si &&& 3) ≤ 0 ↔ ¬ icN si = true) := by decide +kernel
theorem isIcy_n (mk : Nat → Int32) {b si : Nat} (hb : b < 8) (hs : si < 16) (e : mk (6 * b + 1) = nI si) : f_X4_isIcy mk (nI b) = some (if icN si = true then 1 else 0) := by
  unfold f_X4_isIcy
  rw [hasSign_n mk _ hb, e, (icy_16 si hs).1]
  simp only [Option.bind_some, zb_if]
theorem six {b w : Nat} {W : Int32} (hW : W = nI w) : (6 : Int32) * nI b + W = nI (6 * b + w) := by rw [hW, show (6 : Int32) = nI 6 from rfl, pk_mul, nI_add]
theorem six0 {b : Nat} : (6 : Int32) * nI b = nI (6 * b) := by rw [show (6 : Int32) = nI 6 from rfl, pk_mul]
theorem mIcy_n (mk : Nat → Int32) {b si : Nat} (hb : b < 8) (hs : si < 16) (e : mk (6 * b + 1) = nI si) : f_X11_isIcy mk (nI b) = some (if icN si = true then 1 else 0) := by
  unfold f_X11_isIcy
  rw [six (W := 1) (w := 1) rfl, gd_n (by omega) (by omega), nI_clamp (by omega), e]
  by_cases h : icN si = true
  · rw [if_neg (fun q => (icy_16 si hs).2.mp q h), if_pos h]
  · rw [if_pos ((icy_16 si hs).2.mpr h), if_neg h]
/-- tenths of a slide -/
def slN (si : Nat) : Nat := (if si / 8 % 2 = 1 then 6 else 2) - (if si / 2 % 2 = 1 then 1 else 0) - (if si / 4 % 2 = 1 then 1 else 0)
def slX (v : Int32) : Int32 :=
  let t0 : Int32 := if sgX v 8 = 0 then 2 else 6
  let t1 : Int32 := if sgX v 2 = 0 then t0 else t0 + (-1)
  if sgX v 4 = 0 then t1 else t1 + (-1)
def slM (v : Int32) : Int32 :=
  let t0 : Int32 := if (v &&& 8) ≤ 0 then 2 + 0 else 2 + 4
  let t1 : Int32 := if (v &&& 2) ≤ 0 then t0 - 0 else t0 - 1
  if (v &&& 4) ≤ 0 then t1 - 0 else t1 - 1
theorem sl_16 : ∀ si, si < 16 → slX (nI si) = nI (slN si) ∧ slM (nI si) = nI (slN si) ∧ slN si ≤ 6 := by decide +kernel
theorem slide_n (mk : Nat → Int32) {b si : Nat} (hb : b < 8) (hs : si < 16) (e : mk (6 * b + 1) = nI si) : f_X4_slideTenths mk (nI b) = some (nI (slN si)) := by
  rw [← (sl_16 si hs).1, ← e]
  simp only [f_X4_slideTenths, f_X4_slideTenths_j16, f_X4_slideTenths_j29, hasSign_n mk _ hb, Option.bind_some, slX]
  split <;> split <;> split <;> rfl
theorem mSlide_n (mk : Nat → Int32) {b si : Nat} (hb : b < 8) (hs : si < 16) (e : mk (6 * b + 1) = nI si) : f_X11_slide mk (nI b) = some (nI (slN si)) := by
  rw [← (sl_16 si hs).2.1, ← e]
  unfold f_X11_slide
  rw [six (W := 1) (w := 1) rfl, gd_n (by omega) (by omega), nI_clamp (by omega)]
  simp only [f_X11_slide_j25, f_X11_slide_j37, Option.bind_some, slM]
  split <;> split <;> split <;> rfl
theorem isBed_iff {n : Nat} (hn : n ≤ 8) (a : Int32) : ((0 : Int32) ≤ a ∧ a ≤ nI n - 1) ↔ ∃ k : Nat, k < n ∧ a = nI k := by
  constructor
  · intro h
    obtain ⟨k, hk, e⟩ := nI_of (Int32.not_lt.mpr h.1)
    subst e
    refine ⟨k, ?_, rfl⟩
    have h2 := h.2
    rw [show (1 : Int32) = nI 1 from rfl, Int32.le_iff_toInt_le, pk_sub_toInt (by omega) (by omega), nI_toInt hk] at h2
    omega
  · rintro ⟨k, hk, rfl⟩
    refine ⟨nI_pos' (by omega), ?_⟩
    rw [show (1 : Int32) = nI 1 from rfl, Int32.le_iff_toInt_le, pk_sub_toInt (by omega) (by omega), nI_toInt (by omega)]
    omega
theorem isBed_n (bd a : Int32) : f_X10_isBed bd a = some (if (0 : Int32) ≤ a ∧ a ≤ bd - 1 then 1 else 0) := by simp only [f_X10_isBed, within_n, Option.bind_some, zb_if]
theorem mBed_n (bd a : Int32) : f_X11_isBed bd a = some (if (0 : Int32) ≤ a ∧ a ≤ bd - 1 then 1 else 0) := by simp only [f_X11_isBed, in_0_x, Option.bind_some, zb_if]
theorem okMk_keep {mk mk' : Nat → Int32} {b : Nat} (h : ∀ j, j < 6 → mk' (6 * b + j) = mk (6 * b + j)) (hm : okMk mk b) : okMk mk' b := by
  obtain ⟨la, si, ol, yo, ne, fi, h1, h2, h3, h4, h5, h6, e0, e1, e2, e3, e4, e5⟩ := hm
  exact ⟨la, si, ol, yo, ne, fi, h1, h2, h3, h4, h5, h6, (h 0 (by omega)).trans e0, (h 1 (by omega)).trans e1, (h 2 (by omega)).trans e2, (h 3 (by omega)).trans e3, (h 4 (by omega)).trans e4, (h 5 (by omega)).trans e5⟩
theorem st_forget : St_forget := by
  intro tx tl lw ice mk wt bd s6 s8 s7 s1 s5 s2 u0 u1 sm kz kb km kw hI
  obtain ⟨n, hn, rfl, hB⟩ := hI.2.2.2.1
  unfold f_X10_forget f_X11_forget
  by_cases h : n = 0
  · subst h
    rw [if_neg (by decide), if_pos (show nI 0 = 0 from rfl)]
    exact ⟨-3, nI 0, rfl, rfl, hI⟩
  · rw [if_pos (show (0 : Int32) < nI n from nI_lt (a := 0) (by omega) (by omega)), if_neg (nI_ne0 (by omega) (by omega))]
    have e : nI n - 1 = nI (n - 1) := by rw [show (1 : Int32) = nI 1 from rfl, pk_sub (by omega)]
    rw [e]
    refine ⟨nI (n - 1), nI (n - 1), rfl, rfl, ?_⟩
    exact ⟨hI.1, hI.2.1, hI.2.2.1, ⟨n - 1, by omega, rfl, fun b hb => hB b (by omega)⟩, hI.2.2.2.2⟩
theorem st_weight : St_weight := by
  intro tx tl lw ice mk wt bd s6 s8 s7 s1 s5 s2 u0 u1 sm kz kb km kw a1 a2 hI
  simp only [f_X10_weight, f_X11_weight, isStory_n, mStory_n, within_n, in_0_9, Option.bind_some, ite10]
  by_cases h : (0 : Int32) ≤ a1 ∧ a1 ≤ 3
  · simp only [if_pos h]
    by_cases h2 : (0 : Int32) ≤ a2 ∧ a2 ≤ 9
    · simp only [if_pos h2]
      obtain ⟨k, hk, rfl⟩ := rg 3 (by omega) rfl h
      obtain ⟨w, hw, rfl⟩ := rg 9 (by omega) rfl h2
      simp only [gd_n (show k < 4 by omega) (show 4 < 2147483648 by omega), nI_clamp (show k < 2 ^ 31 by omega)]
      refine ⟨wt k, upd wt k (nI w), rfl, rfl, hI.1, hI.2.1, hI.2.2.1, hI.2.2.2.1, fun s hs4 => ?_, hI.2.2.2.2.2⟩
      by_cases hs : s = k
      · subst hs; exact ⟨w, hw, pk_us⟩
      · rw [pk_un hs]; exact hI.2.2.2.2.1 s hs4
    · simp only [if_neg h2]
      exact ⟨-2, wt, rfl, rfl, hI⟩
  · simp only [if_neg h]
    exact ⟨-1, wt, rfl, rfl, hI⟩
theorem st_about : St_about := by
  intro tx tl lw ice mk wt bd s6 s8 s7 s1 s5 s2 u0 u1 sm kz kb km kw a1 a2 hI
  obtain ⟨n, hn, rfl, hB⟩ := hI.2.2.2.1
  simp only [f_X10_about, f_X11_about, isBed_n, mBed_n, within_n, in_0_7, Option.bind_some, ite10]
  by_cases h : (0 : Int32) ≤ a1 ∧ a1 ≤ nI n - 1
  · simp only [if_pos h]
    obtain ⟨b, hb, rfl⟩ := (isBed_iff hn a1).mp h
    obtain ⟨la, si, ol, yo, ne, fi, h1, h2, h3, h4, h5, h6, e0, e1, e2, e3, e4, e5⟩ := hB b hb
    by_cases hw : (0 : Int32) ≤ a2 ∧ a2 ≤ 7
    · simp only [if_pos hw]
      obtain ⟨w, hw, rfl⟩ := rg 7 (by omega) rfl hw
      by_cases w6 : w = 6
      · subst w6
        simp only [if_pos (show nI 6 = 6 from rfl), if_pos (show (6 : Int32) ≤ nI 6 by decide), slide_n mk (show b < 8 by omega) h2 e1, mSlide_n mk (show b < 8 by omega) h2 e1]
        exact ⟨nI (slN si), rfl, rfl, hI⟩
      · by_cases w7 : w = 7
        · subst w7
          simp only [if_neg (show ¬ nI 7 = 6 by decide), if_pos (show nI 7 = 7 from rfl), if_pos (show (6 : Int32) ≤ nI 7 by decide), isIcy_n mk (show b < 8 by omega) h2 e1, mIcy_n mk (show b < 8 by omega) h2 e1]
          simp only [Option.bind_some, ite10]
          by_cases hc : icN si = true
          · rw [if_pos hc]; exact ⟨1, rfl, rfl, hI⟩
          · rw [if_neg hc]; exact ⟨0, rfl, rfl, hI⟩
        · rw [if_neg (show ¬ nI w = 6 from fun e => w6 ((nI_eq (b := 6) (by omega) (by omega)).mp e)), if_neg (show ¬ nI w = 7 from fun e => w7 ((nI_eq (b := 7) (by omega) (by omega)).mp e)), if_neg (show ¬ (6 : Int32) ≤ nI w from nI_ge (b := 6) (by omega) (by omega)), markOf_n mk (by omega) (by omega), six rfl, gd_n (by omega) (by omega), nI_clamp (by omega)]
          exact ⟨mk (6 * b + w), rfl, rfl, hI⟩
    · simp only [if_neg hw]
      exact ⟨-2, rfl, rfl, hI⟩
  · simp only [if_neg h]
    exact ⟨-1, rfl, rfl, hI⟩
theorem st_bed : St_bed := by
  intro tx tl lw ice mk wt bd s6 s8 s7 s1 s5 s2 u0 u1 sm kz kb km kw a1 a2 a3 a4 a5 a6 hI
  obtain ⟨n, hn, rfl, hB⟩ := hI.2.2.2.1
  simp only [f_X10_bed, f_X11_bed, isLand_n, isBand_n, isRound_n, within_n, in_0_3, in_0_5, in_0_15, in_0_99, in_0_10, in_x_99, Option.bind_some, ite10]
  by_cases c1 : (0 : Int32) ≤ a1 ∧ a1 ≤ 3
  rotate_left
  · simp only [if_neg c1]; exact ⟨-1, mk, nI n, rfl, rfl, hI⟩
  simp only [if_pos c1]
  by_cases c5 : (0 : Int32) ≤ a5 ∧ a5 ≤ 5
  rotate_left
  · simp only [if_neg c5]; exact ⟨-1, mk, nI n, rfl, rfl, hI⟩
  simp only [if_pos c5]
  by_cases c2 : (0 : Int32) ≤ a2 ∧ a2 ≤ 15
  rotate_left
  · simp only [if_neg c2]; exact ⟨-2, mk, nI n, rfl, rfl, hI⟩
  simp only [if_pos c2]
  by_cases c3 : (0 : Int32) ≤ a3 ∧ a3 ≤ 99
  rotate_left
  · simp only [if_neg c3]; exact ⟨-2, mk, nI n, rfl, rfl, hI⟩
  simp only [if_pos c3]
  obtain ⟨ol, hol, rfl⟩ := rg 99 (by omega) rfl c3
  by_cases c4 : nI ol ≤ a4 ∧ a4 ≤ 99
  rotate_left
  · rw [if_neg c4]
    by_cases c4a : (0 : Int32) ≤ a4 ∧ a4 ≤ 99
    · rw [if_pos c4a, if_pos (show a4 < nI ol from Int32.not_le.mp (fun h => c4 ⟨h, c4a.2⟩))]
      exact ⟨-2, mk, nI n, rfl, rfl, hI⟩
    · rw [if_neg c4a]
      exact ⟨-2, mk, nI n, rfl, rfl, hI⟩
  have c4a : (0 : Int32) ≤ a4 ∧ a4 ≤ 99 := ⟨Int32.le_trans c3.1 c4.1, c4.2⟩
  rw [if_pos c4, if_pos c4a, if_neg (show ¬ a4 < nI ol from Int32.not_lt.mpr c4.1)]
  by_cases c6 : (0 : Int32) ≤ a6 ∧ a6 ≤ 10
  rotate_left
  · simp only [if_neg c6]; exact ⟨-2, mk, nI n, rfl, rfl, hI⟩
  simp only [if_pos c6]
  obtain ⟨la, hla, rfl⟩ := rg 3 (by omega) rfl c1
  obtain ⟨ne, hne, rfl⟩ := rg 5 (by omega) rfl c5
  obtain ⟨si, hsi, rfl⟩ := rg 15 (by omega) rfl c2
  obtain ⟨yo, hyo, rfl⟩ := rg 99 (by omega) rfl c4a
  obtain ⟨fi, hfi, rfl⟩ := rg 10 (by omega) rfl c6
  have hoy : ol ≤ yo := (nI_leI (by omega) (by omega)).mp c4.1
  by_cases h8 : n = 8
  · subst h8
    rw [if_neg (by decide), if_pos (show nI 8 = 8 from rfl)]
    exact ⟨-4, mk, nI 8, rfl, rfl, hI⟩
  rw [if_pos (show nI n < 8 from nI_lt (b := 8) (by omega) (by omega)), if_neg (show ¬ nI n = 8 from fun e => h8 ((nI_eq (b := 8) (by omega) (by omega)).mp e))]
  have m0 : ∀ (f : Nat → Int32) (v : Int32), f_X4_mark f (nI n) 0 v = some (upd f (6 * n) v) := fun f v => mark_n f (w := 0) v (by omega) (by omega)
  have m1 : ∀ (f : Nat → Int32) (v : Int32), f_X4_mark f (nI n) 1 v = some (upd f (6 * n + 1) v) := fun f v => mark_n f (w := 1) v (by omega) (by omega)
  have m2 : ∀ (f : Nat → Int32) (v : Int32), f_X4_mark f (nI n) 2 v = some (upd f (6 * n + 2) v) := fun f v => mark_n f (w := 2) v (by omega) (by omega)
  have m3 : ∀ (f : Nat → Int32) (v : Int32), f_X4_mark f (nI n) 3 v = some (upd f (6 * n + 3) v) := fun f v => mark_n f (w := 3) v (by omega) (by omega)
  have m4 : ∀ (f : Nat → Int32) (v : Int32), f_X4_mark f (nI n) 4 v = some (upd f (6 * n + 4) v) := fun f v => mark_n f (w := 4) v (by omega) (by omega)
  have m5 : ∀ (f : Nat → Int32) (v : Int32), f_X4_mark f (nI n) 5 v = some (upd f (6 * n + 5) v) := fun f v => mark_n f (w := 5) v (by omega) (by omega)
  have e1 : nI n + 1 = nI (n + 1) := nI_1 n
  have e2 : nI (n + 1) - 1 = nI n := nI_pred n
  simp only [m0, m1, m2, m3, m4, m5, Option.bind_some, six (b := n) (W := 1) (w := 1) rfl, six (b := n) (W := 2) (w := 2) rfl, six (b := n) (W := 3) (w := 3) rfl, six (b := n) (W := 4) (w := 4) rfl, six (b := n) (W := 5) (w := 5) rfl, e1, e2]
  simp only [six0 (b := n)]
  rw [gd_n (by omega) (by omega), gd_n (by omega) (by omega), gd_n (by omega) (by omega), gd_n (by omega) (by omega), gd_n (by omega) (by omega), gd_n (by omega) (by omega)]
  rw [nI_clamp (n := 6 * n) (by omega), nI_clamp (n := 6 * n + 1) (by omega), nI_clamp (n := 6 * n + 2) (by omega), nI_clamp (n := 6 * n + 3) (by omega), nI_clamp (n := 6 * n + 4) (by omega), nI_clamp (n := 6 * n + 5) (by omega)]
  refine ⟨nI n, _, nI (n + 1), rfl, rfl, hI.1, hI.2.1, hI.2.2.1, ⟨n + 1, by omega, rfl, fun b hb => ?_⟩, hI.2.2.2.2⟩
  by_cases hbn : b = n
  · subst hbn
    refine ⟨la, si, ol, yo, ne, fi, by omega, by omega, hoy, by omega, by omega, by omega, ?_, ?_, ?_, ?_, ?_, ?_⟩
    · rw [pk_un (by omega), pk_un (by omega), pk_un (by omega), pk_un (by omega), pk_un (by omega), pk_us]
    · rw [pk_un (by omega), pk_un (by omega), pk_un (by omega), pk_un (by omega), pk_us]
    · rw [pk_un (by omega), pk_un (by omega), pk_un (by omega), pk_us]
    · rw [pk_un (by omega), pk_un (by omega), pk_us]
    · rw [pk_un (by omega), pk_us]
    · rw [pk_us]
  · refine okMk_keep (fun j hj => ?_) (hB b (by omega))
    rw [pk_un (by omega), pk_un (by omega), pk_un (by omega), pk_un (by omega), pk_un (by omega), pk_un (by omega)]
