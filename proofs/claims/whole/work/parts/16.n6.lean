/-! ===== reading a law ===== -/
/-- a loop ends with r after at most n turns -/
def En {σ ρ : Type} (b : σ → Option (σ ⊕ ρ)) (n : Nat) (s : σ) (r : ρ) : Prop := ∀ F, n < F → lpM b F s = some r
theorem En_end {σ ρ : Type} {b : σ → Option (σ ⊕ ρ)} {s : σ} {r : ρ} (n : Nat) (h : b s = some (.inr r)) : En b n s r := by
  intro F hF
  obtain ⟨F, rfl⟩ : ∃ G, F = G + 1 := ⟨F - 1, by omega⟩
  unfold lpM
  rw [h]
theorem En_step {σ ρ : Type} {b : σ → Option (σ ⊕ ρ)} {s s' : σ} {r : ρ} {n : Nat} (m : Nat) (hm : n + 1 ≤ m) (h : b s = some (.inl s')) (e : En b n s' r) : En b m s r := by
  intro F hF
  obtain ⟨F, rfl⟩ : ∃ G, F = G + 1 := ⟨F - 1, by omega⟩
  unfold lpM
  rw [h]
  exact e F (by omega)
def tC (tx : Nat → Int32) (j : Nat) : Nat := (tx j).toNatClampNeg
def okX (tx : Nat → Int32) : Prop := ∀ j : Nat, ∃ c : Nat, c < 256 ∧ tx j = nI c
theorem tC_at {tx : Nat → Int32} (h : okX tx) (j : Nat) : tC tx j < 256 ∧ tx j = nI (tC tx j) := by
  obtain ⟨c, hc, e⟩ := h j
  unfold tC
  rw [e, nI_clamp (by omega)]
  exact ⟨hc, rfl⟩
def dgt (tx : Nat → Int32) (n j : Nat) : Option Nat := if j < n ∧ 48 ≤ tC tx j ∧ tC tx j ≤ 57 then some (tC tx j - 48) else none
theorem dgt_some {tx : Nat → Int32} {n j d : Nat} (h : dgt tx n j = some d) : j < n ∧ tC tx j = 48 + d ∧ d < 10 := by
  unfold dgt at h
  by_cases hc : j < n ∧ 48 ≤ tC tx j ∧ tC tx j ≤ 57
  · rw [if_pos hc] at h
    have : tC tx j - 48 = d := by simpa using h
    exact ⟨hc.1, by omega, by omega⟩
  · rw [if_neg hc] at h; cases h
theorem dgt_none {tx : Nat → Int32} {n j : Nat} (h : dgt tx n j = none) (hj : j < n) : ¬ (48 ≤ tC tx j ∧ tC tx j ≤ 57) := by
  unfold dgt at h
  intro hc
  rw [if_pos ⟨hj, hc⟩] at h; cases h
theorem fig_n {c : Nat} (hc : c < 256) : f_X10_figure (nI c) = some (if 48 ≤ c ∧ c ≤ 57 then nI (c - 48) else -9) := by
  unfold f_X10_figure
  rw [show (48 : Int32) = nI 48 from rfl, show (57 : Int32) = nI 57 from rfl]
  by_cases h1 : c < 48
  · rw [if_pos (nI_lt h1 (by omega)), if_neg (by omega)]
  · rw [if_neg (nI_nlt (by omega) (by omega))]
    by_cases h2 : 57 < c
    · rw [if_pos (nI_lt h2 (by omega)), if_neg (by omega)]
    · rw [if_neg (nI_nlt (by omega) (by omega)), if_pos ⟨by omega, by omega⟩, pk_sub (by omega)]
/-- the model's figure -/
theorem fig_f {tx : Nat → Int32} {n : Int32} {a f m : Int32} (h : ¬ f = -9) : f_X11_figure tx n a f m = some (0, a, f) := by
  have hin : f_X11_in ((-1 : Int32).toInt64) 0 9 = some 0 := by rw [in_0_9]; rfl
  simp only [f_X11_figure, f_X11_figure_j35, f_X11_figure_j36, f_X11_figure_j57, f_X11_fail, f_X11_fail_j21, hin, Option.bind_some, if_neg h, if_true]
theorem fig_m {tx : Nat → Int32} {n a : Nat} {m : Int32} (hx : okX tx) (hn : n ≤ 48) (hA : a < 1000) : f_X11_figure tx (nI n) (nI a) (-9) m = some (match dgt tx n a with | some d => (if ((m >>> (nI d &&& 31)) &&& 1) = 0 then (0, nI a, nI a) else (nI d, nI (a + 1), -9)) | none => (0, nI a, nI a)) := by
  have hin : f_X11_in ((-1 : Int32).toInt64) 0 9 = some 0 := by rw [in_0_9]; rfl
  by_cases ha : a < n
  · have hc := tC_at hx a
    unfold f_X11_figure
    rw [if_pos rfl, if_neg (nle ha (by omega)), gd_n (by omega) (by omega), nI_clamp (by omega), hc.2]
    simp only [f_X11_figure_j36, f_X11_figure_j57, f_X11_fail, f_X11_fail_j21, in_0_9, Option.bind_some, ite10, if_true]
    by_cases hd : 48 ≤ tC tx a ∧ tC tx a ≤ 57
    · have e : dgt tx n a = some (tC tx a - 48) := by unfold dgt; rw [if_pos ⟨ha, hd⟩]
      rw [e, show (48 : Int32) = nI 48 from rfl, pk_sub hd.1, if_pos (gr9 (by omega)), nI1]
      dsimp only
      by_cases hb : ((m >>> (nI (tC tx a - 48) &&& 31)) &&& 1) = 0
      · rw [if_pos hb, if_pos hb]
      · rw [if_neg hb, if_neg hb]
    · have e : dgt tx n a = none := by unfold dgt; rw [if_neg (fun q => hd q.2)]
      rw [e]
      have hno : ¬ ((0 : Int32) ≤ nI (tC tx a) - 48 ∧ nI (tC tx a) - 48 ≤ 9) := by
        rintro ⟨q1, q2⟩
        rw [Int32.le_iff_toInt_le, show (48 : Int32) = nI 48 from rfl, pk_sub_toInt (by omega) (by omega)] at q1 q2
        have z0 : (0 : Int32).toInt = 0 := by decide
        have z9 : (9 : Int32).toInt = 9 := by decide
        omega
      rw [if_neg hno]
  · have e : dgt tx n a = none := by unfold dgt; rw [if_neg (fun q => ha q.1)]
    rw [e]
    simp only [f_X11_figure, f_X11_figure_j35, f_X11_figure_j36, f_X11_figure_j57, f_X11_fail, f_X11_fail_j21, hin, Option.bind_some, if_true, if_pos (nI_le (show n ≤ a by omega) (show a < 2 ^ 31 by omega))]
def kc (j : Nat) : Nat := [82, 71, 70, 77, 86, 87].getD j 0
def plc (c : Nat) : Option Nat := if c = 82 then some 6 else if c = 71 then some 7 else if c = 70 then some 8 else if c = 77 then some 9 else if c = 86 then some 10 else if c = 87 then some 11 else none
theorem plc_256 : ∀ c, c < 256 → f_X11_placeOf (nI c) = some (enc9 (plc c)) := by decide +kernel
theorem plc_lt {c p : Nat} (h : plc c = some p) : 6 ≤ p ∧ p < 12 ∧ ¬ c = 76 := by
  unfold plc at h
  by_cases h1 : c = 82
  · rw [if_pos h1] at h; cases h; omega
  rw [if_neg h1] at h
  by_cases h2 : c = 71
  · rw [if_pos h2] at h; cases h; omega
  rw [if_neg h2] at h
  by_cases h3 : c = 70
  · rw [if_pos h3] at h; cases h; omega
  rw [if_neg h3] at h
  by_cases h4 : c = 77
  · rw [if_pos h4] at h; cases h; omega
  rw [if_neg h4] at h
  by_cases h5 : c = 86
  · rw [if_pos h5] at h; cases h; omega
  rw [if_neg h5] at h
  by_cases h6 : c = 87
  · rw [if_pos h6] at h; cases h; omega
  rw [if_neg h6] at h; cases h
theorem kc_256 : ∀ c, c < 256 → ∀ j, j < 6 → (kB j = (nI c).toInt8.toInt32 ↔ c = kc j) := by decide +kernel
theorem plc_kc : ∀ c, c < 256 → (∀ j, j < 6 → c = kc j → plc c = some (6 + j)) ∧ ((∀ j, j < 6 → ¬ c = kc j) → plc c = none) := by decide +kernel
theorem index_n {c : Nat} (hc : c < 256) : f_J0_indexOf_0f7a4 (((nI c).toUInt32 % 65536).toInt32) = some (match plc c with | some p => nI (p - 6) | none => -1) := by
  have e0 : ((nI c).toUInt32 % 65536).toInt32 = nI c := by
    rw [pk_char, pk_tn (by omega)]; congr 1; omega
  have el : f_J0_length_8abf5 = some 6 := by decide
  rw [e0]
  obtain ⟨r, e, hr⟩ := lp_tot (b := fun st => f_J1_indexOfChar_4cfef_b7 6 st.1 st.2) (fun i s => s = ((nI c).toInt8.toInt32, nI i) ∧ i ≤ 6 ∧ ∀ j, j < i → ¬ c = kc j) (fun r => (r = Sum.inl () ∧ ∀ j, j < 6 → ¬ c = kc j) ∨ ∃ j, j < 6 ∧ r = Sum.inr (nI j) ∧ c = kc j) 6 (by
    rintro i s ⟨rfl, hi, hd⟩
    by_cases e6 : i = 6
    · left
      refine ⟨Sum.inl (), ?_, Or.inl ⟨rfl, fun j hj => hd j (by omega)⟩⟩
      subst e6
      show f_J1_indexOfChar_4cfef_b7 6 (nI c).toInt8.toInt32 (nI 6) = _
      unfold f_J1_indexOfChar_4cfef_b7
      rw [if_pos (by decide)]
    · have hi6 : i < 6 := by omega
      have hb : f_J1_indexOfChar_4cfef_b7 6 (nI c).toInt8.toInt32 (nI i) = if kB i = (nI c).toInt8.toInt32 then some (.inr (.inr (nI i))) else some (.inl ((nI c).toInt8.toInt32, nI (i + 1))) := by
        unfold f_J1_indexOfChar_4cfef_b7
        rw [if_neg (nleL 6 6 rfl hi6 (by omega)), gd_n hi6 (by omega), nI_clamp (by omega), nI1]
      by_cases hk : c = kc i
      · left
        rw [if_pos ((kc_256 c hc i hi6).mpr hk)] at hb
        exact ⟨_, hb, Or.inr ⟨i, hi6, rfl, hk⟩⟩
      · right
        rw [if_neg (fun q => hk ((kc_256 c hc i hi6).mp q))] at hb
        refine ⟨hi6, _, hb, rfl, by omega, fun j hj => ?_⟩
        by_cases ej : j = i
        · rw [ej]; exact hk
        · exact hd j (by omega)) FU (FU_lt (by omega)) (s := ((nI c).toInt8.toInt32, (0 : Int32))) ⟨rfl, by omega, fun j hj => by omega⟩
  have hcan : f_J1_canEncode_9a6ad (nI c) = some 1 := by
    unfold f_J1_canEncode_9a6ad
    rw [if_neg (nI_nn (by omega)), if_neg (show ¬ (255 : Int32) < nI c from nI_nlt (a := 255) (by omega) (by omega))]
  have big : f_J1_indexOf_4cfef (nI c) 0 6 = (Sum.elim (fun _ => some (-1)) (fun q => some q) r) := by
    unfold f_J1_indexOf_4cfef
    rw [hcan, Option.bind_some, if_neg (show ¬ (1 : Int32) = 0 by decide), Option.bind_some, Option.bind_some, show (if (0 : Int32) < 0 then (0 : Int32) else 0) = 0 by decide, show (if (6 : Int32) < 6 then (6 : Int32) else 6) = 6 by decide, if_pos (show (0 : Int32) < 6 by decide)]
    unfold f_J1_indexOfChar_4cfef
    rw [e, Option.bind_some]
    cases r <;> rfl
  unfold f_J0_indexOf_0f7a4 f_J0_indexOf_7cf53
  rw [el]
  simp only [f_J0_isLatin1_aae02, Option.bind_some]
  rw [if_neg (by decide), big]
  rcases hr with ⟨rfl, h⟩ | ⟨j, hj, rfl, h⟩
  · rw [(plc_kc c hc).2 h]; rfl
  · rw [(plc_kc c hc).1 j hj h]
    show some (nI j) = some (nI (6 + j - 6))
    rw [show 6 + j - 6 = j by omega]
/-- what the two readers keep -/
def Rel (num rd : Nat → Int32) (mask : Nat) : Prop := mask < 4096 ∧ ∀ k, k < 12 → (mask.testBit k = true ∧ ∃ x, x < 100 ∧ num k = nI x ∧ rd k = nI x) ∨ (mask.testBit k = false ∧ num k = -1 ∧ rd k = 0)
theorem nIm1 {x : Nat} (h : x < 2147483648) : ¬ nI x = (-1 : Int32) := by
  intro e
  have := congrArg Int32.toInt e
  rw [nI_toInt h] at this
  have h9 : (-1 : Int32).toInt = -1 := by decide
  omega
theorem Rel.m1 {num rd : Nat → Int32} {mask k : Nat} (h : Rel num rd mask) (hk : k < 12) : num k = -1 ↔ mask.testBit k = false := by
  rcases h.2 k hk with ⟨h1, x, hx, e, _⟩ | ⟨h1, e, _⟩
  · rw [e, h1]; exact ⟨fun q => absurd q (nIm1 (by omega)), fun q => by cases q⟩
  · rw [e, h1]; exact ⟨fun _ => rfl, fun _ => rfl⟩
theorem Rel.set {num rd : Nat → Int32} {mask p x : Nat} (h : Rel num rd mask) (hp : p < 12) (hx : x < 100) : Rel (upd num p (nI x)) (upd rd p (nI x)) (mask ||| 2 ^ p) := by
  refine ⟨Nat.or_lt_two_pow (n := 12) h.1 (Nat.pow_lt_pow_right (by omega) hp), fun k hk => ?_⟩
  rw [Nat.testBit_or, Nat.testBit_two_pow]
  by_cases e : k = p
  · subst e
    left
    rw [pk_us, pk_us]
    exact ⟨by simp, x, hx, rfl, rfl⟩
  · rw [pk_un e, pk_un e, decide_eq_false (fun q => e q.symm), Bool.or_false]
    exact h.2 k hk
theorem upd_upd (f : Nat → Int32) (k : Nat) (x y : Int32) : upd (upd f k x) k y = upd f k y := by
  funext j
  unfold upd
  by_cases h : j = k
  · rw [if_pos h, if_pos h]
  · rw [if_neg h, if_neg h, if_neg h]
theorem sh_12 : ∀ p, p < 12 → (1 : Int32) <<< (nI p &&& 31) = nI (2 ^ p) ∧ ((nI p &&& 31).toBitVec.smod 32).toNat = p := by decide +kernel
theorem bit_n {m p : Nat} (hm : m < 2147483648) (hp : p < 12) : (nI m >>> (nI p &&& 31)) &&& 1 = nI (bN m p) := by
  rw [pk_shrN hm _ p (sh_12 p hp).2, pk_andN (show m / 2 ^ p < 2 ^ 32 from Nat.lt_of_le_of_lt (Nat.div_le_self _ _) (by omega)) 1 (by decide)]
  rfl
theorem bN_0 (m p : Nat) : bN m p = 0 ↔ m.testBit p = false := by
  have h1 := bN_tb m p
  have h2 := bN_lt m p
  cases h : m.testBit p with
  | true => rw [h] at h1; have := h1.mpr rfl; constructor
            · intro q; omega
            · intro q; cases q
  | false => rw [h] at h1; constructor
             · intro _; rfl
             · intro _
               by_cases q : bN m p = 1
               · have := h1.mp q; cases this
               · omega
theorem m63 : ∀ x, x < 64 → (x = 63 ↔ ∀ d, d < 6 → x.testBit d = true) := by decide +kernel
theorem mask63 {m : Nat} (hm : m < 4096) : (nI m &&& 63) = 63 ↔ m % 64 = 63 := by
  rw [pk_andN (show m < 2 ^ 32 by omega) 6 (by decide), show (63 : Int32) = nI 63 from rfl, nI_eq (show m % 2 ^ 6 < 2 ^ 31 from Nat.lt_of_lt_of_le (Nat.mod_lt _ (by omega)) (by omega)) (by omega)]
theorem all63 (m : Nat) : m % 64 = 63 ↔ ∀ d, d < 6 → m.testBit d = true := by
  rw [show m % 64 = m % 2 ^ 6 from rfl, m63 (m % 2 ^ 6) (Nat.mod_lt _ (by omega))]
  constructor
  · intro h d hd
    have := h d hd
    rw [Nat.testBit_mod_two_pow, decide_eq_true hd, Bool.true_and] at this
    exact this
  · intro h d hd
    rw [Nat.testBit_mod_two_pow, decide_eq_true hd, Bool.true_and]
    exact h d hd
theorem nx64 : ∀ x, x < 64 → ∀ d, d < 10 → (((((63 : Int32) &&& (nI x ^^^ (-1 : Int32))) >>> (nI d &&& 31)) &&& 1) = 0 ↔ ¬ (d < 6 ∧ x.testBit d = false)) := by decide +kernel
theorem xor63 (x : Int32) : (63 : Int32) &&& (x ^^^ (-1 : Int32)) = (63 : Int32) &&& ((x &&& 63) ^^^ (-1 : Int32)) := by
  apply Int32.toBitVec_inj.mp
  rw [Int32.toBitVec_and, Int32.toBitVec_and, Int32.toBitVec_xor, Int32.toBitVec_xor, Int32.toBitVec_and]
  apply BitVec.eq_of_getLsbD_eq
  intro i hi
  rw [BitVec.getLsbD_and, BitVec.getLsbD_and, BitVec.getLsbD_xor, BitVec.getLsbD_xor, BitVec.getLsbD_and]
  cases (Int32.toBitVec 63).getLsbD i <;> simp
theorem nmask {m d : Nat} (hm : m < 4096) (hd : d < 10) : ((((63 : Int32) &&& (nI m ^^^ (-1 : Int32))) >>> (nI d &&& 31)) &&& 1) = 0 ↔ ¬ (d < 6 ∧ m.testBit d = false) := by
  rw [xor63, pk_andN (show m < 2 ^ 32 by omega) 6 (by decide), nx64 (m % 2 ^ 6) (Nat.mod_lt _ (by omega)) d hd, Nat.testBit_mod_two_pow]
  by_cases h : d < 6
  · rw [decide_eq_true h, Bool.true_and]
  · exact ⟨fun _ q => h q.1, fun _ q => h q.1⟩
theorem all9 : ∀ d, d < 10 → ¬ (((1023 : Int32) >>> (nI d &&& 31)) &&& 1) = 0 := by decide +kernel
theorem fig_9 {tx : Nat → Int32} {n a : Nat} (hx : okX tx) (hn : n ≤ 48) (hA : a < 1000) : f_X11_figure tx (nI n) (nI a) (-9) 1023 = some (match dgt tx n a with | some d => (nI d, nI (a + 1), -9) | none => (0, nI a, nI a)) := by
  rw [fig_m hx hn hA]
  cases h : dgt tx n a with
  | none => rfl
  | some d =>
    have hd := dgt_some h
    dsimp only
    rw [if_neg (all9 d hd.2.2)]
theorem untold_n {num rd : Nat → Int32} {mask : Nat} (h : Rel num rd mask) : f_X6_someBandIsUntold num = some (if mask % 64 = 63 then 0 else 1) := by
  obtain ⟨r, e, hr⟩ := lp_tot (b := fun st => f_X6_someBandIsUntold_b2 num st) (fun i s => s = nI i ∧ i ≤ 6 ∧ ∀ d, d < i → mask.testBit d = true) (fun r => r = if mask % 64 = 63 then Sum.inl () else Sum.inr (1 : Int32)) 6 (by
    rintro i s ⟨rfl, hi, hd⟩
    by_cases e6 : i = 6
    · left
      subst e6
      refine ⟨_, ?_, rfl⟩
      unfold f_X6_someBandIsUntold_b2
      rw [if_pos (by decide), if_pos ((all63 mask).mpr hd)]
    · have hb : f_X6_someBandIsUntold_b2 num (nI i) = if num i = -1 then some (.inr (.inr 1)) else some (.inl (nI (i + 1))) := by
        unfold f_X6_someBandIsUntold_b2
        rw [if_neg (nleL 6 6 rfl (by omega) (by omega)), gd_n (by omega) (by omega), nI_clamp (by omega), nI1]
      cases hb2 : mask.testBit i with
      | false =>
        left
        rw [if_pos ((h.m1 (by omega)).mpr hb2)] at hb
        refine ⟨_, hb, ?_⟩
        rw [if_neg (fun q => by have := (all63 mask).mp q i (by omega); rw [hb2] at this; cases this)]
      | true =>
        right
        rw [if_neg (fun q => by have := (h.m1 (by omega)).mp q; rw [hb2] at this; cases this)] at hb
        refine ⟨by omega, _, hb, rfl, by omega, fun d hd2 => ?_⟩
        by_cases ed : d = i
        · rw [ed]; exact hb2
        · exact hd d (by omega)) FU (FU_lt (by omega)) (s := (0 : Int32)) ⟨rfl, by omega, fun d hd => by omega⟩
  unfold f_X6_someBandIsUntold
  rw [e, hr, Option.bind_some]
  by_cases hq : mask % 64 = 63
  · rw [if_pos hq, if_pos hq]; rfl
  · rw [if_neg hq, if_neg hq]; rfl
theorem opens_n {num : Nat → Int32} {p : Nat} (due pl : Int32) (hp : p < 12) : f_X6_opens num due pl (nI p) = some (if num p = -1 then (1, upd num p 0, (if p < 6 ∨ p = 8 then 2 else 1), nI p) else (0, num, due, pl)) := by
  simp only [f_X6_opens, within_n, Option.bind_some, ite10, f_X6_opens_j47, f_X6_opens_j52]
  rw [if_pos (gr11 (by omega)), gd_n hp (by omega), gd_n hp (by omega), nI_clamp (by omega)]
  by_cases h : num p = -1
  · rw [if_pos h, if_pos h]
    by_cases h6 : p < 6
    · rw [if_pos (nltL 6 6 rfl h6 (by omega)), if_pos (Or.inl h6)]
    · rw [if_neg (show ¬ nI p < 6 from nI_nlt (b := 6) (by omega) (by omega))]
      by_cases h8 : p = 8
      · rw [if_pos (show nI p = 8 by rw [h8]; rfl), if_pos (Or.inr h8)]
      · rw [if_neg (show ¬ nI p = 8 from fun q => h8 ((nI_eq (b := 8) (by omega) (by omega)).mp q)), if_neg (by omega)]
  · rw [if_neg h, if_neg h]
