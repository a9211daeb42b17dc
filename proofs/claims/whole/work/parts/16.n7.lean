/-! ===== the two law readers side by side ===== -/
def lX (tx : Nat → Int32) (n : Nat) : (Int32 × (Nat → Int32) × Int32 × Int32 × Int32 × Int32) → Option ((Int32 × (Nat → Int32) × Int32 × Int32 × Int32 × Int32) ⊕ (((Nat → Int32) × Int32 × Int32 × Int32 × Int32) ⊕ (Int32 × (Nat → Int32) × Int32 × Int32 × Int32 × Int32))) :=
  fun st => f_X6_faultOf_b6 tx (nI n) st.1 st.2.1 st.2.2.1 st.2.2.2.1 st.2.2.2.2.1 st.2.2.2.2.2
def lM (tx : Nat → Int32) (n : Nat) : (Int32 × (Nat → Int32) × Int32 × Int32 × Int32) → Option ((Int32 × (Nat → Int32) × Int32 × Int32 × Int32) ⊕ ((Nat → Int32) × Int32 × Int32 × Int32)) :=
  fun st => f_X11_readLaw_b39 tx (nI n) st.1 st.2.1 st.2.2.1 st.2.2.2.1 st.2.2.2.2
def OutX (n : Nat) (ρ : ((Nat → Int32) × Int32 × Int32 × Int32 × Int32) ⊕ (Int32 × (Nat → Int32) × Int32 × Int32 × Int32 × Int32)) (r : Option Nat) (num : Nat → Int32) (P : Int32) : Prop :=
  ∃ d p b, Sum.elim (fun sx : (Nat → Int32) × Int32 × Int32 × Int32 × Int32 => f_X6_faultOf_x41_3 (nI n) sx.1 sx.2.1 sx.2.2.1 sx.2.2.2.1 sx.2.2.2.2) (fun r => some r) ρ = some (enc9 r, num, P, d, p, b)
theorem lX_in {tx : Nat → Int32} {n j : Nat} {num : Nat → Int32} {P due pl bd : Int32} (hn : n ≤ 48) (hj : j < n) : lX tx n (nI j, num, P, due, pl, bd) = (f_X6_takes num P due pl bd (tx j)).bind (fun q10 => (if q10.1 = (0 : Int32) then some (.inr (.inr (nI j, q10.2.1, q10.2.2.1, q10.2.2.2.1, q10.2.2.2.2.1, q10.2.2.2.2.2))) else some (.inl (nI (j + 1), q10.2.1, q10.2.2.1, q10.2.2.2.1, q10.2.2.2.2.1, q10.2.2.2.2.2)))) := by
  show f_X6_faultOf_b6 tx (nI n) (nI j) num P due pl bd = _
  unfold f_X6_faultOf_b6
  rw [if_neg (nle hj (by omega)), if_neg (nleL 48 48 rfl (by omega) (by omega)), gd_n (by omega) (by omega), nI_clamp (by omega), nI1]
theorem lX_out {tx : Nat → Int32} {n : Nat} {num : Nat → Int32} {P due pl bd : Int32} : lX tx n (nI n, num, P, due, pl, bd) = some (.inr (.inl (num, P, due, pl, bd))) := by
  show f_X6_faultOf_b6 tx (nI n) (nI n) num P due pl bd = _
  unfold f_X6_faultOf_b6
  rw [if_pos (Int32.le_refl _)]
/-- a figure is due -/
theorem figX_none {tx : Nat → Int32} {n j : Nat} {num : Nat → Int32} {P due pl : Int32} (hx : okX tx) (hn : n ≤ 48) (hj : j ≤ n) (hd : 0 < due) (h : dgt tx n j = none) : ∃ ρ num' P', (∀ m, En (lX tx n) m (nI j, num, P, due, pl, 0) ρ) ∧ OutX n ρ (some j) num' P' := by
  by_cases e : j = n
  · subst e
    refine ⟨_, num, P, fun m => En_end m lX_out, due, pl, 0, ?_⟩
    show f_X6_faultOf_x41_3 (nI j) num P due pl 0 = _
    unfold f_X6_faultOf_x41_3
    rw [if_pos hd]; rfl
  · have hc := tC_at hx j
    have hno := dgt_none h (by omega)
    refine ⟨_, num, P, fun m => En_end m (r := Sum.inr (nI j, num, P, due, pl, 0)) ?_, due, pl, 0, rfl⟩
    rw [lX_in hn (by omega)]
    unfold f_X6_takes
    rw [if_neg (Int32.not_le.mpr hd)]
    unfold f_X6_takesFigure
    rw [hc.2, fig_n hc.1, Option.bind_some, if_neg hno, if_pos rfl]
    rfl
theorem figX_some {tx : Nat → Int32} {n j d p : Nat} {num : Nat → Int32} {P due : Int32} (hx : okX tx) (hn : n ≤ 48) (hp : p < 12) (hd : 0 < due) (h : dgt tx n j = some d) : lX tx n (nI j, num, P, due, nI p, 0) = some (.inl (nI (j + 1), upd num p ((10 : Int32) * num p + nI d), (if due - 1 = 0 then P + 1 else P), due - 1, nI p, 0)) := by
  obtain ⟨hj, ec, hd9⟩ := dgt_some h
  have hc := tC_at hx j
  rw [lX_in hn hj]
  unfold f_X6_takes
  rw [if_neg (Int32.not_le.mpr hd)]
  unfold f_X6_takesFigure
  rw [hc.2, fig_n hc.1, Option.bind_some, if_pos (show 48 ≤ tC tx j ∧ tC tx j ≤ 57 from ⟨by omega, by omega⟩), if_neg (nI_m9 (by omega)), within_n, Option.bind_some, ite10, if_pos (gr11 (by omega)), gd_n hp (by omega), gd_n hp (by omega), nI_clamp (by omega), show tC tx j - 48 = d by omega]
  by_cases h1 : due - 1 = 0
  · rw [if_pos h1, if_pos h1]; rfl
  · rw [if_neg h1, if_neg h1]; rfl
def bdg (tx : Nat → Int32) (n j mask : Nat) : Option Nat := match dgt tx n j with
  | some d => if d < 6 ∧ mask.testBit d = false then some d else none
  | none => none
theorem bdg_some {tx : Nat → Int32} {n j mask d : Nat} (h : bdg tx n j mask = some d) : dgt tx n j = some d ∧ d < 6 ∧ mask.testBit d = false := by
  unfold bdg at h
  cases hd : dgt tx n j with
  | none => rw [hd] at h; cases h
  | some d' =>
    rw [hd] at h
    dsimp only at h
    by_cases hc : d' < 6 ∧ mask.testBit d' = false
    · rw [if_pos hc] at h; cases h; exact ⟨rfl, hc⟩
    · rw [if_neg hc] at h; cases h
theorem bandM {tx : Nat → Int32} {n j mask : Nat} (hx : okX tx) (hn : n ≤ 48) (hj : j < 1000) (hm : mask < 4096) : f_X11_figure tx (nI n) (nI j) (-9) ((63 : Int32) &&& (nI mask ^^^ (-1 : Int32))) = some (match bdg tx n j mask with | some d => (nI d, nI (j + 1), -9) | none => (0, nI j, nI j)) := by
  rw [fig_m hx hn hj]
  unfold bdg
  cases h : dgt tx n j with
  | none => rfl
  | some d =>
    have hd := dgt_some h
    dsimp only
    by_cases hc : d < 6 ∧ mask.testBit d = false
    · rw [if_pos hc, if_neg (fun q => (nmask hm hd.2.2).mp q hc)]
    · rw [if_neg hc, if_pos ((nmask hm hd.2.2).mpr hc)]
theorem bandX_none {tx : Nat → Int32} {n j mask : Nat} {num rd : Nat → Int32} {P pl : Int32} (hx : okX tx) (hn : n ≤ 48) (hj : j ≤ n) (hR : Rel num rd mask) (h : bdg tx n j mask = none) : ∃ ρ num' P', (∀ m, En (lX tx n) m (nI j, num, P, 0, pl, 1) ρ) ∧ OutX n ρ (some j) num' P' := by
  by_cases e : j = n
  · subst e
    refine ⟨_, num, P, fun m => En_end m lX_out, 0, pl, 1, ?_⟩
    show f_X6_faultOf_x41_3 (nI j) num P 0 pl 1 = _
    unfold f_X6_faultOf_x41_3
    rw [if_neg (by decide), if_neg (by decide)]; rfl
  · have hc := tC_at hx j
    refine ⟨_, num, P, fun m => En_end m (r := Sum.inr (nI j, num, P, 0, pl, 0)) ?_, 0, pl, 0, rfl⟩
    rw [lX_in hn (by omega)]
    unfold f_X6_takes
    rw [if_pos (by decide), if_neg (by decide)]
    unfold f_X6_takesBand
    rw [hc.2, fig_n hc.1, Option.bind_some, isBand_n, Option.bind_some, ite10]
    by_cases hd : 48 ≤ tC tx j ∧ tC tx j ≤ 57
    · have ed : dgt tx n j = some (tC tx j - 48) := by unfold dgt; rw [if_pos ⟨by omega, hd⟩]
      unfold bdg at h
      rw [ed] at h
      dsimp only at h
      rw [if_pos hd]
      by_cases h6 : tC tx j - 48 < 6
      · rw [if_pos (gr5 (by omega)), opens_n _ _ (by omega)]
        have hb : ¬ num (tC tx j - 48) = -1 := by
          intro q
          rw [if_pos ⟨h6, (hR.m1 (by omega)).mp q⟩] at h
          cases h
        rw [if_neg hb]
        rfl
      · rw [if_neg]
        · rfl
        · intro q
          have := (nI_leI (b := 5) (by omega) (by omega)).mp q.2
          omega
    · rw [if_neg hd, if_neg (by decide)]
      rfl
theorem bandX_some {tx : Nat → Int32} {n j d mask : Nat} {num rd : Nat → Int32} {P pl : Int32} (hx : okX tx) (hn : n ≤ 48) (hR : Rel num rd mask) (h : bdg tx n j mask = some d) : lX tx n (nI j, num, P, 0, pl, 1) = some (.inl (nI (j + 1), upd num d 0, P, 2, nI d, 0)) := by
  obtain ⟨hd, h6, ht⟩ := bdg_some h
  obtain ⟨hj, ec, hd9⟩ := dgt_some hd
  have hc := tC_at hx j
  rw [lX_in hn hj]
  unfold f_X6_takes
  rw [if_pos (by decide), if_neg (by decide)]
  unfold f_X6_takesBand
  rw [hc.2, fig_n hc.1, Option.bind_some, isBand_n, Option.bind_some, ite10, if_pos (show 48 ≤ tC tx j ∧ tC tx j ≤ 57 from ⟨by omega, by omega⟩), show tC tx j - 48 = d by omega, if_pos (gr5 (by omega)), opens_n _ _ (by omega), if_pos ((hR.m1 (by omega)).mpr ht), if_pos (Or.inl h6)]
  rfl
/-- the first sign of a part -/
theorem kindX {tx : Nat → Int32} {n i mask : Nat} {num rd : Nat → Int32} {P pl : Int32} (hx : okX tx) (hn : n ≤ 48) (hi : i < n) (hR : Rel num rd mask) : lX tx n (nI i, num, P, 0, pl, 0) = if tC tx i = 76 then (if mask % 64 = 63 then some (.inr (.inr (nI i, num, P, 0, pl, 0))) else some (.inl (nI (i + 1), num, P, 0, pl, 1))) else (match plc (tC tx i) with | none => some (.inr (.inr (nI i, num, P, 0, pl, 0))) | some p => if mask.testBit p = false then some (.inl (nI (i + 1), upd num p 0, P, (if p = 8 then 2 else 1), nI p, 0)) else some (.inr (.inr (nI i, num, P, 0, pl, 0)))) := by
  have hc := tC_at hx i
  rw [lX_in hn hi]
  unfold f_X6_takes
  rw [if_pos (by decide), if_pos rfl]
  unfold f_X6_takesKind
  rw [hc.2, show (76 : Int32) = nI 76 from rfl, untold_n hR, index_n hc.1]
  simp only [Option.bind_some, nI_eq (show tC tx i < 2 ^ 31 by omega) (show 76 < 2 ^ 31 by omega)]
  by_cases h76 : tC tx i = 76
  · rw [if_pos h76, if_pos h76]
    by_cases h63 : mask % 64 = 63
    · rw [if_pos h63, if_pos h63]; rfl
    · rw [if_neg h63, if_neg h63]; rfl
  · rw [if_neg h76, if_neg h76]
    cases hp : plc (tC tx i) with
    | none =>
      dsimp only
      rw [if_pos (by decide)]
      rfl
    | some p =>
      have hp2 := plc_lt hp
      dsimp only
      rw [if_neg (nI_nn (by omega)), show (6 : Int32) = nI 6 from rfl, nI_add, show 6 + (p - 6) = p by omega, opens_n _ _ hp2.2.1]
      by_cases ht : mask.testBit p = false
      · rw [if_pos ht, if_pos ((hR.m1 hp2.2.1).mpr ht)]
        by_cases h8 : p = 8
        · rw [if_pos (Or.inr h8), if_pos h8]; rfl
        · rw [if_neg (show ¬ (p < 6 ∨ p = 8) by omega), if_neg h8]; rfl
      · rw [if_neg ht, if_neg (fun q => ht ((hR.m1 hp2.2.1).mp q))]
        rfl
theorem next_n {tx : Nat → Int32} {n i c : Nat} {C : Int32} (hx : okX tx) (hn : n ≤ 48) (hi : i < n) (hC : C = nI c) (hc' : c < 256) : f_X11_isNext tx (nI n) (nI i) (-9) C = some (if tC tx i = c then 1 else 0) := by
  have hc := tC_at hx i
  unfold f_X11_isNext
  rw [if_pos rfl, if_neg (nle hi (by omega)), gd_n (by omega) (by omega), nI_clamp (by omega), hc.2, hC]
  by_cases h : tC tx i = c
  · rw [if_pos (by rw [h]), if_pos h]
  · rw [if_neg (fun q => h ((nI_eq (by omega) (by omega)).mp q)), if_neg h]
theorem j207_n {v1 v2 at' f P : Int32} {rd : Nat → Int32} : f_X11_readLaw_j207 v1 v2 rd at' f P = some (.inl ((if v2 = -9 then v1 ||| 0 else v1 ||| ((1 : Int32) <<< (v2 &&& 31))), rd, at', f, P + 1)) := by
  unfold f_X11_readLaw_j207 f_X11_readLaw_j221
  split <;> rfl
theorem lM_fault {tx : Nat → Int32} {n f : Nat} {v at' P : Int32} {rd : Nat → Int32} (hf : f < 1000) (m : Nat) : En (lM tx n) m (v, rd, at', nI f, P) (rd, at', nI f, P) := by
  apply En_end
  show f_X11_readLaw_b39 tx (nI n) v rd at' (nI f) P = _
  unfold f_X11_readLaw_b39
  rw [if_neg (nI_m9 (by omega))]
theorem ten_n {a b : Nat} : (10 : Int32) * nI a + nI b = nI (10 * a + b) := by rw [show (10 : Int32) = nI 10 from rfl, pk_mul, nI_add]
theorem fail_n {a : Int32} : f_X11_fail a (-9) = some a := rfl
/-- one turn of the model at the first sign of a part -/
theorem kindM {tx : Nat → Int32} {n i mask : Nat} {rd : Nat → Int32} {P : Int32} (hx : okX tx) (hn : n ≤ 48) (hi : i < n) (hm : mask < 4096) :
    (tC tx i = 76 → ¬ mask % 64 = 63 → lM tx n (nI mask, rd, nI i, -9, P) = (f_X11_figure tx (nI n) (nI (i + 1)) (-9) ((63 : Int32) &&& (nI mask ^^^ (-1 : Int32)))).bind (fun q19 => (f_X11_figure tx (nI n) q19.2.1 q19.2.2 (1023 : Int32)).bind (fun q20 => (f_X11_figure tx (nI n) q20.2.1 q20.2.2 (1023 : Int32)).bind (fun q21 => gd q19.1 12 (f_X11_readLaw_j207 (nI mask) q19.1 (upd rd q19.1.toNatClampNeg (((10 : Int32) * q20.1) + q21.1)) q21.2.1 q21.2.2 P))))) ∧
    ((tC tx i = 76 ∧ mask % 64 = 63) ∨ (¬ tC tx i = 76 ∧ (plc (tC tx i) = none ∨ ∃ p, plc (tC tx i) = some p ∧ mask.testBit p = true)) → ∃ v P', lM tx n (nI mask, rd, nI i, -9, P) = some (.inl (v, rd, nI i, nI i, P'))) ∧
    (∀ p, plc (tC tx i) = some p → mask.testBit p = false → lM tx n (nI mask, rd, nI i, -9, P) = (f_X11_figure tx (nI n) (nI (i + 1)) (-9) (1023 : Int32)).bind (fun q9 => (if p = 8 then (f_X11_figure tx (nI n) q9.2.1 q9.2.2 (1023 : Int32)).bind (fun q11 => f_X11_readLaw_j199 (nI mask) (nI p) (nI p) (((10 : Int32) * q9.1) + q11.1) rd q11.2.1 q11.2.2 P) else f_X11_readLaw_j199 (nI mask) (nI p) (nI p) q9.1 rd q9.2.1 q9.2.2 P))) := by
  have hc := tC_at hx i
  have base : lM tx n (nI mask, rd, nI i, -9, P) = (if tC tx i = 76 then (if mask % 64 = 63 then f_X11_readLaw_j140 tx (nI n) (nI mask) (enc9 (plc (tC tx i))) rd (nI i) (-9) P else (f_X11_figure tx (nI n) (nI (i + 1)) (-9) ((63 : Int32) &&& (nI mask ^^^ (-1 : Int32)))).bind (fun q19 => (f_X11_figure tx (nI n) q19.2.1 q19.2.2 (1023 : Int32)).bind (fun q20 => (f_X11_figure tx (nI n) q20.2.1 q20.2.2 (1023 : Int32)).bind (fun q21 => gd q19.1 12 (f_X11_readLaw_j207 (nI mask) q19.1 (upd rd q19.1.toNatClampNeg (((10 : Int32) * q20.1) + q21.1)) q21.2.1 q21.2.2 P))))) else f_X11_readLaw_j140 tx (nI n) (nI mask) (enc9 (plc (tC tx i))) rd (nI i) (-9) P) := by
    show f_X11_readLaw_b39 tx (nI n) (nI mask) rd (nI i) (-9) P = _
    unfold f_X11_readLaw_b39
    rw [if_pos rfl, if_neg (nle hi (by omega)), gd_n (by omega) (by omega), nI_clamp (by omega), hc.2, plc_256 _ hc.1, Option.bind_some, next_n hx hn hi (c := 76) (C := 76) rfl (by omega), Option.bind_some, ite10, nI1]
    simp only [mask63 hm]
  rw [base]
  refine ⟨fun h1 h2 => by rw [if_pos h1, if_neg h2], fun h => ?_, fun p hp ht => ?_⟩
  · have fin : plc (tC tx i) = none ∨ (∃ p, plc (tC tx i) = some p ∧ mask.testBit p = true) → ∃ v P', f_X11_readLaw_j140 tx (nI n) (nI mask) (enc9 (plc (tC tx i))) rd (nI i) (-9) P = some (.inl (v, rd, nI i, nI i, P')) := by
      rintro (h0 | ⟨p, hp, ht⟩)
      · rw [h0]
        unfold f_X11_readLaw_j140 f_X11_readLaw_j203
        rw [if_pos (show enc9 none = -9 from rfl), fail_n, Option.bind_some, j207_n]
        exact ⟨_, _, rfl⟩
      · have hp2 := plc_lt hp
        rw [hp]
        unfold f_X11_readLaw_j140 f_X11_readLaw_j203
        rw [if_neg (show ¬ enc9 (some p) = -9 from nI_m9 (by omega)), show enc9 (some p) = nI p from rfl, bit_n (by omega) hp2.2.1, if_neg (show ¬ nI (bN mask p) = 0 by rw [(bN_tb mask p).mpr ht]; decide), fail_n, Option.bind_some, j207_n]
        exact ⟨_, _, rfl⟩
    rcases h with ⟨h1, h2⟩ | ⟨h1, h2⟩
    · rw [if_pos h1, if_pos h2]
      apply fin
      left; rw [h1]; rfl
    · rw [if_neg h1]
      exact fin h2
  · have hp2 := plc_lt hp
    rw [if_neg hp2.2.2, hp]
    unfold f_X11_readLaw_j140
    rw [if_neg (show ¬ enc9 (some p) = -9 from nI_m9 (by omega)), show enc9 (some p) = nI p from rfl, bit_n (by omega) hp2.2.1, if_pos (show nI (bN mask p) = 0 by rw [(bN_0 mask p).mpr ht]; rfl), nI1]
    simp only [show nI p = (8 : Int32) ↔ p = 8 from nI_eq (b := 8) (by omega) (by omega)]
theorem en1 {tx : Nat → Int32} {n f m : Nat} {s : Int32 × (Nat → Int32) × Int32 × Int32 × Int32} {v at' P' : Int32} {rd' : Nat → Int32} (hf : f < 1000) (hm : 1 ≤ m) (h : lM tx n s = some (.inl (v, rd', at', nI f, P'))) : En (lM tx n) m s (rd', at', nI f, P') := En_step m (n := 0) (by omega) h (lM_fault hf 0)
theorem failR {f : Nat} {A : Prop} (h : f ≤ 48) : (∀ w, (some f : Option Nat) = some w → w ≤ 48) ∧ ((some f : Option Nat) = none → A) := ⟨fun w q => by cases q; exact h, fun q => by cases q⟩
def LawR (tx : Nat → Int32) (n i : Nat) (num rd : Nat → Int32) (mask : Nat) (P pl : Int32) : Prop :=
  ∃ r ρ num' P' rd' at' P'', En (lX tx n) (n - i) (nI i, num, P, 0, pl, 0) ρ ∧ OutX n ρ r num' P' ∧ En (lM tx n) (n - i + 1) (nI mask, rd, nI i, -9, P) (rd', at', enc9 r, P'') ∧ ((∀ w, r = some w → w ≤ 48) ∧ (r = none → P'' = P' ∧ ∃ mask', Rel num' rd' mask'))
theorem lawSim {tx : Nat → Int32} {n : Nat} (hx : okX tx) (hn : n ≤ 48) : ∀ m i num rd mask P pl, n - i ≤ m → i ≤ n → Rel num rd mask → LawR tx n i num rd mask P pl := by
  have fin : ∀ num rd mask P pl, Rel num rd mask → LawR tx n n num rd mask P pl := by
    intro num rd mask P pl hR
    refine ⟨none, _, num, P, rd, nI n, P, En_end _ lX_out, ⟨0, pl, 0, ?_⟩, En_end _ ?_, (fun w q => by cases q), fun _ => ⟨rfl, mask, hR⟩⟩
    · show f_X6_faultOf_x41_3 (nI n) num P 0 pl 0 = _
      unfold f_X6_faultOf_x41_3
      rw [if_neg (by decide), if_pos rfl]; rfl
    · show f_X11_readLaw_b39 tx (nI n) (nI mask) rd (nI n) (-9) P = _
      unfold f_X11_readLaw_b39
      rw [if_pos rfl, if_pos (Int32.le_refl _)]; rfl
  intro m
  induction m with
  | zero =>
    intro i num rd mask P pl h1 h2 hR
    have : i = n := by omega
    subst this
    exact fin num rd mask P pl hR
  | succ m ih =>
    intro i num rd mask P pl h1 h2 hR
    by_cases e : i = n
    · subst e; exact fin num rd mask P pl hR
    have hi : i < n := by omega
    have hm := hR.1
    have kX := kindX (P := P) (pl := pl) hx hn hi hR
    obtain ⟨kM1, kM2, kM3⟩ := kindM (rd := rd) (P := P) hx hn hi hm
    -- a fault at the first sign
    have bad : lX tx n (nI i, num, P, 0, pl, 0) = some (.inr (.inr (nI i, num, P, 0, pl, 0))) → (∃ v P', lM tx n (nI mask, rd, nI i, -9, P) = some (.inl (v, rd, nI i, nI i, P'))) → LawR tx n i num rd mask P pl := by
      rintro e1 ⟨v, P', e2⟩
      exact ⟨some i, _, _, _, _, _, _, En_end _ e1, ⟨_, _, _, rfl⟩, en1 (by omega) (by omega) e2, failR (by omega)⟩
    by_cases h76 : tC tx i = 76
    · rw [if_pos h76] at kX
      by_cases h63 : mask % 64 = 63
      · rw [if_pos h63] at kX
        exact bad kX (kM2 (Or.inl ⟨h76, h63⟩))
      · rw [if_neg h63] at kX
        have kM := kM1 h76 h63
        rw [bandM hx hn (by omega) hm, Option.bind_some] at kM
        cases hb : bdg tx n (i + 1) mask with
        | none =>
          rw [hb] at kM
          dsimp only at kM
          rw [fig_f (nI_m9 (by omega)), Option.bind_some] at kM
          dsimp only at kM
          rw [fig_f (nI_m9 (by omega)), Option.bind_some, gL (x := 0) (k := 0) rfl (by omega) (by omega), j207_n] at kM
          obtain ⟨ρ, num', P', eX, oX⟩ := bandX_none (P := P) (pl := pl) hx hn (show i + 1 ≤ n by omega) hR hb
          exact ⟨some (i + 1), ρ, num', P', _, _, _, En_step _ (by omega) kX (eX 0), oX, en1 (by omega) (by omega) kM, failR (by omega)⟩
        | some d =>
          rw [hb] at kM
          dsimp only at kM
          obtain ⟨hd1, hd6, hdt⟩ := bdg_some hb
          have hj1 := (dgt_some hd1).1
          have sX := bandX_some (P := P) (pl := pl) hx hn hR hb
          rw [fig_9 hx hn (by omega), Option.bind_some] at kM
          cases h2 : dgt tx n (i + 1 + 1) with
          | none =>
            rw [h2] at kM
            dsimp only at kM
            rw [fig_f (nI_m9 (by omega)), Option.bind_some, gd_n (show d < 12 by omega) (by omega), j207_n] at kM
            obtain ⟨ρ, num', P', eX, oX⟩ := figX_none (num := upd num d 0) (P := P) (due := 2) (pl := nI d) hx hn (show i + 1 + 1 ≤ n by omega) (by decide) h2
            exact ⟨some (i + 1 + 1), ρ, num', P', _, _, _, En_step _ (n := 1) (by omega) kX (En_step _ (by omega) sX (eX 0)), oX, en1 (by omega) (by omega) kM, failR (by omega)⟩
          | some x =>
            rw [h2] at kM
            dsimp only at kM
            obtain ⟨hj2, _, hx9⟩ := dgt_some h2
            have sX2 := figX_some (num := upd num d 0) (P := P) (due := 2) hx hn (show d < 12 by omega) (by decide) h2
            rw [show (2 : Int32) - 1 = 1 by decide, if_neg (by decide), pk_us, upd_upd, show (10 : Int32) * 0 + nI x = nI x by rw [show (10 : Int32) * 0 = nI 0 by decide, nI_add, Nat.zero_add]] at sX2
            rw [fig_9 hx hn (by omega), Option.bind_some] at kM
            cases h3 : dgt tx n (i + 1 + 1 + 1) with
            | none =>
              rw [h3] at kM
              dsimp only at kM
              rw [gd_n (show d < 12 by omega) (by omega), j207_n] at kM
              obtain ⟨ρ, num', P', eX, oX⟩ := figX_none (num := upd num d (nI x)) (P := P) (due := 1) (pl := nI d) hx hn (show i + 1 + 1 + 1 ≤ n by omega) (by decide) h3
              exact ⟨some (i + 1 + 1 + 1), ρ, num', P', _, _, _, En_step _ (n := 2) (by omega) kX (En_step _ (n := 1) (by omega) sX (En_step _ (by omega) sX2 (eX 0))), oX, en1 (by omega) (by omega) kM, failR (by omega)⟩
            | some y =>
              rw [h3] at kM
              dsimp only at kM
              obtain ⟨hj3, _, hy9⟩ := dgt_some h3
              have sX3 := figX_some (num := upd num d (nI x)) (P := P) (due := 1) hx hn (show d < 12 by omega) (by decide) h3
              rw [show (1 : Int32) - 1 = 0 by decide, if_pos rfl, pk_us, upd_upd, ten_n] at sX3
              rw [gd_n (show d < 12 by omega) (by omega), nI_clamp (by omega), j207_n, if_neg (nI_m9 (by omega)), (sh_12 d (by omega)).1, tbOr, ten_n] at kM
              obtain ⟨r, ρ, num', P', rd', at', P'', eX, oX, eM, hr⟩ := ih (i + 1 + 1 + 1 + 1) (upd num d (nI (10 * x + y))) (upd rd d (nI (10 * x + y))) (mask ||| 2 ^ d) (P + 1) (nI d) (by omega) (by omega) (hR.set (by omega) (by omega))
              exact ⟨r, ρ, num', P', rd', at', P'', En_step _ (n := n - (i + 1 + 1 + 1 + 1) + 3) (by omega) kX (En_step _ (n := n - (i + 1 + 1 + 1 + 1) + 2) (by omega) sX (En_step _ (n := n - (i + 1 + 1 + 1 + 1) + 1) (by omega) sX2 (En_step _ (by omega) sX3 eX))), oX, En_step _ (by omega) kM eM, hr⟩
    · rw [if_neg h76] at kX
      cases hp : plc (tC tx i) with
      | none =>
        rw [hp] at kX
        exact bad kX (kM2 (Or.inr ⟨h76, Or.inl hp⟩))
      | some p =>
        rw [hp] at kX
        dsimp only at kX
        have hp2 := plc_lt hp
        cases ht : mask.testBit p with
        | true =>
          rw [ht, if_neg (by decide)] at kX
          exact bad kX (kM2 (Or.inr ⟨h76, Or.inr ⟨p, hp, ht⟩⟩))
        | false =>
          rw [ht, if_pos rfl] at kX
          have kM := kM3 p hp ht
          have z0 : (10 : Int32) * 0 = nI 0 := by decide
          rw [fig_9 hx hn (by omega), Option.bind_some] at kM
          by_cases h8 : p = 8
          · rw [if_pos h8] at kX kM
            cases h2 : dgt tx n (i + 1) with
            | none =>
              rw [h2] at kM
              dsimp only at kM
              rw [fig_f (nI_m9 (by omega)), Option.bind_some] at kM
              unfold f_X11_readLaw_j199 at kM
              rw [gd_n (show p < 12 by omega) (by omega), j207_n] at kM
              obtain ⟨ρ, num', P', eX, oX⟩ := figX_none (num := upd num p 0) (P := P) (due := 2) (pl := nI p) hx hn (show i + 1 ≤ n by omega) (by decide) h2
              exact ⟨some (i + 1), ρ, num', P', _, _, _, En_step _ (by omega) kX (eX 0), oX, en1 (by omega) (by omega) kM, failR (by omega)⟩
            | some x =>
              rw [h2] at kM
              dsimp only at kM
              obtain ⟨hj2, _, hx9⟩ := dgt_some h2
              have sX2 := figX_some (num := upd num p 0) (P := P) (due := 2) hx hn (show p < 12 by omega) (by decide) h2
              rw [show (2 : Int32) - 1 = 1 by decide, if_neg (by decide), pk_us, upd_upd, z0, nI_add, Nat.zero_add] at sX2
              rw [fig_9 hx hn (by omega), Option.bind_some] at kM
              cases h3 : dgt tx n (i + 1 + 1) with
              | none =>
                rw [h3] at kM
                dsimp only at kM
                unfold f_X11_readLaw_j199 at kM
                rw [gd_n (show p < 12 by omega) (by omega), j207_n] at kM
                obtain ⟨ρ, num', P', eX, oX⟩ := figX_none (num := upd num p (nI x)) (P := P) (due := 1) (pl := nI p) hx hn (show i + 1 + 1 ≤ n by omega) (by decide) h3
                exact ⟨some (i + 1 + 1), ρ, num', P', _, _, _, En_step _ (n := 1) (by omega) kX (En_step _ (by omega) sX2 (eX 0)), oX, en1 (by omega) (by omega) kM, failR (by omega)⟩
              | some y =>
                rw [h3] at kM
                dsimp only at kM
                obtain ⟨hj3, _, hy9⟩ := dgt_some h3
                have sX3 := figX_some (num := upd num p (nI x)) (P := P) (due := 1) hx hn (show p < 12 by omega) (by decide) h3
                rw [show (1 : Int32) - 1 = 0 by decide, if_pos rfl, pk_us, upd_upd, ten_n] at sX3
                unfold f_X11_readLaw_j199 at kM
                rw [gd_n (show p < 12 by omega) (by omega), nI_clamp (by omega), j207_n, if_neg (nI_m9 (by omega)), (sh_12 p (by omega)).1, tbOr, ten_n] at kM
                obtain ⟨r, ρ, num', P', rd', at', P'', eX, oX, eM, hr⟩ := ih (i + 1 + 1 + 1) (upd num p (nI (10 * x + y))) (upd rd p (nI (10 * x + y))) (mask ||| 2 ^ p) (P + 1) (nI p) (by omega) (by omega) (hR.set (by omega) (by omega))
                exact ⟨r, ρ, num', P', rd', at', P'', En_step _ (n := n - (i + 1 + 1 + 1) + 2) (by omega) kX (En_step _ (n := n - (i + 1 + 1 + 1) + 1) (by omega) sX2 (En_step _ (by omega) sX3 eX)), oX, En_step _ (by omega) kM eM, hr⟩
          · rw [if_neg h8] at kX kM
            cases h2 : dgt tx n (i + 1) with
            | none =>
              rw [h2] at kM
              dsimp only at kM
              unfold f_X11_readLaw_j199 at kM
              rw [gd_n (show p < 12 by omega) (by omega), j207_n] at kM
              obtain ⟨ρ, num', P', eX, oX⟩ := figX_none (num := upd num p 0) (P := P) (due := 1) (pl := nI p) hx hn (show i + 1 ≤ n by omega) (by decide) h2
              exact ⟨some (i + 1), ρ, num', P', _, _, _, En_step _ (by omega) kX (eX 0), oX, en1 (by omega) (by omega) kM, failR (by omega)⟩
            | some x =>
              rw [h2] at kM
              dsimp only at kM
              obtain ⟨hj2, _, hx9⟩ := dgt_some h2
              have sX2 := figX_some (num := upd num p 0) (P := P) (due := 1) hx hn (show p < 12 by omega) (by decide) h2
              rw [show (1 : Int32) - 1 = 0 by decide, if_pos rfl, pk_us, upd_upd, z0, nI_add, Nat.zero_add] at sX2
              unfold f_X11_readLaw_j199 at kM
              rw [gd_n (show p < 12 by omega) (by omega), nI_clamp (by omega), j207_n, if_neg (nI_m9 (by omega)), (sh_12 p (by omega)).1, tbOr] at kM
              obtain ⟨r, ρ, num', P', rd', at', P'', eX, oX, eM, hr⟩ := ih (i + 1 + 1) (upd num p (nI x)) (upd rd p (nI x)) (mask ||| 2 ^ p) (P + 1) (nI p) (by omega) (by omega) (hR.set (by omega) (by omega))
              exact ⟨r, ρ, num', P', rd', at', P'', En_step _ (n := n - (i + 1 + 1) + 1) (by omega) kX (En_step _ (by omega) sX2 eX), oX, En_step _ (by omega) kM eM, hr⟩
def fiA (f : Nat → Int32) (x : Int32) : Nat → Nat → Int32
  | 0 => f
  | k + 1 => upd (fiA f x k) k x
theorem fiA_at {f : Nat → Int32} {x : Int32} : ∀ n k, k < n → fiA f x n k = x := by
  intro n
  induction n with
  | zero => intro k h; omega
  | succ n ih =>
    intro k h
    unfold fiA
    by_cases e : k = n
    · subst e; exact pk_us
    · rw [pk_un e]; exact ih k (by omega)
theorem begin_n {f : Nat → Int32} : f_X6_begin f = some (fiA f (-1) 12, 0, 0, 0, 0) := by
  unfold f_X6_begin
  refine lp_bd (fun k => (nI k, fiA f (-1) k)) (fiA f (-1) 12) 12 (FU_lt (by omega)) rfl rfl ?_ ?_
  · intro k hk
    show f_X6_begin_b2 (nI k) (fiA f (-1) k) = _
    unfold f_X6_begin_b2
    rw [if_neg (nleL 12 12 rfl hk (by omega)), gd_n hk (by omega), nI_clamp (by omega), nI1]
    rfl
  · show f_X6_begin_b2 (nI 12) _ = _
    unfold f_X6_begin_b2
    rw [if_pos (by decide)]
theorem readLaw_n {tx f g : Nat → Int32} {n : Nat} (hx : okX tx) (hn : n ≤ 48) : ∃ (r : Option Nat) (num rd : Nat → Int32) (P : Int32) (d p b at' P'' : Int32), f_X6_faultOf f tx (nI n) = some (enc9 r, num, P, d, p, b) ∧ f_X11_readLaw g tx (nI n) = some (enc9 r, rd, at', enc9 r, P'') ∧ (∀ w, r = some w → w ≤ 48) ∧ (r = none → P'' = P ∧ ∃ mask, Rel num rd mask) := by
  have hR : Rel (fiA f (-1) 12) (fiA g 0 12) 0 := ⟨by omega, fun k hk => Or.inr ⟨Nat.zero_testBit k, fiA_at 12 k hk, fiA_at 12 k hk⟩⟩
  obtain ⟨r, ρ, num', P', rd', at', P'', eX, ⟨d, p, b, oX⟩, eM, h1, h2⟩ := lawSim hx hn (n - 0) 0 (fiA f (-1) 12) (fiA g 0 12) 0 0 0 (Nat.le_refl _) (Nat.zero_le _) hR
  refine ⟨r, num', rd', P', d, p, b, at', P'', ?_, ?_, h1, h2⟩
  · unfold f_X6_faultOf
    rw [begin_n, Option.bind_some]
    have e := eX FU (FU_lt (by omega))
    show (lpM (lX tx n) FU (nI 0, fiA f (-1) 12, 0, 0, 0, 0)).bind _ = _
    rw [e, Option.bind_some]
    exact oX
  · unfold f_X11_readLaw
    refine lp_bd (fun k => (nI k, fiA g 0 k)) (fiA g 0 12) 12 (FU_lt (by omega)) rfl ?_ ?_ ?_
    · unfold f_X11_readLaw_x39_1
      have e := eM FU (FU_lt (by omega))
      show (lpM (lM tx n) FU (nI 0, fiA g 0 12, nI 0, -9, 0)).bind _ = _
      rw [e]
      rfl
    · intro k hk
      show f_X11_readLaw_b20 (nI k) (fiA g 0 k) = _
      unfold f_X11_readLaw_b20
      rw [if_neg (nleL 12 12 rfl hk (by omega)), gd_n hk (by omega), nI_clamp (by omega), nI1]
      rfl
    · show f_X11_readLaw_b20 (nI 12) _ = _
      unfold f_X11_readLaw_b20
      rw [if_pos (by decide)]
def cpL (f g : Nat → Int32) : Nat → Nat → Int32
  | 0 => g
  | k + 1 => upd (cpL f g k) k (f k)
theorem cpL_cong {f f' g : Nat → Int32} : ∀ n, (∀ k, k < n → f k = f' k) → cpL f g n = cpL f' g n := by
  intro n
  induction n with
  | zero => intro _; rfl
  | succ n ih => intro h; unfold cpL; rw [ih (fun k hk => h k (by omega)), h n (by omega)]
theorem cpL_ok {f g : Nat → Int32} (hg : okL g) : ∀ n, (∀ k, k < n → ∃ x : Nat, x < 100 ∧ f k = nI x) → okL (cpL f g n) := by
  intro n
  induction n with
  | zero => intro _; exact hg
  | succ n ih =>
    intro h j
    unfold cpL
    by_cases e : j = n
    · subst e; rw [pk_us]; exact h j (by omega)
    · rw [pk_un e]; exact ih (fun k hk => h k (by omega)) j
theorem st_law : St_law := by
  intro tx tl lw ice mk wt bd s6 s8 s7 s1 s5 s2 u0 u1 sm kz kb km kw hI
  obtain ⟨⟨n, hn, rfl⟩, hx⟩ := hI.1
  obtain ⟨r, num, rd, P, d, p, b, at', P'', e1, e2, h1, h2⟩ := readLaw_n (f := s6.1) (g := sm.1) hx hn
  unfold f_X10_law f_X11_law
  rw [e1, e2, Option.bind_some, Option.bind_some]
  dsimp only
  cases r with
  | some w =>
    have hw := h1 w rfl
    rw [if_neg (show ¬ enc9 (some w) = -9 from nI_m9 (by omega)), if_neg (show ¬ enc9 (some w) = -9 from nI_m9 (by omega))]
    exact ⟨-3, _, _, _, _, _, _, _, _, _, _, rfl, rfl, hI⟩
  | none =>
    obtain ⟨hP, mask, hR⟩ := h2 rfl
    subst hP
    rw [if_pos (show enc9 none = -9 from rfl), if_pos (show enc9 none = -9 from rfl)]
    have hrd : ∀ k, k < 12 → ∃ x : Nat, x < 100 ∧ rd k = nI x := by
      intro k hk
      rcases hR.2 k hk with ⟨_, x, hx, _, e⟩ | ⟨_, _, e⟩
      · exact ⟨x, hx, e⟩
      · exact ⟨0, by omega, e⟩
    have hnm : ∀ k, k < 12 → (if num k < 0 then (0 : Int32) else num k) = rd k := by
      intro k hk
      rcases hR.2 k hk with ⟨_, x, hx, e, e'⟩ | ⟨_, e, e'⟩
      · rw [e, e', if_neg (nI_nn (by omega))]
      · rw [e, e', if_pos (by decide)]
    have g1 : f_X6_giveTo num lw = some (cpL rd lw 12) := by
      rw [← cpL_cong (f := fun k => if num k < 0 then (0 : Int32) else num k) 12 hnm]
      unfold f_X6_giveTo
      refine lp_bd (fun k => (nI k, cpL (fun k => if num k < 0 then (0 : Int32) else num k) lw k)) (cpL (fun k => if num k < 0 then (0 : Int32) else num k) lw 12) 12 (FU_lt (by omega)) rfl rfl ?_ ?_
      · intro k hk
        show f_X6_giveTo_b2 num (nI k) (cpL (fun k => if num k < 0 then (0 : Int32) else num k) lw k) = _
        unfold f_X6_giveTo_b2
        rw [if_neg (nleL 12 12 rfl hk (by omega)), gd_n hk (by omega), gd_n hk (by omega), nI_clamp (by omega), nI1]
        rfl
      · show f_X6_giveTo_b2 num (nI 12) _ = _
        unfold f_X6_giveTo_b2
        rw [if_pos (by decide)]
    rw [g1, Option.bind_some]
    refine ⟨_, _, _, _, _, _, cpL rd lw 12, rd, at', enc9 none, P'', rfl, ?_, hI.1, cpL_ok hI.2.1 12 hrd, hI.2.2⟩
    refine lp_bd (fun k => (nI k, cpL rd lw k)) (cpL rd lw 12) 12 (FU_lt (by omega)) rfl rfl ?_ ?_
    · intro k hk
      show f_X11_law_b14 (enc9 none, rd, at', enc9 none, P'') (nI k) (cpL rd lw k) = _
      unfold f_X11_law_b14
      rw [if_neg (nleL 12 12 rfl hk (by omega)), gd_n hk (by omega), gd_n hk (by omega), nI_clamp (by omega), nI1]
      rfl
    · show f_X11_law_b14 (enc9 none, rd, at', enc9 none, P'') (nI 12) _ = _
      unfold f_X11_law_b14
      rw [if_pos (by decide)]
