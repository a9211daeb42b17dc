/-! ===== story ===== -/
def sM (tx : Nat → Int32) (n : Nat) : (Int32 × Int32 × Int32 × Int32 × (Nat → Int32) × (Nat → Int32) × Int32) → Option ((Int32 × Int32 × Int32 × Int32 × (Nat → Int32) × (Nat → Int32) × Int32) ⊕ (Int32 × Int32 × (Nat → Int32) × (Nat → Int32) × Int32)) :=
  fun st => f_X11_readStory_b20 tx (nI n) st.1 st.2.1 st.2.2.1 st.2.2.2.1 st.2.2.2.2.1 st.2.2.2.2.2.1 st.2.2.2.2.2.2
def Sr (ic eR eI : Nat → Int32) (E A : Nat) : Prop := A ≤ 100 ∧ (∀ k, k < E → ∃ p v, p < A ∧ v < 64 ∧ eR k = nI p ∧ eI k = nI v ∧ ic p = nI v) ∧ (∀ j k, j < k → k < E → (eR j).toNatClampNeg < (eR k).toNatClampNeg) ∧ (∀ p, p < 100 → (∀ k, k < E → ¬ eR k = nI p) → ic p = -1)
theorem Sr.add {ic eR eI : Nat → Int32} {E A p v : Nat} (h : Sr ic eR eI E A) (hp : A ≤ p) (hp2 : p < 100) (hv : v < 64) : Sr (upd ic p (nI v)) (upd eR E (nI p)) (upd eI E (nI v)) (E + 1) (p + 1) := by
  refine ⟨by omega, fun k hk => ?_, fun j k hjk hk => ?_, fun q hq hn => ?_⟩
  · by_cases e : k = E
    · subst e
      exact ⟨p, v, by omega, hv, pk_us, pk_us, pk_us⟩
    · obtain ⟨p', v', h1, h2, h3, h4, h5⟩ := h.2.1 k (by omega)
      exact ⟨p', v', by omega, h2, by rw [pk_un e]; exact h3, by rw [pk_un e]; exact h4, by rw [pk_un (by omega)]; exact h5⟩
  · by_cases e : k = E
    · subst e
      obtain ⟨p', v', h1, h2, h3, h4, h5⟩ := h.2.1 j (by omega)
      rw [pk_us, pk_un (by omega), h3, nI_clamp (by omega), nI_clamp (by omega)]
      omega
    · rw [pk_un e, pk_un (by omega)]
      exact h.2.2.1 j k hjk (by omega)
  · have hne : ¬ q = p := by
      intro e
      subst e
      exact hn E (by omega) pk_us
    rw [pk_un hne]
    apply h.2.2.2 q hq
    intro k hk e
    exact hn k (by omega) (by rw [pk_un (by omega)]; exact e)
theorem next_g {tx : Nat → Int32} {n a c : Nat} {C : Int32} (hx : okX tx) (hn : n ≤ 48) (ha : a < 1000) (hC : C = nI c) (hc' : c < 256) : f_X11_isNext tx (nI n) (nI a) (-9) C = some (if a < n ∧ tC tx a = c then 1 else 0) := by
  by_cases h : a < n
  · rw [next_n hx hn h hC hc']
    by_cases h2 : tC tx a = c
    · rw [if_pos h2, if_pos ⟨h, h2⟩]
    · rw [if_neg h2, if_neg (fun q => h2 q.2)]
  · unfold f_X11_isNext
    rw [if_pos rfl, if_pos (nI_le (by omega) (by omega)), if_neg (fun q => h q.1)]
theorem x86_f {tx eR eI : Nat → Int32} {n x at' v4 : Int32} {f E : Nat} (hf : f < 1000) (hE : E < 48) : ∃ eR', f_X11_readEntry_x86_15 tx n eR eI (nI E) (x, at', nI f) v4 = some (99, at', nI f, eR', upd eI E 0, nI (E + 1)) := by
  have h9 : ¬ nI f = -9 := nI_m9 (by omega)
  unfold f_X11_readEntry_x86_15
  dsimp only
  rw [fig_f h9, Option.bind_some]
  dsimp only
  rw [next_f h9, Option.bind_some, if_pos rfl, fail_f h9, Option.bind_some, j125_f hf hE]
  exact ⟨_, rfl⟩
def StoR (tx : Nat → Int32) (n i : Nat) (ic eR eI : Nat → Int32) (E A : Nat) (t rn ba : Int32) : Prop :=
  ∃ r ρ ic' E' z1 F eR' eI' E'', En (sX tx n) (n - i) (nI i, ic, nI E, 0, nI A - 1, t, rn, ba) ρ ∧ OutS n ρ r ic' E' ∧ En (sM tx n) (n - i + 1) (nI A - 1, 1, nI i, -9, eR, eI, nI E) (z1, F, eR', eI', E'') ∧ f_X11_readStory_x72_2 (nI n) z1 F eR' eI' E'' = some (enc9 r, z1, enc9 r, eR', eI', E'') ∧ (∀ w, r = some w → w ≤ 48) ∧ (r = none → E'' = E' ∧ ∃ e a, E' = nI e ∧ e ≤ 48 ∧ Sr ic' eR' eI' e a)
theorem sM_0 {tx : Nat → Int32} {n m : Nat} {v1 z F : Int32} {eR eI : Nat → Int32} {E : Int32} : En (sM tx n) m (v1, 0, z, F, eR, eI, E) (z, F, eR, eI, E) := by
  apply En_end
  show f_X11_readStory_b20 tx (nI n) v1 0 z F eR eI E = _
  unfold f_X11_readStory_b20
  rw [if_pos rfl]
theorem sM_1 {tx : Nat → Int32} {n : Nat} {v1 z F : Int32} {eR eI : Nat → Int32} {E : Int32} : sM tx n (v1, 1, z, F, eR, eI, E) = (f_X11_readEntry tx (nI n) z F eR eI E v1).bind (fun q8 => (f_X11_isNext tx (nI n) q8.2.1 q8.2.2.1 (59 : Int32)).bind (fun q9 => (if q9 = (0 : Int32) then some (.inl (q8.1, 0, q8.2.1 + 0, q8.2.2.1, q8.2.2.2.1, q8.2.2.2.2.1, q8.2.2.2.2.2)) else (if (99 : Int32) ≤ q8.1 then some (.inl (q8.1, 0, q8.2.1 + 0, q8.2.2.1, q8.2.2.2.1, q8.2.2.2.2.1, q8.2.2.2.2.2)) else some (.inl (q8.1, 1, q8.2.1 + 1, q8.2.2.1, q8.2.2.2.1, q8.2.2.2.2.1, q8.2.2.2.2.2)))))) := by
  show f_X11_readStory_b20 tx (nI n) v1 1 z F eR eI E = _
  unfold f_X11_readStory_b20
  rw [if_neg (by decide)]
  rfl
theorem x72_f {n : Int32} {f : Nat} {z E : Int32} {eR eI : Nat → Int32} (hf : f < 1000) : f_X11_readStory_x72_2 n z (nI f) eR eI E = some (nI f, z, nI f, eR, eI, E) := by
  unfold f_X11_readStory_x72_2
  rw [if_neg (nI_m9 (by omega))]
  rfl
theorem stoBad {tx : Nat → Int32} {n i f E A : Nat} {ic eR eI : Nat → Int32} {t rn ba : Int32} (hf : f ≤ 48) (hX : ∃ ρ ic' E', En (sX tx n) (n - i) (nI i, ic, nI E, 0, nI A - 1, t, rn, ba) ρ ∧ OutS n ρ (some f) ic' E') (hM : ∃ x at' eR' eI' E'', f_X11_readEntry tx (nI n) (nI i) (-9) eR eI (nI E) (nI A - 1) = some (x, at', nI f, eR', eI', E'')) : StoR tx n i ic eR eI E A t rn ba := by
  obtain ⟨ρ, ic', E', h1, h2⟩ := hX
  obtain ⟨x, at', eR', eI', E'', h3⟩ := hM
  have e : sM tx n (nI A - 1, 1, nI i, -9, eR, eI, nI E) = some (.inl (x, 0, at' + 0, nI f, eR', eI', E'')) := by
    rw [sM_1, h3, Option.bind_some]
    dsimp only
    rw [next_f (nI_m9 (by omega)), Option.bind_some, if_pos rfl]
  exact ⟨some f, ρ, ic', E', _, _, _, _, _, h1, h2, En_step _ (n := 0) (by omega) e sM_0, x72_f (by omega), fun w q => by cases q; exact hf, fun q => by cases q⟩
theorem nextX {tx : Nat → Int32} {n i p : Nat} {ic : Nat → Int32} {E ra t ba : Int32} (hx : okX tx) (hn : n ≤ 48) (hi : i < n) (hp : p < 100) (h59 : tC tx i = 59) : if p = 99 then FauX tx n i (nI i, ic, E, 3, ra, t, nI p, ba) else sX tx n (nI i, ic, E, 3, ra, t, nI p, ba) = some (.inl (nI (i + 1), ic, E, 0, nI p, t, nI p, ba)) := by
  have hc := tC_at hx i
  have base : sX tx n (nI i, ic, E, 3, ra, t, nI p, ba) = _ := sX_in hn hi
  unfold f_X8_takes at base
  rw [if_neg (by decide), if_neg (by decide), if_neg (by decide), hc.2, if_pos (show nI (tC tx i) = 59 by rw [h59]; rfl)] at base
  unfold f_X8_takesNextEntry at base
  by_cases h : p = 99
  · rw [if_pos h]
    rw [if_pos (show (99 : Int32) ≤ nI p by rw [h]; decide)] at base
    exact fau_in base
  · rw [if_neg h]
    rw [if_neg (nleL 99 99 rfl (show p < 99 by omega) (by omega))] at base
    exact base
theorem stoSim {tx : Nat → Int32} {n : Nat} (hx : okX tx) (hn : n ≤ 48) : ∀ m i ic eR eI E A t rn ba, n - i < m → i ≤ n → 4 * E ≤ i → A ≤ 99 → Sr ic eR eI E A → StoR tx n i ic eR eI E A t rn ba := by
  intro m
  induction m with
  | zero => intro i ic eR eI E A t rn ba h; omega
  | succ m ih =>
    intro i ic eR eI E A t rn ba hm hi hE hA hS
    have hE48 : E < 48 := by omega
    have reM : f_X11_readEntry tx (nI n) (nI i) (-9) eR eI (nI E) (nI A - 1) = (f_X11_figure tx (nI n) (nI i) (-9) (nI (mkN (fun t => decide (¬ 10 * t + 9 < A)) 10))).bind (fun q14 => (lpM (σ := Int32 × Int32) (ρ := Int32) (fun st => f_X11_readEntry_b49 (nI A - 1) q14 st.1 st.2) FU ((0 : Int32), (0 : Int32))).bind (fun sx => f_X11_readEntry_x86_15 tx (nI n) eR eI (nI E) q14 sx)) := by
      unfold f_X11_readEntry
      rw [tensM (by omega), Option.bind_some]
      rfl
    rw [fig_k hx hn (by omega)] at reM
    have tX := tensX (ic := ic) (E := nI E) (t := t) (rn := rn) (ba := ba) hx hn hi (show A ≤ 100 by omega)
    -- a fault at the tens
    have bad0 : FauX tx n i (nI i, ic, nI E, 0, nI A - 1, t, rn, ba) → f_X11_readEntry tx (nI n) (nI i) (-9) eR eI (nI E) (nI A - 1) = (some ((0 : Int32), nI i, nI i)).bind (fun q14 => (lpM (σ := Int32 × Int32) (ρ := Int32) (fun st => f_X11_readEntry_b49 (nI A - 1) q14 st.1 st.2) FU ((0 : Int32), (0 : Int32))).bind (fun sx => f_X11_readEntry_x86_15 tx (nI n) eR eI (nI E) q14 sx)) → StoR tx n i ic eR eI E A t rn ba := by
      rintro ⟨ρ, ic', E', h1, h2⟩ e
      refine stoBad (f := i) (by omega) ⟨ρ, ic', E', h1 _, h2⟩ ?_
      rw [Option.bind_some, show ((0 : Int32), nI i, nI i) = (nI 0, nI i, nI i) from rfl, onesMk (A := A) (t := 0) (a := nI i) (b := nI i) (by omega) (by omega), Option.bind_some] at e
      obtain ⟨eR', e2⟩ := x86_f (tx := tx) (eR := eR) (eI := eI) (n := nI n) (x := nI 0) (at' := nI i) (v4 := nI (mkN (fun o => decide (¬ 10 * 0 + o < A)) 10)) (f := i) (E := E) (by omega) hE48
      rw [e2] at e
      exact ⟨_, _, _, _, _, e⟩
    cases hd : dgt tx n i with
    | none =>
      rw [hd] at reM tX
      exact bad0 tX reM
    | some tn =>
      rw [hd] at reM tX
      dsimp only at reM tX
      obtain ⟨hj0, _, ht9⟩ := dgt_some hd
      by_cases hl : 10 * tn + 9 < A
      · rw [if_pos hl] at tX
        rw [if_neg (by simp [hl])] at reM
        exact bad0 tX reM
      · rw [if_neg hl] at tX
        rw [if_pos (by simp [hl]), Option.bind_some, onesMk (by omega) (by omega), Option.bind_some] at reM
        unfold f_X11_readEntry_x86_15 at reM
        dsimp only at reM
        rw [fig_k hx hn (by omega)] at reM
        have oX := onesX (ic := ic) (E := nI E) (rn := rn) (ba := ba) hx hn (show i + 1 ≤ n by omega) (show A ≤ 100 by omega) ht9
        have bad1 : FauX tx n (i + 1) (nI (i + 1), ic, nI E, 1, nI A - 1, nI tn, rn, ba) → f_X11_readEntry tx (nI n) (nI i) (-9) eR eI (nI E) (nI A - 1) = (some ((0 : Int32), nI (i + 1), nI (i + 1))).bind (fun q16 => (f_X11_isNext tx (nI n) q16.2.1 q16.2.2 (58 : Int32)).bind (fun q17 => (if q17 = (0 : Int32) then (f_X11_fail q16.2.1 q16.2.2).bind (fun q19 => f_X11_readEntry_j125 tx (nI n) (((10 : Int32) * nI tn) + q16.1) q16.2.1 q19 eR eI (nI E)) else f_X11_readEntry_j125 tx (nI n) (((10 : Int32) * nI tn) + q16.1) (q16.2.1 + (1 : Int32)) q16.2.2 eR eI (nI E)))) → StoR tx n i ic eR eI E A t rn ba := by
          rintro ⟨ρ, ic', E', h1, h2⟩ e
          refine stoBad (f := i + 1) (by omega) ⟨ρ, ic', E', En_step _ (by omega) tX (h1 0), h2⟩ ?_
          rw [Option.bind_some] at e
          dsimp only at e
          rw [next_f (nI_m9 (by omega)), Option.bind_some, if_pos rfl, fail_f (nI_m9 (by omega)), Option.bind_some, j125_f (by omega) hE48] at e
          exact ⟨_, _, _, _, _, e⟩
        cases hd1 : dgt tx n (i + 1) with
        | none =>
          rw [hd1] at reM oX
          exact bad1 oX reM
        | some o =>
          rw [hd1] at reM oX
          dsimp only at reM oX
          obtain ⟨hj1, _, ho9⟩ := dgt_some hd1
          by_cases hl1 : 10 * tn + o < A
          · rw [if_pos hl1] at oX
            rw [if_neg (by simp [hl1])] at reM
            exact bad1 oX reM
          · rw [if_neg hl1] at oX
            rw [if_pos (by simp [hl1]), Option.bind_some] at reM
            dsimp only at reM
            rw [next_g hx hn (by omega) (c := 58) (C := 58) rfl (by omega), Option.bind_some, ite10, ten_n] at reM
            have hp : 10 * tn + o < 100 := by omega
            generalize hpe : 10 * tn + o = p at *
            have cX := colonX (ic := ic) (E := nI E) (ra := nI A - 1) (t := nI tn) (ba := ba) hx hn (show i + 1 + 1 ≤ n by omega) hp
            by_cases h58 : i + 1 + 1 < n ∧ tC tx (i + 1 + 1) = 58
            · rw [if_pos h58] at reM cX
              rw [nI1] at reM cX
              have z1 : (-1 : Int32) = nI 0 - 1 := by decide
              rw [z1, show (0 : Int32) = nI 0 from rfl] at cX
              obtain ⟨j, v', w', V, F, q1, q2, q3, q4, q5, q6, q7⟩ := bandSim (ic := ic) (E := nI (E + 1)) (ra := nI A - 1) (t := nI tn) hx hn hp (n - (i + 1 + 1 + 1)) (i + 1 + 1 + 1) 0 0 (Nat.le_refl _) (by omega) (by omega) (by omega)
              have reach : ∀ ρ k, En (sX tx n) k (nI j, upd ic p (nI v'), nI (E + 1), 3, nI A - 1, nI tn, nI p, nI w' - 1) ρ → En (sX tx n) (k + (j - i)) (nI i, ic, nI E, 0, nI A - 1, t, rn, ba) ρ := by
                intro ρ k hk
                exact En_step _ (n := k + (j - (i + 1 + 1 + 1)) + 2) (by omega) tX (En_step _ (n := k + (j - (i + 1 + 1 + 1)) + 1) (by omega) oX (En_step _ (by omega) cX (q5 ρ k hk)))
              unfold f_X11_readEntry_j125 at reM
              have eb := q6 FU (FU_lt (by omega))
              have eb' : lpM (σ := Int32 × Int32 × Int32 × Int32) (ρ := Int32 × Int32 × Int32) (fun st => f_X11_readEntry_b131 tx (nI n) st.1 st.2.1 st.2.2.1 st.2.2.2) FU ((0 : Int32), (0 : Int32), nI (i + 1 + 1 + 1), -9) = some (V, nI j, F) := eb
              rw [eb', Option.bind_some] at reM
              unfold f_X11_readEntry_x210_1 at reM
              dsimp only at reM
              rw [gd_n hE48 (by omega), gd_n hE48 (by omega), nI_clamp (by omega), nI1] at reM
              rcases q7 with ⟨rfl, rfl, q8⟩ | ⟨rfl, ⟨ρ, ic', E', h1, h2⟩⟩
              · rw [if_pos rfl] at reM
                have hS' := hS.add (p := p) (v := v') (by omega) hp q3
                have stepM : sM tx n (nI A - 1, 1, nI i, -9, eR, eI, nI E) = if j < n ∧ tC tx j = 59 then (if p = 99 then some (.inl (nI p, 0, nI j + 0, -9, upd eR E (nI p), upd eI E (nI v'), nI (E + 1))) else some (.inl (nI p, 1, nI (j + 1), -9, upd eR E (nI p), upd eI E (nI v'), nI (E + 1)))) else some (.inl (nI p, 0, nI j + 0, -9, upd eR E (nI p), upd eI E (nI v'), nI (E + 1))) := by
                  rw [sM_1, reM, Option.bind_some]
                  dsimp only
                  rw [next_g hx hn (by omega) (c := 59) (C := 59) rfl (by omega), Option.bind_some, ite10, nI1]
                  by_cases h99 : p = 99
                  · rw [if_pos (show (99 : Int32) ≤ nI p by rw [h99]; decide), if_pos h99]
                  · rw [if_neg (nleL 99 99 rfl (show p < 99 by omega) (by omega)), if_neg h99]
                have ej0 : nI j + (0 : Int32) = nI j := nI_add j 0
                rw [ej0] at stepM
                rcases q8 with rfl | ⟨hj, h59⟩
                · rw [if_neg (show ¬ (j < j ∧ tC tx j = 59) by omega)] at stepM
                  have eE := reach _ 0 (En_end 0 sX_out)
                  refine ⟨none, _, _, _, _, _, _, _, _, (by rw [Nat.zero_add] at eE; exact eE), ⟨3, nI A - 1, nI tn, nI p, nI w' - 1, ?_⟩, En_step _ (n := 0) (by omega) stepM sM_0, ?_, (fun w q => by cases q), fun _ => ⟨rfl, E + 1, p + 1, rfl, by omega, hS'⟩⟩
                  · show f_X8_faultOf_x41_2 (nI j) (upd ic p (nI v')) (nI (E + 1)) 3 (nI A - 1) (nI tn) (nI p) (nI w' - 1) = _
                    unfold f_X8_faultOf_x41_2
                    rw [if_pos rfl]
                    rfl
                  · unfold f_X11_readStory_x72_2
                    rw [if_pos rfl, if_pos (Int32.le_refl _)]
                    rfl
                · rw [if_pos ⟨hj, h59⟩] at stepM
                  have nX := nextX (ic := upd ic p (nI v')) (E := nI (E + 1)) (ra := nI A - 1) (t := nI tn) (ba := nI w' - 1) hx hn hj hp h59
                  by_cases h99 : p = 99
                  · rw [if_pos h99] at stepM nX
                    obtain ⟨ρ, ic', E', h1, h2⟩ := nX
                    have eE := reach ρ (n - j) (h1 (n - j))
                    refine ⟨some j, ρ, ic', E', _, _, _, _, _, (by rw [show n - j + (j - i) = n - i by omega] at eE; exact eE), h2, En_step _ (n := 0) (by omega) stepM sM_0, ?_, fun w q => by cases q; omega, fun q => by cases q⟩
                    unfold f_X11_readStory_x72_2
                    rw [if_pos rfl, if_neg (nle hj (by omega)), fail_n, Option.bind_some]
                    rfl
                  · rw [if_neg h99] at stepM nX
                    have ep : nI p = nI (p + 1) - 1 := (nI_pred p).symm
                    rw [ep] at stepM
                    have nX2 : sX tx n (nI j, upd ic p (nI v'), nI (E + 1), 3, nI A - 1, nI tn, nI p, nI w' - 1) = some (.inl (nI (j + 1), upd ic p (nI v'), nI (E + 1), 0, nI (p + 1) - 1, nI tn, nI p, nI w' - 1)) := by rw [nI_pred]; exact nX
                    rw [nI_pred] at stepM
                    have stepM2 : sM tx n (nI A - 1, 1, nI i, -9, eR, eI, nI E) = some (.inl (nI (p + 1) - 1, 1, nI (j + 1), -9, upd eR E (nI p), upd eI E (nI v'), nI (E + 1))) := by rw [nI_pred]; exact stepM
                    obtain ⟨r, ρ, ic', E', z1', F, eR', eI', E'', k1, k2, k3, k4, k5, k6⟩ := ih (j + 1) (upd ic p (nI v')) (upd eR E (nI p)) (upd eI E (nI v')) (E + 1) (p + 1) (nI tn) (nI p) (nI w' - 1) (by omega) (by omega) (by omega) (by omega) hS'
                    have eE := reach ρ (n - (j + 1) + 1) (En_step _ (by omega) nX2 k1)
                    exact ⟨r, ρ, ic', E', z1', F, eR', eI', E'', (by rw [show n - (j + 1) + 1 + (j - i) = n - i by omega] at eE; exact eE), k2, En_step _ (by omega) stepM2 k3, k4, k5, k6⟩
              · rw [if_neg (nI_m9 (by omega))] at reM
                refine stoBad (f := j) (by omega) ⟨ρ, ic', E', ?_, h2⟩ ⟨_, _, _, _, _, reM⟩
                have eE := reach ρ (n - j) (h1 (n - j))
                rw [show n - j + (j - i) = n - i by omega] at eE
                exact eE
            · rw [if_neg h58] at reM cX
              rw [fail_n, Option.bind_some, j125_f (by omega) hE48] at reM
              obtain ⟨ρ, ic', E', h1, h2⟩ := cX
              exact stoBad (f := i + 1 + 1) (by omega) ⟨ρ, ic', E', En_step _ (n := 1) (by omega) tX (En_step _ (by omega) oX (h1 0)), h2⟩ ⟨_, _, _, _, _, reM⟩
theorem readStory_n {tx f eR eI : Nat → Int32} {n : Nat} (hx : okX tx) (hn : n ≤ 48) : ∃ (r : Option Nat) (ic' : Nat → Int32) (E' a b c d e z : Int32) (eR' eI' : Nat → Int32) (E'' : Int32), f_X8_faultOf f tx (nI n) = some (enc9 r, ic', E', a, b, c, d, e) ∧ f_X11_readStory tx (nI n) eR eI = some (enc9 r, z, enc9 r, eR', eI', E'') ∧ (∀ w, r = some w → w ≤ 48) ∧ (r = none → E'' = E' ∧ ∃ e a, E' = nI e ∧ e ≤ 48 ∧ Sr ic' eR' eI' e a) := by
  have hS : Sr (fiA f (-1) 100) eR eI 0 0 := ⟨by omega, fun k hk => by omega, fun j k _ hk => by omega, fun p hp _ => fiA_at 100 p hp⟩
  obtain ⟨r, ρ, ic', E', z1, F, eR', eI', E'', h1, ⟨a, b, c, d, e, h2⟩, h3, h4, h5, h6⟩ := stoSim hx hn (n - 0 + 1) 0 (fiA f (-1) 100) eR eI 0 0 0 0 (-1) (by omega) (by omega) (by omega) (by omega) hS
  refine ⟨r, ic', E', a, b, c, d, e, z1, eR', eI', E'', ?_, ?_, h5, h6⟩
  · have hb : f_X8_begin f = some (fiA f (-1) 100, 0, 0, -1, 0, 0, -1) := by
      unfold f_X8_begin
      refine lp_bd (fun k => (nI k, fiA f (-1) k)) (fiA f (-1) 100) 100 (FU_lt (by omega)) rfl rfl ?_ ?_
      · intro k hk
        show f_X8_begin_b2 (nI k) (fiA f (-1) k) = _
        unfold f_X8_begin_b2
        rw [if_neg (nleL 100 100 rfl hk (by omega)), gd_n hk (by omega), nI_clamp (by omega), nI1]
        rfl
      · show f_X8_begin_b2 (nI 100) _ = _
        unfold f_X8_begin_b2
        rw [if_pos (by decide)]
    unfold f_X8_faultOf
    rw [hb, Option.bind_some]
    have e1 := h1 FU (FU_lt (by omega))
    have z1 : nI 0 - 1 = (-1 : Int32) := by decide
    rw [z1] at e1
    show (lpM (sX tx n) FU (nI 0, fiA f (-1) 100, nI 0, 0, -1, 0, 0, -1)).bind _ = _
    rw [e1, Option.bind_some]
    exact h2
  · unfold f_X11_readStory
    have e1 := h3 FU (FU_lt (by omega))
    have z1 : nI 0 - 1 = (-1 : Int32) := by decide
    rw [z1] at e1
    show (lpM (sM tx n) FU (-1, 1, nI 0, -9, eR, eI, nI 0)).bind _ = _
    rw [e1, Option.bind_some]
    exact h4
theorem st_fault : St_fault := by
  intro tx tl lw ice mk wt bd s6 s8 s7 s1 s5 s2 u0 u1 sm kz kb km kw a1 hI ha
  obtain ⟨⟨n, hn, rfl⟩, hx⟩ := hI.1
  unfold f_X10_fault f_X11_fault
  rcases ha with rfl | rfl
  · rw [if_pos rfl, if_pos rfl]
    obtain ⟨r, num, rd, P, d, p, b, at', P'', e1, e2, _, _⟩ := readLaw_n (f := s6.1) (g := sm.1) hx hn
    rw [e1, e2]
    exact ⟨_, _, _, _, _, _, _, _, _, _, _, _, _, _, _, _, _, _, _, _, rfl, rfl, hI⟩
  · rw [if_neg (by decide), if_neg (by decide)]
    obtain ⟨r, ic', E', a, b, c, d, e, z, eR', eI', E'', e1, e2, _, _⟩ := readStory_n (f := s8.1) (eR := sm.2.2.2.2.1) (eI := sm.2.2.2.2.2.1) hx hn
    rw [e1, e2]
    exact ⟨_, _, _, _, _, _, _, _, _, _, _, _, _, _, _, _, _, _, _, _, rfl, rfl, hI⟩
def cuN (ic : Nat → Int32) : Nat → Nat
  | 0 => 0
  | r + 1 => if ic r = -1 then cuN ic r else (ic r).toNatClampNeg
def kpN (eR : Nat → Int32) (E : Nat) : Nat → Nat
  | 0 => 0
  | r + 1 => if kpN eR E r < E ∧ eR (kpN eR E r) = nI r then kpN eR E r + 1 else kpN eR E r
def giA (ic f : Nat → Int32) (s : Nat) : Nat → Nat → Int32
  | 0 => f
  | r + 1 => upd (giA ic f s r) (100 * s + r) (nI (cuN ic (r + 1)))
theorem kp_inv {ic eR eI : Nat → Int32} {E A : Nat} (h : Sr ic eR eI E A) : ∀ r, r ≤ 100 → kpN eR E r ≤ E ∧ (∀ j, j < kpN eR E r → (eR j).toNatClampNeg < r) ∧ (∀ j, kpN eR E r ≤ j → j < E → r ≤ (eR j).toNatClampNeg) := by
  intro r
  induction r with
  | zero => intro _; exact ⟨Nat.zero_le _, fun j hj => absurd hj (Nat.not_lt_zero j), fun j _ _ => Nat.zero_le _⟩
  | succ r ih =>
    intro hr
    obtain ⟨h1, h2, h3⟩ := ih (by omega)
    unfold kpN
    by_cases hc : kpN eR E r < E ∧ eR (kpN eR E r) = nI r
    · rw [if_pos hc]
      refine ⟨by omega, fun j hj => ?_, fun j hj hjE => ?_⟩
      · by_cases e : j = kpN eR E r
        · rw [e, hc.2, nI_clamp (by omega)]; omega
        · have := h2 j (by omega); omega
      · have := h.2.2.1 (kpN eR E r) j (by omega) hjE
        rw [hc.2, nI_clamp (by omega)] at this
        omega
    · rw [if_neg hc]
      refine ⟨h1, fun j hj => by have := h2 j hj; omega, fun j hj hjE => ?_⟩
      have h4 := h3 j hj hjE
      by_cases e : (eR j).toNatClampNeg = r
      · exfalso
        obtain ⟨p, v, q1, q2, q3, q4, q5⟩ := h.2.1 j hjE
        have hA := h.1
        have ep : p = r := by rw [q3, nI_clamp (by omega)] at e; exact e
        by_cases ej : j = kpN eR E r
        · apply hc
          rw [← ej]
          exact ⟨hjE, by rw [q3, ep]⟩
        · have h5 := h.2.2.1 (kpN eR E r) j (by omega) hjE
          have h6 := h3 (kpN eR E r) (Nat.le_refl _) (by omega)
          omega
      · omega
theorem kp_hit {ic eR eI : Nat → Int32} {E A r : Nat} (h : Sr ic eR eI E A) (hr : r < 100) : (kpN eR E r < E ∧ eR (kpN eR E r) = nI r → ¬ ic r = -1 ∧ ic r = eI (kpN eR E r) ∧ ∃ v, v < 64 ∧ ic r = nI v) ∧ (¬ (kpN eR E r < E ∧ eR (kpN eR E r) = nI r) → ic r = -1) := by
  obtain ⟨h1, h2, h3⟩ := kp_inv h r (by omega)
  have hA := h.1
  constructor
  · rintro ⟨q, e⟩
    obtain ⟨p, v, q1, q2, q3, q4, q5⟩ := h.2.1 _ q
    have ep : p = r := by rw [q3] at e; exact (nI_eq (by omega) (by omega)).mp e
    rw [ep] at q5
    exact ⟨by rw [q5]; exact nIm1 (by omega), by rw [q5, q4], v, q2, q5⟩
  · intro hno
    apply h.2.2.2 r hr
    intro k hk e
    have ek : (eR k).toNatClampNeg = r := by rw [e, nI_clamp (by omega)]
    by_cases c1 : k < kpN eR E r
    · have := h2 k c1; omega
    · by_cases c2 : k = kpN eR E r
      · exact hno ⟨by omega, by rw [← c2]; exact e⟩
      · have h5 := h.2.2.1 (kpN eR E r) k (by omega) hk
        have h6 := h3 (kpN eR E r) (Nat.le_refl _) (by omega)
        omega
theorem cu_lt {ic eR eI : Nat → Int32} {E A : Nat} (h : Sr ic eR eI E A) : ∀ r, r ≤ 100 → cuN ic r < 64 := by
  intro r
  induction r with
  | zero => intro _; exact Nat.zero_lt_succ _
  | succ r ih =>
    intro hr
    have h1 := ih (by omega)
    unfold cuN
    by_cases e : ic r = -1
    · rw [if_pos e]; exact h1
    · rw [if_neg e]
      by_cases hc : kpN eR E r < E ∧ eR (kpN eR E r) = nI r
      · obtain ⟨_, _, v, hv, e2⟩ := (kp_hit h (by omega)).1 hc
        rw [e2, nI_clamp (by omega)]; exact hv
      · exact absurd ((kp_hit h (by omega)).2 hc) e
theorem giA_ok {ic eR eI f : Nat → Int32} {E A s : Nat} (h : Sr ic eR eI E A) (hf : okI f) : ∀ r, r ≤ 100 → okI (giA ic f s r) := by
  intro r
  induction r with
  | zero => intro _; exact hf
  | succ r ih =>
    intro hr j
    unfold giA
    by_cases e : j = 100 * s + r
    · subst e; exact ⟨_, cu_lt h (r + 1) hr, pk_us⟩
    · rw [pk_un e]; exact ih (by omega) j
theorem st_story : St_story := by
  intro tx tl lw ice mk wt bd s6 s8 s7 s1 s5 s2 u0 u1 sm kz kb km kw a1 hI
  obtain ⟨⟨n, hn, rfl⟩, hx⟩ := hI.1
  simp only [f_X10_story, f_X11_story, isStory_n, mStory_n, Option.bind_some, ite10]
  by_cases h : (0 : Int32) ≤ a1 ∧ a1 ≤ 3
  rotate_left
  · rw [if_neg h, if_neg h]; exact ⟨-1, _, _, _, _, _, _, _, _, _, _, _, _, _, rfl, rfl, hI⟩
  rw [if_pos h, if_pos h]
  obtain ⟨s, hs, rfl⟩ := rg 3 (by omega) rfl h
  obtain ⟨r, ic', E', a, b, c, d, e, z, eR', eI', E'', e1, e2, h1, h2⟩ := readStory_n (f := s8.1) (eR := sm.2.2.2.2.1) (eI := sm.2.2.2.2.2.1) hx hn
  rw [e1, e2, Option.bind_some, Option.bind_some]
  dsimp only
  cases r with
  | some w =>
    have hw := h1 w rfl
    rw [if_neg (show ¬ enc9 (some w) = -9 from nI_m9 (by omega)), if_neg (show ¬ enc9 (some w) = -9 from nI_m9 (by omega))]
    exact ⟨-3, _, _, _, _, _, _, _, _, _, _, _, _, _, rfl, rfl, hI⟩
  | none =>
    obtain ⟨hE, En', A', hEn, hE48, hS⟩ := h2 rfl
    subst hE
    subst hEn
    rw [if_pos (show enc9 none = -9 from rfl), if_pos (show enc9 none = -9 from rfl)]
    have g1 : f_X8_giveTo ic' ice (nI s) = some (giA ic' ice s 100) := by
      unfold f_X8_giveTo
      refine lp_bd (fun r => (nI (cuN ic' r), nI r, giA ic' ice s r)) (giA ic' ice s 100) 100 (FU_lt (by omega)) rfl rfl ?_ ?_
      · intro r hr
        show f_X8_giveTo_b5 ic' (nI s) (nI (cuN ic' r)) (nI r) (giA ic' ice s r) = _
        unfold f_X8_giveTo_b5
        rw [if_neg (nleL 100 100 rfl hr (by omega)), gd_n hr (by omega), gd_n hr (by omega), nI_clamp (by omega)]
        simp only [f_X8_giveTo_j31, tell_n _ _ (show s < 4 by omega) hr, Option.bind_some, nI1]
        by_cases e : ic' r = -1
        · rw [if_pos e]; simp only [giA, cuN, if_pos e]
        · rw [if_neg e]
          by_cases hc : kpN eR' En' r < En' ∧ eR' (kpN eR' En' r) = nI r
          · obtain ⟨_, _, v, hv, e3⟩ := (kp_hit hS hr).1 hc
            simp only [giA, cuN, if_neg e]
            rw [e3, nI_clamp (by omega)]
          · exact absurd ((kp_hit hS hr).2 hc) e
      · show f_X8_giveTo_b5 ic' (nI s) _ (nI 100) _ = _
        unfold f_X8_giveTo_b5
        rw [if_pos (by decide)]
    rw [g1, Option.bind_some]
    refine ⟨_, _, _, _, _, _, _, _, giA ic' ice s 100, z, enc9 none, eR', eI', nI En', rfl, ?_, hI.1, hI.2.1, giA_ok hS hI.2.2.1 100 (by omega), hI.2.2.2⟩
    refine lp_bd (fun r => (nI (cuN ic' r), nI (kpN eR' En' r), nI r, giA ic' ice s r)) (giA ic' ice s 100) 100 (FU_lt (by omega)) rfl rfl ?_ ?_
    · intro r hr
      show f_X11_story_b28 (nI s) (enc9 none, z, enc9 none, eR', eI', nI En') (nI (cuN ic' r)) (nI (kpN eR' En' r)) (nI r) (giA ic' ice s r) = _
      have hk := (kp_inv hS r (by omega)).1
      unfold f_X11_story_b28
      dsimp only
      rw [if_neg (nleL 100 100 rfl hr (by omega))]
      simp only [f_X11_story_j64, sx100, nI1]
      rw [gd_n (show 100 * s + r < 400 by omega) (by omega), gd_n (show 100 * s + r < 400 by omega) (by omega), nI_clamp (show 100 * s + r < 2 ^ 31 by omega)]
      by_cases hl : kpN eR' En' r < En'
      · rw [if_neg (nle hl (by omega)), gd_n (by omega) (by omega), gd_n (by omega) (by omega), nI_clamp (by omega)]
        by_cases he : eR' (kpN eR' En' r) = nI r
        · obtain ⟨q1, q2, v, hv, q3⟩ := (kp_hit hS hr).1 ⟨hl, he⟩
          rw [if_pos he, ← q2]
          simp only [giA, cuN, kpN, if_neg q1, if_pos (show kpN eR' En' r < En' ∧ eR' (kpN eR' En' r) = nI r from ⟨hl, he⟩)]
          rw [q3, nI_clamp (by omega)]
        · have q1 := (kp_hit hS hr).2 (fun q => he q.2)
          rw [if_neg he]
          simp only [giA, cuN, kpN, if_pos q1, if_neg (show ¬ (kpN eR' En' r < En' ∧ eR' (kpN eR' En' r) = nI r) from fun q => he q.2)]
      · have q1 := (kp_hit hS hr).2 (fun q => hl q.1)
        rw [if_pos (nI_le (show En' ≤ kpN eR' En' r by omega) (by omega))]
        simp only [giA, cuN, kpN, if_pos q1, if_neg (show ¬ (kpN eR' En' r < En' ∧ eR' (kpN eR' En' r) = nI r) from fun q => hl q.1)]
    · show f_X11_story_b28 (nI s) (enc9 none, z, enc9 none, eR', eI', nI En') _ _ (nI 100) _ = _
      unfold f_X11_story_b28
      rw [if_pos (by decide)]
