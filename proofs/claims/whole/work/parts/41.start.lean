theorem nW_in : ∀ w ∈ nW, w ∈ lw_tbl := by decide +kernel
theorem ts39 {x : Int32} {j : Nat} (hj : j < 64) (hx : x = nI j) (h0 : ¬ x = 0) (h1 : ¬ x = 1) (h2 : ¬ x = 2) (h3 : ¬ x = 3) (h4 : ¬ x = 4) (h5 : ¬ x = 5) (h6 : ¬ x = 6) (h7 : ¬ x = 7) (h8 : ¬ x = 8) (h9 : ¬ x = 9) (h10 : ¬ x = 10) (h11 : ¬ x = 11) (h12 : ¬ x = 12) (h13 : ¬ x = 13) (h14 : ¬ x = 14) (h15 : ¬ x = 15) (h16 : ¬ x = 16) (h17 : ¬ x = 17) (h18 : ¬ x = 18) (h19 : ¬ x = 19) (h20 : ¬ x = 20) (h21 : ¬ x = 21) (h22 : ¬ x = 22) (h23 : ¬ x = 23) (h24 : ¬ x = 24) (h25 : ¬ x = 25) (h26 : ¬ x = 26) (h27 : ¬ x = 27) (h28 : ¬ x = 28) (h29 : ¬ x = 29) (h30 : ¬ x = 30) (h31 : ¬ x = 31) (h32 : ¬ x = 32) (h33 : ¬ x = 33) (h34 : ¬ x = 34) (h35 : ¬ x = 35) (h36 : ¬ x = 36) (h37 : ¬ x = 37) (h38 : ¬ x = 38) (h39 : ¬ x = 39) : x.toInt < 0 ∨ 39 < x.toInt := by
  subst hx
  rw [nI_toInt (by omega)]
  have e0 : j ≠ 0 := fun e => h0 (by rw [e]; rfl)
  have e1 : j ≠ 1 := fun e => h1 (by rw [e]; rfl)
  have e2 : j ≠ 2 := fun e => h2 (by rw [e]; rfl)
  have e3 : j ≠ 3 := fun e => h3 (by rw [e]; rfl)
  have e4 : j ≠ 4 := fun e => h4 (by rw [e]; rfl)
  have e5 : j ≠ 5 := fun e => h5 (by rw [e]; rfl)
  have e6 : j ≠ 6 := fun e => h6 (by rw [e]; rfl)
  have e7 : j ≠ 7 := fun e => h7 (by rw [e]; rfl)
  have e8 : j ≠ 8 := fun e => h8 (by rw [e]; rfl)
  have e9 : j ≠ 9 := fun e => h9 (by rw [e]; rfl)
  have e10 : j ≠ 10 := fun e => h10 (by rw [e]; rfl)
  have e11 : j ≠ 11 := fun e => h11 (by rw [e]; rfl)
  have e12 : j ≠ 12 := fun e => h12 (by rw [e]; rfl)
  have e13 : j ≠ 13 := fun e => h13 (by rw [e]; rfl)
  have e14 : j ≠ 14 := fun e => h14 (by rw [e]; rfl)
  have e15 : j ≠ 15 := fun e => h15 (by rw [e]; rfl)
  have e16 : j ≠ 16 := fun e => h16 (by rw [e]; rfl)
  have e17 : j ≠ 17 := fun e => h17 (by rw [e]; rfl)
  have e18 : j ≠ 18 := fun e => h18 (by rw [e]; rfl)
  have e19 : j ≠ 19 := fun e => h19 (by rw [e]; rfl)
  have e20 : j ≠ 20 := fun e => h20 (by rw [e]; rfl)
  have e21 : j ≠ 21 := fun e => h21 (by rw [e]; rfl)
  have e22 : j ≠ 22 := fun e => h22 (by rw [e]; rfl)
  have e23 : j ≠ 23 := fun e => h23 (by rw [e]; rfl)
  have e24 : j ≠ 24 := fun e => h24 (by rw [e]; rfl)
  have e25 : j ≠ 25 := fun e => h25 (by rw [e]; rfl)
  have e26 : j ≠ 26 := fun e => h26 (by rw [e]; rfl)
  have e27 : j ≠ 27 := fun e => h27 (by rw [e]; rfl)
  have e28 : j ≠ 28 := fun e => h28 (by rw [e]; rfl)
  have e29 : j ≠ 29 := fun e => h29 (by rw [e]; rfl)
  have e30 : j ≠ 30 := fun e => h30 (by rw [e]; rfl)
  have e31 : j ≠ 31 := fun e => h31 (by rw [e]; rfl)
  have e32 : j ≠ 32 := fun e => h32 (by rw [e]; rfl)
  have e33 : j ≠ 33 := fun e => h33 (by rw [e]; rfl)
  have e34 : j ≠ 34 := fun e => h34 (by rw [e]; rfl)
  have e35 : j ≠ 35 := fun e => h35 (by rw [e]; rfl)
  have e36 : j ≠ 36 := fun e => h36 (by rw [e]; rfl)
  have e37 : j ≠ 37 := fun e => h37 (by rw [e]; rfl)
  have e38 : j ≠ 38 := fun e => h38 (by rw [e]; rfl)
  have e39 : j ≠ 39 := fun e => h39 (by rw [e]; rfl)
  omega
set_option maxHeartbeats 8000000 in
set_option maxRecDepth 100000 in
theorem law_loop {p : Program} {l : Launch} {e : Env} {s : State} {m : MethodId} {below : List Frame} {meth : Method} {c : Code} {G : TG} {T : Nat → Nat → Nat} {M : Nat → Nat} {b L : Nat} {xs : Nat → Int32} {A : Nat → Prop} (hL : L ≤ 448) (hls : ∀ q, A q → s.heap.size ≤ q) (C : Cx p s m #[Value.ref b] meth c code 4 ret RL) (hK : Kt G s s.heap) (hA : ∀ q, s.heap.size ≤ q → A q) (hz : ∀ q, A q → G.2.2.1 ≤ q) (hX : va_X b L xs s s.heap) (hbl : b < s.heap.size) (hbA : ¬ A b) (hr : meth.sig.returnType = ret) (hlocks : meth.locks = false) : ∀ (n i : Nat) (v3 : Int32), v3 = nI i → i ≤ L + 7 → L + 8 ≤ i + n → ∀ (tx : Nat → Int32) (tl : Int32) (lw : Nat → Int32) (ice : Nat → Int32) (mk : Nat → Int32) (wt : Nat → Int32) (bd : Int32) (s6 : (Nat → Int32) × Int32 × Int32 × Int32 × Int32) (s8 : (Nat → Int32) × Int32 × Int32 × Int32 × Int32 × Int32 × Int32) (s7 : (Nat → Int32) × (Nat → Int32) × Int32 × Int32) (s1 : (Nat → Int32) × Int32 × Int32) (s5 : (Nat → Int64) × (Nat → Int32) × Int64) (s2 : (Nat → Int32) × Int32) (u0 : (Nat → Int32) × (Nat → Int32) × Int32 × Int32) (u1 : (Nat → Int32) × (Nat → Int32) × Int32 × Int32) (sm : (Nat → Int32) × Int32 × Int32 × Int32 × (Nat → Int32) × (Nat → Int32) × Int32 × (Nat → Int32) × Int32 × Int32 × Int32 × (Nat → Int32) × Int32 × Int32 × (Nat → Int64) × Int64 × (Nat → Int32) × (Nat → Int32)) (kz : Nat → Int32) (kb : Nat → Int32) (km : Nat → Int32) (kw : Nat → Int32), InvS tx tl lw ice mk wt bd s7 u0 u1 kz kb km kw → ∀ (H : Heap) (locs : List Loc) (ls : Array Slot), va_P G.1 vwCl (wAll G T M tx tl lw ice mk wt bd s6 s8 s7 s1 s5 s2 u0 u1 sm kz kb km kw) H → va_D A (wAll G T M tx tl lw ice mk wt bd s6 s8 s7 s1 s5 s2 u0 u1 sm kz kb km kw) → va_S A s.heap H locs → lv_has ls 4 [(3, .int v3), (0, .ref b), (1, .ref (T 10 0)), (2, .ref (M 0))] → WL p l e s m b below meth c H locs (F0 m 18 ls []) := by
  have hx := C.1
  have hb := C.2.1
  intro n
  induction n with
  | zero => intro i v3 _ h1 h2; exact absurd h2 (by omega)
  | succ n ih =>
    intro i v3 ev hi hn tx tl lw ice mk wt bd s6 s8 s7 s1 s5 s2 u0 u1 sm kz kb km kw hI H locs ls hP hD hS hl
    refine lv_iload_n hx hb dL_law_18 rfl (lv_at hl 0 rfl) ?_
    refine lv_aload_n hx hb dL_law_19 rfl (lv_at hl 1 rfl) ?_
    refine va_slen hx hb hX hbl hbA hS dL_law_20 ?_
    refine lv_bipush (v := 7) hx hb dL_law_21 (by decide) ?_
    refine lv_isub hx hb dL_law_23 ?_
    refine lv_icmp_gt (tgt := 1508) hx hb dL_law_24 (by decide) (fun c9 => ?_) (fun c9 => ?_)
    · refine lv_iconst (v := 1) hx hb dL_law_1508 (by decide) ?_
      refine va_forget (fun q hq => hls _ (hS.2.2 q hq)) ?_
      exact lw_ret hx hb hr hlocks dL_law_1509
    · have hlt : i + 7 ≤ L := by
        rcases Nat.lt_or_ge L (i + 7) with q | q
        · refine absurd ?_ c9
          rw [ev]
          show nI L - nI 7 < nI i
          rw [Int32.lt_iff_toInt_lt, pk_sub_toInt (by omega) (by omega), nI_toInt (by omega)]
          omega
        · exact q
      have g0 : vp_in v3 L := by rw [ev]; exact vp_in_nI (by omega) (by omega)
      have g1 : vp_in (v3 + (1 : Int32)) L := by rw [ev, show (1 : Int32) = nI 1 from rfl, nI_add]; exact vp_in_nI (by omega) (by omega)
      have g2 : vp_in (v3 + (2 : Int32)) L := by rw [ev, show (2 : Int32) = nI 2 from rfl, nI_add]; exact vp_in_nI (by omega) (by omega)
      have g3 : vp_in (v3 + (3 : Int32)) L := by rw [ev, show (3 : Int32) = nI 3 from rfl, nI_add]; exact vp_in_nI (by omega) (by omega)
      have g4 : vp_in (v3 + (4 : Int32)) L := by rw [ev, show (4 : Int32) = nI 4 from rfl, nI_add]; exact vp_in_nI (by omega) (by omega)
      have g5 : vp_in (v3 + (5 : Int32)) L := by rw [ev, show (5 : Int32) = nI 5 from rfl, nI_add]; exact vp_in_nI (by omega) (by omega)
      have g6 : vp_in (v3 + (6 : Int32)) L := by rw [ev, show (6 : Int32) = nI 6 from rfl, nI_add]; exact vp_in_nI (by omega) (by omega)
      have kk : ∀ (tx : Nat → Int32) (tl : Int32) (lw : Nat → Int32) (ice : Nat → Int32) (mk : Nat → Int32) (wt : Nat → Int32) (bd : Int32) (s6 : (Nat → Int32) × Int32 × Int32 × Int32 × Int32) (s8 : (Nat → Int32) × Int32 × Int32 × Int32 × Int32 × Int32 × Int32) (s7 : (Nat → Int32) × (Nat → Int32) × Int32 × Int32) (s1 : (Nat → Int32) × Int32 × Int32) (s5 : (Nat → Int64) × (Nat → Int32) × Int64) (s2 : (Nat → Int32) × Int32) (u0 : (Nat → Int32) × (Nat → Int32) × Int32 × Int32) (u1 : (Nat → Int32) × (Nat → Int32) × Int32 × Int32) (sm : (Nat → Int32) × Int32 × Int32 × Int32 × (Nat → Int32) × (Nat → Int32) × Int32 × (Nat → Int32) × Int32 × Int32 × Int32 × (Nat → Int32) × Int32 × Int32 × (Nat → Int64) × Int64 × (Nat → Int32) × (Nat → Int32)) (kz : Nat → Int32) (kb : Nat → Int32) (km : Nat → Int32) (kw : Nat → Int32), InvS tx tl lw ice mk wt bd s7 u0 u1 kz kb km kw → ∀ (H : Heap) (locs : List Loc) (ls : Array Slot), va_P G.1 vwCl (wAll G T M tx tl lw ice mk wt bd s6 s8 s7 s1 s5 s2 u0 u1 sm kz kb km kw) H → va_D A (wAll G T M tx tl lw ice mk wt bd s6 s8 s7 s1 s5 s2 u0 u1 sm kz kb km kw) → va_S A s.heap H locs → lv_has ls 4 [(3, .int v3), (0, .ref b), (1, .ref (T 10 0)), (2, .ref (M 0))] → WL p l e s m b below meth c H locs (F0 m 1502 ls []) := by
        intro tx tl lw ice mk wt bd s6 s8 s7 s1 s5 s2 u0 u1 sm kz kb km kw hI H locs ls hP hD hS hl
        refine lv_iinc (v := v3 + 7) (lv' := [(3, .int (v3 + 7)), (0, .ref b), (1, .ref (T 10 0)), (2, .ref (M 0))]) hx hb dL_law_1502 hl (k := 0) rfl (by rfl) (by decide) rfl (fun ls hl => ?_)
        refine lv_goto (tgt := 18) hx hb dL_law_1505 (by decide) ?_
        exact ih (i + 7) (v3 + 7) (by rw [ev, show (7 : Int32) = nI 7 from rfl, nI_add]) (by omega) (by omega) tx tl lw ice mk wt bd s6 s8 s7 s1 s5 s2 u0 u1 sm kz kb km kw hI H locs ls hP hD hS hl
      refine lv_aload_n hx hb dL_law_27 rfl (lv_at hl 1 rfl) ?_
      refine lv_iload_n hx hb dL_law_28 rfl (lv_at hl 0 rfl) ?_
      refine va_sld hx hb hX hbl hbA hS g0 dL_law_29 ?_
      refine lv_bipush (v := 63) hx hb dL_law_30 (by decide) ?_
      refine lv_iand hx hb dL_law_32 ?_
      obtain ⟨j, hj, ej⟩ := pk_andE (xs v3.toNatClampNeg) (m := 63) 6 (by decide)
      refine lv_topi (fun y ey => ?_)
      have ey : y = nI j := ey.trans ej
      by_cases h0 : y = 0
      · refine lv_tsI (tgt := 208) hx hb dL_law_33 h0 (by decide) (by decide) rfl (by decide) ?_
        exact lc_write C hK hA hz hX hbl hbA v3 g1 g2 g3 g4 g5 g6 tx tl lw ice mk wt bd s6 s8 s7 s1 s5 s2 u0 u1 sm kz kb km kw hI H locs ls hP hD hS hl kk
      by_cases h1 : y = 1
      · refine lv_tsI (tgt := 271) hx hb dL_law_33 h1 (by decide) (by decide) rfl (by decide) ?_
        exact lc_wipe C hK hA hz hX hbl hbA v3 g1 g2 g3 g4 g5 g6 tx tl lw ice mk wt bd s6 s8 s7 s1 s5 s2 u0 u1 sm kz kb km kw hI H locs ls hP hD hS hl kk
      by_cases h2 : y = 2
      · refine lv_tsI (tgt := 284) hx hb dL_law_33 h2 (by decide) (by decide) rfl (by decide) ?_
        exact lc_fault C hK hA hz hX hbl hbA v3 g1 g2 g3 g4 g5 g6 tx tl lw ice mk wt bd s6 s8 s7 s1 s5 s2 u0 u1 sm kz kb km kw hI H locs ls hP hD hS hl kk
      by_cases h3 : y = 3
      · refine lv_tsI (tgt := 323) hx hb dL_law_33 h3 (by decide) (by decide) rfl (by decide) ?_
        exact lc_law C hK hA hz hX hbl hbA v3 g1 g2 g3 g4 g5 g6 tx tl lw ice mk wt bd s6 s8 s7 s1 s5 s2 u0 u1 sm kz kb km kw hI H locs ls hP hD hS hl kk
      by_cases h4 : y = 4
      · refine lv_tsI (tgt := 336) hx hb dL_law_33 h4 (by decide) (by decide) rfl (by decide) ?_
        exact lc_lawful C hK hA hz hX hbl hbA v3 g1 g2 g3 g4 g5 g6 tx tl lw ice mk wt bd s6 s8 s7 s1 s5 s2 u0 u1 sm kz kb km kw hI H locs ls hP hD hS hl kk
      by_cases h5 : y = 5
      · refine lv_tsI (tgt := 359) hx hb dL_law_33 h5 (by decide) (by decide) rfl (by decide) ?_
        exact lc_story C hK hA hz hX hbl hbA v3 g1 g2 g3 g4 g5 g6 tx tl lw ice mk wt bd s6 s8 s7 s1 s5 s2 u0 u1 sm kz kb km kw hI H locs ls hP hD hS hl kk
      by_cases h6 : y = 6
      · refine lv_tsI (tgt := 382) hx hb dL_law_33 h6 (by decide) (by decide) rfl (by decide) ?_
        exact lc_lived C hK hA hz hX hbl hbA v3 g1 g2 g3 g4 g5 g6 tx tl lw ice mk wt bd s6 s8 s7 s1 s5 s2 u0 u1 sm kz kb km kw hI H locs ls hP hD hS hl kk
      by_cases h7 : y = 7
      · refine lv_tsI (tgt := 425) hx hb dL_law_33 h7 (by decide) (by decide) rfl (by decide) ?_
        exact lc_at C hK hA hz hX hbl hbA v3 g1 g2 g3 g4 g5 g6 tx tl lw ice mk wt bd s6 s8 s7 s1 s5 s2 u0 u1 sm kz kb km kw hI H locs ls hP hD hS hl kk
      by_cases h8 : y = 8
      · refine lv_tsI (tgt := 458) hx hb dL_law_33 h8 (by decide) (by decide) rfl (by decide) ?_
        exact lc_warmth C hK hA hz hX hbl hbA v3 g1 g2 g3 g4 g5 g6 tx tl lw ice mk wt bd s6 s8 s7 s1 s5 s2 u0 u1 sm kz kb km kw hI H locs ls hP hD hS hl kk
      by_cases h9 : y = 9
      · refine lv_tsI (tgt := 501) hx hb dL_law_33 h9 (by decide) (by decide) rfl (by decide) ?_
        exact lc_round C hK hA hz hX hbl hbA v3 g1 g2 g3 g4 g5 g6 tx tl lw ice mk wt bd s6 s8 s7 s1 s5 s2 u0 u1 sm kz kb km kw hI H locs ls hP hD hS hl kk
      by_cases h10 : y = 10
      · refine lv_tsI (tgt := 534) hx hb dL_law_33 h10 (by decide) (by decide) rfl (by decide) ?_
        exact lc_after C hK hA hz hX hbl hbA v3 g1 g2 g3 g4 g5 g6 tx tl lw ice mk wt bd s6 s8 s7 s1 s5 s2 u0 u1 sm kz kb km kw hI H locs ls hP hD hS hl kk
      by_cases h11 : y = 11
      · refine lv_tsI (tgt := 577) hx hb dL_law_33 h11 (by decide) (by decide) rfl (by decide) ?_
        exact lc_run C hK hA hz hX hbl hbA v3 g1 g2 g3 g4 g5 g6 tx tl lw ice mk wt bd s6 s8 s7 s1 s5 s2 u0 u1 sm kz kb km kw hI H locs ls hP hD hS hl kk
      by_cases h12 : y = 12
      · refine lv_tsI (tgt := 620) hx hb dL_law_33 h12 (by decide) (by decide) rfl (by decide) ?_
        exact lc_till C hK hA hz hX hbl hbA v3 g1 g2 g3 g4 g5 g6 tx tl lw ice mk wt bd s6 s8 s7 s1 s5 s2 u0 u1 sm kz kb km kw hI H locs ls hP hD hS hl kk
      by_cases h13 : y = 13
      · refine lv_tsI (tgt := 679) hx hb dL_law_33 h13 (by decide) (by decide) rfl (by decide) ?_
        exact lc_rests C hK hA hz hX hbl hbA v3 g1 g2 g3 g4 g5 g6 tx tl lw ice mk wt bd s6 s8 s7 s1 s5 s2 u0 u1 sm kz kb km kw hI H locs ls hP hD hS hl kk
      by_cases h14 : y = 14
      · refine lv_tsI (tgt := 702) hx hb dL_law_33 h14 (by decide) (by decide) rfl (by decide) ?_
        exact lc_rest C hK hA hz hX hbl hbA v3 g1 g2 g3 g4 g5 g6 tx tl lw ice mk wt bd s6 s8 s7 s1 s5 s2 u0 u1 sm kz kb km kw hI H locs ls hP hD hS hl kk
      by_cases h15 : y = 15
      · refine lv_tsI (tgt := 735) hx hb dL_law_33 h15 (by decide) (by decide) rfl (by decide) ?_
        exact lc_settle C hK hA hz hX hbl hbA v3 g1 g2 g3 g4 g5 g6 tx tl lw ice mk wt bd s6 s8 s7 s1 s5 s2 u0 u1 sm kz kb km kw hI H locs ls hP hD hS hl kk
      by_cases h16 : y = 16
      · refine lv_tsI (tgt := 768) hx hb dL_law_33 h16 (by decide) (by decide) rfl (by decide) ?_
        exact lc_jumps C hK hA hz hX hbl hbA v3 g1 g2 g3 g4 g5 g6 tx tl lw ice mk wt bd s6 s8 s7 s1 s5 s2 u0 u1 sm kz kb km kw hI H locs ls hP hD hS hl kk
      by_cases h17 : y = 17
      · refine lv_tsI (tgt := 811) hx hb dL_law_33 h17 (by decide) (by decide) rfl (by decide) ?_
        exact lc_jump C hK hA hz hX hbl hbA v3 g1 g2 g3 g4 g5 g6 tx tl lw ice mk wt bd s6 s8 s7 s1 s5 s2 u0 u1 sm kz kb km kw hI H locs ls hP hD hS hl kk
      by_cases h18 : y = 18
      · refine lv_tsI (tgt := 864) hx hb dL_law_33 h18 (by decide) (by decide) rfl (by decide) ?_
        exact lc_curve C hK hA hz hX hbl hbA v3 g1 g2 g3 g4 g5 g6 tx tl lw ice mk wt bd s6 s8 s7 s1 s5 s2 u0 u1 sm kz kb km kw hI H locs ls hP hD hS hl kk
      by_cases h19 : y = 19
      · refine lv_tsI (tgt := 907) hx hb dL_law_33 h19 (by decide) (by decide) rfl (by decide) ?_
        exact lc_least C hK hA hz hX hbl hbA v3 g1 g2 g3 g4 g5 g6 tx tl lw ice mk wt bd s6 s8 s7 s1 s5 s2 u0 u1 sm kz kb km kw hI H locs ls hP hD hS hl kk
      by_cases h20 : y = 20
      · refine lv_tsI (tgt := 946) hx hb dL_law_33 h20 (by decide) (by decide) rfl (by decide) ?_
        exact lc_bed C hK hA hz hX hbl hbA v3 g1 g2 g3 g4 g5 g6 tx tl lw ice mk wt bd s6 s8 s7 s1 s5 s2 u0 u1 sm kz kb km kw hI H locs ls hP hD hS hl kk
      by_cases h21 : y = 21
      · refine lv_tsI (tgt := 1021) hx hb dL_law_33 h21 (by decide) (by decide) rfl (by decide) ?_
        exact lc_forget C hK hA hz hX hbl hbA v3 g1 g2 g3 g4 g5 g6 tx tl lw ice mk wt bd s6 s8 s7 s1 s5 s2 u0 u1 sm kz kb km kw hI H locs ls hP hD hS hl kk
      by_cases h22 : y = 22
      · refine lv_tsI (tgt := 1034) hx hb dL_law_33 h22 (by decide) (by decide) rfl (by decide) ?_
        exact lc_about C hK hA hz hX hbl hbA v3 g1 g2 g3 g4 g5 g6 tx tl lw ice mk wt bd s6 s8 s7 s1 s5 s2 u0 u1 sm kz kb km kw hI H locs ls hP hD hS hl kk
      by_cases h23 : y = 23
      · refine lv_tsI (tgt := 1067) hx hb dL_law_33 h23 (by decide) (by decide) rfl (by decide) ?_
        exact lc_explains C hK hA hz hX hbl hbA v3 g1 g2 g3 g4 g5 g6 tx tl lw ice mk wt bd s6 s8 s7 s1 s5 s2 u0 u1 sm kz kb km kw hI H locs ls hP hD hS hl kk
      by_cases h24 : y = 24
      · refine lv_tsI (tgt := 1100) hx hb dL_law_33 h24 (by decide) (by decide) rfl (by decide) ?_
        exact lc_chance C hK hA hz hX hbl hbA v3 g1 g2 g3 g4 g5 g6 tx tl lw ice mk wt bd s6 s8 s7 s1 s5 s2 u0 u1 sm kz kb km kw hI H locs ls hP hD hS hl kk
      by_cases h25 : y = 25
      · refine lv_tsI (tgt := 1160) hx hb dL_law_33 h25 (by decide) (by decide) rfl (by decide) ?_
        exact lc_weight C hK hA hz hX hbl hbA v3 g1 g2 g3 g4 g5 g6 tx tl lw ice mk wt bd s6 s8 s7 s1 s5 s2 u0 u1 sm kz kb km kw hI H locs ls hP hD hS hl kk
      by_cases h26 : y = 26
      · refine lv_tsI (tgt := 1193) hx hb dL_law_33 h26 (by decide) (by decide) rfl (by decide) ?_
        exact lc_odds C hK hA hz hX hbl hbA v3 g1 g2 g3 g4 g5 g6 tx tl lw ice mk wt bd s6 s8 s7 s1 s5 s2 u0 u1 sm kz kb km kw hI H locs ls hP hD hS hl kk
      by_cases h27 : y = 27
      · refine lv_tsI (tgt := 1243) hx hb dL_law_33 h27 (by decide) (by decide) rfl (by decide) ?_
        exact lc_best C hK hA hz hX hbl hbA v3 g1 g2 g3 g4 g5 g6 tx tl lw ice mk wt bd s6 s8 s7 s1 s5 s2 u0 u1 sm kz kb km kw hI H locs ls hP hD hS hl kk
      by_cases h28 : y = 28
      · refine lv_tsI (tgt := 1256) hx hb dL_law_33 h28 (by decide) (by decide) rfl (by decide) ?_
        exact lc_mover C hK hA hz hX hbl hbA v3 g1 g2 g3 g4 g5 g6 tx tl lw ice mk wt bd s6 s8 s7 s1 s5 s2 u0 u1 sm kz kb km kw hI H locs ls hP hD hS hl kk
      by_cases h29 : y = 29
      · refine lv_tsI (tgt := 1269) hx hb dL_law_33 h29 (by decide) (by decide) rfl (by decide) ?_
        exact lc_next C hK hA hz hX hbl hbA v3 g1 g2 g3 g4 g5 g6 tx tl lw ice mk wt bd s6 s8 s7 s1 s5 s2 u0 u1 sm kz kb km kw hI H locs ls hP hD hS hl kk
      by_cases h30 : y = 30
      · refine lv_tsI (tgt := 1282) hx hb dL_law_33 h30 (by decide) (by decide) rfl (by decide) ?_
        exact lc_once C hK hA hz hX hbl hbA v3 g1 g2 g3 g4 g5 g6 tx tl lw ice mk wt bd s6 s8 s7 s1 s5 s2 u0 u1 sm kz kb km kw hI H locs ls hP hD hS hl kk
      by_cases h31 : y = 31
      · refine lv_tsI (tgt := 1295) hx hb dL_law_33 h31 (by decide) (by decide) rfl (by decide) ?_
        exact lc_times C hK hA hz hX hbl hbA v3 g1 g2 g3 g4 g5 g6 tx tl lw ice mk wt bd s6 s8 s7 s1 s5 s2 u0 u1 sm kz kb km kw hI H locs ls hP hD hS hl kk
      by_cases h32 : y = 32
      · refine lv_tsI (tgt := 1308) hx hb dL_law_33 h32 (by decide) (by decide) rfl (by decide) ?_
        exact lc_time C hK hA hz hX hbl hbA v3 g1 g2 g3 g4 g5 g6 tx tl lw ice mk wt bd s6 s8 s7 s1 s5 s2 u0 u1 sm kz kb km kw hI H locs ls hP hD hS hl kk
      by_cases h33 : y = 33
      · refine lv_tsI (tgt := 1331) hx hb dL_law_33 h33 (by decide) (by decide) rfl (by decide) ?_
        exact lc_order C hK hA hz hX hbl hbA v3 g1 g2 g3 g4 g5 g6 tx tl lw ice mk wt bd s6 s8 s7 s1 s5 s2 u0 u1 sm kz kb km kw hI H locs ls hP hD hS hl kk
      by_cases h34 : y = 34
      · refine lv_tsI (tgt := 1354) hx hb dL_law_33 h34 (by decide) (by decide) rfl (by decide) ?_
        exact lc_gap C hK hA hz hX hbl hbA v3 g1 g2 g3 g4 g5 g6 tx tl lw ice mk wt bd s6 s8 s7 s1 s5 s2 u0 u1 sm kz kb km kw hI H locs ls hP hD hS hl kk
      by_cases h35 : y = 35
      · refine lv_tsI (tgt := 1377) hx hb dL_law_33 h35 (by decide) (by decide) rfl (by decide) ?_
        exact lc_pole C hK hA hz hX hbl hbA v3 g1 g2 g3 g4 g5 g6 tx tl lw ice mk wt bd s6 s8 s7 s1 s5 s2 u0 u1 sm kz kb km kw hI H locs ls hP hD hS hl kk
      by_cases h36 : y = 36
      · refine lv_tsI (tgt := 1410) hx hb dL_law_33 h36 (by decide) (by decide) rfl (by decide) ?_
        exact lc_elsewhere C hK hA hz hX hbl hbA v3 g1 g2 g3 g4 g5 g6 tx tl lw ice mk wt bd s6 s8 s7 s1 s5 s2 u0 u1 sm kz kb km kw hI H locs ls hP hD hS hl kk
      by_cases h37 : y = 37
      · refine lv_tsI (tgt := 1433) hx hb dL_law_33 h37 (by decide) (by decide) rfl (by decide) ?_
        exact lc_keep C hK hA hz hX hbl hbA v3 g1 g2 g3 g4 g5 g6 tx tl lw ice mk wt bd s6 s8 s7 s1 s5 s2 u0 u1 sm kz kb km kw hI H locs ls hP hD hS hl kk
      by_cases h38 : y = 38
      · refine lv_tsI (tgt := 1456) hx hb dL_law_33 h38 (by decide) (by decide) rfl (by decide) ?_
        exact lc_again C hK hA hz hX hbl hbA v3 g1 g2 g3 g4 g5 g6 tx tl lw ice mk wt bd s6 s8 s7 s1 s5 s2 u0 u1 sm kz kb km kw hI H locs ls hP hD hS hl kk
      by_cases h39 : y = 39
      · refine lv_tsI (tgt := 1479) hx hb dL_law_33 h39 (by decide) (by decide) rfl (by decide) ?_
        exact lc_count C hK hA hz hX hbl hbA v3 g1 g2 g3 g4 g5 g6 tx tl lw ice mk wt bd s6 s8 s7 s1 s5 s2 u0 u1 sm kz kb km kw hI H locs ls hP hD hS hl kk
      refine lv_tableOut (tgt := 1502) hx hb dL_law_33 (ts39 hj ey h0 h1 h2 h3 h4 h5 h6 h7 h8 h9 h10 h11 h12 h13 h14 h15 h16 h17 h18 h19 h20 h21 h22 h23 h24 h25 h26 h27 h28 h29 h30 h31 h32 h33 h34 h35 h36 h37 h38 h39) (by decide) ?_
      exact kk tx tl lw ice mk wt bd s6 s8 s7 s1 s5 s2 u0 u1 sm kz kb km kw hI H locs ls hP hD hS hl
theorem inv_0 : InvS (fun _ => 0) 0 (fun _ => 0) (fun _ => 0) (fun _ => 0) w1111 0 ((fun _ => 0), (fun _ => 0), 0, 0) ((fun _ => 0), w1111, 0, 0) ((fun _ => 0), w1111, 0, 0) (fun _ => 0) (fun _ => 0) (fun _ => 0) (fun _ => 0) := st_0
set_option maxHeartbeats 8000000 in
set_option maxRecDepth 100000 in
theorem whole_start {p : Program} {e : Env} {s : State} {m : MethodId} {below : List Frame} {meth : Method} {c : Code} (l : Launch) (hflags : l.flags = flags0) {b L : Nat} {xs : Nat → Int32} (hL : L ≤ 448) (C0 : lw_At p s m meth c b L xs) : W p l e room_1 s m #[Value.ref b] below meth c s.heap [] 0 0 (lw_Z below #[Value.ref b] s) (entryFrame m ([Value.ref b] : List Value).toArray 4) := by
  obtain ⟨hx, hb, hr, hml, hown, hts, hX, hbl, hlocks, hgv⟩ := id C0
  have hgf := flat_of_before _ hgv
  have ht : ∀ w ∈ tG, w.before #[Value.ref b] s = true := fun w h => hts w (List.mem_filter.mp h).1
  have C : Cx p s m #[Value.ref b] meth c code 4 ret RL := ⟨hx, hb, hml, hr, hlocks, hown, ht⟩
  have hA : ∀ q : Nat, s.heap.size ≤ q → (fun q : Nat => s.heap.size ≤ q) q := fun _ h => h
  have hbA : ¬ (fun q : Nat => s.heap.size ≤ q) b := Nat.not_le.mpr hbl
  obtain ⟨c0, iS0, hKn0⟩ := u_known (C := RX0) (T := TX0) (N := 1) (n := 1) ht twX0 (ht _ kins_X0)
  obtain ⟨c1, iS1, hKn1⟩ := u_known (C := RX1) (T := TX1) (N := 3) (n := 3) ht twX1 (ht _ kins_X1)
  obtain ⟨c2, iS2, hKn2⟩ := u_known (C := RX2) (T := TX2) (N := 2) (n := 2) ht twX2 (ht _ kins_X2)
  obtain ⟨c3, iS3, hKn3⟩ := u_known (C := RX3) (T := TX3) (N := 1) (n := 1) ht twX3 (ht _ kins_X3)
  obtain ⟨c4, iS4, hKn4⟩ := u_known (C := RX4) (T := TX4) (N := 4) (n := 4) ht twX4 (ht _ kins_X4)
  obtain ⟨c5, iS5, hKn5⟩ := u_known (C := RX5) (T := TX5) (N := 3) (n := 3) ht twX5 (ht _ kins_X5)
  obtain ⟨c6, iS6, hKn6⟩ := u_known (C := RX6) (T := TX6) (N := 5) (n := 5) ht twX6 (ht _ kins_X6)
  obtain ⟨c7, iS7, hKn7⟩ := u_known (C := RX7) (T := TX7) (N := 4) (n := 4) ht twX7 (ht _ kins_X7)
  obtain ⟨c8, iS8, hKn8⟩ := u_known (C := RX8) (T := TX8) (N := 7) (n := 7) ht twX8 (ht _ kins_X8)
  obtain ⟨c9, iS9, hKn9⟩ := u_known (C := RX9) (T := TX9) (N := 2) (n := 2) ht twX9 (ht _ kins_X9)
  obtain ⟨c10, iS10, hKn10⟩ := u_known (C := RX10) (T := TX10) (N := 11) (n := 11) ht twX10 (ht _ kins_X10)
  obtain ⟨c11, iS11, hKn11⟩ := u_known (C := RX11) (T := TX11) (N := 29) (n := 29) ht twX11 (ht _ kins_X11)
  obtain ⟨dC, dI, hKc⟩ : ∃ (dC : Nat → ClassId) (dI : Nat → Nat → Nat), ∀ (k : Nat) (q : vw_C), vwCl[k]? = some q → u_Kn s q.1 q.2.1 q.2.2 (dC k) (dI k) := by
    refine ⟨fun k => if k = 0 then c0 else if k = 1 then c1 else if k = 2 then c2 else if k = 3 then c3 else if k = 4 then c4 else if k = 5 then c5 else if k = 6 then c6 else if k = 7 then c7 else if k = 8 then c8 else if k = 9 then c9 else if k = 10 then c10 else c11, fun k => if k = 0 then iS0 else if k = 1 then iS1 else if k = 2 then iS2 else if k = 3 then iS3 else if k = 4 then iS4 else if k = 5 then iS5 else if k = 6 then iS6 else if k = 7 then iS7 else if k = 8 then iS8 else if k = 9 then iS9 else if k = 10 then iS10 else iS11, ?_⟩
    intro k q hq
    match k, hq with
    | 0, hq => cases hq; exact hKn0
    | 1, hq => cases hq; exact hKn1
    | 2, hq => cases hq; exact hKn2
    | 3, hq => cases hq; exact hKn3
    | 4, hq => cases hq; exact hKn4
    | 5, hq => cases hq; exact hKn5
    | 6, hq => cases hq; exact hKn6
    | 7, hq => cases hq; exact hKn7
    | 8, hq => cases hq; exact hKn8
    | 9, hq => cases hq; exact hKn9
    | 10, hq => cases hq; exact hKn10
    | 11, hq => cases hq; exact hKn11
    | k + 12, hq => simp [vwCl] at hq
  obtain ⟨cy_int, kA_int, cm_int, a1_int, a2_int, a3_int⟩ := Cond.arrayClass_spec (ht _ karr_int)
  obtain ⟨cy_long, kA_long, cm_long, a1_long, a2_long, a3_long⟩ := Cond.arrayClass_spec (ht _ karr_long)
  obtain ⟨cy_boolean, kA_boolean, cm_boolean, a1_boolean, a2_boolean, a3_boolean⟩ := Cond.arrayClass_spec (ht _ karr_boolean)
  have hAO : va_AO RX4 s := va_AO.of (hts (.arrayOver (.object RX4)) (List.mem_of_getElem? (i := 261) (by decide +kernel)))
  obtain ⟨cmo, cyo, kAo, o1, o2, o3, o4, o5⟩ := Cond.arrayOver_spec hAO
  have hnA : ∀ a : Nat, a < s.heap.size → ¬ (fun q : Nat => s.heap.size ≤ q) a := fun a h => Nat.not_le.mpr h
  have htm : ∀ i : Nat, i < 1 → ((fun _ : Nat => Term.string "IceAtTheMiddle$LawReader" 68) i) = Term.string "IceAtTheMiddle$LawReader" 68 := fun _ _ => rfl
  obtain ⟨adK, adV, hSt, hSe⟩ := vk_Sof (args := #[Value.ref b]) (s := s) (N := 1) (tm := fun _ => Term.string "IceAtTheMiddle$LawReader" 68) (len := [6]) (byt := [[82, 71, 70, 77, 86, 87]]) (A := fun q : Nat => s.heap.size ≤ q)
    (fun i hi => by have : i = 0 := by omega
                    subst this; decide)
    (fun i hi => hgf _ (by decide +kernel)) (fun i hi => hgf _ (by decide +kernel))
    (fun i hi => hgf _ (by decide +kernel))
    (fun i hi => by have : i = 0 := by omega
                    subst this; exact hgf _ (by decide +kernel))
    (fun i hi j hj => by
      have : i = 0 := by omega
      subst this
      have hj : j < 6 := hj
      match j, hj with
      | 0, _ => exact hgf _ (by decide +kernel)
      | 1, _ => exact hgf _ (by decide +kernel)
      | 2, _ => exact hgf _ (by decide +kernel)
      | 3, _ => exact hgf _ (by decide +kernel)
      | 4, _ => exact hgf _ (by decide +kernel)
      | 5, _ => exact hgf _ (by decide +kernel)
      | n + 6, h => exact absurd h (by omega))
    (fun i j hi hj hij => absurd hij (by omega)) hnA
  have hZ : va_Z "java/lang/String" "COMPACT_STRINGS" "Z" (.int 1) (fun q : Nat => s.heap.size ≤ q) s s.heap := va_Zof (hts (.laysStatic "java/lang/String" "COMPACT_STRINGS" "Z") (List.mem_of_getElem? (i := 409) (by decide +kernel))) (ht _ kini_J0) (va_eqt (hgf _ (by decide +kernel))) hnA
  have hRk : vk_R RX6 68 "RGFMVW" (adK 0) s := vk_R.of (A := #[Value.ref b]) (hts (.stringRef "IceAtTheMiddle$LawReader" 68 "RGFMVW") (List.mem_of_getElem? (i := 395) (by decide +kernel))) (hSe 0 (by decide))
  obtain ⟨G, eG⟩ : ∃ G : TG, G = ((dC, dI), (cy_int, cy_long, cy_boolean, cyo), (s.heap.size, adK 0, adV 0)) := ⟨_, rfl⟩
  have hN : Nst s := fun w hw => by
    have h1 := List.all_eq_true.mp nW_is w hw
    have hm : w ∈ lw_tbl := nW_in w hw
    cases w <;> first | exact va_Nw.of rfl (hts _ hm) | (simp [nst_is] at h1; done)
  have hK : Kt G s s.heap := by
    subst eG
    refine ⟨⟨hKc, fun k q hq => ?_⟩, hN, ⟨fun i hi => ?_, fun i j hi hj _ => by omega⟩, hZ, hRk⟩
    · match k, hq with
      | 0, hq => cases hq; exact ⟨fun n z => ⟨fun k h => (by cases h), kA_int, a2_int, cm_int, a3_int⟩, a1_int⟩
      | 1, hq => cases hq; exact ⟨fun n z => ⟨fun k h => (by cases h), kA_long, a2_long, cm_long, a3_long⟩, a1_long⟩
      | 2, hq => cases hq; exact ⟨fun n z => ⟨fun k h => (by cases h), kA_boolean, a2_boolean, cm_boolean, a3_boolean⟩, a1_boolean⟩
      | 3, hq => cases hq; exact ⟨fun n z => ⟨fun k h => (by cases h), kAo, o3, cmo, o4⟩, kAo, cmo, o3, o4, o1, o5⟩
      | k + 4, hq => simp at hq
    · have : i = 0 := by omega
      subst this
      exact hSt.1 0 (by decide)
  have hz : ∀ q, (fun q : Nat => s.heap.size ≤ q) q → G.2.2.1 ≤ q := by subst eG; exact fun q h => h
  have hS : va_S (fun q : Nat => s.heap.size ≤ q) s.heap s.heap [] := va_S.rf
  have hP : va_P G.1 vwCl [] s.heap := fun k q h => by simp at h
  have hD : va_D (fun q : Nat => s.heap.size ≤ q) [] := ⟨fun i j p q h => by simp at h, fun k q h => by simp at h⟩
  clear eG
  have hl := lv_entry ([.ref b]) (n := 4) (Nat.le_of_ble_eq_true rfl)
  rw [lg_entry_eq]
  generalize (lg_sl ([.ref b]) ++ List.replicate (4 - (lg_sl ([.ref b])).length) Slot.unset).toArray = ls at hl ⊢
  have hl : lv_has ls 4 [(0, .ref b)] := hl
  refine va_new (ci := 10) (fs := [.null, .null, .null, .null, .null, .null, .null, .null, .null, .null, .null]) (C := RX10) (T := TX10) (N := 11) hx hb ht twX10 tyX10 tyX10_ok hown (ht _ kcl_L_7) (ht _ kins_X10) (ht _ kini_X10) hK.1 hP hD hS hA rfl (fun j hj => by match j, hj with | 0, _ => rfl | 1, _ => rfl | 2, _ => rfl | 3, _ => rfl | 4, _ => rfl | 5, _ => rfl | 6, _ => rfl | 7, _ => rfl | 8, _ => rfl | 9, _ => rfl | 10, _ => rfl | n9 + 11, h9 => exact absurd h9 (by omega)) (Nat.le_of_ble_eq_true rfl) (Nat.le_of_ble_eq_true rfl) dL_law_0 (fun q10 H hP hD hS => ?_)
  have hP : va_P G.1 vwCl [(q10, .inr (10, [.null, .null, .null, .null, .null, .null, .null, .null, .null, .null, .null]))] H := hP
  have hD : va_D (fun q : Nat => s.heap.size ≤ q) [(q10, .inr (10, [.null, .null, .null, .null, .null, .null, .null, .null, .null, .null, .null]))] := hD
  refine W.widen (k := 1) (n := 11) (Nat.le_of_ble_eq_true rfl) (Nat.le_of_ble_eq_true rfl) ?_
  refine lv_dup hx hb dL_law_3 rfl ?_
  refine mk_P (rest := [.ref q10]) (wr := []) (c_X10_init l G q10) C hK (fun U g mk a h => va_AO.moved (u := U) (U := U.calling g mk a) (Vm.Alike.refl U.vm) h) (fun U hW => va_AO.moved hW.alike hAO) hP hD hS hA hz hl [0] [] rfl rfl rfl rfl rfl (by decide) kcode_X10_init kml_L_9 kim_X10_init kini_X10 rfl (by decide +kernel) ⟨⟨rfl, rfl⟩, Nat.le_of_ble_eq_true rfl, Nat.le_of_ble_eq_true rfl⟩ ⟨Nat.le_of_ble_eq_true rfl, Nat.le_of_ble_eq_true rfl⟩ rfl (Nat.le_of_ble_eq_true rfl) dL_law_4 (fun T H1 locs1 e9 hP1 hD1 hS1 => ?_)
  subst e9
  have hP : va_P G.1 vwCl (wX10 G T) H1 := hP1
  have hD : va_D (fun q : Nat => s.heap.size ≤ q) (wX10 G T) := hD1
  have hS := hS1
  refine W.widen (k := 31) (n := 13725) (Nat.le_of_ble_eq_true rfl) (Nat.le_of_ble_eq_true rfl) ?_
  refine lv_astore_n (lv' := [(1, .ref (T 10 0)), (0, .ref b)]) hx hb dL_law_7 rfl hl (by decide) rfl (fun ls hl => ?_)
  refine va_new (ci := 11) (fs := [.null, .null, .null, .int 0, .int 0, .int 0, .int 0, .null, .null, .int 0, .null, .null, .null, .int 0, .int 0, .int 0, .null, .int 0, .int 0, .int 0, .null, .null, .long 0, .null, .null, .null, .null, .null, .null]) (C := RX11) (T := TX11) (N := 29) hx hb ht twX11 tyX11 tyX11_ok hown (ht _ kcl_L_10) (ht _ kins_X11) (ht _ kini_X11) hK.1 hP hD hS hA rfl (fun j hj => by match j, hj with | 0, _ => rfl | 1, _ => rfl | 2, _ => rfl | 3, _ => rfl | 4, _ => rfl | 5, _ => rfl | 6, _ => rfl | 7, _ => rfl | 8, _ => rfl | 9, _ => rfl | 10, _ => rfl | 11, _ => rfl | 12, _ => rfl | 13, _ => rfl | 14, _ => rfl | 15, _ => rfl | 16, _ => rfl | 17, _ => rfl | 18, _ => rfl | 19, _ => rfl | 20, _ => rfl | 21, _ => rfl | 22, _ => rfl | 23, _ => rfl | 24, _ => rfl | 25, _ => rfl | 26, _ => rfl | 27, _ => rfl | 28, _ => rfl | n9 + 29, h9 => exact absurd h9 (by omega)) (Nat.le_of_ble_eq_true rfl) (Nat.le_of_ble_eq_true rfl) dL_law_8 (fun q11 H hP hD hS => ?_)
  have hP : va_P G.1 vwCl (wX10 G T ++ [(q11, .inr (11, [.null, .null, .null, .int 0, .int 0, .int 0, .int 0, .null, .null, .int 0, .null, .null, .null, .int 0, .int 0, .int 0, .null, .int 0, .int 0, .int 0, .null, .null, .long 0, .null, .null, .null, .null, .null, .null]))]) H := hP
  have hD : va_D (fun q : Nat => s.heap.size ≤ q) (wX10 G T ++ [(q11, .inr (11, [.null, .null, .null, .int 0, .int 0, .int 0, .int 0, .null, .null, .int 0, .null, .null, .null, .int 0, .int 0, .int 0, .null, .int 0, .int 0, .int 0, .null, .null, .long 0, .null, .null, .null, .null, .null, .null]))]) := hD
  refine W.widen (k := 32) (n := 13754) (Nat.le_of_ble_eq_true rfl) (Nat.le_of_ble_eq_true rfl) ?_
  refine lv_dup hx hb dL_law_11 rfl ?_
  refine mk_P (rest := [.ref q11]) (wr := wX10 G T) (c_X11_init l G q11) C hK (fun _ _ _ _ _ => trivial) (fun _ _ => trivial) hP hD hS hA hz hl [31] [0, 1, 2, 3, 4, 5, 6, 7, 8, 9, 10, 11, 12, 13, 14, 15, 16, 17, 18, 19, 20, 21, 22, 23, 24, 25, 26, 27, 28, 29, 30] rfl rfl rfl rfl rfl (by decide) kcode_X11_init kml_L_12 kim_X11_init kini_X11 rfl (by decide +kernel) ⟨⟨rfl, rfl⟩, Nat.le_of_ble_eq_true rfl, Nat.le_of_ble_eq_true rfl⟩ ⟨Nat.le_of_ble_eq_true rfl, Nat.le_of_ble_eq_true rfl⟩ rfl (Nat.le_of_ble_eq_true rfl) dL_law_12 (fun M H2 locs2 e9 hP2 hD2 hS2 => ?_)
  subst e9
  have hP : va_P G.1 vwCl (wAll G T M (fun _ => 0) 0 (fun _ => 0) (fun _ => 0) (fun _ => 0) w1111 0 ((fun _ => 0), 0, 0, 0, 0) ((fun _ => 0), 0, 0, 0, 0, 0, 0) ((fun _ => 0), (fun _ => 0), 0, 0) ((fun _ => 0), 0, 0) ((fun _ => 0), (fun _ => 0), 0) ((fun _ => 0), 0) ((fun _ => 0), w1111, 0, 0) ((fun _ => 0), w1111, 0, 0) ((fun _ => 0), 0, 0, 0, (fun _ => 0), (fun _ => 0), 0, (fun _ => 0), 0, 0, 0, (fun _ => 0), 0, 0, (fun _ => 0), 0, (fun _ => 0), (fun _ => 0)) (fun _ => 0) (fun _ => 0) (fun _ => 0) (fun _ => 0)) H2 := hP2
  have hD : va_D (fun q : Nat => s.heap.size ≤ q) (wAll G T M (fun _ => 0) 0 (fun _ => 0) (fun _ => 0) (fun _ => 0) w1111 0 ((fun _ => 0), 0, 0, 0, 0) ((fun _ => 0), 0, 0, 0, 0, 0, 0) ((fun _ => 0), (fun _ => 0), 0, 0) ((fun _ => 0), 0, 0) ((fun _ => 0), (fun _ => 0), 0) ((fun _ => 0), 0) ((fun _ => 0), w1111, 0, 0) ((fun _ => 0), w1111, 0, 0) ((fun _ => 0), 0, 0, 0, (fun _ => 0), (fun _ => 0), 0, (fun _ => 0), 0, 0, 0, (fun _ => 0), 0, 0, (fun _ => 0), 0, (fun _ => 0), (fun _ => 0)) (fun _ => 0) (fun _ => 0) (fun _ => 0) (fun _ => 0)) := hD2
  have hS := hS2
  refine W.widen (k := 49) (n := 21002) (Nat.le_of_ble_eq_true rfl) (Nat.le_of_ble_eq_true rfl) ?_
  refine lv_astore_n (lv' := [(2, .ref (M 0)), (1, .ref (T 10 0)), (0, .ref b)]) hx hb dL_law_15 rfl hl (by decide) rfl (fun ls hl => ?_)
  refine lv_iconst (v := 0) hx hb dL_law_16 (by decide) ?_
  refine lv_istore_n (lv' := [(3, .int 0), (2, .ref (M 0)), (1, .ref (T 10 0)), (0, .ref b)]) hx hb dL_law_17 rfl hl (by decide) rfl (fun ls hl => ?_)
  exact law_loop (G := G) hL (fun q h => h) C hK hA hz hX hbl hbA hr hlocks (L + 8) 0 0 nI_0.symm (by omega) (by omega) (fun _ => 0) 0 (fun _ => 0) (fun _ => 0) (fun _ => 0) w1111 0 ((fun _ => 0), 0, 0, 0, 0) ((fun _ => 0), 0, 0, 0, 0, 0, 0) ((fun _ => 0), (fun _ => 0), 0, 0) ((fun _ => 0), 0, 0) ((fun _ => 0), (fun _ => 0), 0) ((fun _ => 0), 0) ((fun _ => 0), w1111, 0, 0) ((fun _ => 0), w1111, 0, 0) ((fun _ => 0), 0, 0, 0, (fun _ => 0), (fun _ => 0), 0, (fun _ => 0), 0, 0, 0, (fun _ => 0), 0, 0, (fun _ => 0), 0, (fun _ => 0), (fun _ => 0)) (fun _ => 0) (fun _ => 0) (fun _ => 0) (fun _ => 0) inv_0 H2 locs2 ls hP hD hS (lv_sub hl [0, 3, 2, 1] rfl)
set_option maxHeartbeats 4000000 in
theorem lw_walk (l : Launch) (hflags : l.flags = flags0) (b : Addr) (xs : List Int32) : MetFree l x (headSpec (Jvm.Cond.code x code maxLocals ret :: tables_1) room_1) (lw_P b xs) (fun _ _ _ _ _ => True) lw_Q := by
  refine MetFree.of_bodyS (code := code) (maxLocals := maxLocals) (ret := ret) (by decide) ?_ ?_
  · intro args s m h hn
    obtain ⟨meth, c, h1, h2, h3, h4, h5, h6, -, -⟩ := Cond.code_spec hn (atoms_spec (ws := Jvm.Cond.code x code maxLocals ret :: tables_1) h _ List.mem_cons_self)
    exact ⟨meth, c, h1, h2, h3, h4, h5, h6⟩
  · intro p e s m args below meth c s₁ B hml0 hP _
    obtain ⟨rfl, hx, hbd, hgv⟩ := hP
    obtain ⟨scr, harrAt, hlist, hof, hsmall⟩ := hx
    obtain ⟨hcb, hkn, -, -⟩ := State.arrayAt?_spec harrAt
    have hown : s.vm.findClass R_law = some m.cls := findClass_of_methodNamed B.named
    have hts0 : ∀ c ∈ (Jvm.Cond.code x code maxLocals ret :: tables_1), c.before #[Value.ref b] s = true := atoms_spec (ws := Jvm.Cond.code x code maxLocals ret :: tables_1) B.pre
    have hts : ∀ w ∈ lw_tbl, w.before #[Value.ref b] s = true := k2_hts_sels lw_privs (fun w hw => hts0 w (List.mem_cons_of_mem _ hw)) lw_privs_ok
    have hml : c.maxLocals = 4 := B.maxLocals_eq (hts0 _ List.mem_cons_self)
    have X₀ : Stand p l e room_1 s m #[Value.ref b] below meth c s₁ [] 0 0 := Stand.of_body B
    have hh0 : s₁.heap = s.heap := by rw [B.state]; rfl
    have hsz : scr.slots.size = xs.length := by rw [← Array.length_toList, hlist, List.length_map]
    have hval : ∀ j : Nat, j < xs.length → scr.slots[j]? = some (.int (xs.getD j 0)) := fun j hj => by
      rw [← Array.getElem?_toList, hlist]
      simp [hj]
    have hbl : b < s.heap.size := (Array.getElem?_eq_some_iff.mp hcb).1
    have hX : va_X b xs.length (fun j => xs.getD j 0) s s.heap := ⟨scr, hcb, hof, hkn, hsz, hval⟩
    have K : W p l e room_1 s m #[Value.ref b] below meth c s₁.heap [] 0 0 (lw_Z below #[Value.ref b] s) (entryFrame m ([Value.ref b] : List Value).toArray 4) := by
      rw [hh0]
      exact whole_start l hflags hbd ⟨B.exec, B.bytes, B.returns, hml, hown, hts, hX, hbl, B.notSynchronized, hgv⟩
    obtain ⟨t, a1, o, b1, b2, b3⟩ := K s₁ rfl X₀
    exact ⟨t, o, a1, b1, b2, b3⟩
theorem lw_pre_spec {args : Array Value} {s : State} (h : (Jvm.Cond.and given_1 narrow_1).before args s = true) (hr : rest_1_c.before args s = true) : ∃ (b : Addr) (xs : List Int32), lw_P b xs args s := by
  have hs := flat_of_before _ h
  have hq := flat_of_before _ hr
  have hc : (Cond.count 1).before args s = true := hs _ (by decide +kernel)
  have harr : (Cond.arrayOf (.arg 0) .int).before args s = true := hs _ (by decide +kernel)
  have hle : (Cond.le (.length (.arg 0)) (.int 448)).before args s = true := hs _ (by decide +kernel)
  have hlen : (Cond.isInt (.length (.arg 0))).before args s = true := hq _ (by decide +kernel)
  have hall : (Cond.all (.arg 0) (.isInt (.elem (.arg 0) (.index 0)))).before args s = true := hq _ (by decide +kernel)
  obtain ⟨b, xs, hb, hx⟩ := State.ints_of_pre rfl harr hlen hall
  have hsm : xs.length < 2 ^ 31 := hx.choose_spec.2.2.2
  have hev : (Term.length (.arg 0)).eval args s none [] s = some (.int xs.length.toInt32) := hx.length_eval hb
  have hv := Cond.le_ints hev (show (Term.int 448).eval args s none [] s = some (.int 448) from rfl)
  have hd : xs.length.toInt32 ≤ 448 := by
    simpa [Cond.before, Cond.holds, hv] using hle
  have hN : xs.length ≤ 448 := (Int32.ofNat_le_ofNat hsm (by decide)).mp (show Int32.ofNat xs.length ≤ Int32.ofNat 448 from hd)
  exact ⟨b, xs, Cond.one_arg hc (show args[0]? = some (.ref b) from hb), hx, hN, h⟩
theorem lw_comes (l : Launch) (hflags : l.flags = flags0) : Comes l x (Jvm.Cond.code x code maxLocals ret :: tables_1) room_1 (fun tb e args s => Calls_1 tb e args s ∧ rest_1 tb e args s ∧ Pre_1 tb e args s)
    (fun _ _ args s o t => lw_Q args s o t) := by
  intro p e ha hc hk s m args below hf hfit hheap happ hpre
  obtain ⟨b, xs, hP⟩ := lw_pre_spec hpre.2.2 hpre.2.1
  obtain ⟨k, o, h1, h2, h3, hQ⟩ := lw_walk l hflags b xs p e ha hc hk s m args below hf ((Spec.applies_iff_loose hf).mp happ).1 hP trivial
  exact ⟨k, o, h1, h2, h3, hQ⟩
theorem lw_frame {s t : State} {o : Outcome} {args : Array Value} (h : Framed s o t [] 49 21002) :
    Framed s o t (fieldLocs frame_1_writes args s ++ arrayLocs frame_1_arrays args s ++ staticLocs frame_1_statics s) 49 21002 := h
theorem lw_limb (L : Cond) (hL : ∀ (args : Array Value) (s t : State), L.after args s (.returned (some (.int 1))) t = true) :
    ArmFor flags0 classFile x code maxLocals ret World_1 tables_1 room_1 Calls_1 rest_1 Pre_1
      (fun tb e a s o t => postC L tb e a s o t ∧ Framed s o t (fieldLocs frame_1_writes a s ++ arrayLocs frame_1_arrays a s ++ staticLocs frame_1_statics s) 49 21002) := by
  intro l hflags _ _ p e ha hc hk s m args below hf hfit hheap happ hpre
  obtain ⟨k, o, h1, h2, h3, rfl, hF⟩ := lw_comes l hflags p e ha hc hk s m args below hf hfit hheap happ hpre
  exact ⟨k, _, h1, h2, h3, hL args s _, lw_frame hF⟩
theorem i_vc : Claimed_1_1 ∧ Claimed_1_2 := ⟨lw_limb limb_1_1 (fun args s t => by simp [limb_1_1, Cond.after, Cond.holds, Cond.value]), lw_limb limb_1_2 (fun args s t => Cond.after_iff.mpr (by
  first | (rw [show limb_1_2 = Cond.eq .result (.int 1) from rfl, Cond.eq_ints (x := 1) (y := 1) rfl rfl]; simp; done) | (simp [limb_1_2, Cond.value, Term.eval]; done)))⟩

