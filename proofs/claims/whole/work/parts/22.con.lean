abbrev Wc_X10_weight (l : Launch) (G : TG) (x : Nat → Nat) (t9 : Nat → Nat) (t6 : Nat → Nat) (t8 : Nat → Nat) (t3 : Nat → Nat) (t7 : Nat → Nat) (t1 : Nat → Nat) (t0 : Nat → Nat) (t4 : Nat → Nat) (t5 : Nat → Nat) (t2 : Nat → Nat) (t4_weights : Nat → Int32) (t4_beds : Int32) (t4_isKept : Int32) (a1 : Int32) (a2 : Int32) (R : Int32 × (Nat → Int32)) (p : Program) (e : Env) (s : State) (m : MethodId) (below : List Frame) (meth : Method) (c : Code) (A : Nat → Prop) (H : Heap) (locs : List Loc) (g : JFrame) : Prop := W p l e ({ frames := 2, cells := 0, slots := 0, locals := 42 }) s m ([.ref (x 0), .int a1, .int a2] : List Value).toArray below meth c H locs 0 0 (MQ below (rwQ G (some (.int R.1)) [(oX10 x t9 t6 t8 t3 t7 t1 t0 t4 t5 t2), (oX4 t4 t4_beds t4_isKept), (wI G (t4 2) 4 R.2)] A) ([.ref (x 0), .int a1, .int a2] : List Value).toArray s 0 0 A) g
set_option maxHeartbeats 4000000 in
set_option maxRecDepth 100000 in
theorem c_X10_weight (l : Launch) (G : TG) (x : Nat → Nat) (t9 : Nat → Nat) (t6 : Nat → Nat) (t8 : Nat → Nat) (t3 : Nat → Nat) (t7 : Nat → Nat) (t1 : Nat → Nat) (t0 : Nat → Nat) (t4 : Nat → Nat) (t5 : Nat → Nat) (t2 : Nat → Nat) (t4_weights : Nat → Int32) (t4_beds : Int32) (t4_isKept : Int32) (a1 : Int32) (a2 : Int32) (R : Int32 × (Nat → Int32)) (hf : f_X10_weight t4_weights a1 a2 = some R) : RW l yX10_weight cX10_weight 4 (some .int) ({ frames := 2, cells := 0, slots := 0, locals := 42 }) G [.ref (x 0), .int a1, .int a2] [(oX10 x t9 t6 t8 t3 t7 t1 t0 t4 t5 t2), (oX4 t4 t4_beds t4_isKept), (wI G (t4 2) 4 t4_weights)] (some (.int R.1)) [(oX10 x t9 t6 t8 t3 t7 t1 t0 t4 t5 t2), (oX4 t4 t4_beds t4_isKept), (wI G (t4 2) 4 R.2)] := by
  refine RW.mk (by decide +kernel) (Nat.le_of_ble_eq_true rfl) ?_
  intro p e s m below meth c ls A C hP hD hA hz hK hl hS
  have hx := C.1
  have hb := C.2.1
  have hown : s.vm.findClass RX10 = some m.cls := C.2.2.2.2.2.1
  have ht := C.2.2.2.2.2.2
  have hl : lv_has ls 4 [(0, .ref (x 0)), (1, .int a1), (2, .int a2)] := hl
  show Wc_X10_weight l G x t9 t6 t8 t3 t7 t1 t0 t4 t5 t2 t4_weights t4_beds t4_isKept a1 a2 R p e s m below meth c A s.heap [] (F0 m 0 ls [])
  obtain ⟨H, eH, hP, hS⟩ : ∃ H, H = s.heap ∧ va_P G.1 vwCl [(oX10 x t9 t6 t8 t3 t7 t1 t0 t4 t5 t2), (oX4 t4 t4_beds t4_isKept), (wI G (t4 2) 4 t4_weights)] H ∧ va_S A s.heap H [] := ⟨_, rfl, hP, hS⟩
  obtain ⟨locs, el, hS⟩ : ∃ locs : List Loc, locs = [] ∧ va_S A s.heap H locs := ⟨_, rfl, hS⟩
  have key : Wc_X10_weight l G x t9 t6 t8 t3 t7 t1 t0 t4 t5 t2 t4_weights t4_beds t4_isKept a1 a2 R p e s m below meth c A H locs (F0 m 0 ls []) := by
    refine lv_iload_n hx hb dX10_weight_0 rfl (lv_at hl 1 rfl) ?_
    obtain ⟨q1, r1, hf⟩ := bd_s hf
    refine ro_S (n := 1) (As := [.int a1]) (rest := []) (c_X10_isStory l G a1 q1 r1) C (hK.at hS hz) (hP.sub [] rfl) hl kcode_X10_isStory kml_X10_115 kst_X10_isStory kini_X10 (by decide +kernel) ⟨⟨rfl, rfl⟩, Nat.le_of_ble_eq_true rfl, Nat.le_of_ble_eq_true rfl⟩ ⟨Nat.zero_le _, Nat.zero_le _⟩ rfl rfl (Nat.le_of_ble_eq_true rfl) dX10_weight_1 rfl ?_
    refine lv_if_ne (tgt := 9) hx hb dX10_weight_4 (by decide) (fun c2 => ?_) (fun c2 => ?_)
    · have hf := o_f c2 hf
      refine lv_iload_n hx hb dX10_weight_9 rfl (lv_at hl 2 rfl) ?_
      refine lv_iconst (v := 0) hx hb dX10_weight_10 (by decide) ?_
      refine lv_bipush (v := 9) hx hb dX10_weight_11 (by decide) ?_
      obtain ⟨q3, r3, hf⟩ := bd_s hf
      refine ro_S (n := 3) (As := [.int a2, .int (0 : Int32), .int (9 : Int32)]) (rest := []) (c_X10_within l G a2 (0 : Int32) (9 : Int32) q3 r3) C (hK.at hS hz) (hP.sub [] rfl) hl kcode_X10_within kml_X10_83 kst_X10_within kini_X10 (by decide +kernel) ⟨⟨rfl, rfl⟩, Nat.le_of_ble_eq_true rfl, Nat.le_of_ble_eq_true rfl⟩ ⟨Nat.zero_le _, Nat.zero_le _⟩ rfl rfl (Nat.le_of_ble_eq_true rfl) dX10_weight_13 rfl ?_
      refine lv_if_ne (tgt := 22) hx hb dX10_weight_16 (by decide) (fun c4 => ?_) (fun c4 => ?_)
      · have hf := o_f c4 hf
        refine lv_aload_n hx hb dX10_weight_22 rfl (lv_at hl 0 rfl) ?_
        refine va_get (D := G.1) (ci := 10) (v := .ref (t4 0)) (C := RX10) (T := TX10) (N := 11) hx hb ht twX10 hown hK.1 hP 0 rfl rfl 7 (by decide) (ht _ kfl_X10_61) (fun _ h9 => h9) rfl dX10_weight_23 ?_
        refine va_get (D := G.1) (ci := 4) (v := .ref (t4 2)) (C := RX4) (T := TX4) (N := 4) hx hb ht twX4 hown hK.1 hP 1 rfl rfl 1 (by decide) (ht _ kfl_X10_244) (fun _ h9 => h9) rfl dX10_weight_26 ?_
        refine lv_iload_n hx hb dX10_weight_29 rfl (lv_at hl 1 rfl) ?_
        obtain ⟨g5, hf⟩ := gd_s hf
        refine va_iald hx hb hK.1 hP 2 0 rfl rfl g5 dX10_weight_30 ?_
        refine lv_istore_n (lv' := [(3, .int (t4_weights a1.toNatClampNeg)), (0, .ref (x 0)), (1, .int a1), (2, .int a2)]) hx hb dX10_weight_31 rfl hl (by decide) rfl (fun ls hl => ?_)
        refine lv_aload_n hx hb dX10_weight_32 rfl (lv_at hl 1 rfl) ?_
        refine va_get (D := G.1) (ci := 10) (v := .ref (t4 0)) (C := RX10) (T := TX10) (N := 11) hx hb ht twX10 hown hK.1 hP 0 rfl rfl 7 (by decide) (ht _ kfl_X10_61) (fun _ h9 => h9) rfl dX10_weight_33 ?_
        refine va_get (D := G.1) (ci := 4) (v := .ref (t4 2)) (C := RX4) (T := TX4) (N := 4) hx hb ht twX4 hown hK.1 hP 1 rfl rfl 1 (by decide) (ht _ kfl_X10_244) (fun _ h9 => h9) rfl dX10_weight_36 ?_
        refine lv_iload_n hx hb dX10_weight_39 rfl (lv_at hl 2 rfl) ?_
        refine lv_iload_n hx hb dX10_weight_40 rfl (lv_at hl 3 rfl) ?_
        obtain ⟨g6, hf⟩ := gd_s hf
        refine va_iast hx hb hK.1 hP hD hS 2 0 rfl rfl g6 dX10_weight_41 (fun H locs hP hD hS => ?_)
        have hP : va_P G.1 vwCl [(oX10 x t9 t6 t8 t3 t7 t1 t0 t4 t5 t2), (oX4 t4 t4_beds t4_isKept), (wI G (t4 2) 4 (upd t4_weights a1.toNatClampNeg a2))] H := hP
        have hD : va_D A [(oX10 x t9 t6 t8 t3 t7 t1 t0 t4 t5 t2), (oX4 t4 t4_beds t4_isKept), (wI G (t4 2) 4 (upd t4_weights a1.toNatClampNeg a2))] := hD
        refine lv_iload_n hx hb dX10_weight_42 rfl (lv_at hl 0 rfl) ?_
        have h9 := Option.some.inj hf
        subst h9
        exact rw_iret C rfl hP hD hS dX10_weight_43
      · have hf := o_t c4 hf
        refine lv_bipush (v := -2) hx hb dX10_weight_19 (by decide) ?_
        have h9 := Option.some.inj hf
        subst h9
        exact rw_iret C rfl hP hD hS dX10_weight_21
    · have hf := o_t c2 hf
      refine lv_iconst (v := -1) hx hb dX10_weight_7 (by decide) ?_
      have h9 := Option.some.inj hf
      subst h9
      exact rw_iret C rfl hP hD hS dX10_weight_8
  rw [eH, el] at key
  exact key
abbrev Wc_X10_odds (l : Launch) (G : TG) (x : Nat → Nat) (t9 : Nat → Nat) (t6 : Nat → Nat) (t8 : Nat → Nat) (t3 : Nat → Nat) (t7 : Nat → Nat) (t1 : Nat → Nat) (t0 : Nat → Nat) (t4 : Nat → Nat) (t5 : Nat → Nat) (t2 : Nat → Nat) (t0_ice : Nat → Int32) (t4_marks : Nat → Int32) (t4_weights : Nat → Int32) (t4_beds : Int32) (t4_isKept : Int32) (t5_shares : Nat → Int64) (t5_chances : Nat → Int32) (t5_all : Int64) (a1 : Int32) (a2 : Int32) (R : Int64 × (Nat → Int64) × (Nat → Int32) × Int64) (p : Program) (e : Env) (s : State) (m : MethodId) (below : List Frame) (meth : Method) (c : Code) (A : Nat → Prop) (H : Heap) (locs : List Loc) (g : JFrame) : Prop := W p l e ({ frames := 6, cells := 0, slots := 0, locals := 142 }) s m ([.ref (x 0), .int a1, .int a2] : List Value).toArray below meth c H locs 0 0 (MQ below (rwQ G (some (.long R.1)) [(oX10 x t9 t6 t8 t3 t7 t1 t0 t4 t5 t2), (oX0 t0), (wI G (t0 1) 400 t0_ice), (oX4 t4 t4_beds t4_isKept), (wI G (t4 1) 48 t4_marks), (wI G (t4 2) 4 t4_weights), (oX5 t5 R.2.2.2), (wJ G (t5 1) 4 R.2.1), (wI G (t5 2) 32 R.2.2.1)] A) ([.ref (x 0), .int a1, .int a2] : List Value).toArray s 0 0 A) g
set_option maxHeartbeats 4000000 in
set_option maxRecDepth 100000 in
theorem c_X10_odds (l : Launch) (G : TG) (x : Nat → Nat) (t9 : Nat → Nat) (t6 : Nat → Nat) (t8 : Nat → Nat) (t3 : Nat → Nat) (t7 : Nat → Nat) (t1 : Nat → Nat) (t0 : Nat → Nat) (t4 : Nat → Nat) (t5 : Nat → Nat) (t2 : Nat → Nat) (t0_ice : Nat → Int32) (t4_marks : Nat → Int32) (t4_weights : Nat → Int32) (t4_beds : Int32) (t4_isKept : Int32) (t5_shares : Nat → Int64) (t5_chances : Nat → Int32) (t5_all : Int64) (a1 : Int32) (a2 : Int32) (R : Int64 × (Nat → Int64) × (Nat → Int32) × Int64) (hf : f_X10_odds t0_ice t4_marks t4_weights t4_beds t5_shares t5_chances t5_all a1 a2 = some R) : RW l yX10_odds cX10_odds 3 (some .long) ({ frames := 6, cells := 0, slots := 0, locals := 142 }) G [.ref (x 0), .int a1, .int a2] [(oX10 x t9 t6 t8 t3 t7 t1 t0 t4 t5 t2), (oX0 t0), (wI G (t0 1) 400 t0_ice), (oX4 t4 t4_beds t4_isKept), (wI G (t4 1) 48 t4_marks), (wI G (t4 2) 4 t4_weights), (oX5 t5 t5_all), (wJ G (t5 1) 4 t5_shares), (wI G (t5 2) 32 t5_chances)] (some (.long R.1)) [(oX10 x t9 t6 t8 t3 t7 t1 t0 t4 t5 t2), (oX0 t0), (wI G (t0 1) 400 t0_ice), (oX4 t4 t4_beds t4_isKept), (wI G (t4 1) 48 t4_marks), (wI G (t4 2) 4 t4_weights), (oX5 t5 R.2.2.2), (wJ G (t5 1) 4 R.2.1), (wI G (t5 2) 32 R.2.2.1)] := by
  refine RW.mk (by decide +kernel) (Nat.le_of_ble_eq_true rfl) ?_
  intro p e s m below meth c ls A C hP hD hA hz hK hl hS
  have hx := C.1
  have hb := C.2.1
  have hown : s.vm.findClass RX10 = some m.cls := C.2.2.2.2.2.1
  have ht := C.2.2.2.2.2.2
  have hl : lv_has ls 3 [(0, .ref (x 0)), (1, .int a1), (2, .int a2)] := hl
  show Wc_X10_odds l G x t9 t6 t8 t3 t7 t1 t0 t4 t5 t2 t0_ice t4_marks t4_weights t4_beds t4_isKept t5_shares t5_chances t5_all a1 a2 R p e s m below meth c A s.heap [] (F0 m 0 ls [])
  obtain ⟨H, eH, hP, hS⟩ : ∃ H, H = s.heap ∧ va_P G.1 vwCl [(oX10 x t9 t6 t8 t3 t7 t1 t0 t4 t5 t2), (oX0 t0), (wI G (t0 1) 400 t0_ice), (oX4 t4 t4_beds t4_isKept), (wI G (t4 1) 48 t4_marks), (wI G (t4 2) 4 t4_weights), (oX5 t5 t5_all), (wJ G (t5 1) 4 t5_shares), (wI G (t5 2) 32 t5_chances)] H ∧ va_S A s.heap H [] := ⟨_, rfl, hP, hS⟩
  obtain ⟨locs, el, hS⟩ : ∃ locs : List Loc, locs = [] ∧ va_S A s.heap H locs := ⟨_, rfl, hS⟩
  have key : Wc_X10_odds l G x t9 t6 t8 t3 t7 t1 t0 t4 t5 t2 t0_ice t4_marks t4_weights t4_beds t4_isKept t5_shares t5_chances t5_all a1 a2 R p e s m below meth c A H locs (F0 m 0 ls []) := by
    refine lv_iload_n hx hb dX10_odds_0 rfl (lv_at hl 1 rfl) ?_
    obtain ⟨q1, r1, hf⟩ := bd_s hf
    refine ro_S (n := 1) (As := [.int a1]) (rest := []) (c_X10_isStory l G a1 q1 r1) C (hK.at hS hz) (hP.sub [] rfl) hl kcode_X10_isStory kml_X10_115 kst_X10_isStory kini_X10 (by decide +kernel) ⟨⟨rfl, rfl⟩, Nat.le_of_ble_eq_true rfl, Nat.le_of_ble_eq_true rfl⟩ ⟨Nat.zero_le _, Nat.zero_le _⟩ rfl rfl (Nat.le_of_ble_eq_true rfl) dX10_odds_1 rfl ?_
    refine lv_if_ne (tgt := 11) hx hb dX10_odds_4 (by decide) (fun c2 => ?_) (fun c2 => ?_)
    · have hf := o_f c2 hf
      refine lv_aload_n hx hb dX10_odds_11 rfl (lv_at hl 0 rfl) ?_
      refine va_get (D := G.1) (ci := 10) (v := .ref (t5 0)) (C := RX10) (T := TX10) (N := 11) hx hb ht twX10 hown hK.1 hP 0 rfl rfl 8 (by decide) (ht _ kfl_X10_68) (fun _ h9 => h9) rfl dX10_odds_12 ?_
      refine lv_aload_n hx hb dX10_odds_15 rfl (lv_at hl 0 rfl) ?_
      refine va_get (D := G.1) (ci := 10) (v := .ref (t0 0)) (C := RX10) (T := TX10) (N := 11) hx hb ht twX10 hown hK.1 hP 0 rfl rfl 6 (by decide) (ht _ kfl_X10_54) (fun _ h9 => h9) rfl dX10_odds_16 ?_
      refine lv_aload_n hx hb dX10_odds_19 rfl (lv_at hl 0 rfl) ?_
      refine va_get (D := G.1) (ci := 10) (v := .ref (t4 0)) (C := RX10) (T := TX10) (N := 11) hx hb ht twX10 hown hK.1 hP 0 rfl rfl 7 (by decide) (ht _ kfl_X10_61) (fun _ h9 => h9) rfl dX10_odds_20 ?_
      obtain ⟨q3, r3, hf⟩ := bd_s hf
      refine rw_V (n := 2) (As := [.ref (t0 0), .ref (t4 0)]) (rest := []) (wr := [(oX10 x t9 t6 t8 t3 t7 t1 t0 t4 t5 t2)]) (ws2 := [(oX10 x t9 t6 t8 t3 t7 t1 t0 t4 t5 t2), (oX0 t0), (wI G (t0 1) 400 t0_ice), (oX4 t4 t4_beds t4_isKept), (wI G (t4 1) 48 t4_marks), (wI G (t4 2) 4 t4_weights), (oX5 t5 q3.2.2), (wJ G (t5 1) 4 q3.1), (wI G (t5 2) 32 q3.2.1)]) (c_X5_weigh l G t5 t0 t4 t5_shares t5_chances t5_all t0_ice t4_marks t4_weights t4_beds t4_isKept q3 r3) C hK hP hD hS hA hz hl [6, 7, 8, 1, 2, 3, 4, 5] [0] [0, 4, 5, 6, 7, 8, 1, 2, 3] rfl rfl rfl rfl rfl (by decide) rfl rfl rfl kcode_X5_weigh kml_X10_247 kim_X5_weigh ksel_X5_weigh kini_X5 (by decide +kernel) ⟨⟨rfl, rfl⟩, Nat.le_of_ble_eq_true rfl, Nat.le_of_ble_eq_true rfl⟩ ⟨Nat.zero_le _, Nat.zero_le _⟩ rfl rfl rfl rfl rfl (Nat.le_of_ble_eq_true rfl) dX10_odds_23 rfl (fun H locs hP hD hS => ?_)
      refine lv_aload_n hx hb dX10_odds_26 rfl (lv_at hl 0 rfl) ?_
      refine va_get (D := G.1) (ci := 10) (v := .ref (t5 0)) (C := RX10) (T := TX10) (N := 11) hx hb ht twX10 hown hK.1 hP 0 rfl rfl 8 (by decide) (ht _ kfl_X10_68) (fun _ h9 => h9) rfl dX10_odds_27 ?_
      refine va_get (D := G.1) (ci := 5) (v := .long q3.2.2) (C := RX5) (T := TX5) (N := 3) hx hb ht twX5 hown hK.1 hP 6 rfl rfl 2 (by decide) (ht _ kfl_X10_251) (fun _ h9 => h9) rfl dX10_odds_30 ?_
      refine lv_lconst (v := 0) hx hb dX10_odds_33 (by decide) ?_
      refine W.lcmp hx hb dX10_odds_34 ?_
      refine lv_if_ne (tgt := 42) hx hb dX10_odds_35 (by decide) (fun c4 => ?_) (fun c4 => ?_)
      · have hf := o_f c4 hf
        refine lv_aload_n hx hb dX10_odds_42 rfl (lv_at hl 0 rfl) ?_
        refine va_get (D := G.1) (ci := 10) (v := .ref (t5 0)) (C := RX10) (T := TX10) (N := 11) hx hb ht twX10 hown hK.1 hP 0 rfl rfl 8 (by decide) (ht _ kfl_X10_68) (fun _ h9 => h9) rfl dX10_odds_43 ?_
        refine va_get (D := G.1) (ci := 5) (v := .ref (t5 1)) (C := RX5) (T := TX5) (N := 3) hx hb ht twX5 hown hK.1 hP 6 rfl rfl 0 (by decide) (ht _ kfl_X10_257) (fun _ h9 => h9) rfl dX10_odds_46 ?_
        refine lv_iload_n hx hb dX10_odds_49 rfl (lv_at hl 1 rfl) ?_
        obtain ⟨g5, hf⟩ := gd_s hf
        refine va_lald hx hb hK.1 hP 7 1 rfl rfl g5 dX10_odds_50 ?_
        refine lv_aload_n hx hb dX10_odds_51 rfl (lv_at hl 0 rfl) ?_
        refine va_get (D := G.1) (ci := 10) (v := .ref (t5 0)) (C := RX10) (T := TX10) (N := 11) hx hb ht twX10 hown hK.1 hP 0 rfl rfl 8 (by decide) (ht _ kfl_X10_68) (fun _ h9 => h9) rfl dX10_odds_52 ?_
        refine va_get (D := G.1) (ci := 5) (v := .long q3.2.2) (C := RX5) (T := TX5) (N := 3) hx hb ht twX5 hown hK.1 hP 6 rfl rfl 2 (by decide) (ht _ kfl_X10_251) (fun _ h9 => h9) rfl dX10_odds_55 ?_
        refine lv_iload_n hx hb dX10_odds_58 rfl (lv_at hl 2 rfl) ?_
        obtain ⟨q6, r6, hf⟩ := bd_s hf
        refine ro_S (n := 3) (As := [.long (q3.1 a1.toNatClampNeg), .long q3.2.2, .int a2]) (rest := []) (c_X10_told l G (q3.1 a1.toNatClampNeg) q3.2.2 a2 q6 r6) C (hK.at hS hz) (hP.sub [] rfl) hl kcode_X10_told kml_X10_240 kst_X10_told kini_X10 (by decide +kernel) ⟨⟨rfl, rfl⟩, Nat.le_of_ble_eq_true rfl, Nat.le_of_ble_eq_true rfl⟩ ⟨Nat.zero_le _, Nat.zero_le _⟩ rfl rfl (Nat.le_of_ble_eq_true rfl) dX10_odds_59 rfl ?_
        have h9 := Option.some.inj hf
        subst h9
        exact rw_lret C rfl hP hD hS dX10_odds_62
      · have hf := o_t c4 hf
        refine lv_ldc2 hx hb hown (ht _ kcL_X10_255) dX10_odds_38 ?_
        have h9 := Option.some.inj hf
        subst h9
        exact rw_lret C rfl hP hD hS dX10_odds_41
    · have hf := o_t c2 hf
      refine lv_ldc2 hx hb hown (ht _ kcL_X10_232) dX10_odds_7 ?_
      have h9 := Option.some.inj hf
      subst h9
      exact rw_lret C rfl hP hD hS dX10_odds_10
  rw [eH, el] at key
  exact key
abbrev Wc_X10_best (l : Launch) (G : TG) (x : Nat → Nat) (t9 : Nat → Nat) (t6 : Nat → Nat) (t8 : Nat → Nat) (t3 : Nat → Nat) (t7 : Nat → Nat) (t1 : Nat → Nat) (t0 : Nat → Nat) (t4 : Nat → Nat) (t5 : Nat → Nat) (t2 : Nat → Nat) (t0_ice : Nat → Int32) (t4_marks : Nat → Int32) (t4_weights : Nat → Int32) (t4_beds : Int32) (t4_isKept : Int32) (t5_shares : Nat → Int64) (t5_chances : Nat → Int32) (t5_all : Int64) (R : Int32 × (Nat → Int64) × (Nat → Int32) × Int64) (p : Program) (e : Env) (s : State) (m : MethodId) (below : List Frame) (meth : Method) (c : Code) (A : Nat → Prop) (H : Heap) (locs : List Loc) (g : JFrame) : Prop := W p l e ({ frames := 6, cells := 0, slots := 0, locals := 142 }) s m ([.ref (x 0)] : List Value).toArray below meth c H locs 0 0 (MQ below (rwQ G (some (.int R.1)) [(oX10 x t9 t6 t8 t3 t7 t1 t0 t4 t5 t2), (oX0 t0), (wI G (t0 1) 400 t0_ice), (oX4 t4 t4_beds t4_isKept), (wI G (t4 1) 48 t4_marks), (wI G (t4 2) 4 t4_weights), (oX5 t5 R.2.2.2), (wJ G (t5 1) 4 R.2.1), (wI G (t5 2) 32 R.2.2.1)] A) ([.ref (x 0)] : List Value).toArray s 0 0 A) g
set_option maxHeartbeats 4000000 in
set_option maxRecDepth 100000 in
theorem c_X10_best (l : Launch) (G : TG) (x : Nat → Nat) (t9 : Nat → Nat) (t6 : Nat → Nat) (t8 : Nat → Nat) (t3 : Nat → Nat) (t7 : Nat → Nat) (t1 : Nat → Nat) (t0 : Nat → Nat) (t4 : Nat → Nat) (t5 : Nat → Nat) (t2 : Nat → Nat) (t0_ice : Nat → Int32) (t4_marks : Nat → Int32) (t4_weights : Nat → Int32) (t4_beds : Int32) (t4_isKept : Int32) (t5_shares : Nat → Int64) (t5_chances : Nat → Int32) (t5_all : Int64) (R : Int32 × (Nat → Int64) × (Nat → Int32) × Int64) (hf : f_X10_best t0_ice t4_marks t4_weights t4_beds t5_shares t5_chances = some R) : RW l yX10_best cX10_best 1 (some .int) ({ frames := 6, cells := 0, slots := 0, locals := 142 }) G [.ref (x 0)] [(oX10 x t9 t6 t8 t3 t7 t1 t0 t4 t5 t2), (oX0 t0), (wI G (t0 1) 400 t0_ice), (oX4 t4 t4_beds t4_isKept), (wI G (t4 1) 48 t4_marks), (wI G (t4 2) 4 t4_weights), (oX5 t5 t5_all), (wJ G (t5 1) 4 t5_shares), (wI G (t5 2) 32 t5_chances)] (some (.int R.1)) [(oX10 x t9 t6 t8 t3 t7 t1 t0 t4 t5 t2), (oX0 t0), (wI G (t0 1) 400 t0_ice), (oX4 t4 t4_beds t4_isKept), (wI G (t4 1) 48 t4_marks), (wI G (t4 2) 4 t4_weights), (oX5 t5 R.2.2.2), (wJ G (t5 1) 4 R.2.1), (wI G (t5 2) 32 R.2.2.1)] := by
  refine RW.mk (by decide +kernel) (Nat.le_of_ble_eq_true rfl) ?_
  intro p e s m below meth c ls A C hP hD hA hz hK hl hS
  have hx := C.1
  have hb := C.2.1
  have hown : s.vm.findClass RX10 = some m.cls := C.2.2.2.2.2.1
  have ht := C.2.2.2.2.2.2
  have hl : lv_has ls 1 [(0, .ref (x 0))] := hl
  show Wc_X10_best l G x t9 t6 t8 t3 t7 t1 t0 t4 t5 t2 t0_ice t4_marks t4_weights t4_beds t4_isKept t5_shares t5_chances t5_all R p e s m below meth c A s.heap [] (F0 m 0 ls [])
  obtain ⟨H, eH, hP, hS⟩ : ∃ H, H = s.heap ∧ va_P G.1 vwCl [(oX10 x t9 t6 t8 t3 t7 t1 t0 t4 t5 t2), (oX0 t0), (wI G (t0 1) 400 t0_ice), (oX4 t4 t4_beds t4_isKept), (wI G (t4 1) 48 t4_marks), (wI G (t4 2) 4 t4_weights), (oX5 t5 t5_all), (wJ G (t5 1) 4 t5_shares), (wI G (t5 2) 32 t5_chances)] H ∧ va_S A s.heap H [] := ⟨_, rfl, hP, hS⟩
  obtain ⟨locs, el, hS⟩ : ∃ locs : List Loc, locs = [] ∧ va_S A s.heap H locs := ⟨_, rfl, hS⟩
  have key : Wc_X10_best l G x t9 t6 t8 t3 t7 t1 t0 t4 t5 t2 t0_ice t4_marks t4_weights t4_beds t4_isKept t5_shares t5_chances t5_all R p e s m below meth c A H locs (F0 m 0 ls []) := by
    refine lv_aload_n hx hb dX10_best_0 rfl (lv_at hl 0 rfl) ?_
    refine va_get (D := G.1) (ci := 10) (v := .ref (t5 0)) (C := RX10) (T := TX10) (N := 11) hx hb ht twX10 hown hK.1 hP 0 rfl rfl 8 (by decide) (ht _ kfl_X10_68) (fun _ h9 => h9) rfl dX10_best_1 ?_
    refine lv_aload_n hx hb dX10_best_4 rfl (lv_at hl 0 rfl) ?_
    refine va_get (D := G.1) (ci := 10) (v := .ref (t0 0)) (C := RX10) (T := TX10) (N := 11) hx hb ht twX10 hown hK.1 hP 0 rfl rfl 6 (by decide) (ht _ kfl_X10_54) (fun _ h9 => h9) rfl dX10_best_5 ?_
    refine lv_aload_n hx hb dX10_best_8 rfl (lv_at hl 0 rfl) ?_
    refine va_get (D := G.1) (ci := 10) (v := .ref (t4 0)) (C := RX10) (T := TX10) (N := 11) hx hb ht twX10 hown hK.1 hP 0 rfl rfl 7 (by decide) (ht _ kfl_X10_61) (fun _ h9 => h9) rfl dX10_best_9 ?_
    obtain ⟨q1, r1, hf⟩ := bd_s hf
    refine rw_V (n := 2) (As := [.ref (t0 0), .ref (t4 0)]) (rest := []) (wr := [(oX10 x t9 t6 t8 t3 t7 t1 t0 t4 t5 t2)]) (ws2 := [(oX10 x t9 t6 t8 t3 t7 t1 t0 t4 t5 t2), (oX0 t0), (wI G (t0 1) 400 t0_ice), (oX4 t4 t4_beds t4_isKept), (wI G (t4 1) 48 t4_marks), (wI G (t4 2) 4 t4_weights), (oX5 t5 q1.2.2), (wJ G (t5 1) 4 q1.1), (wI G (t5 2) 32 q1.2.1)]) (c_X5_weigh l G t5 t0 t4 t5_shares t5_chances t5_all t0_ice t4_marks t4_weights t4_beds t4_isKept q1 r1) C hK hP hD hS hA hz hl [6, 7, 8, 1, 2, 3, 4, 5] [0] [0, 4, 5, 6, 7, 8, 1, 2, 3] rfl rfl rfl rfl rfl (by decide) rfl rfl rfl kcode_X5_weigh kml_X10_247 kim_X5_weigh ksel_X5_weigh kini_X5 (by decide +kernel) ⟨⟨rfl, rfl⟩, Nat.le_of_ble_eq_true rfl, Nat.le_of_ble_eq_true rfl⟩ ⟨Nat.zero_le _, Nat.zero_le _⟩ rfl rfl rfl rfl rfl (Nat.le_of_ble_eq_true rfl) dX10_best_12 rfl (fun H locs hP hD hS => ?_)
    refine lv_aload_n hx hb dX10_best_15 rfl (lv_at hl 0 rfl) ?_
    refine va_get (D := G.1) (ci := 10) (v := .ref (t5 0)) (C := RX10) (T := TX10) (N := 11) hx hb ht twX10 hown hK.1 hP 0 rfl rfl 8 (by decide) (ht _ kfl_X10_68) (fun _ h9 => h9) rfl dX10_best_16 ?_
    refine va_get (D := G.1) (ci := 5) (v := .long q1.2.2) (C := RX5) (T := TX5) (N := 3) hx hb ht twX5 hown hK.1 hP 6 rfl rfl 2 (by decide) (ht _ kfl_X10_251) (fun _ h9 => h9) rfl dX10_best_19 ?_
    refine lv_lconst (v := 0) hx hb dX10_best_22 (by decide) ?_
    refine W.lcmp hx hb dX10_best_23 ?_
    refine lv_if_ne (tgt := 32) hx hb dX10_best_24 (by decide) (fun c2 => ?_) (fun c2 => ?_)
    · have hf := o_f c2 hf
      refine lv_aload_n hx hb dX10_best_32 rfl (lv_at hl 0 rfl) ?_
      refine va_get (D := G.1) (ci := 10) (v := .ref (t5 0)) (C := RX10) (T := TX10) (N := 11) hx hb ht twX10 hown hK.1 hP 0 rfl rfl 8 (by decide) (ht _ kfl_X10_68) (fun _ h9 => h9) rfl dX10_best_33 ?_
      obtain ⟨q3, r3, hf⟩ := bd_s hf
      refine ro_V (n := 0) (As := []) (rest := []) (c_X5_greatest l G t5 q1.1 q1.2.2 q3 r3) C (hK.at hS hz) (hP.sub [6, 7] rfl) hl kcode_X5_greatest kml_X10_261 kim_X5_greatest ksel_X5_greatest kini_X5 (by decide +kernel) ⟨⟨rfl, rfl⟩, Nat.le_of_ble_eq_true rfl, Nat.le_of_ble_eq_true rfl⟩ ⟨Nat.zero_le _, Nat.zero_le _⟩ rfl rfl rfl rfl rfl (Nat.le_of_ble_eq_true rfl) dX10_best_36 rfl ?_
      have h9 := Option.some.inj hf
      subst h9
      exact rw_iret C rfl hP hD hS dX10_best_39
    · have hf := o_t c2 hf
      refine lv_bipush (v := -3) hx hb dX10_best_27 (by decide) ?_
      refine lv_goto (tgt := 39) hx hb dX10_best_29 (by decide) ?_
      have h9 := Option.some.inj hf
      subst h9
      exact rw_iret C rfl hP hD hS dX10_best_39
  rw [eH, el] at key
  exact key
abbrev Wc_X10_mover (l : Launch) (G : TG) (x : Nat → Nat) (t9 : Nat → Nat) (t6 : Nat → Nat) (t8 : Nat → Nat) (t3 : Nat → Nat) (t7 : Nat → Nat) (t1 : Nat → Nat) (t0 : Nat → Nat) (t4 : Nat → Nat) (t5 : Nat → Nat) (t2 : Nat → Nat) (t0_ice : Nat → Int32) (t4_marks : Nat → Int32) (t4_weights : Nat → Int32) (t4_beds : Int32) (t4_isKept : Int32) (t5_shares : Nat → Int64) (t5_chances : Nat → Int32) (t5_all : Int64) (R : Int32 × (Nat → Int64) × (Nat → Int32) × Int64) (p : Program) (e : Env) (s : State) (m : MethodId) (below : List Frame) (meth : Method) (c : Code) (A : Nat → Prop) (H : Heap) (locs : List Loc) (g : JFrame) : Prop := W p l e ({ frames := 6, cells := 0, slots := 0, locals := 142 }) s m ([.ref (x 0)] : List Value).toArray below meth c H locs 0 0 (MQ below (rwQ G (some (.int R.1)) [(oX10 x t9 t6 t8 t3 t7 t1 t0 t4 t5 t2), (oX0 t0), (wI G (t0 1) 400 t0_ice), (oX4 t4 t4_beds t4_isKept), (wI G (t4 1) 48 t4_marks), (wI G (t4 2) 4 t4_weights), (oX5 t5 R.2.2.2), (wJ G (t5 1) 4 R.2.1), (wI G (t5 2) 32 R.2.2.1)] A) ([.ref (x 0)] : List Value).toArray s 0 0 A) g
set_option maxHeartbeats 4000000 in
set_option maxRecDepth 100000 in
theorem c_X10_mover (l : Launch) (G : TG) (x : Nat → Nat) (t9 : Nat → Nat) (t6 : Nat → Nat) (t8 : Nat → Nat) (t3 : Nat → Nat) (t7 : Nat → Nat) (t1 : Nat → Nat) (t0 : Nat → Nat) (t4 : Nat → Nat) (t5 : Nat → Nat) (t2 : Nat → Nat) (t0_ice : Nat → Int32) (t4_marks : Nat → Int32) (t4_weights : Nat → Int32) (t4_beds : Int32) (t4_isKept : Int32) (t5_shares : Nat → Int64) (t5_chances : Nat → Int32) (t5_all : Int64) (R : Int32 × (Nat → Int64) × (Nat → Int32) × Int64) (hf : f_X10_mover t0_ice t4_marks t4_weights t4_beds t5_shares t5_chances = some R) : RW l yX10_mover cX10_mover 1 (some .int) ({ frames := 6, cells := 0, slots := 0, locals := 142 }) G [.ref (x 0)] [(oX10 x t9 t6 t8 t3 t7 t1 t0 t4 t5 t2), (oX0 t0), (wI G (t0 1) 400 t0_ice), (oX4 t4 t4_beds t4_isKept), (wI G (t4 1) 48 t4_marks), (wI G (t4 2) 4 t4_weights), (oX5 t5 t5_all), (wJ G (t5 1) 4 t5_shares), (wI G (t5 2) 32 t5_chances)] (some (.int R.1)) [(oX10 x t9 t6 t8 t3 t7 t1 t0 t4 t5 t2), (oX0 t0), (wI G (t0 1) 400 t0_ice), (oX4 t4 t4_beds t4_isKept), (wI G (t4 1) 48 t4_marks), (wI G (t4 2) 4 t4_weights), (oX5 t5 R.2.2.2), (wJ G (t5 1) 4 R.2.1), (wI G (t5 2) 32 R.2.2.1)] := by
  refine RW.mk (by decide +kernel) (Nat.le_of_ble_eq_true rfl) ?_
  intro p e s m below meth c ls A C hP hD hA hz hK hl hS
  have hx := C.1
  have hb := C.2.1
  have hown : s.vm.findClass RX10 = some m.cls := C.2.2.2.2.2.1
  have ht := C.2.2.2.2.2.2
  have hl : lv_has ls 1 [(0, .ref (x 0))] := hl
  show Wc_X10_mover l G x t9 t6 t8 t3 t7 t1 t0 t4 t5 t2 t0_ice t4_marks t4_weights t4_beds t4_isKept t5_shares t5_chances t5_all R p e s m below meth c A s.heap [] (F0 m 0 ls [])
  obtain ⟨H, eH, hP, hS⟩ : ∃ H, H = s.heap ∧ va_P G.1 vwCl [(oX10 x t9 t6 t8 t3 t7 t1 t0 t4 t5 t2), (oX0 t0), (wI G (t0 1) 400 t0_ice), (oX4 t4 t4_beds t4_isKept), (wI G (t4 1) 48 t4_marks), (wI G (t4 2) 4 t4_weights), (oX5 t5 t5_all), (wJ G (t5 1) 4 t5_shares), (wI G (t5 2) 32 t5_chances)] H ∧ va_S A s.heap H [] := ⟨_, rfl, hP, hS⟩
  obtain ⟨locs, el, hS⟩ : ∃ locs : List Loc, locs = [] ∧ va_S A s.heap H locs := ⟨_, rfl, hS⟩
  have key : Wc_X10_mover l G x t9 t6 t8 t3 t7 t1 t0 t4 t5 t2 t0_ice t4_marks t4_weights t4_beds t4_isKept t5_shares t5_chances t5_all R p e s m below meth c A H locs (F0 m 0 ls []) := by
    refine lv_aload_n hx hb dX10_mover_0 rfl (lv_at hl 0 rfl) ?_
    refine va_get (D := G.1) (ci := 10) (v := .ref (t5 0)) (C := RX10) (T := TX10) (N := 11) hx hb ht twX10 hown hK.1 hP 0 rfl rfl 8 (by decide) (ht _ kfl_X10_68) (fun _ h9 => h9) rfl dX10_mover_1 ?_
    refine lv_aload_n hx hb dX10_mover_4 rfl (lv_at hl 0 rfl) ?_
    refine va_get (D := G.1) (ci := 10) (v := .ref (t0 0)) (C := RX10) (T := TX10) (N := 11) hx hb ht twX10 hown hK.1 hP 0 rfl rfl 6 (by decide) (ht _ kfl_X10_54) (fun _ h9 => h9) rfl dX10_mover_5 ?_
    refine lv_aload_n hx hb dX10_mover_8 rfl (lv_at hl 0 rfl) ?_
    refine va_get (D := G.1) (ci := 10) (v := .ref (t4 0)) (C := RX10) (T := TX10) (N := 11) hx hb ht twX10 hown hK.1 hP 0 rfl rfl 7 (by decide) (ht _ kfl_X10_61) (fun _ h9 => h9) rfl dX10_mover_9 ?_
    obtain ⟨q1, r1, hf⟩ := bd_s hf
    refine rw_V (n := 2) (As := [.ref (t0 0), .ref (t4 0)]) (rest := []) (wr := [(oX10 x t9 t6 t8 t3 t7 t1 t0 t4 t5 t2)]) (ws2 := [(oX10 x t9 t6 t8 t3 t7 t1 t0 t4 t5 t2), (oX0 t0), (wI G (t0 1) 400 t0_ice), (oX4 t4 t4_beds t4_isKept), (wI G (t4 1) 48 t4_marks), (wI G (t4 2) 4 t4_weights), (oX5 t5 q1.2.2), (wJ G (t5 1) 4 q1.1), (wI G (t5 2) 32 q1.2.1)]) (c_X5_weigh l G t5 t0 t4 t5_shares t5_chances t5_all t0_ice t4_marks t4_weights t4_beds t4_isKept q1 r1) C hK hP hD hS hA hz hl [6, 7, 8, 1, 2, 3, 4, 5] [0] [0, 4, 5, 6, 7, 8, 1, 2, 3] rfl rfl rfl rfl rfl (by decide) rfl rfl rfl kcode_X5_weigh kml_X10_247 kim_X5_weigh ksel_X5_weigh kini_X5 (by decide +kernel) ⟨⟨rfl, rfl⟩, Nat.le_of_ble_eq_true rfl, Nat.le_of_ble_eq_true rfl⟩ ⟨Nat.zero_le _, Nat.zero_le _⟩ rfl rfl rfl rfl rfl (Nat.le_of_ble_eq_true rfl) dX10_mover_12 rfl (fun H locs hP hD hS => ?_)
    refine lv_aload_n hx hb dX10_mover_15 rfl (lv_at hl 0 rfl) ?_
    refine va_get (D := G.1) (ci := 10) (v := .ref (t5 0)) (C := RX10) (T := TX10) (N := 11) hx hb ht twX10 hown hK.1 hP 0 rfl rfl 8 (by decide) (ht _ kfl_X10_68) (fun _ h9 => h9) rfl dX10_mover_16 ?_
    refine va_get (D := G.1) (ci := 5) (v := .long q1.2.2) (C := RX5) (T := TX5) (N := 3) hx hb ht twX5 hown hK.1 hP 6 rfl rfl 2 (by decide) (ht _ kfl_X10_251) (fun _ h9 => h9) rfl dX10_mover_19 ?_
    refine lv_lconst (v := 0) hx hb dX10_mover_22 (by decide) ?_
    refine W.lcmp hx hb dX10_mover_23 ?_
    refine lv_if_ne (tgt := 32) hx hb dX10_mover_24 (by decide) (fun c2 => ?_) (fun c2 => ?_)
    · have hf := o_f c2 hf
      refine lv_aload_n hx hb dX10_mover_32 rfl (lv_at hl 0 rfl) ?_
      refine va_get (D := G.1) (ci := 10) (v := .ref (t5 0)) (C := RX10) (T := TX10) (N := 11) hx hb ht twX10 hown hK.1 hP 0 rfl rfl 8 (by decide) (ht _ kfl_X10_68) (fun _ h9 => h9) rfl dX10_mover_33 ?_
      refine lv_aload_n hx hb dX10_mover_36 rfl (lv_at hl 0 rfl) ?_
      refine va_get (D := G.1) (ci := 10) (v := .ref (t4 0)) (C := RX10) (T := TX10) (N := 11) hx hb ht twX10 hown hK.1 hP 0 rfl rfl 7 (by decide) (ht _ kfl_X10_61) (fun _ h9 => h9) rfl dX10_mover_37 ?_
      obtain ⟨q3, r3, hf⟩ := bd_s hf
      refine rw_V (n := 1) (As := [.ref (t4 0)]) (rest := []) (wr := [(oX10 x t9 t6 t8 t3 t7 t1 t0 t4 t5 t2), (oX0 t0), (wI G (t0 1) 400 t0_ice), (wI G (t4 1) 48 t4_marks)]) (ws2 := [(oX10 x t9 t6 t8 t3 t7 t1 t0 t4 t5 t2), (oX0 t0), (wI G (t0 1) 400 t0_ice), (oX4 t4 t4_beds t4_isKept), (wI G (t4 1) 48 t4_marks), (wI G (t4 2) 4 t4_weights), (oX5 t5 q3.2.2), (wJ G (t5 1) 4 q3.2.1), (wI G (t5 2) 32 q1.2.1)]) (c_X5_bedThatMovesMost l G t5 t4 q1.1 q1.2.1 q1.2.2 t4_weights t4_beds t4_isKept q3 r3) C hK hP hD hS hA hz hl [6, 7, 8, 3, 5] [0, 1, 2, 4] [0, 1, 2, 7, 3, 8, 4, 5, 6] rfl rfl rfl rfl rfl (by decide) rfl rfl rfl kcode_X5_bedThatMovesMost kml_X10_264 kim_X5_bedThatMovesMost ksel_X5_bedThatMovesMost kini_X5 (by decide +kernel) ⟨⟨rfl, rfl⟩, Nat.le_of_ble_eq_true rfl, Nat.le_of_ble_eq_true rfl⟩ ⟨Nat.zero_le _, Nat.zero_le _⟩ rfl rfl rfl rfl rfl (Nat.le_of_ble_eq_true rfl) dX10_mover_40 rfl (fun H locs hP hD hS => ?_)
      have h9 := Option.some.inj hf
      subst h9
      exact rw_iret C rfl hP hD hS dX10_mover_43
    · have hf := o_t c2 hf
      refine lv_bipush (v := -3) hx hb dX10_mover_27 (by decide) ?_
      refine lv_goto (tgt := 43) hx hb dX10_mover_29 (by decide) ?_
      have h9 := Option.some.inj hf
      subst h9
      exact rw_iret C rfl hP hD hS dX10_mover_43
  rw [eH, el] at key
  exact key
abbrev Wc_X10_next (l : Launch) (G : TG) (x : Nat → Nat) (t9 : Nat → Nat) (t6 : Nat → Nat) (t8 : Nat → Nat) (t3 : Nat → Nat) (t7 : Nat → Nat) (t1 : Nat → Nat) (t0 : Nat → Nat) (t4 : Nat → Nat) (t5 : Nat → Nat) (t2 : Nat → Nat) (t0_ice : Nat → Int32) (t4_marks : Nat → Int32) (t4_weights : Nat → Int32) (t4_beds : Int32) (t4_isKept : Int32) (t5_shares : Nat → Int64) (t5_chances : Nat → Int32) (t5_all : Int64) (R : Int32 × (Nat → Int64) × (Nat → Int32) × Int64) (p : Program) (e : Env) (s : State) (m : MethodId) (below : List Frame) (meth : Method) (c : Code) (A : Nat → Prop) (H : Heap) (locs : List Loc) (g : JFrame) : Prop := W p l e ({ frames := 6, cells := 0, slots := 0, locals := 142 }) s m ([.ref (x 0)] : List Value).toArray below meth c H locs 0 0 (MQ below (rwQ G (some (.int R.1)) [(oX10 x t9 t6 t8 t3 t7 t1 t0 t4 t5 t2), (oX0 t0), (wI G (t0 1) 400 t0_ice), (oX4 t4 t4_beds t4_isKept), (wI G (t4 1) 48 t4_marks), (wI G (t4 2) 4 t4_weights), (oX5 t5 R.2.2.2), (wJ G (t5 1) 4 R.2.1), (wI G (t5 2) 32 R.2.2.1)] A) ([.ref (x 0)] : List Value).toArray s 0 0 A) g
set_option maxHeartbeats 4000000 in
set_option maxRecDepth 100000 in
theorem c_X10_next (l : Launch) (G : TG) (x : Nat → Nat) (t9 : Nat → Nat) (t6 : Nat → Nat) (t8 : Nat → Nat) (t3 : Nat → Nat) (t7 : Nat → Nat) (t1 : Nat → Nat) (t0 : Nat → Nat) (t4 : Nat → Nat) (t5 : Nat → Nat) (t2 : Nat → Nat) (t0_ice : Nat → Int32) (t4_marks : Nat → Int32) (t4_weights : Nat → Int32) (t4_beds : Int32) (t4_isKept : Int32) (t5_shares : Nat → Int64) (t5_chances : Nat → Int32) (t5_all : Int64) (R : Int32 × (Nat → Int64) × (Nat → Int32) × Int64) (hf : f_X10_next t0_ice t4_marks t4_weights t4_beds t5_shares t5_chances = some R) : RW l yX10_next cX10_next 1 (some .int) ({ frames := 6, cells := 0, slots := 0, locals := 142 }) G [.ref (x 0)] [(oX10 x t9 t6 t8 t3 t7 t1 t0 t4 t5 t2), (oX0 t0), (wI G (t0 1) 400 t0_ice), (oX4 t4 t4_beds t4_isKept), (wI G (t4 1) 48 t4_marks), (wI G (t4 2) 4 t4_weights), (oX5 t5 t5_all), (wJ G (t5 1) 4 t5_shares), (wI G (t5 2) 32 t5_chances)] (some (.int R.1)) [(oX10 x t9 t6 t8 t3 t7 t1 t0 t4 t5 t2), (oX0 t0), (wI G (t0 1) 400 t0_ice), (oX4 t4 t4_beds t4_isKept), (wI G (t4 1) 48 t4_marks), (wI G (t4 2) 4 t4_weights), (oX5 t5 R.2.2.2), (wJ G (t5 1) 4 R.2.1), (wI G (t5 2) 32 R.2.2.1)] := by
  refine RW.mk (by decide +kernel) (Nat.le_of_ble_eq_true rfl) ?_
  intro p e s m below meth c ls A C hP hD hA hz hK hl hS
  have hx := C.1
  have hb := C.2.1
  have hown : s.vm.findClass RX10 = some m.cls := C.2.2.2.2.2.1
  have ht := C.2.2.2.2.2.2
  have hl : lv_has ls 1 [(0, .ref (x 0))] := hl
  show Wc_X10_next l G x t9 t6 t8 t3 t7 t1 t0 t4 t5 t2 t0_ice t4_marks t4_weights t4_beds t4_isKept t5_shares t5_chances t5_all R p e s m below meth c A s.heap [] (F0 m 0 ls [])
  obtain ⟨H, eH, hP, hS⟩ : ∃ H, H = s.heap ∧ va_P G.1 vwCl [(oX10 x t9 t6 t8 t3 t7 t1 t0 t4 t5 t2), (oX0 t0), (wI G (t0 1) 400 t0_ice), (oX4 t4 t4_beds t4_isKept), (wI G (t4 1) 48 t4_marks), (wI G (t4 2) 4 t4_weights), (oX5 t5 t5_all), (wJ G (t5 1) 4 t5_shares), (wI G (t5 2) 32 t5_chances)] H ∧ va_S A s.heap H [] := ⟨_, rfl, hP, hS⟩
  obtain ⟨locs, el, hS⟩ : ∃ locs : List Loc, locs = [] ∧ va_S A s.heap H locs := ⟨_, rfl, hS⟩
  have key : Wc_X10_next l G x t9 t6 t8 t3 t7 t1 t0 t4 t5 t2 t0_ice t4_marks t4_weights t4_beds t4_isKept t5_shares t5_chances t5_all R p e s m below meth c A H locs (F0 m 0 ls []) := by
    refine lv_aload_n hx hb dX10_next_0 rfl (lv_at hl 0 rfl) ?_
    refine va_get (D := G.1) (ci := 10) (v := .ref (t5 0)) (C := RX10) (T := TX10) (N := 11) hx hb ht twX10 hown hK.1 hP 0 rfl rfl 8 (by decide) (ht _ kfl_X10_68) (fun _ h9 => h9) rfl dX10_next_1 ?_
    refine lv_aload_n hx hb dX10_next_4 rfl (lv_at hl 0 rfl) ?_
    refine va_get (D := G.1) (ci := 10) (v := .ref (t0 0)) (C := RX10) (T := TX10) (N := 11) hx hb ht twX10 hown hK.1 hP 0 rfl rfl 6 (by decide) (ht _ kfl_X10_54) (fun _ h9 => h9) rfl dX10_next_5 ?_
    refine lv_aload_n hx hb dX10_next_8 rfl (lv_at hl 0 rfl) ?_
    refine va_get (D := G.1) (ci := 10) (v := .ref (t4 0)) (C := RX10) (T := TX10) (N := 11) hx hb ht twX10 hown hK.1 hP 0 rfl rfl 7 (by decide) (ht _ kfl_X10_61) (fun _ h9 => h9) rfl dX10_next_9 ?_
    obtain ⟨q1, r1, hf⟩ := bd_s hf
    refine rw_V (n := 2) (As := [.ref (t0 0), .ref (t4 0)]) (rest := []) (wr := [(oX10 x t9 t6 t8 t3 t7 t1 t0 t4 t5 t2)]) (ws2 := [(oX10 x t9 t6 t8 t3 t7 t1 t0 t4 t5 t2), (oX0 t0), (wI G (t0 1) 400 t0_ice), (oX4 t4 t4_beds t4_isKept), (wI G (t4 1) 48 t4_marks), (wI G (t4 2) 4 t4_weights), (oX5 t5 q1.2.2), (wJ G (t5 1) 4 q1.1), (wI G (t5 2) 32 q1.2.1)]) (c_X5_weigh l G t5 t0 t4 t5_shares t5_chances t5_all t0_ice t4_marks t4_weights t4_beds t4_isKept q1 r1) C hK hP hD hS hA hz hl [6, 7, 8, 1, 2, 3, 4, 5] [0] [0, 4, 5, 6, 7, 8, 1, 2, 3] rfl rfl rfl rfl rfl (by decide) rfl rfl rfl kcode_X5_weigh kml_X10_247 kim_X5_weigh ksel_X5_weigh kini_X5 (by decide +kernel) ⟨⟨rfl, rfl⟩, Nat.le_of_ble_eq_true rfl, Nat.le_of_ble_eq_true rfl⟩ ⟨Nat.zero_le _, Nat.zero_le _⟩ rfl rfl rfl rfl rfl (Nat.le_of_ble_eq_true rfl) dX10_next_12 rfl (fun H locs hP hD hS => ?_)
    refine lv_aload_n hx hb dX10_next_15 rfl (lv_at hl 0 rfl) ?_
    refine va_get (D := G.1) (ci := 10) (v := .ref (t5 0)) (C := RX10) (T := TX10) (N := 11) hx hb ht twX10 hown hK.1 hP 0 rfl rfl 8 (by decide) (ht _ kfl_X10_68) (fun _ h9 => h9) rfl dX10_next_16 ?_
    refine va_get (D := G.1) (ci := 5) (v := .long q1.2.2) (C := RX5) (T := TX5) (N := 3) hx hb ht twX5 hown hK.1 hP 6 rfl rfl 2 (by decide) (ht _ kfl_X10_251) (fun _ h9 => h9) rfl dX10_next_19 ?_
    refine lv_lconst (v := 0) hx hb dX10_next_22 (by decide) ?_
    refine W.lcmp hx hb dX10_next_23 ?_
    refine lv_if_ne (tgt := 32) hx hb dX10_next_24 (by decide) (fun c2 => ?_) (fun c2 => ?_)
    · have hf := o_f c2 hf
      refine lv_aload_n hx hb dX10_next_32 rfl (lv_at hl 0 rfl) ?_
      refine va_get (D := G.1) (ci := 10) (v := .ref (t5 0)) (C := RX10) (T := TX10) (N := 11) hx hb ht twX10 hown hK.1 hP 0 rfl rfl 8 (by decide) (ht _ kfl_X10_68) (fun _ h9 => h9) rfl dX10_next_33 ?_
      refine lv_aload_n hx hb dX10_next_36 rfl (lv_at hl 0 rfl) ?_
      refine va_get (D := G.1) (ci := 10) (v := .ref (t0 0)) (C := RX10) (T := TX10) (N := 11) hx hb ht twX10 hown hK.1 hP 0 rfl rfl 6 (by decide) (ht _ kfl_X10_54) (fun _ h9 => h9) rfl dX10_next_37 ?_
      obtain ⟨q3, r3, hf⟩ := bd_s hf
      refine ro_V (n := 1) (As := [.ref (t0 0)]) (rest := []) (c_X5_whereToGo l G t5 t0 q1.1 q1.2.2 t0_ice q3 r3) C (hK.at hS hz) (hP.sub [6, 7, 1, 2] rfl) hl kcode_X5_whereToGo kml_X10_268 kim_X5_whereToGo ksel_X5_whereToGo kini_X5 (by decide +kernel) ⟨⟨rfl, rfl⟩, Nat.le_of_ble_eq_true rfl, Nat.le_of_ble_eq_true rfl⟩ ⟨Nat.zero_le _, Nat.zero_le _⟩ rfl rfl rfl rfl rfl (Nat.le_of_ble_eq_true rfl) dX10_next_40 rfl ?_
      have h9 := Option.some.inj hf
      subst h9
      exact rw_iret C rfl hP hD hS dX10_next_43
    · have hf := o_t c2 hf
      refine lv_bipush (v := -3) hx hb dX10_next_27 (by decide) ?_
      refine lv_goto (tgt := 43) hx hb dX10_next_29 (by decide) ?_
      have h9 := Option.some.inj hf
      subst h9
      exact rw_iret C rfl hP hD hS dX10_next_43
  rw [eH, el] at key
  exact key
abbrev Wc_X10_once (l : Launch) (G : TG) (x : Nat → Nat) (t9 : Nat → Nat) (t6 : Nat → Nat) (t8 : Nat → Nat) (t3 : Nat → Nat) (t7 : Nat → Nat) (t1 : Nat → Nat) (t0 : Nat → Nat) (t4 : Nat → Nat) (t5 : Nat → Nat) (t2 : Nat → Nat) (t4_marks : Nat → Int32) (t4_beds : Int32) (t4_isKept : Int32) (R : Int32) (p : Program) (e : Env) (s : State) (m : MethodId) (below : List Frame) (meth : Method) (c : Code) (H : Heap) (locs : List Loc) (g : JFrame) : Prop := W p l e ({ frames := 5, cells := 0, slots := 0, locals := 111 }) s m ([.ref (x 0)] : List Value).toArray below meth c H locs 0 0 (MQ below (roQ (some (.int R))) ([.ref (x 0)] : List Value).toArray s 0 0 (fun _ => False)) g
set_option maxHeartbeats 4000000 in
set_option maxRecDepth 100000 in
theorem c_X10_once (l : Launch) (G : TG) (x : Nat → Nat) (t9 : Nat → Nat) (t6 : Nat → Nat) (t8 : Nat → Nat) (t3 : Nat → Nat) (t7 : Nat → Nat) (t1 : Nat → Nat) (t0 : Nat → Nat) (t4 : Nat → Nat) (t5 : Nat → Nat) (t2 : Nat → Nat) (t4_marks : Nat → Int32) (t4_beds : Int32) (t4_isKept : Int32) (R : Int32) (hf : f_X10_once t4_marks t4_beds = some R) : RO l yX10_once cX10_once 1 (some .int) ({ frames := 5, cells := 0, slots := 0, locals := 111 }) G [.ref (x 0)] [(oX10 x t9 t6 t8 t3 t7 t1 t0 t4 t5 t2), (oX4 t4 t4_beds t4_isKept), (wI G (t4 1) 48 t4_marks)] (some (.int R)) := by
  refine RO.mk (by decide +kernel) (Nat.le_of_ble_eq_true rfl) ?_
  intro p e s m below meth c ls C hP hK hl
  have hx := C.1
  have hb := C.2.1
  have hown : s.vm.findClass RX10 = some m.cls := C.2.2.2.2.2.1
  have ht := C.2.2.2.2.2.2
  have hl : lv_has ls 1 [(0, .ref (x 0))] := hl
  show Wc_X10_once l G x t9 t6 t8 t3 t7 t1 t0 t4 t5 t2 t4_marks t4_beds t4_isKept R p e s m below meth c s.heap [] (F0 m 0 ls [])
  refine lv_aload_n hx hb dX10_once_0 rfl (lv_at hl 0 rfl) ?_
  refine va_get (D := G.1) (ci := 10) (v := .ref (t4 0)) (C := RX10) (T := TX10) (N := 11) hx hb ht twX10 hown hK.1 hP 0 rfl rfl 7 (by decide) (ht _ kfl_X10_61) (fun _ h9 => h9) rfl dX10_once_1 ?_
  obtain ⟨q1, r1, hf⟩ := bd_s hf
  refine ro_S (n := 1) (As := [.ref (t4 0)]) (rest := []) (c_X2_firstCommonRound l G t4 t4_marks t4_beds t4_isKept q1 r1) C hK (hP.sub [1, 2] rfl) hl kcode_X2_firstCommonRound kml_X10_272 kst_X2_firstCommonRound kini_X2 (by decide +kernel) ⟨⟨rfl, rfl⟩, Nat.le_of_ble_eq_true rfl, Nat.le_of_ble_eq_true rfl⟩ ⟨Nat.zero_le _, Nat.zero_le _⟩ rfl rfl (Nat.le_of_ble_eq_true rfl) dX10_once_4 rfl ?_
  have h9 := Option.some.inj hf
  subst h9
  exact ro_iret C rfl dX10_once_7
abbrev Wc_X10_times (l : Launch) (G : TG) (x : Nat → Nat) (t9 : Nat → Nat) (t6 : Nat → Nat) (t8 : Nat → Nat) (t3 : Nat → Nat) (t7 : Nat → Nat) (t1 : Nat → Nat) (t0 : Nat → Nat) (t4 : Nat → Nat) (t5 : Nat → Nat) (t2 : Nat → Nat) (t4_marks : Nat → Int32) (t4_beds : Int32) (t4_isKept : Int32) (t2_rounds : Nat → Int32) (t2_found : Int32) (R : Int32 × (Nat → Int32) × Int32) (p : Program) (e : Env) (s : State) (m : MethodId) (below : List Frame) (meth : Method) (c : Code) (A : Nat → Prop) (H : Heap) (locs : List Loc) (g : JFrame) : Prop := W p l e ({ frames := 6, cells := 0, slots := 0, locals := 137 }) s m ([.ref (x 0)] : List Value).toArray below meth c H locs 0 0 (MQ below (rwQ G (some (.int R.1)) [(oX10 x t9 t6 t8 t3 t7 t1 t0 t4 t5 t2), (oX4 t4 t4_beds t4_isKept), (wI G (t4 1) 48 t4_marks), (oX2 t2 R.2.2), (wI G (t2 1) 8 R.2.1)] A) ([.ref (x 0)] : List Value).toArray s 0 0 A) g
set_option maxHeartbeats 4000000 in
set_option maxRecDepth 100000 in
theorem c_X10_times (l : Launch) (G : TG) (x : Nat → Nat) (t9 : Nat → Nat) (t6 : Nat → Nat) (t8 : Nat → Nat) (t3 : Nat → Nat) (t7 : Nat → Nat) (t1 : Nat → Nat) (t0 : Nat → Nat) (t4 : Nat → Nat) (t5 : Nat → Nat) (t2 : Nat → Nat) (t4_marks : Nat → Int32) (t4_beds : Int32) (t4_isKept : Int32) (t2_rounds : Nat → Int32) (t2_found : Int32) (R : Int32 × (Nat → Int32) × Int32) (hf : f_X10_times t4_marks t4_beds t2_rounds = some R) : RW l yX10_times cX10_times 1 (some .int) ({ frames := 6, cells := 0, slots := 0, locals := 137 }) G [.ref (x 0)] [(oX10 x t9 t6 t8 t3 t7 t1 t0 t4 t5 t2), (oX4 t4 t4_beds t4_isKept), (wI G (t4 1) 48 t4_marks), (oX2 t2 t2_found), (wI G (t2 1) 8 t2_rounds)] (some (.int R.1)) [(oX10 x t9 t6 t8 t3 t7 t1 t0 t4 t5 t2), (oX4 t4 t4_beds t4_isKept), (wI G (t4 1) 48 t4_marks), (oX2 t2 R.2.2), (wI G (t2 1) 8 R.2.1)] := by
  refine RW.mk (by decide +kernel) (Nat.le_of_ble_eq_true rfl) ?_
  intro p e s m below meth c ls A C hP hD hA hz hK hl hS
  have hx := C.1
  have hb := C.2.1
  have hown : s.vm.findClass RX10 = some m.cls := C.2.2.2.2.2.1
  have ht := C.2.2.2.2.2.2
  have hl : lv_has ls 1 [(0, .ref (x 0))] := hl
  show Wc_X10_times l G x t9 t6 t8 t3 t7 t1 t0 t4 t5 t2 t4_marks t4_beds t4_isKept t2_rounds t2_found R p e s m below meth c A s.heap [] (F0 m 0 ls [])
  obtain ⟨H, eH, hP, hS⟩ : ∃ H, H = s.heap ∧ va_P G.1 vwCl [(oX10 x t9 t6 t8 t3 t7 t1 t0 t4 t5 t2), (oX4 t4 t4_beds t4_isKept), (wI G (t4 1) 48 t4_marks), (oX2 t2 t2_found), (wI G (t2 1) 8 t2_rounds)] H ∧ va_S A s.heap H [] := ⟨_, rfl, hP, hS⟩
  obtain ⟨locs, el, hS⟩ : ∃ locs : List Loc, locs = [] ∧ va_S A s.heap H locs := ⟨_, rfl, hS⟩
  have key : Wc_X10_times l G x t9 t6 t8 t3 t7 t1 t0 t4 t5 t2 t4_marks t4_beds t4_isKept t2_rounds t2_found R p e s m below meth c A H locs (F0 m 0 ls []) := by
    refine lv_aload_n hx hb dX10_times_0 rfl (lv_at hl 0 rfl) ?_
    refine va_get (D := G.1) (ci := 10) (v := .ref (t2 0)) (C := RX10) (T := TX10) (N := 11) hx hb ht twX10 hown hK.1 hP 0 rfl rfl 9 (by decide) (ht _ kfl_X10_75) (fun _ h9 => h9) rfl dX10_times_1 ?_
    refine lv_aload_n hx hb dX10_times_4 rfl (lv_at hl 0 rfl) ?_
    refine va_get (D := G.1) (ci := 10) (v := .ref (t4 0)) (C := RX10) (T := TX10) (N := 11) hx hb ht twX10 hown hK.1 hP 0 rfl rfl 7 (by decide) (ht _ kfl_X10_61) (fun _ h9 => h9) rfl dX10_times_5 ?_
    obtain ⟨q1, r1, hf⟩ := bd_s hf
    refine rw_V (n := 1) (As := [.ref (t4 0)]) (rest := []) (wr := [(oX10 x t9 t6 t8 t3 t7 t1 t0 t4 t5 t2)]) (ws2 := [(oX10 x t9 t6 t8 t3 t7 t1 t0 t4 t5 t2), (oX4 t4 t4_beds t4_isKept), (wI G (t4 1) 48 t4_marks), (oX2 t2 q1.2), (wI G (t2 1) 8 q1.1)]) (c_X2_part l G t2 t4 t2_rounds t2_found t4_marks t4_beds t4_isKept q1 r1) C hK hP hD hS hA hz hl [3, 4, 1, 2] [0] [0, 3, 4, 1, 2] rfl rfl rfl rfl rfl (by decide) rfl rfl rfl kcode_X2_part kml_X10_275 kim_X2_part ksel_X2_part kini_X2 (by decide +kernel) ⟨⟨rfl, rfl⟩, Nat.le_of_ble_eq_true rfl, Nat.le_of_ble_eq_true rfl⟩ ⟨Nat.zero_le _, Nat.zero_le _⟩ rfl rfl rfl rfl rfl (Nat.le_of_ble_eq_true rfl) dX10_times_8 rfl (fun H locs hP hD hS => ?_)
    refine lv_aload_n hx hb dX10_times_11 rfl (lv_at hl 0 rfl) ?_
    refine va_get (D := G.1) (ci := 10) (v := .ref (t2 0)) (C := RX10) (T := TX10) (N := 11) hx hb ht twX10 hown hK.1 hP 0 rfl rfl 9 (by decide) (ht _ kfl_X10_75) (fun _ h9 => h9) rfl dX10_times_12 ?_
    refine va_get (D := G.1) (ci := 2) (v := .int q1.2) (C := RX2) (T := TX2) (N := 2) hx hb ht twX2 hown hK.1 hP 3 rfl rfl 1 (by decide) (ht _ kfl_X10_279) (fun _ h9 => h9) rfl dX10_times_15 ?_
    have h9 := Option.some.inj hf
    subst h9
    exact rw_iret C rfl hP hD hS dX10_times_18
  rw [eH, el] at key
  exact key
abbrev Wc_X10_time (l : Launch) (G : TG) (x : Nat → Nat) (t9 : Nat → Nat) (t6 : Nat → Nat) (t8 : Nat → Nat) (t3 : Nat → Nat) (t7 : Nat → Nat) (t1 : Nat → Nat) (t0 : Nat → Nat) (t4 : Nat → Nat) (t5 : Nat → Nat) (t2 : Nat → Nat) (t4_marks : Nat → Int32) (t4_beds : Int32) (t4_isKept : Int32) (t2_rounds : Nat → Int32) (t2_found : Int32) (a1 : Int32) (R : Int32 × (Nat → Int32) × Int32) (p : Program) (e : Env) (s : State) (m : MethodId) (below : List Frame) (meth : Method) (c : Code) (A : Nat → Prop) (H : Heap) (locs : List Loc) (g : JFrame) : Prop := W p l e ({ frames := 6, cells := 0, slots := 0, locals := 137 }) s m ([.ref (x 0), .int a1] : List Value).toArray below meth c H locs 0 0 (MQ below (rwQ G (some (.int R.1)) [(oX10 x t9 t6 t8 t3 t7 t1 t0 t4 t5 t2), (oX4 t4 t4_beds t4_isKept), (wI G (t4 1) 48 t4_marks), (oX2 t2 R.2.2), (wI G (t2 1) 8 R.2.1)] A) ([.ref (x 0), .int a1] : List Value).toArray s 0 0 A) g
set_option maxHeartbeats 4000000 in
set_option maxRecDepth 100000 in
theorem c_X10_time (l : Launch) (G : TG) (x : Nat → Nat) (t9 : Nat → Nat) (t6 : Nat → Nat) (t8 : Nat → Nat) (t3 : Nat → Nat) (t7 : Nat → Nat) (t1 : Nat → Nat) (t0 : Nat → Nat) (t4 : Nat → Nat) (t5 : Nat → Nat) (t2 : Nat → Nat) (t4_marks : Nat → Int32) (t4_beds : Int32) (t4_isKept : Int32) (t2_rounds : Nat → Int32) (t2_found : Int32) (a1 : Int32) (R : Int32 × (Nat → Int32) × Int32) (hf : f_X10_time t4_marks t4_beds t2_rounds a1 = some R) : RW l yX10_time cX10_time 2 (some .int) ({ frames := 6, cells := 0, slots := 0, locals := 137 }) G [.ref (x 0), .int a1] [(oX10 x t9 t6 t8 t3 t7 t1 t0 t4 t5 t2), (oX4 t4 t4_beds t4_isKept), (wI G (t4 1) 48 t4_marks), (oX2 t2 t2_found), (wI G (t2 1) 8 t2_rounds)] (some (.int R.1)) [(oX10 x t9 t6 t8 t3 t7 t1 t0 t4 t5 t2), (oX4 t4 t4_beds t4_isKept), (wI G (t4 1) 48 t4_marks), (oX2 t2 R.2.2), (wI G (t2 1) 8 R.2.1)] := by
  refine RW.mk (by decide +kernel) (Nat.le_of_ble_eq_true rfl) ?_
  intro p e s m below meth c ls A C hP hD hA hz hK hl hS
  have hx := C.1
  have hb := C.2.1
  have hown : s.vm.findClass RX10 = some m.cls := C.2.2.2.2.2.1
  have ht := C.2.2.2.2.2.2
  have hl : lv_has ls 2 [(0, .ref (x 0)), (1, .int a1)] := hl
  show Wc_X10_time l G x t9 t6 t8 t3 t7 t1 t0 t4 t5 t2 t4_marks t4_beds t4_isKept t2_rounds t2_found a1 R p e s m below meth c A s.heap [] (F0 m 0 ls [])
  obtain ⟨H, eH, hP, hS⟩ : ∃ H, H = s.heap ∧ va_P G.1 vwCl [(oX10 x t9 t6 t8 t3 t7 t1 t0 t4 t5 t2), (oX4 t4 t4_beds t4_isKept), (wI G (t4 1) 48 t4_marks), (oX2 t2 t2_found), (wI G (t2 1) 8 t2_rounds)] H ∧ va_S A s.heap H [] := ⟨_, rfl, hP, hS⟩
  obtain ⟨locs, el, hS⟩ : ∃ locs : List Loc, locs = [] ∧ va_S A s.heap H locs := ⟨_, rfl, hS⟩
  have key : Wc_X10_time l G x t9 t6 t8 t3 t7 t1 t0 t4 t5 t2 t4_marks t4_beds t4_isKept t2_rounds t2_found a1 R p e s m below meth c A H locs (F0 m 0 ls []) := by
    refine lv_aload_n hx hb dX10_time_0 rfl (lv_at hl 0 rfl) ?_
    refine va_get (D := G.1) (ci := 10) (v := .ref (t2 0)) (C := RX10) (T := TX10) (N := 11) hx hb ht twX10 hown hK.1 hP 0 rfl rfl 9 (by decide) (ht _ kfl_X10_75) (fun _ h9 => h9) rfl dX10_time_1 ?_
    refine lv_aload_n hx hb dX10_time_4 rfl (lv_at hl 0 rfl) ?_
    refine va_get (D := G.1) (ci := 10) (v := .ref (t4 0)) (C := RX10) (T := TX10) (N := 11) hx hb ht twX10 hown hK.1 hP 0 rfl rfl 7 (by decide) (ht _ kfl_X10_61) (fun _ h9 => h9) rfl dX10_time_5 ?_
    obtain ⟨q1, r1, hf⟩ := bd_s hf
    refine rw_V (n := 1) (As := [.ref (t4 0)]) (rest := []) (wr := [(oX10 x t9 t6 t8 t3 t7 t1 t0 t4 t5 t2)]) (ws2 := [(oX10 x t9 t6 t8 t3 t7 t1 t0 t4 t5 t2), (oX4 t4 t4_beds t4_isKept), (wI G (t4 1) 48 t4_marks), (oX2 t2 q1.2), (wI G (t2 1) 8 q1.1)]) (c_X2_part l G t2 t4 t2_rounds t2_found t4_marks t4_beds t4_isKept q1 r1) C hK hP hD hS hA hz hl [3, 4, 1, 2] [0] [0, 3, 4, 1, 2] rfl rfl rfl rfl rfl (by decide) rfl rfl rfl kcode_X2_part kml_X10_275 kim_X2_part ksel_X2_part kini_X2 (by decide +kernel) ⟨⟨rfl, rfl⟩, Nat.le_of_ble_eq_true rfl, Nat.le_of_ble_eq_true rfl⟩ ⟨Nat.zero_le _, Nat.zero_le _⟩ rfl rfl rfl rfl rfl (Nat.le_of_ble_eq_true rfl) dX10_time_8 rfl (fun H locs hP hD hS => ?_)
    refine lv_aload_n hx hb dX10_time_11 rfl (lv_at hl 0 rfl) ?_
    refine va_get (D := G.1) (ci := 10) (v := .ref (t2 0)) (C := RX10) (T := TX10) (N := 11) hx hb ht twX10 hown hK.1 hP 0 rfl rfl 9 (by decide) (ht _ kfl_X10_75) (fun _ h9 => h9) rfl dX10_time_12 ?_
    refine lv_iload_n hx hb dX10_time_15 rfl (lv_at hl 1 rfl) ?_
    obtain ⟨q2, r2, hf⟩ := bd_s hf
    refine ro_V (n := 1) (As := [.int a1]) (rest := []) (c_X2_roundOf l G t2 q1.1 q1.2 a1 q2 r2) C (hK.at hS hz) (hP.sub [3, 4] rfl) hl kcode_X2_roundOf kml_X10_280 kim_X2_roundOf ksel_X2_roundOf kini_X2 (by decide +kernel) ⟨⟨rfl, rfl⟩, Nat.le_of_ble_eq_true rfl, Nat.le_of_ble_eq_true rfl⟩ ⟨Nat.zero_le _, Nat.zero_le _⟩ rfl rfl rfl rfl rfl (Nat.le_of_ble_eq_true rfl) dX10_time_16 rfl ?_
    have h9 := Option.some.inj hf
    subst h9
    exact rw_iret C rfl hP hD hS dX10_time_19
  rw [eH, el] at key
  exact key
abbrev Wc_X10_order (l : Launch) (G : TG) (x : Nat → Nat) (t9 : Nat → Nat) (t6 : Nat → Nat) (t8 : Nat → Nat) (t3 : Nat → Nat) (t7 : Nat → Nat) (t1 : Nat → Nat) (t0 : Nat → Nat) (t4 : Nat → Nat) (t5 : Nat → Nat) (t2 : Nat → Nat) (t4_marks : Nat → Int32) (t4_beds : Int32) (t4_isKept : Int32) (a1 : Int32) (R : Int32) (p : Program) (e : Env) (s : State) (m : MethodId) (below : List Frame) (meth : Method) (c : Code) (H : Heap) (locs : List Loc) (g : JFrame) : Prop := W p l e ({ frames := 4, cells := 0, slots := 0, locals := 90 }) s m ([.ref (x 0), .int a1] : List Value).toArray below meth c H locs 0 0 (MQ below (roQ (some (.int R))) ([.ref (x 0), .int a1] : List Value).toArray s 0 0 (fun _ => False)) g
set_option maxHeartbeats 4000000 in
set_option maxRecDepth 100000 in
theorem c_X10_order (l : Launch) (G : TG) (x : Nat → Nat) (t9 : Nat → Nat) (t6 : Nat → Nat) (t8 : Nat → Nat) (t3 : Nat → Nat) (t7 : Nat → Nat) (t1 : Nat → Nat) (t0 : Nat → Nat) (t4 : Nat → Nat) (t5 : Nat → Nat) (t2 : Nat → Nat) (t4_marks : Nat → Int32) (t4_beds : Int32) (t4_isKept : Int32) (a1 : Int32) (R : Int32) (hf : f_X10_order t4_marks t4_beds a1 = some R) : RO l yX10_order cX10_order 2 (some .int) ({ frames := 4, cells := 0, slots := 0, locals := 90 }) G [.ref (x 0), .int a1] [(oX10 x t9 t6 t8 t3 t7 t1 t0 t4 t5 t2), (oX4 t4 t4_beds t4_isKept), (wI G (t4 1) 48 t4_marks)] (some (.int R)) := by
  refine RO.mk (by decide +kernel) (Nat.le_of_ble_eq_true rfl) ?_
  intro p e s m below meth c ls C hP hK hl
  have hx := C.1
  have hb := C.2.1
  have hown : s.vm.findClass RX10 = some m.cls := C.2.2.2.2.2.1
  have ht := C.2.2.2.2.2.2
  have hl : lv_has ls 2 [(0, .ref (x 0)), (1, .int a1)] := hl
  show Wc_X10_order l G x t9 t6 t8 t3 t7 t1 t0 t4 t5 t2 t4_marks t4_beds t4_isKept a1 R p e s m below meth c s.heap [] (F0 m 0 ls [])
  refine lv_iload_n hx hb dX10_order_0 rfl (lv_at hl 1 rfl) ?_
  obtain ⟨q1, r1, hf⟩ := bd_s hf
  refine ro_S (n := 1) (As := [.int a1]) (rest := []) (c_X10_isLand l G a1 q1 r1) C hK (hP.sub [] rfl) hl kcode_X10_isLand kml_X10_205 kst_X10_isLand kini_X10 (by decide +kernel) ⟨⟨rfl, rfl⟩, Nat.le_of_ble_eq_true rfl, Nat.le_of_ble_eq_true rfl⟩ ⟨Nat.zero_le _, Nat.zero_le _⟩ rfl rfl (Nat.le_of_ble_eq_true rfl) dX10_order_1 rfl ?_
  refine lv_if_ne (tgt := 9) hx hb dX10_order_4 (by decide) (fun c2 => ?_) (fun c2 => ?_)
  · have hf := o_f c2 hf
    refine lv_aload_n hx hb dX10_order_9 rfl (lv_at hl 0 rfl) ?_
    refine va_get (D := G.1) (ci := 10) (v := .ref (t4 0)) (C := RX10) (T := TX10) (N := 11) hx hb ht twX10 hown hK.1 hP 0 rfl rfl 7 (by decide) (ht _ kfl_X10_61) (fun _ h9 => h9) rfl dX10_order_10 ?_
    refine lv_iload_n hx hb dX10_order_13 rfl (lv_at hl 1 rfl) ?_
    obtain ⟨q3, r3, hf⟩ := bd_s hf
    refine ro_S (n := 2) (As := [.ref (t4 0), .int a1]) (rest := []) (c_X2_isInOrder l G t4 t4_marks t4_beds t4_isKept a1 q3 r3) C hK (hP.sub [1, 2] rfl) hl kcode_X2_isInOrder kml_X10_283 kst_X2_isInOrder kini_X2 (by decide +kernel) ⟨⟨rfl, rfl⟩, Nat.le_of_ble_eq_true rfl, Nat.le_of_ble_eq_true rfl⟩ ⟨Nat.zero_le _, Nat.zero_le _⟩ rfl rfl (Nat.le_of_ble_eq_true rfl) dX10_order_14 rfl ?_
    refine lv_if_eq (tgt := 24) hx hb dX10_order_17 (by decide) (fun c4 => ?_) (fun c4 => ?_)
    · have hf := o_t c4 hf
      refine lv_iconst (v := 0) hx hb dX10_order_24 (by decide) ?_
      have h9 := Option.some.inj hf
      subst h9
      exact ro_iret C rfl dX10_order_25
    · have hf := o_f c4 hf
      refine lv_iconst (v := 1) hx hb dX10_order_20 (by decide) ?_
      refine lv_goto (tgt := 25) hx hb dX10_order_21 (by decide) ?_
      have h9 := Option.some.inj hf
      subst h9
      exact ro_iret C rfl dX10_order_25
  · have hf := o_t c2 hf
    refine lv_iconst (v := -1) hx hb dX10_order_7 (by decide) ?_
    have h9 := Option.some.inj hf
    subst h9
    exact ro_iret C rfl dX10_order_8
abbrev Wc_X10_gap (l : Launch) (G : TG) (x : Nat → Nat) (t9 : Nat → Nat) (t6 : Nat → Nat) (t8 : Nat → Nat) (t3 : Nat → Nat) (t7 : Nat → Nat) (t1 : Nat → Nat) (t0 : Nat → Nat) (t4 : Nat → Nat) (t5 : Nat → Nat) (t2 : Nat → Nat) (t4_marks : Nat → Int32) (t4_beds : Int32) (t4_isKept : Int32) (a1 : Int32) (R : Int32) (p : Program) (e : Env) (s : State) (m : MethodId) (below : List Frame) (meth : Method) (c : Code) (H : Heap) (locs : List Loc) (g : JFrame) : Prop := W p l e ({ frames := 4, cells := 0, slots := 0, locals := 91 }) s m ([.ref (x 0), .int a1] : List Value).toArray below meth c H locs 0 0 (MQ below (roQ (some (.int R))) ([.ref (x 0), .int a1] : List Value).toArray s 0 0 (fun _ => False)) g
set_option maxHeartbeats 4000000 in
set_option maxRecDepth 100000 in
theorem c_X10_gap (l : Launch) (G : TG) (x : Nat → Nat) (t9 : Nat → Nat) (t6 : Nat → Nat) (t8 : Nat → Nat) (t3 : Nat → Nat) (t7 : Nat → Nat) (t1 : Nat → Nat) (t0 : Nat → Nat) (t4 : Nat → Nat) (t5 : Nat → Nat) (t2 : Nat → Nat) (t4_marks : Nat → Int32) (t4_beds : Int32) (t4_isKept : Int32) (a1 : Int32) (R : Int32) (hf : f_X10_gap t4_marks t4_beds a1 = some R) : RO l yX10_gap cX10_gap 4 (some .int) ({ frames := 4, cells := 0, slots := 0, locals := 91 }) G [.ref (x 0), .int a1] [(oX10 x t9 t6 t8 t3 t7 t1 t0 t4 t5 t2), (oX4 t4 t4_beds t4_isKept), (wI G (t4 1) 48 t4_marks)] (some (.int R)) := by
  refine RO.mk (by decide +kernel) (Nat.le_of_ble_eq_true rfl) ?_
  intro p e s m below meth c ls C hP hK hl
  have hx := C.1
  have hb := C.2.1
  have hown : s.vm.findClass RX10 = some m.cls := C.2.2.2.2.2.1
  have ht := C.2.2.2.2.2.2
  have hl : lv_has ls 4 [(0, .ref (x 0)), (1, .int a1)] := hl
  show Wc_X10_gap l G x t9 t6 t8 t3 t7 t1 t0 t4 t5 t2 t4_marks t4_beds t4_isKept a1 R p e s m below meth c s.heap [] (F0 m 0 ls [])
  refine lv_aload_n hx hb dX10_gap_0 rfl (lv_at hl 0 rfl) ?_
  refine lv_iload_n hx hb dX10_gap_1 rfl (lv_at hl 1 rfl) ?_
  obtain ⟨q1, r1, hf⟩ := bd_s hf
  refine ro_V (n := 1) (As := [.int a1]) (rest := []) (c_X10_isBed l G x t9 t6 t8 t3 t7 t1 t0 t4 t5 t2 t4_beds t4_isKept a1 q1 r1) C hK (hP.sub [0, 1] rfl) hl kcode_X10_isBed kml_X10_214 kim_X10_isBed ksel_X10_isBed kini_X10 (by decide +kernel) ⟨⟨rfl, rfl⟩, Nat.le_of_ble_eq_true rfl, Nat.le_of_ble_eq_true rfl⟩ ⟨Nat.zero_le _, Nat.zero_le _⟩ rfl rfl rfl rfl rfl (Nat.le_of_ble_eq_true rfl) dX10_gap_2 rfl ?_
  refine lv_if_ne (tgt := 10) hx hb dX10_gap_5 (by decide) (fun c2 => ?_) (fun c2 => ?_)
  · have hf := o_f c2 hf
    refine lv_aload_n hx hb dX10_gap_10 rfl (lv_at hl 0 rfl) ?_
    refine va_get (D := G.1) (ci := 10) (v := .ref (t4 0)) (C := RX10) (T := TX10) (N := 11) hx hb ht twX10 hown hK.1 hP 0 rfl rfl 7 (by decide) (ht _ kfl_X10_61) (fun _ h9 => h9) rfl dX10_gap_11 ?_
    refine lv_iload_n hx hb dX10_gap_14 rfl (lv_at hl 1 rfl) ?_
    refine lv_iconst (v := 0) hx hb dX10_gap_15 (by decide) ?_
    obtain ⟨q3, r3, hf⟩ := bd_s hf
    refine ro_V (n := 2) (As := [.int a1, .int (0 : Int32)]) (rest := []) (c_X4_markOf l G t4 t4_marks t4_beds t4_isKept a1 (0 : Int32) q3 r3) C hK (hP.sub [1, 2] rfl) hl kcode_X4_markOf kml_X10_223 kim_X4_markOf ksel_X4_markOf kini_X4 (by decide +kernel) ⟨⟨rfl, rfl⟩, Nat.le_of_ble_eq_true rfl, Nat.le_of_ble_eq_true rfl⟩ ⟨Nat.zero_le _, Nat.zero_le _⟩ rfl rfl rfl rfl rfl (Nat.le_of_ble_eq_true rfl) dX10_gap_16 rfl ?_
    refine lv_istore_n (lv' := [(2, .int q3), (0, .ref (x 0)), (1, .int a1)]) hx hb dX10_gap_19 rfl hl (by decide) rfl (fun ls hl => ?_)
    refine lv_aload_n hx hb dX10_gap_20 rfl (lv_at hl 1 rfl) ?_
    refine va_get (D := G.1) (ci := 10) (v := .ref (t4 0)) (C := RX10) (T := TX10) (N := 11) hx hb ht twX10 hown hK.1 hP 0 rfl rfl 7 (by decide) (ht _ kfl_X10_61) (fun _ h9 => h9) rfl dX10_gap_21 ?_
    refine lv_iload_n hx hb dX10_gap_24 rfl (lv_at hl 0 rfl) ?_
    refine lv_iload_n hx hb dX10_gap_25 rfl (lv_at hl 2 rfl) ?_
    obtain ⟨q4, r4, hf⟩ := bd_s hf
    refine ro_S (n := 3) (As := [.ref (t4 0), .int q3, .int a1]) (rest := []) (c_X2_earliestBelow l G t4 t4_marks t4_beds t4_isKept q3 a1 q4 r4) C hK (hP.sub [1, 2] rfl) hl kcode_X2_earliestBelow kml_X10_287 kst_X2_earliestBelow kini_X2 (by decide +kernel) ⟨⟨rfl, rfl⟩, Nat.le_of_ble_eq_true rfl, Nat.le_of_ble_eq_true rfl⟩ ⟨Nat.zero_le _, Nat.zero_le _⟩ rfl rfl (Nat.le_of_ble_eq_true rfl) dX10_gap_26 rfl ?_
    refine lv_istore_n (lv' := [(3, .int q4), (2, .int q3), (0, .ref (x 0)), (1, .int a1)]) hx hb dX10_gap_29 rfl hl (by decide) rfl (fun ls hl => ?_)
    refine lv_iload_n hx hb dX10_gap_30 rfl (lv_at hl 0 rfl) ?_
    refine lv_bipush (v := -9) hx hb dX10_gap_31 (by decide) ?_
    refine lv_icmp_eq (tgt := 47) hx hb dX10_gap_33 (by decide) (fun c5 => ?_) (fun c5 => ?_)
    · have hf := o_t c5 hf
      refine lv_bipush (v := -3) hx hb dX10_gap_47 (by decide) ?_
      have h9 := Option.some.inj hf
      subst h9
      exact ro_iret C rfl dX10_gap_49
    · have hf := o_f c5 hf
      refine lv_aload_n hx hb dX10_gap_36 rfl (lv_at hl 2 rfl) ?_
      refine va_get (D := G.1) (ci := 10) (v := .ref (t4 0)) (C := RX10) (T := TX10) (N := 11) hx hb ht twX10 hown hK.1 hP 0 rfl rfl 7 (by decide) (ht _ kfl_X10_61) (fun _ h9 => h9) rfl dX10_gap_37 ?_
      refine lv_iload_n hx hb dX10_gap_40 rfl (lv_at hl 1 rfl) ?_
      obtain ⟨q7, r7, hf⟩ := bd_s hf
      refine ro_S (n := 2) (As := [.ref (t4 0), .int q3]) (rest := []) (c_X2_isInOrder l G t4 t4_marks t4_beds t4_isKept q3 q7 r7) C hK (hP.sub [1, 2] rfl) hl kcode_X2_isInOrder kml_X10_283 kst_X2_isInOrder kini_X2 (by decide +kernel) ⟨⟨rfl, rfl⟩, Nat.le_of_ble_eq_true rfl, Nat.le_of_ble_eq_true rfl⟩ ⟨Nat.zero_le _, Nat.zero_le _⟩ rfl rfl (Nat.le_of_ble_eq_true rfl) dX10_gap_41 rfl ?_
      refine lv_if_ne (tgt := 50) hx hb dX10_gap_44 (by decide) (fun c8 => ?_) (fun c8 => ?_)
      · have hf := o_f c8 hf
        refine lv_aload_n hx hb dX10_gap_50 rfl (lv_at hl 2 rfl) ?_
        refine va_get (D := G.1) (ci := 10) (v := .ref (t4 0)) (C := RX10) (T := TX10) (N := 11) hx hb ht twX10 hown hK.1 hP 0 rfl rfl 7 (by decide) (ht _ kfl_X10_61) (fun _ h9 => h9) rfl dX10_gap_51 ?_
        refine lv_iload_n hx hb dX10_gap_54 rfl (lv_at hl 1 rfl) ?_
        refine lv_iload_n hx hb dX10_gap_55 rfl (lv_at hl 3 rfl) ?_
        obtain ⟨q9, r9, hf⟩ := bd_s hf
        refine ro_S (n := 3) (As := [.ref (t4 0), .int q3, .int a1]) (rest := []) (c_X2_latestFrom l G t4 t4_marks t4_beds t4_isKept q3 a1 q9 r9) C hK (hP.sub [1, 2] rfl) hl kcode_X2_latestFrom kml_X10_291 kst_X2_latestFrom kini_X2 (by decide +kernel) ⟨⟨rfl, rfl⟩, Nat.le_of_ble_eq_true rfl, Nat.le_of_ble_eq_true rfl⟩ ⟨Nat.zero_le _, Nat.zero_le _⟩ rfl rfl (Nat.le_of_ble_eq_true rfl) dX10_gap_56 rfl ?_
        refine lv_iload_n hx hb dX10_gap_59 rfl (lv_at hl 0 rfl) ?_
        refine lv_isub hx hb dX10_gap_60 ?_
        have h9 := Option.some.inj hf
        subst h9
        exact ro_iret C rfl dX10_gap_61
      · have hf := o_t c8 hf
        refine lv_bipush (v := -3) hx hb dX10_gap_47 (by decide) ?_
        have h9 := Option.some.inj hf
        subst h9
        exact ro_iret C rfl dX10_gap_49
  · have hf := o_t c2 hf
    refine lv_iconst (v := -1) hx hb dX10_gap_8 (by decide) ?_
    have h9 := Option.some.inj hf
    subst h9
    exact ro_iret C rfl dX10_gap_9
abbrev Wc_X10_pole (l : Launch) (G : TG) (x : Nat → Nat) (t9 : Nat → Nat) (t6 : Nat → Nat) (t8 : Nat → Nat) (t3 : Nat → Nat) (t7 : Nat → Nat) (t1 : Nat → Nat) (t0 : Nat → Nat) (t4 : Nat → Nat) (t5 : Nat → Nat) (t2 : Nat → Nat) (t0_ice : Nat → Int32) (t4_marks : Nat → Int32) (t4_beds : Int32) (t4_isKept : Int32) (a1 : Int32) (a2 : Int32) (R : Int32) (p : Program) (e : Env) (s : State) (m : MethodId) (below : List Frame) (meth : Method) (c : Code) (H : Heap) (locs : List Loc) (g : JFrame) : Prop := W p l e ({ frames := 5, cells := 0, slots := 0, locals := 116 }) s m ([.ref (x 0), .int a1, .int a2] : List Value).toArray below meth c H locs 0 0 (MQ below (roQ (some (.int R))) ([.ref (x 0), .int a1, .int a2] : List Value).toArray s 0 0 (fun _ => False)) g
set_option maxHeartbeats 4000000 in
set_option maxRecDepth 100000 in
theorem c_X10_pole (l : Launch) (G : TG) (x : Nat → Nat) (t9 : Nat → Nat) (t6 : Nat → Nat) (t8 : Nat → Nat) (t3 : Nat → Nat) (t7 : Nat → Nat) (t1 : Nat → Nat) (t0 : Nat → Nat) (t4 : Nat → Nat) (t5 : Nat → Nat) (t2 : Nat → Nat) (t0_ice : Nat → Int32) (t4_marks : Nat → Int32) (t4_beds : Int32) (t4_isKept : Int32) (a1 : Int32) (a2 : Int32) (R : Int32) (hf : f_X10_pole t0_ice t4_marks t4_beds a1 a2 = some R) : RO l yX10_pole cX10_pole 3 (some .int) ({ frames := 5, cells := 0, slots := 0, locals := 116 }) G [.ref (x 0), .int a1, .int a2] [(oX10 x t9 t6 t8 t3 t7 t1 t0 t4 t5 t2), (oX0 t0), (wI G (t0 1) 400 t0_ice), (oX4 t4 t4_beds t4_isKept), (wI G (t4 1) 48 t4_marks)] (some (.int R)) := by
  refine RO.mk (by decide +kernel) (Nat.le_of_ble_eq_true rfl) ?_
  intro p e s m below meth c ls C hP hK hl
  have hx := C.1
  have hb := C.2.1
  have hown : s.vm.findClass RX10 = some m.cls := C.2.2.2.2.2.1
  have ht := C.2.2.2.2.2.2
  have hl : lv_has ls 3 [(0, .ref (x 0)), (1, .int a1), (2, .int a2)] := hl
  show Wc_X10_pole l G x t9 t6 t8 t3 t7 t1 t0 t4 t5 t2 t0_ice t4_marks t4_beds t4_isKept a1 a2 R p e s m below meth c s.heap [] (F0 m 0 ls [])
  refine lv_iload_n hx hb dX10_pole_0 rfl (lv_at hl 1 rfl) ?_
  obtain ⟨q1, r1, hf⟩ := bd_s hf
  refine ro_S (n := 1) (As := [.int a1]) (rest := []) (c_X10_isStory l G a1 q1 r1) C hK (hP.sub [] rfl) hl kcode_X10_isStory kml_X10_115 kst_X10_isStory kini_X10 (by decide +kernel) ⟨⟨rfl, rfl⟩, Nat.le_of_ble_eq_true rfl, Nat.le_of_ble_eq_true rfl⟩ ⟨Nat.zero_le _, Nat.zero_le _⟩ rfl rfl (Nat.le_of_ble_eq_true rfl) dX10_pole_1 rfl ?_
  refine lv_if_ne (tgt := 9) hx hb dX10_pole_4 (by decide) (fun c2 => ?_) (fun c2 => ?_)
  · have hf := o_f c2 hf
    refine lv_iload_n hx hb dX10_pole_9 rfl (lv_at hl 2 rfl) ?_
    obtain ⟨q3, r3, hf⟩ := bd_s hf
    refine ro_S (n := 1) (As := [.int a2]) (rest := []) (c_X10_isBand l G a2 q3 r3) C hK (hP.sub [] rfl) hl kcode_X10_isBand kml_X10_151 kst_X10_isBand kini_X10 (by decide +kernel) ⟨⟨rfl, rfl⟩, Nat.le_of_ble_eq_true rfl, Nat.le_of_ble_eq_true rfl⟩ ⟨Nat.zero_le _, Nat.zero_le _⟩ rfl rfl (Nat.le_of_ble_eq_true rfl) dX10_pole_10 rfl ?_
    refine lv_if_ne (tgt := 19) hx hb dX10_pole_13 (by decide) (fun c4 => ?_) (fun c4 => ?_)
    · have hf := o_f c4 hf
      refine lv_aload_n hx hb dX10_pole_19 rfl (lv_at hl 0 rfl) ?_
      refine va_get (D := G.1) (ci := 10) (v := .ref (t0 0)) (C := RX10) (T := TX10) (N := 11) hx hb ht twX10 hown hK.1 hP 0 rfl rfl 6 (by decide) (ht _ kfl_X10_54) (fun _ h9 => h9) rfl dX10_pole_20 ?_
      refine lv_aload_n hx hb dX10_pole_23 rfl (lv_at hl 0 rfl) ?_
      refine va_get (D := G.1) (ci := 10) (v := .ref (t4 0)) (C := RX10) (T := TX10) (N := 11) hx hb ht twX10 hown hK.1 hP 0 rfl rfl 7 (by decide) (ht _ kfl_X10_61) (fun _ h9 => h9) rfl dX10_pole_24 ?_
      refine lv_iload_n hx hb dX10_pole_27 rfl (lv_at hl 1 rfl) ?_
      refine lv_iload_n hx hb dX10_pole_28 rfl (lv_at hl 2 rfl) ?_
      obtain ⟨q5, r5, hf⟩ := bd_s hf
      refine ro_S (n := 4) (As := [.ref (t0 0), .ref (t4 0), .int a1, .int a2]) (rest := []) (c_X5_explainedBy l G t0 t4 t0_ice t4_marks t4_beds t4_isKept a1 a2 q5 r5) C hK (hP.sub [1, 2, 3, 4] rfl) hl kcode_X5_explainedBy kml_X10_294 kst_X5_explainedBy kini_X5 (by decide +kernel) ⟨⟨rfl, rfl⟩, Nat.le_of_ble_eq_true rfl, Nat.le_of_ble_eq_true rfl⟩ ⟨Nat.zero_le _, Nat.zero_le _⟩ rfl rfl (Nat.le_of_ble_eq_true rfl) dX10_pole_29 rfl ?_
      have h9 := Option.some.inj hf
      subst h9
      exact ro_iret C rfl dX10_pole_32
    · have hf := o_t c4 hf
      refine lv_bipush (v := -2) hx hb dX10_pole_16 (by decide) ?_
      have h9 := Option.some.inj hf
      subst h9
      exact ro_iret C rfl dX10_pole_18
  · have hf := o_t c2 hf
    refine lv_iconst (v := -1) hx hb dX10_pole_7 (by decide) ?_
    have h9 := Option.some.inj hf
    subst h9
    exact ro_iret C rfl dX10_pole_8
abbrev Wc_X10_elsewhere (l : Launch) (G : TG) (x : Nat → Nat) (t9 : Nat → Nat) (t6 : Nat → Nat) (t8 : Nat → Nat) (t3 : Nat → Nat) (t7 : Nat → Nat) (t1 : Nat → Nat) (t0 : Nat → Nat) (t4 : Nat → Nat) (t5 : Nat → Nat) (t2 : Nat → Nat) (t0_ice : Nat → Int32) (t4_marks : Nat → Int32) (t4_beds : Int32) (t4_isKept : Int32) (a1 : Int32) (R : Int32) (p : Program) (e : Env) (s : State) (m : MethodId) (below : List Frame) (meth : Method) (c : Code) (H : Heap) (locs : List Loc) (g : JFrame) : Prop := W p l e ({ frames := 5, cells := 0, slots := 0, locals := 116 }) s m ([.ref (x 0), .int a1] : List Value).toArray below meth c H locs 0 0 (MQ below (roQ (some (.int R))) ([.ref (x 0), .int a1] : List Value).toArray s 0 0 (fun _ => False)) g
set_option maxHeartbeats 4000000 in
set_option maxRecDepth 100000 in
theorem c_X10_elsewhere (l : Launch) (G : TG) (x : Nat → Nat) (t9 : Nat → Nat) (t6 : Nat → Nat) (t8 : Nat → Nat) (t3 : Nat → Nat) (t7 : Nat → Nat) (t1 : Nat → Nat) (t0 : Nat → Nat) (t4 : Nat → Nat) (t5 : Nat → Nat) (t2 : Nat → Nat) (t0_ice : Nat → Int32) (t4_marks : Nat → Int32) (t4_beds : Int32) (t4_isKept : Int32) (a1 : Int32) (R : Int32) (hf : f_X10_elsewhere t0_ice t4_marks t4_beds a1 = some R) : RO l yX10_elsewhere cX10_elsewhere 6 (some .int) ({ frames := 5, cells := 0, slots := 0, locals := 116 }) G [.ref (x 0), .int a1] [(oX10 x t9 t6 t8 t3 t7 t1 t0 t4 t5 t2), (oX0 t0), (wI G (t0 1) 400 t0_ice), (oX4 t4 t4_beds t4_isKept), (wI G (t4 1) 48 t4_marks)] (some (.int R)) := by
  refine RO.mk (by decide +kernel) (Nat.le_of_ble_eq_true rfl) ?_
  intro p e s m below meth c ls C hP hK hl
  have hx := C.1
  have hb := C.2.1
  have hown : s.vm.findClass RX10 = some m.cls := C.2.2.2.2.2.1
  have ht := C.2.2.2.2.2.2
  have hl : lv_has ls 6 [(0, .ref (x 0)), (1, .int a1)] := hl
  show Wc_X10_elsewhere l G x t9 t6 t8 t3 t7 t1 t0 t4 t5 t2 t0_ice t4_marks t4_beds t4_isKept a1 R p e s m below meth c s.heap [] (F0 m 0 ls [])
  refine lv_iload_n hx hb dX10_elsewhere_0 rfl (lv_at hl 1 rfl) ?_
  obtain ⟨q1, r1, hf⟩ := bd_s hf
  refine ro_S (n := 1) (As := [.int a1]) (rest := []) (c_X10_isStory l G a1 q1 r1) C hK (hP.sub [] rfl) hl kcode_X10_isStory kml_X10_115 kst_X10_isStory kini_X10 (by decide +kernel) ⟨⟨rfl, rfl⟩, Nat.le_of_ble_eq_true rfl, Nat.le_of_ble_eq_true rfl⟩ ⟨Nat.zero_le _, Nat.zero_le _⟩ rfl rfl (Nat.le_of_ble_eq_true rfl) dX10_elsewhere_1 rfl ?_
  refine lv_if_ne (tgt := 9) hx hb dX10_elsewhere_4 (by decide) (fun c2 => ?_) (fun c2 => ?_)
  · have hf := o_f c2 hf
    refine lv_iconst (v := 0) hx hb dX10_elsewhere_9 (by decide) ?_
    refine lv_istore_n (lv' := [(2, .int (0 : Int32)), (0, .ref (x 0)), (1, .int a1)]) hx hb dX10_elsewhere_10 rfl hl (by decide) rfl (fun ls hl => ?_)
    refine lv_iconst (v := -1) hx hb dX10_elsewhere_11 (by decide) ?_
    refine lv_istore_n (lv' := [(3, .int (-1 : Int32)), (2, .int (0 : Int32)), (0, .ref (x 0)), (1, .int a1)]) hx hb dX10_elsewhere_12 rfl hl (by decide) rfl (fun ls hl => ?_)
    refine lv_iconst (v := 0) hx hb dX10_elsewhere_13 (by decide) ?_
    refine lv_istore (lv' := [(4, .int (0 : Int32)), (3, .int (-1 : Int32)), (2, .int (0 : Int32)), (0, .ref (x 0)), (1, .int a1)]) hx hb dX10_elsewhere_14 hl (by decide) rfl (fun ls hl => ?_)
    have hx57_3 : ∀ (v2 : Int32) (ls : Array Slot), f_X10_elsewhere_x57_3 v2 = some R → lv_has ls 6 [(2, .int v2)] → Wc_X10_elsewhere l G x t9 t6 t8 t3 t7 t1 t0 t4 t5 t2 t0_ice t4_marks t4_beds t4_isKept a1 R p e s m below meth c s.heap [] (F0 m 57 ls []) := by
      intro v2 ls hf hl
      refine lv_iload_n hx hb dX10_elsewhere_57 rfl (lv_at hl 0 rfl) ?_
      have h9 := Option.some.inj hf
      subst h9
      exact ro_iret C rfl dX10_elsewhere_58
    obtain ⟨rL3, hL3, hk3⟩ := bd_s hf
    refine lp_W (P := fun st => ∀ (ls : Array Slot), lv_has ls 6 [(0, .ref (x 0)), (1, .int a1), (2, .int st.1), (3, .int st.2.1), (4, .int st.2.2)] → Wc_X10_elsewhere l G x t9 t6 t8 t3 t7 t1 t0 t4 t5 t2 t0_ice t4_marks t4_beds t4_isKept a1 R p e s m below meth c s.heap [] (F0 m 16 ls [])) ?_ FU ((0 : Int32), (-1 : Int32), (0 : Int32)) hL3 ls (lv_sub hl [3, 4, 2, 1, 0] rfl)
    intro ⟨v2, v3, v4⟩ oc3 hf hI hE ls hl
    have hl : lv_has ls 6 [(0, .ref (x 0)), (1, .int a1), (2, .int v2), (3, .int v3), (4, .int v4)] := hl
    have hf : f_X10_elsewhere_b16 t0_ice t4_marks t4_beds a1 v2 v3 v4 = some oc3 := hf
    refine lv_iload hx hb dX10_elsewhere_16 (lv_at hl 4 rfl) ?_
    refine lv_bipush (v := 6) hx hb dX10_elsewhere_18 (by decide) ?_
    refine lv_icmp_ge (tgt := 57) hx hb dX10_elsewhere_20 (by decide) (fun c5 => ?_) (fun c5 => ?_)
    · have hf := o_t c5 hf
      cases hf
      have hf : f_X10_elsewhere_x57_3 v2 = some R := by have h9 := hk3; rw [← hE _ rfl] at h9; exact h9
      exact hx57_3 v2 ls hf (lv_sub hl [2] rfl)
    · have hf := o_f c5 hf
      refine lv_aload_n hx hb dX10_elsewhere_23 rfl (lv_at hl 0 rfl) ?_
      refine va_get (D := G.1) (ci := 10) (v := .ref (t0 0)) (C := RX10) (T := TX10) (N := 11) hx hb ht twX10 hown hK.1 hP 0 rfl rfl 6 (by decide) (ht _ kfl_X10_54) (fun _ h9 => h9) rfl dX10_elsewhere_24 ?_
      refine lv_aload_n hx hb dX10_elsewhere_27 rfl (lv_at hl 0 rfl) ?_
      refine va_get (D := G.1) (ci := 10) (v := .ref (t4 0)) (C := RX10) (T := TX10) (N := 11) hx hb ht twX10 hown hK.1 hP 0 rfl rfl 7 (by decide) (ht _ kfl_X10_61) (fun _ h9 => h9) rfl dX10_elsewhere_28 ?_
      refine lv_iload_n hx hb dX10_elsewhere_31 rfl (lv_at hl 1 rfl) ?_
      refine lv_iload hx hb dX10_elsewhere_32 (lv_at hl 4 rfl) ?_
      obtain ⟨q6, r6, hf⟩ := bd_s hf
      refine ro_S (n := 4) (As := [.ref (t0 0), .ref (t4 0), .int a1, .int v4]) (rest := []) (c_X5_explainedBy l G t0 t4 t0_ice t4_marks t4_beds t4_isKept a1 v4 q6 r6) C hK (hP.sub [1, 2, 3, 4] rfl) hl kcode_X5_explainedBy kml_X10_294 kst_X5_explainedBy kini_X5 (by decide +kernel) ⟨⟨rfl, rfl⟩, Nat.le_of_ble_eq_true rfl, Nat.le_of_ble_eq_true rfl⟩ ⟨Nat.zero_le _, Nat.zero_le _⟩ rfl rfl (Nat.le_of_ble_eq_true rfl) dX10_elsewhere_34 rfl ?_
      refine lv_istore (lv' := [(5, .int q6), (0, .ref (x 0)), (1, .int a1), (2, .int v2), (3, .int v3), (4, .int v4)]) hx hb dX10_elsewhere_37 hl (by decide) rfl (fun ls hl => ?_)
      refine lv_iload hx hb dX10_elsewhere_39 (lv_at hl 0 rfl) ?_
      refine lv_iload_n hx hb dX10_elsewhere_41 rfl (lv_at hl 4 rfl) ?_
      refine lv_icmp_le (tgt := 51) hx hb dX10_elsewhere_42 (by decide) (fun c7 => ?_) (fun c7 => ?_)
      · have hf := o_t c7 hf
        refine lv_iinc (v := (v4 + (1 : Int32))) (lv' := [(4, .int (v4 + (1 : Int32))), (5, .int q6), (0, .ref (x 0)), (1, .int a1), (2, .int v2), (3, .int v3)]) hx hb dX10_elsewhere_51 hl (k := 5) rfl (by rfl) (by decide) rfl (fun ls hl => ?_)
        refine lv_goto (tgt := 16) hx hb dX10_elsewhere_54 (by decide) ?_
        cases hf
        exact hI _ rfl ls (lv_sub hl [2, 3, 4, 5, 0] rfl)
      · have hf := o_f c7 hf
        refine lv_iload hx hb dX10_elsewhere_45 (lv_at hl 0 rfl) ?_
        refine lv_istore_n (lv' := [(3, .int q6), (5, .int q6), (0, .ref (x 0)), (1, .int a1), (2, .int v2), (4, .int v4)]) hx hb dX10_elsewhere_47 rfl hl (by decide) rfl (fun ls hl => ?_)
        refine lv_iload hx hb dX10_elsewhere_48 (lv_at hl 5 rfl) ?_
        refine lv_istore_n (lv' := [(2, .int v4), (3, .int q6), (5, .int q6), (0, .ref (x 0)), (1, .int a1), (4, .int v4)]) hx hb dX10_elsewhere_50 rfl hl (by decide) rfl (fun ls hl => ?_)
        refine lv_iinc (v := (v4 + (1 : Int32))) (lv' := [(4, .int (v4 + (1 : Int32))), (2, .int v4), (3, .int q6), (5, .int q6), (0, .ref (x 0)), (1, .int a1)]) hx hb dX10_elsewhere_51 hl (k := 5) rfl (by rfl) (by decide) rfl (fun ls hl => ?_)
        refine lv_goto (tgt := 16) hx hb dX10_elsewhere_54 (by decide) ?_
        cases hf
        exact hI _ rfl ls (lv_sub hl [4, 5, 1, 2, 0] rfl)
  · have hf := o_t c2 hf
    refine lv_iconst (v := -1) hx hb dX10_elsewhere_7 (by decide) ?_
    have h9 := Option.some.inj hf
    subst h9
    exact ro_iret C rfl dX10_elsewhere_8
abbrev Wc_X10_isSlot (l : Launch) (G : TG) (a0 : Int32) (R : Int32) (p : Program) (e : Env) (s : State) (m : MethodId) (below : List Frame) (meth : Method) (c : Code) (H : Heap) (locs : List Loc) (g : JFrame) : Prop := W p l e ({ frames := 1, cells := 0, slots := 0, locals := 22 }) s m ([.int a0] : List Value).toArray below meth c H locs 0 0 (MQ below (roQ (some (.int R))) ([.int a0] : List Value).toArray s 0 0 (fun _ => False)) g
set_option maxHeartbeats 4000000 in
set_option maxRecDepth 100000 in
theorem c_X10_isSlot (l : Launch) (G : TG) (a0 : Int32) (R : Int32) (hf : f_X10_isSlot a0 = some R) : RO l yX10_isSlot cX10_isSlot 1 (some .boolean) ({ frames := 1, cells := 0, slots := 0, locals := 22 }) G [.int a0] [] (some (.int R)) := by
  refine RO.mk (by decide +kernel) (Nat.le_of_ble_eq_true rfl) ?_
  intro p e s m below meth c ls C hP hK hl
  have hx := C.1
  have hb := C.2.1
  have hown : s.vm.findClass RX10 = some m.cls := C.2.2.2.2.2.1
  have ht := C.2.2.2.2.2.2
  have hl : lv_has ls 1 [(0, .int a0)] := hl
  show Wc_X10_isSlot l G a0 R p e s m below meth c s.heap [] (F0 m 0 ls [])
  refine lv_iload_n hx hb dX10_isSlot_0 rfl (lv_at hl 0 rfl) ?_
  refine lv_iconst (v := 0) hx hb dX10_isSlot_1 (by decide) ?_
  refine lv_iconst (v := 1) hx hb dX10_isSlot_2 (by decide) ?_
  obtain ⟨q1, r1, hf⟩ := bd_s hf
  refine ro_S (n := 3) (As := [.int a0, .int (0 : Int32), .int (1 : Int32)]) (rest := []) (c_X10_within l G a0 (0 : Int32) (1 : Int32) q1 r1) C hK (hP.sub [] rfl) hl kcode_X10_within kml_X10_83 kst_X10_within kini_X10 (by decide +kernel) ⟨⟨rfl, rfl⟩, Nat.le_of_ble_eq_true rfl, Nat.le_of_ble_eq_true rfl⟩ ⟨Nat.zero_le _, Nat.zero_le _⟩ rfl rfl (Nat.le_of_ble_eq_true rfl) dX10_isSlot_3 rfl ?_
  obtain ⟨z2, hf⟩ := zb_s hf
  have h9 := Option.some.inj hf
  subst h9
  exact ro_zret C z2 rfl dX10_isSlot_6
abbrev Wc_X10_keep (l : Launch) (G : TG) (x : Nat → Nat) (t9 : Nat → Nat) (t6 : Nat → Nat) (t8 : Nat → Nat) (t3 : Nat → Nat) (t7 : Nat → Nat) (t1 : Nat → Nat) (t0 : Nat → Nat) (t4 : Nat → Nat) (t5 : Nat → Nat) (t2 : Nat → Nat) (u0 : Nat → Nat) (u1 : Nat → Nat) (t4_marks : Nat → Int32) (t4_weights : Nat → Int32) (t4_beds : Int32) (t4_isKept : Int32) (u0_marks : Nat → Int32) (u0_weights : Nat → Int32) (u0_beds : Int32) (u0_isKept : Int32) (u1_marks : Nat → Int32) (u1_weights : Nat → Int32) (u1_beds : Int32) (u1_isKept : Int32) (a1 : Int32) (R : Int32 × (Nat → Int32) × (Nat → Int32) × Int32 × Int32 × (Nat → Int32) × (Nat → Int32) × Int32 × Int32) (p : Program) (e : Env) (s : State) (m : MethodId) (below : List Frame) (meth : Method) (c : Code) (A : Nat → Prop) (H : Heap) (locs : List Loc) (g : JFrame) : Prop := W p l e ({ frames := 2, cells := 0, slots := 0, locals := 61 }) s m ([.ref (x 0), .int a1] : List Value).toArray below meth c H locs 0 0 (MQ below (rwQ G (some (.int R.1)) [(oX10 x t9 t6 t8 t3 t7 t1 t0 t4 t5 t2), (wS G (x 1) (u0 0) (u1 0)), (oX4 t4 t4_beds t4_isKept), (wI G (t4 1) 48 t4_marks), (wI G (t4 2) 4 t4_weights), (oX4 u0 R.2.2.2.1 R.2.2.2.2.1), (wI G (u0 1) 48 R.2.1), (wI G (u0 2) 4 R.2.2.1), (oX4 u1 R.2.2.2.2.2.2.2.1 R.2.2.2.2.2.2.2.2), (wI G (u1 1) 48 R.2.2.2.2.2.1), (wI G (u1 2) 4 R.2.2.2.2.2.2.1)] A) ([.ref (x 0), .int a1] : List Value).toArray s 0 0 A) g
set_option maxHeartbeats 4000000 in
set_option maxRecDepth 100000 in
theorem c_X10_keep (l : Launch) (G : TG) (x : Nat → Nat) (t9 : Nat → Nat) (t6 : Nat → Nat) (t8 : Nat → Nat) (t3 : Nat → Nat) (t7 : Nat → Nat) (t1 : Nat → Nat) (t0 : Nat → Nat) (t4 : Nat → Nat) (t5 : Nat → Nat) (t2 : Nat → Nat) (u0 : Nat → Nat) (u1 : Nat → Nat) (t4_marks : Nat → Int32) (t4_weights : Nat → Int32) (t4_beds : Int32) (t4_isKept : Int32) (u0_marks : Nat → Int32) (u0_weights : Nat → Int32) (u0_beds : Int32) (u0_isKept : Int32) (u1_marks : Nat → Int32) (u1_weights : Nat → Int32) (u1_beds : Int32) (u1_isKept : Int32) (a1 : Int32) (R : Int32 × (Nat → Int32) × (Nat → Int32) × Int32 × Int32 × (Nat → Int32) × (Nat → Int32) × Int32 × Int32) (hf : f_X10_keep t4_marks t4_weights t4_beds u0_marks u0_weights u0_beds u0_isKept u1_marks u1_weights u1_beds u1_isKept a1 = some R) : RW l yX10_keep cX10_keep 2 (some .int) ({ frames := 2, cells := 0, slots := 0, locals := 61 }) G [.ref (x 0), .int a1] [(oX10 x t9 t6 t8 t3 t7 t1 t0 t4 t5 t2), (wS G (x 1) (u0 0) (u1 0)), (oX4 t4 t4_beds t4_isKept), (wI G (t4 1) 48 t4_marks), (wI G (t4 2) 4 t4_weights), (oX4 u0 u0_beds u0_isKept), (wI G (u0 1) 48 u0_marks), (wI G (u0 2) 4 u0_weights), (oX4 u1 u1_beds u1_isKept), (wI G (u1 1) 48 u1_marks), (wI G (u1 2) 4 u1_weights)] (some (.int R.1)) [(oX10 x t9 t6 t8 t3 t7 t1 t0 t4 t5 t2), (wS G (x 1) (u0 0) (u1 0)), (oX4 t4 t4_beds t4_isKept), (wI G (t4 1) 48 t4_marks), (wI G (t4 2) 4 t4_weights), (oX4 u0 R.2.2.2.1 R.2.2.2.2.1), (wI G (u0 1) 48 R.2.1), (wI G (u0 2) 4 R.2.2.1), (oX4 u1 R.2.2.2.2.2.2.2.1 R.2.2.2.2.2.2.2.2), (wI G (u1 1) 48 R.2.2.2.2.2.1), (wI G (u1 2) 4 R.2.2.2.2.2.2.1)] := by
  refine RW.mk (by decide +kernel) (Nat.le_of_ble_eq_true rfl) ?_
  intro p e s m below meth c ls A C hP hD hA hz hK hl hS
  have hx := C.1
  have hb := C.2.1
  have hown : s.vm.findClass RX10 = some m.cls := C.2.2.2.2.2.1
  have ht := C.2.2.2.2.2.2
  have hl : lv_has ls 2 [(0, .ref (x 0)), (1, .int a1)] := hl
  show Wc_X10_keep l G x t9 t6 t8 t3 t7 t1 t0 t4 t5 t2 u0 u1 t4_marks t4_weights t4_beds t4_isKept u0_marks u0_weights u0_beds u0_isKept u1_marks u1_weights u1_beds u1_isKept a1 R p e s m below meth c A s.heap [] (F0 m 0 ls [])
  obtain ⟨H, eH, hP, hS⟩ : ∃ H, H = s.heap ∧ va_P G.1 vwCl [(oX10 x t9 t6 t8 t3 t7 t1 t0 t4 t5 t2), (wS G (x 1) (u0 0) (u1 0)), (oX4 t4 t4_beds t4_isKept), (wI G (t4 1) 48 t4_marks), (wI G (t4 2) 4 t4_weights), (oX4 u0 u0_beds u0_isKept), (wI G (u0 1) 48 u0_marks), (wI G (u0 2) 4 u0_weights), (oX4 u1 u1_beds u1_isKept), (wI G (u1 1) 48 u1_marks), (wI G (u1 2) 4 u1_weights)] H ∧ va_S A s.heap H [] := ⟨_, rfl, hP, hS⟩
  obtain ⟨locs, el, hS⟩ : ∃ locs : List Loc, locs = [] ∧ va_S A s.heap H locs := ⟨_, rfl, hS⟩
  have key : Wc_X10_keep l G x t9 t6 t8 t3 t7 t1 t0 t4 t5 t2 u0 u1 t4_marks t4_weights t4_beds t4_isKept u0_marks u0_weights u0_beds u0_isKept u1_marks u1_weights u1_beds u1_isKept a1 R p e s m below meth c A H locs (F0 m 0 ls []) := by
    refine lv_iload_n hx hb dX10_keep_0 rfl (lv_at hl 1 rfl) ?_
    obtain ⟨q1, r1, hf⟩ := bd_s hf
    refine ro_S (n := 1) (As := [.int a1]) (rest := []) (c_X10_isSlot l G a1 q1 r1) C (hK.at hS hz) (hP.sub [] rfl) hl kcode_X10_isSlot kml_X10_297 kst_X10_isSlot kini_X10 (by decide +kernel) ⟨⟨rfl, rfl⟩, Nat.le_of_ble_eq_true rfl, Nat.le_of_ble_eq_true rfl⟩ ⟨Nat.zero_le _, Nat.zero_le _⟩ rfl rfl (Nat.le_of_ble_eq_true rfl) dX10_keep_1 rfl ?_
    refine lv_if_ne (tgt := 9) hx hb dX10_keep_4 (by decide) (fun c2 => ?_) (fun c2 => ?_)
    · have hf := o_f c2 hf
      refine lv_aload_n hx hb dX10_keep_9 rfl (lv_at hl 0 rfl) ?_
      refine va_get (D := G.1) (ci := 10) (v := .ref (x 1)) (C := RX10) (T := TX10) (N := 11) hx hb ht twX10 hown hK.1 hP 0 rfl rfl 10 (by decide) (ht _ kfl_X10_79) (fun _ h9 => h9) rfl dX10_keep_10 ?_
      refine lv_iload_n hx hb dX10_keep_13 rfl (lv_at hl 1 rfl) ?_
      obtain ⟨g3, hf⟩ := gd_s hf
      by_cases c3 : a1 = (0 : Int32)
      · have hf := o_t c3 hf
        refine va_slot (q := u0 0) hx hb hK.1 hP 1 3 rfl rfl g3 (slF_0 c3) dX10_keep_14 ?_
        refine lv_aload_n hx hb dX10_keep_15 rfl (lv_at hl 0 rfl) ?_
        refine va_get (D := G.1) (ci := 10) (v := .ref (t4 0)) (C := RX10) (T := TX10) (N := 11) hx hb ht twX10 hown hK.1 hP 0 rfl rfl 7 (by decide) (ht _ kfl_X10_61) (fun _ h9 => h9) rfl dX10_keep_16 ?_
        obtain ⟨q4, r4, hf⟩ := bd_s hf
        refine rw_V (n := 1) (As := [.ref (t4 0)]) (rest := []) (wr := [(oX10 x t9 t6 t8 t3 t7 t1 t0 t4 t5 t2), (wS G (x 1) (u0 0) (u1 0)), (oX4 u1 u1_beds u1_isKept), (wI G (u1 1) 48 u1_marks), (wI G (u1 2) 4 u1_weights)]) (ws2 := [(oX10 x t9 t6 t8 t3 t7 t1 t0 t4 t5 t2), (wS G (x 1) (u0 0) (u1 0)), (oX4 t4 t4_beds t4_isKept), (wI G (t4 1) 48 t4_marks), (wI G (t4 2) 4 t4_weights), (oX4 u0 q4.2.2 u0_isKept), (wI G (u0 1) 48 q4.1), (wI G (u0 2) 4 q4.2.1), (oX4 u1 u1_beds u1_isKept), (wI G (u1 1) 48 u1_marks), (wI G (u1 2) 4 u1_weights)]) (c_X4_copyFrom l G u0 t4 u0_marks u0_weights u0_beds u0_isKept t4_marks t4_weights t4_beds t4_isKept q4 r4) C hK hP hD hS hA hz hl [5, 6, 7, 2, 3, 4] [0, 1, 8, 9, 10] [0, 1, 8, 9, 10, 5, 6, 7, 2, 3, 4] rfl rfl rfl rfl rfl (by decide) rfl rfl rfl kcode_X4_copyFrom kml_X10_300 kim_X4_copyFrom ksel_X4_copyFrom kini_X4 (by decide +kernel) ⟨⟨rfl, rfl⟩, Nat.le_of_ble_eq_true rfl, Nat.le_of_ble_eq_true rfl⟩ ⟨Nat.zero_le _, Nat.zero_le _⟩ rfl rfl rfl rfl rfl (Nat.le_of_ble_eq_true rfl) dX10_keep_19 rfl (fun H locs hP hD hS => ?_)
        refine lv_aload_n hx hb dX10_keep_22 rfl (lv_at hl 0 rfl) ?_
        refine va_get (D := G.1) (ci := 10) (v := .ref (x 1)) (C := RX10) (T := TX10) (N := 11) hx hb ht twX10 hown hK.1 hP 0 rfl rfl 10 (by decide) (ht _ kfl_X10_79) (fun _ h9 => h9) rfl dX10_keep_23 ?_
        refine lv_iload_n hx hb dX10_keep_26 rfl (lv_at hl 1 rfl) ?_
        obtain ⟨g5, hf⟩ := gd_s hf
        refine va_slot (q := u0 0) hx hb hK.1 hP 1 3 rfl rfl g5 (slF_0 c3) dX10_keep_27 ?_
        refine lv_iconst (v := 1) hx hb dX10_keep_28 (by decide) ?_
        refine va_put (D := G.1) (ci := 4) (v := .int (1 : Int32)) (ty := .boolean) (C := RX4) (T := TX4) (N := 4) hx hb ht twX4 tyX4 tyX4_ok nmX4 hown hK.1 hP hD hS 5 rfl rfl 3 (by decide) (ht _ kfl_X10_303) (fun _ h9 => h9) rfl (by decide +kernel) (by decide +kernel) (by decide +kernel) (Nat.le_of_ble_eq_true rfl) dX10_keep_29 (fun H locs hP hD hS => ?_)
        have hP : va_P G.1 vwCl [(oX10 x t9 t6 t8 t3 t7 t1 t0 t4 t5 t2), (wS G (x 1) (u0 0) (u1 0)), (oX4 t4 t4_beds t4_isKept), (wI G (t4 1) 48 t4_marks), (wI G (t4 2) 4 t4_weights), (oX4 u0 q4.2.2 (1 : Int32)), (wI G (u0 1) 48 q4.1), (wI G (u0 2) 4 q4.2.1), (oX4 u1 u1_beds u1_isKept), (wI G (u1 1) 48 u1_marks), (wI G (u1 2) 4 u1_weights)] H := hP
        have hD : va_D A [(oX10 x t9 t6 t8 t3 t7 t1 t0 t4 t5 t2), (wS G (x 1) (u0 0) (u1 0)), (oX4 t4 t4_beds t4_isKept), (wI G (t4 1) 48 t4_marks), (wI G (t4 2) 4 t4_weights), (oX4 u0 q4.2.2 (1 : Int32)), (wI G (u0 1) 48 q4.1), (wI G (u0 2) 4 q4.2.1), (oX4 u1 u1_beds u1_isKept), (wI G (u1 1) 48 u1_marks), (wI G (u1 2) 4 u1_weights)] := hD
        refine lv_aload_n hx hb dX10_keep_32 rfl (lv_at hl 0 rfl) ?_
        refine va_get (D := G.1) (ci := 10) (v := .ref (t4 0)) (C := RX10) (T := TX10) (N := 11) hx hb ht twX10 hown hK.1 hP 0 rfl rfl 7 (by decide) (ht _ kfl_X10_61) (fun _ h9 => h9) rfl dX10_keep_33 ?_
        refine va_get (D := G.1) (ci := 4) (v := .int t4_beds) (C := RX4) (T := TX4) (N := 4) hx hb ht twX4 hown hK.1 hP 2 rfl rfl 2 (by decide) (ht _ kfl_X10_208) (fun _ h9 => h9) rfl dX10_keep_36 ?_
        have h9 := Option.some.inj hf
        subst h9
        exact rw_iret C rfl hP hD hS dX10_keep_39
      · have hf := o_f c3 hf
        refine va_slot (q := u1 0) hx hb hK.1 hP 1 3 rfl rfl g3 (slF_1 g3 c3) dX10_keep_14 ?_
        refine lv_aload_n hx hb dX10_keep_15 rfl (lv_at hl 0 rfl) ?_
        refine va_get (D := G.1) (ci := 10) (v := .ref (t4 0)) (C := RX10) (T := TX10) (N := 11) hx hb ht twX10 hown hK.1 hP 0 rfl rfl 7 (by decide) (ht _ kfl_X10_61) (fun _ h9 => h9) rfl dX10_keep_16 ?_
        obtain ⟨q7, r7, hf⟩ := bd_s hf
        refine rw_V (n := 1) (As := [.ref (t4 0)]) (rest := []) (wr := [(oX10 x t9 t6 t8 t3 t7 t1 t0 t4 t5 t2), (wS G (x 1) (u0 0) (u1 0)), (oX4 u0 u0_beds u0_isKept), (wI G (u0 1) 48 u0_marks), (wI G (u0 2) 4 u0_weights)]) (ws2 := [(oX10 x t9 t6 t8 t3 t7 t1 t0 t4 t5 t2), (wS G (x 1) (u0 0) (u1 0)), (oX4 t4 t4_beds t4_isKept), (wI G (t4 1) 48 t4_marks), (wI G (t4 2) 4 t4_weights), (oX4 u0 u0_beds u0_isKept), (wI G (u0 1) 48 u0_marks), (wI G (u0 2) 4 u0_weights), (oX4 u1 q7.2.2 u1_isKept), (wI G (u1 1) 48 q7.1), (wI G (u1 2) 4 q7.2.1)]) (c_X4_copyFrom l G u1 t4 u1_marks u1_weights u1_beds u1_isKept t4_marks t4_weights t4_beds t4_isKept q7 r7) C hK hP hD hS hA hz hl [8, 9, 10, 2, 3, 4] [0, 1, 5, 6, 7] [0, 1, 8, 9, 10, 2, 3, 4, 5, 6, 7] rfl rfl rfl rfl rfl (by decide) rfl rfl rfl kcode_X4_copyFrom kml_X10_300 kim_X4_copyFrom ksel_X4_copyFrom kini_X4 (by decide +kernel) ⟨⟨rfl, rfl⟩, Nat.le_of_ble_eq_true rfl, Nat.le_of_ble_eq_true rfl⟩ ⟨Nat.zero_le _, Nat.zero_le _⟩ rfl rfl rfl rfl rfl (Nat.le_of_ble_eq_true rfl) dX10_keep_19 rfl (fun H locs hP hD hS => ?_)
        refine lv_aload_n hx hb dX10_keep_22 rfl (lv_at hl 0 rfl) ?_
        refine va_get (D := G.1) (ci := 10) (v := .ref (x 1)) (C := RX10) (T := TX10) (N := 11) hx hb ht twX10 hown hK.1 hP 0 rfl rfl 10 (by decide) (ht _ kfl_X10_79) (fun _ h9 => h9) rfl dX10_keep_23 ?_
        refine lv_iload_n hx hb dX10_keep_26 rfl (lv_at hl 1 rfl) ?_
        obtain ⟨g8, hf⟩ := gd_s hf
        refine va_slot (q := u1 0) hx hb hK.1 hP 1 3 rfl rfl g8 (slF_1 g8 c3) dX10_keep_27 ?_
        refine lv_iconst (v := 1) hx hb dX10_keep_28 (by decide) ?_
        refine va_put (D := G.1) (ci := 4) (v := .int (1 : Int32)) (ty := .boolean) (C := RX4) (T := TX4) (N := 4) hx hb ht twX4 tyX4 tyX4_ok nmX4 hown hK.1 hP hD hS 8 rfl rfl 3 (by decide) (ht _ kfl_X10_303) (fun _ h9 => h9) rfl (by decide +kernel) (by decide +kernel) (by decide +kernel) (Nat.le_of_ble_eq_true rfl) dX10_keep_29 (fun H locs hP hD hS => ?_)
        have hP : va_P G.1 vwCl [(oX10 x t9 t6 t8 t3 t7 t1 t0 t4 t5 t2), (wS G (x 1) (u0 0) (u1 0)), (oX4 t4 t4_beds t4_isKept), (wI G (t4 1) 48 t4_marks), (wI G (t4 2) 4 t4_weights), (oX4 u0 u0_beds u0_isKept), (wI G (u0 1) 48 u0_marks), (wI G (u0 2) 4 u0_weights), (oX4 u1 q7.2.2 (1 : Int32)), (wI G (u1 1) 48 q7.1), (wI G (u1 2) 4 q7.2.1)] H := hP
        have hD : va_D A [(oX10 x t9 t6 t8 t3 t7 t1 t0 t4 t5 t2), (wS G (x 1) (u0 0) (u1 0)), (oX4 t4 t4_beds t4_isKept), (wI G (t4 1) 48 t4_marks), (wI G (t4 2) 4 t4_weights), (oX4 u0 u0_beds u0_isKept), (wI G (u0 1) 48 u0_marks), (wI G (u0 2) 4 u0_weights), (oX4 u1 q7.2.2 (1 : Int32)), (wI G (u1 1) 48 q7.1), (wI G (u1 2) 4 q7.2.1)] := hD
        refine lv_aload_n hx hb dX10_keep_32 rfl (lv_at hl 0 rfl) ?_
        refine va_get (D := G.1) (ci := 10) (v := .ref (t4 0)) (C := RX10) (T := TX10) (N := 11) hx hb ht twX10 hown hK.1 hP 0 rfl rfl 7 (by decide) (ht _ kfl_X10_61) (fun _ h9 => h9) rfl dX10_keep_33 ?_
        refine va_get (D := G.1) (ci := 4) (v := .int t4_beds) (C := RX4) (T := TX4) (N := 4) hx hb ht twX4 hown hK.1 hP 2 rfl rfl 2 (by decide) (ht _ kfl_X10_208) (fun _ h9 => h9) rfl dX10_keep_36 ?_
        have h9 := Option.some.inj hf
        subst h9
        exact rw_iret C rfl hP hD hS dX10_keep_39
    · have hf := o_t c2 hf
      refine lv_iconst (v := -1) hx hb dX10_keep_7 (by decide) ?_
      have h9 := Option.some.inj hf
      subst h9
      exact rw_iret C rfl hP hD hS dX10_keep_8
  rw [eH, el] at key
  exact key
abbrev Wc_X10_again (l : Launch) (G : TG) (x : Nat → Nat) (t9 : Nat → Nat) (t6 : Nat → Nat) (t8 : Nat → Nat) (t3 : Nat → Nat) (t7 : Nat → Nat) (t1 : Nat → Nat) (t0 : Nat → Nat) (t4 : Nat → Nat) (t5 : Nat → Nat) (t2 : Nat → Nat) (u0 : Nat → Nat) (u1 : Nat → Nat) (t4_marks : Nat → Int32) (t4_weights : Nat → Int32) (t4_beds : Int32) (t4_isKept : Int32) (u0_marks : Nat → Int32) (u0_weights : Nat → Int32) (u0_beds : Int32) (u0_isKept : Int32) (u1_marks : Nat → Int32) (u1_weights : Nat → Int32) (u1_beds : Int32) (u1_isKept : Int32) (a1 : Int32) (R : Int32 × (Nat → Int32) × (Nat → Int32) × Int32) (p : Program) (e : Env) (s : State) (m : MethodId) (below : List Frame) (meth : Method) (c : Code) (A : Nat → Prop) (H : Heap) (locs : List Loc) (g : JFrame) : Prop := W p l e ({ frames := 2, cells := 0, slots := 0, locals := 61 }) s m ([.ref (x 0), .int a1] : List Value).toArray below meth c H locs 0 0 (MQ below (rwQ G (some (.int R.1)) [(oX10 x t9 t6 t8 t3 t7 t1 t0 t4 t5 t2), (wS G (x 1) (u0 0) (u1 0)), (oX4 t4 R.2.2.2 t4_isKept), (wI G (t4 1) 48 R.2.1), (wI G (t4 2) 4 R.2.2.1), (oX4 u0 u0_beds u0_isKept), (wI G (u0 1) 48 u0_marks), (wI G (u0 2) 4 u0_weights), (oX4 u1 u1_beds u1_isKept), (wI G (u1 1) 48 u1_marks), (wI G (u1 2) 4 u1_weights)] A) ([.ref (x 0), .int a1] : List Value).toArray s 0 0 A) g
set_option maxHeartbeats 4000000 in
set_option maxRecDepth 100000 in
theorem c_X10_again (l : Launch) (G : TG) (x : Nat → Nat) (t9 : Nat → Nat) (t6 : Nat → Nat) (t8 : Nat → Nat) (t3 : Nat → Nat) (t7 : Nat → Nat) (t1 : Nat → Nat) (t0 : Nat → Nat) (t4 : Nat → Nat) (t5 : Nat → Nat) (t2 : Nat → Nat) (u0 : Nat → Nat) (u1 : Nat → Nat) (t4_marks : Nat → Int32) (t4_weights : Nat → Int32) (t4_beds : Int32) (t4_isKept : Int32) (u0_marks : Nat → Int32) (u0_weights : Nat → Int32) (u0_beds : Int32) (u0_isKept : Int32) (u1_marks : Nat → Int32) (u1_weights : Nat → Int32) (u1_beds : Int32) (u1_isKept : Int32) (a1 : Int32) (R : Int32 × (Nat → Int32) × (Nat → Int32) × Int32) (hf : f_X10_again t4_marks t4_weights t4_beds u0_marks u0_weights u0_beds u0_isKept u1_marks u1_weights u1_beds u1_isKept a1 = some R) : RW l yX10_again cX10_again 2 (some .int) ({ frames := 2, cells := 0, slots := 0, locals := 61 }) G [.ref (x 0), .int a1] [(oX10 x t9 t6 t8 t3 t7 t1 t0 t4 t5 t2), (wS G (x 1) (u0 0) (u1 0)), (oX4 t4 t4_beds t4_isKept), (wI G (t4 1) 48 t4_marks), (wI G (t4 2) 4 t4_weights), (oX4 u0 u0_beds u0_isKept), (wI G (u0 1) 48 u0_marks), (wI G (u0 2) 4 u0_weights), (oX4 u1 u1_beds u1_isKept), (wI G (u1 1) 48 u1_marks), (wI G (u1 2) 4 u1_weights)] (some (.int R.1)) [(oX10 x t9 t6 t8 t3 t7 t1 t0 t4 t5 t2), (wS G (x 1) (u0 0) (u1 0)), (oX4 t4 R.2.2.2 t4_isKept), (wI G (t4 1) 48 R.2.1), (wI G (t4 2) 4 R.2.2.1), (oX4 u0 u0_beds u0_isKept), (wI G (u0 1) 48 u0_marks), (wI G (u0 2) 4 u0_weights), (oX4 u1 u1_beds u1_isKept), (wI G (u1 1) 48 u1_marks), (wI G (u1 2) 4 u1_weights)] := by
  refine RW.mk (by decide +kernel) (Nat.le_of_ble_eq_true rfl) ?_
  intro p e s m below meth c ls A C hP hD hA hz hK hl hS
  have hx := C.1
  have hb := C.2.1
  have hown : s.vm.findClass RX10 = some m.cls := C.2.2.2.2.2.1
  have ht := C.2.2.2.2.2.2
  have hl : lv_has ls 2 [(0, .ref (x 0)), (1, .int a1)] := hl
  show Wc_X10_again l G x t9 t6 t8 t3 t7 t1 t0 t4 t5 t2 u0 u1 t4_marks t4_weights t4_beds t4_isKept u0_marks u0_weights u0_beds u0_isKept u1_marks u1_weights u1_beds u1_isKept a1 R p e s m below meth c A s.heap [] (F0 m 0 ls [])
  obtain ⟨H, eH, hP, hS⟩ : ∃ H, H = s.heap ∧ va_P G.1 vwCl [(oX10 x t9 t6 t8 t3 t7 t1 t0 t4 t5 t2), (wS G (x 1) (u0 0) (u1 0)), (oX4 t4 t4_beds t4_isKept), (wI G (t4 1) 48 t4_marks), (wI G (t4 2) 4 t4_weights), (oX4 u0 u0_beds u0_isKept), (wI G (u0 1) 48 u0_marks), (wI G (u0 2) 4 u0_weights), (oX4 u1 u1_beds u1_isKept), (wI G (u1 1) 48 u1_marks), (wI G (u1 2) 4 u1_weights)] H ∧ va_S A s.heap H [] := ⟨_, rfl, hP, hS⟩
  obtain ⟨locs, el, hS⟩ : ∃ locs : List Loc, locs = [] ∧ va_S A s.heap H locs := ⟨_, rfl, hS⟩
  have key : Wc_X10_again l G x t9 t6 t8 t3 t7 t1 t0 t4 t5 t2 u0 u1 t4_marks t4_weights t4_beds t4_isKept u0_marks u0_weights u0_beds u0_isKept u1_marks u1_weights u1_beds u1_isKept a1 R p e s m below meth c A H locs (F0 m 0 ls []) := by
    refine lv_iload_n hx hb dX10_again_0 rfl (lv_at hl 1 rfl) ?_
    obtain ⟨q1, r1, hf⟩ := bd_s hf
    refine ro_S (n := 1) (As := [.int a1]) (rest := []) (c_X10_isSlot l G a1 q1 r1) C (hK.at hS hz) (hP.sub [] rfl) hl kcode_X10_isSlot kml_X10_297 kst_X10_isSlot kini_X10 (by decide +kernel) ⟨⟨rfl, rfl⟩, Nat.le_of_ble_eq_true rfl, Nat.le_of_ble_eq_true rfl⟩ ⟨Nat.zero_le _, Nat.zero_le _⟩ rfl rfl (Nat.le_of_ble_eq_true rfl) dX10_again_1 rfl ?_
    refine lv_if_ne (tgt := 9) hx hb dX10_again_4 (by decide) (fun c2 => ?_) (fun c2 => ?_)
    · have hf := o_f c2 hf
      refine lv_aload_n hx hb dX10_again_9 rfl (lv_at hl 0 rfl) ?_
      refine va_get (D := G.1) (ci := 10) (v := .ref (x 1)) (C := RX10) (T := TX10) (N := 11) hx hb ht twX10 hown hK.1 hP 0 rfl rfl 10 (by decide) (ht _ kfl_X10_79) (fun _ h9 => h9) rfl dX10_again_10 ?_
      refine lv_iload_n hx hb dX10_again_13 rfl (lv_at hl 1 rfl) ?_
      obtain ⟨g3, hf⟩ := gd_s hf
      by_cases c3 : a1 = (0 : Int32)
      · have hf := o_t c3 hf
        refine va_slot (q := u0 0) hx hb hK.1 hP 1 3 rfl rfl g3 (slF_0 c3) dX10_again_14 ?_
        refine va_get (D := G.1) (ci := 4) (v := .int u0_isKept) (C := RX4) (T := TX4) (N := 4) hx hb ht twX4 hown hK.1 hP 5 rfl rfl 3 (by decide) (ht _ kfl_X10_303) (fun _ h9 => h9) rfl dX10_again_15 ?_
        refine lv_if_ne (tgt := 24) hx hb dX10_again_18 (by decide) (fun c4 => ?_) (fun c4 => ?_)
        · have hf := o_f c4 hf
          refine lv_aload_n hx hb dX10_again_24 rfl (lv_at hl 0 rfl) ?_
          refine va_get (D := G.1) (ci := 10) (v := .ref (t4 0)) (C := RX10) (T := TX10) (N := 11) hx hb ht twX10 hown hK.1 hP 0 rfl rfl 7 (by decide) (ht _ kfl_X10_61) (fun _ h9 => h9) rfl dX10_again_25 ?_
          refine lv_aload_n hx hb dX10_again_28 rfl (lv_at hl 0 rfl) ?_
          refine va_get (D := G.1) (ci := 10) (v := .ref (x 1)) (C := RX10) (T := TX10) (N := 11) hx hb ht twX10 hown hK.1 hP 0 rfl rfl 10 (by decide) (ht _ kfl_X10_79) (fun _ h9 => h9) rfl dX10_again_29 ?_
          refine lv_iload_n hx hb dX10_again_32 rfl (lv_at hl 1 rfl) ?_
          obtain ⟨g5, hf⟩ := gd_s hf
          refine va_slot (q := u0 0) hx hb hK.1 hP 1 3 rfl rfl g5 (slF_0 c3) dX10_again_33 ?_
          obtain ⟨q6, r6, hf⟩ := bd_s hf
          refine rw_V (n := 1) (As := [.ref (u0 0)]) (rest := []) (wr := [(oX10 x t9 t6 t8 t3 t7 t1 t0 t4 t5 t2), (wS G (x 1) (u0 0) (u1 0)), (oX4 u1 u1_beds u1_isKept), (wI G (u1 1) 48 u1_marks), (wI G (u1 2) 4 u1_weights)]) (ws2 := [(oX10 x t9 t6 t8 t3 t7 t1 t0 t4 t5 t2), (wS G (x 1) (u0 0) (u1 0)), (oX4 t4 q6.2.2 t4_isKept), (wI G (t4 1) 48 q6.1), (wI G (t4 2) 4 q6.2.1), (oX4 u0 u0_beds u0_isKept), (wI G (u0 1) 48 u0_marks), (wI G (u0 2) 4 u0_weights), (oX4 u1 u1_beds u1_isKept), (wI G (u1 1) 48 u1_marks), (wI G (u1 2) 4 u1_weights)]) (c_X4_copyFrom l G t4 u0 t4_marks t4_weights t4_beds t4_isKept u0_marks u0_weights u0_beds u0_isKept q6 r6) C hK hP hD hS hA hz hl [2, 3, 4, 5, 6, 7] [0, 1, 8, 9, 10] [0, 1, 5, 6, 7, 8, 9, 10, 2, 3, 4] rfl rfl rfl rfl rfl (by decide) rfl rfl rfl kcode_X4_copyFrom kml_X10_300 kim_X4_copyFrom ksel_X4_copyFrom kini_X4 (by decide +kernel) ⟨⟨rfl, rfl⟩, Nat.le_of_ble_eq_true rfl, Nat.le_of_ble_eq_true rfl⟩ ⟨Nat.zero_le _, Nat.zero_le _⟩ rfl rfl rfl rfl rfl (Nat.le_of_ble_eq_true rfl) dX10_again_34 rfl (fun H locs hP hD hS => ?_)
          refine lv_aload_n hx hb dX10_again_37 rfl (lv_at hl 0 rfl) ?_
          refine va_get (D := G.1) (ci := 10) (v := .ref (t4 0)) (C := RX10) (T := TX10) (N := 11) hx hb ht twX10 hown hK.1 hP 0 rfl rfl 7 (by decide) (ht _ kfl_X10_61) (fun _ h9 => h9) rfl dX10_again_38 ?_
          refine va_get (D := G.1) (ci := 4) (v := .int q6.2.2) (C := RX4) (T := TX4) (N := 4) hx hb ht twX4 hown hK.1 hP 2 rfl rfl 2 (by decide) (ht _ kfl_X10_208) (fun _ h9 => h9) rfl dX10_again_41 ?_
          have h9 := Option.some.inj hf
          subst h9
          exact rw_iret C rfl hP hD hS dX10_again_44
        · have hf := o_t c4 hf
          refine lv_bipush (v := -3) hx hb dX10_again_21 (by decide) ?_
          have h9 := Option.some.inj hf
          subst h9
          exact rw_iret C rfl hP hD hS dX10_again_23
      · have hf := o_f c3 hf
        refine va_slot (q := u1 0) hx hb hK.1 hP 1 3 rfl rfl g3 (slF_1 g3 c3) dX10_again_14 ?_
        refine va_get (D := G.1) (ci := 4) (v := .int u1_isKept) (C := RX4) (T := TX4) (N := 4) hx hb ht twX4 hown hK.1 hP 8 rfl rfl 3 (by decide) (ht _ kfl_X10_303) (fun _ h9 => h9) rfl dX10_again_15 ?_
        refine lv_if_ne (tgt := 24) hx hb dX10_again_18 (by decide) (fun c9 => ?_) (fun c9 => ?_)
        · have hf := o_f c9 hf
          refine lv_aload_n hx hb dX10_again_24 rfl (lv_at hl 0 rfl) ?_
          refine va_get (D := G.1) (ci := 10) (v := .ref (t4 0)) (C := RX10) (T := TX10) (N := 11) hx hb ht twX10 hown hK.1 hP 0 rfl rfl 7 (by decide) (ht _ kfl_X10_61) (fun _ h9 => h9) rfl dX10_again_25 ?_
          refine lv_aload_n hx hb dX10_again_28 rfl (lv_at hl 0 rfl) ?_
          refine va_get (D := G.1) (ci := 10) (v := .ref (x 1)) (C := RX10) (T := TX10) (N := 11) hx hb ht twX10 hown hK.1 hP 0 rfl rfl 10 (by decide) (ht _ kfl_X10_79) (fun _ h9 => h9) rfl dX10_again_29 ?_
          refine lv_iload_n hx hb dX10_again_32 rfl (lv_at hl 1 rfl) ?_
          obtain ⟨g10, hf⟩ := gd_s hf
          refine va_slot (q := u1 0) hx hb hK.1 hP 1 3 rfl rfl g10 (slF_1 g10 c3) dX10_again_33 ?_
          obtain ⟨q11, r11, hf⟩ := bd_s hf
          refine rw_V (n := 1) (As := [.ref (u1 0)]) (rest := []) (wr := [(oX10 x t9 t6 t8 t3 t7 t1 t0 t4 t5 t2), (wS G (x 1) (u0 0) (u1 0)), (oX4 u0 u0_beds u0_isKept), (wI G (u0 1) 48 u0_marks), (wI G (u0 2) 4 u0_weights)]) (ws2 := [(oX10 x t9 t6 t8 t3 t7 t1 t0 t4 t5 t2), (wS G (x 1) (u0 0) (u1 0)), (oX4 t4 q11.2.2 t4_isKept), (wI G (t4 1) 48 q11.1), (wI G (t4 2) 4 q11.2.1), (oX4 u0 u0_beds u0_isKept), (wI G (u0 1) 48 u0_marks), (wI G (u0 2) 4 u0_weights), (oX4 u1 u1_beds u1_isKept), (wI G (u1 1) 48 u1_marks), (wI G (u1 2) 4 u1_weights)]) (c_X4_copyFrom l G t4 u1 t4_marks t4_weights t4_beds t4_isKept u1_marks u1_weights u1_beds u1_isKept q11 r11) C hK hP hD hS hA hz hl [2, 3, 4, 8, 9, 10] [0, 1, 5, 6, 7] [0, 1, 5, 6, 7, 2, 3, 4, 8, 9, 10] rfl rfl rfl rfl rfl (by decide) rfl rfl rfl kcode_X4_copyFrom kml_X10_300 kim_X4_copyFrom ksel_X4_copyFrom kini_X4 (by decide +kernel) ⟨⟨rfl, rfl⟩, Nat.le_of_ble_eq_true rfl, Nat.le_of_ble_eq_true rfl⟩ ⟨Nat.zero_le _, Nat.zero_le _⟩ rfl rfl rfl rfl rfl (Nat.le_of_ble_eq_true rfl) dX10_again_34 rfl (fun H locs hP hD hS => ?_)
          refine lv_aload_n hx hb dX10_again_37 rfl (lv_at hl 0 rfl) ?_
          refine va_get (D := G.1) (ci := 10) (v := .ref (t4 0)) (C := RX10) (T := TX10) (N := 11) hx hb ht twX10 hown hK.1 hP 0 rfl rfl 7 (by decide) (ht _ kfl_X10_61) (fun _ h9 => h9) rfl dX10_again_38 ?_
          refine va_get (D := G.1) (ci := 4) (v := .int q11.2.2) (C := RX4) (T := TX4) (N := 4) hx hb ht twX4 hown hK.1 hP 2 rfl rfl 2 (by decide) (ht _ kfl_X10_208) (fun _ h9 => h9) rfl dX10_again_41 ?_
          have h9 := Option.some.inj hf
          subst h9
          exact rw_iret C rfl hP hD hS dX10_again_44
        · have hf := o_t c9 hf
          refine lv_bipush (v := -3) hx hb dX10_again_21 (by decide) ?_
          have h9 := Option.some.inj hf
          subst h9
          exact rw_iret C rfl hP hD hS dX10_again_23
    · have hf := o_t c2 hf
      refine lv_iconst (v := -1) hx hb dX10_again_7 (by decide) ?_
      have h9 := Option.some.inj hf
      subst h9
      exact rw_iret C rfl hP hD hS dX10_again_8
  rw [eH, el] at key
  exact key
abbrev Wc_X10_count (l : Launch) (G : TG) (x : Nat → Nat) (t9 : Nat → Nat) (t6 : Nat → Nat) (t8 : Nat → Nat) (t3 : Nat → Nat) (t7 : Nat → Nat) (t1 : Nat → Nat) (t0 : Nat → Nat) (t4 : Nat → Nat) (t5 : Nat → Nat) (t2 : Nat → Nat) (t9_length : Int32) (t4_marks : Nat → Int32) (t4_weights : Nat → Int32) (t4_beds : Int32) (t4_isKept : Int32) (a1 : Int32) (R : Int32) (p : Program) (e : Env) (s : State) (m : MethodId) (below : List Frame) (meth : Method) (c : Code) (H : Heap) (locs : List Loc) (g : JFrame) : Prop := W p l e ({ frames := 5, cells := 0, slots := 0, locals := 110 }) s m ([.ref (x 0), .int a1] : List Value).toArray below meth c H locs 0 0 (MQ below (roQ (some (.int R))) ([.ref (x 0), .int a1] : List Value).toArray s 0 0 (fun _ => False)) g
set_option maxHeartbeats 4000000 in
set_option maxRecDepth 100000 in
theorem c_X10_count (l : Launch) (G : TG) (x : Nat → Nat) (t9 : Nat → Nat) (t6 : Nat → Nat) (t8 : Nat → Nat) (t3 : Nat → Nat) (t7 : Nat → Nat) (t1 : Nat → Nat) (t0 : Nat → Nat) (t4 : Nat → Nat) (t5 : Nat → Nat) (t2 : Nat → Nat) (t9_length : Int32) (t4_marks : Nat → Int32) (t4_weights : Nat → Int32) (t4_beds : Int32) (t4_isKept : Int32) (a1 : Int32) (R : Int32) (hf : f_X10_count t9_length t4_marks t4_weights t4_beds a1 = some R) : RO l yX10_count cX10_count 2 (some .int) ({ frames := 5, cells := 0, slots := 0, locals := 110 }) G [.ref (x 0), .int a1] [(oX10 x t9 t6 t8 t3 t7 t1 t0 t4 t5 t2), (oX9 t9 t9_length), (oX4 t4 t4_beds t4_isKept), (wI G (t4 1) 48 t4_marks), (wI G (t4 2) 4 t4_weights)] (some (.int R)) := by
  refine RO.mk (by decide +kernel) (Nat.le_of_ble_eq_true rfl) ?_
  intro p e s m below meth c ls C hP hK hl
  have hx := C.1
  have hb := C.2.1
  have hown : s.vm.findClass RX10 = some m.cls := C.2.2.2.2.2.1
  have ht := C.2.2.2.2.2.2
  have hl : lv_has ls 2 [(0, .ref (x 0)), (1, .int a1)] := hl
  show Wc_X10_count l G x t9 t6 t8 t3 t7 t1 t0 t4 t5 t2 t9_length t4_marks t4_weights t4_beds t4_isKept a1 R p e s m below meth c s.heap [] (F0 m 0 ls [])
  refine lv_iload_n hx hb dX10_count_0 rfl (lv_at hl 1 rfl) ?_
  by_cases c1_0 : a1 = (0 : Int32)
  · have hf := o_t c1_0 hf
    refine lv_tsI (tgt := 32) hx hb dX10_count_1 c1_0 (by decide) (by decide) rfl (by decide) ?_
    refine lv_aload_n hx hb dX10_count_32 rfl (lv_at hl 0 rfl) ?_
    refine va_get (D := G.1) (ci := 10) (v := .ref (t9 0)) (C := RX10) (T := TX10) (N := 11) hx hb ht twX10 hown hK.1 hP 0 rfl rfl 0 (by decide) (ht _ kfl_X10_10) (fun _ h9 => h9) rfl dX10_count_33 ?_
    refine va_get (D := G.1) (ci := 9) (v := .int t9_length) (C := RX9) (T := TX9) (N := 2) hx hb ht twX9 hown hK.1 hP 1 rfl rfl 1 (by decide) (ht _ kfl_X10_95) (fun _ h9 => h9) rfl dX10_count_36 ?_
    have h9 := Option.some.inj hf
    subst h9
    exact ro_iret C rfl dX10_count_39
  have hf := o_f c1_0 hf
  by_cases c1_1 : a1 = (1 : Int32)
  · have hf := o_t c1_1 hf
    refine lv_tsI (tgt := 40) hx hb dX10_count_1 c1_1 (by decide) (by decide) rfl (by decide) ?_
    refine lv_aload_n hx hb dX10_count_40 rfl (lv_at hl 0 rfl) ?_
    refine va_get (D := G.1) (ci := 10) (v := .ref (t4 0)) (C := RX10) (T := TX10) (N := 11) hx hb ht twX10 hown hK.1 hP 0 rfl rfl 7 (by decide) (ht _ kfl_X10_61) (fun _ h9 => h9) rfl dX10_count_41 ?_
    refine va_get (D := G.1) (ci := 4) (v := .int t4_beds) (C := RX4) (T := TX4) (N := 4) hx hb ht twX4 hown hK.1 hP 2 rfl rfl 2 (by decide) (ht _ kfl_X10_208) (fun _ h9 => h9) rfl dX10_count_44 ?_
    have h9 := Option.some.inj hf
    subst h9
    exact ro_iret C rfl dX10_count_47
  have hf := o_f c1_1 hf
  by_cases c1_2 : a1 = (2 : Int32)
  · have hf := o_t c1_2 hf
    refine lv_tsI (tgt := 48) hx hb dX10_count_1 c1_2 (by decide) (by decide) rfl (by decide) ?_
    refine lv_aload_n hx hb dX10_count_48 rfl (lv_at hl 0 rfl) ?_
    refine va_get (D := G.1) (ci := 10) (v := .ref (t4 0)) (C := RX10) (T := TX10) (N := 11) hx hb ht twX10 hown hK.1 hP 0 rfl rfl 7 (by decide) (ht _ kfl_X10_61) (fun _ h9 => h9) rfl dX10_count_49 ?_
    obtain ⟨q4, r4, hf⟩ := bd_s hf
    refine ro_V (n := 0) (As := []) (rest := []) (c_X4_icyBeds l G t4 t4_marks t4_beds t4_isKept q4 r4) C hK (hP.sub [2, 3] rfl) hl kcode_X4_icyBeds kml_X10_307 kim_X4_icyBeds ksel_X4_icyBeds kini_X4 (by decide +kernel) ⟨⟨rfl, rfl⟩, Nat.le_of_ble_eq_true rfl, Nat.le_of_ble_eq_true rfl⟩ ⟨Nat.zero_le _, Nat.zero_le _⟩ rfl rfl rfl rfl rfl (Nat.le_of_ble_eq_true rfl) dX10_count_52 rfl ?_
    have h9 := Option.some.inj hf
    subst h9
    exact ro_iret C rfl dX10_count_55
  have hf := o_f c1_2 hf
  by_cases c1_3 : a1 = (3 : Int32)
  · have hf := o_t c1_3 hf
    refine lv_tsI (tgt := 56) hx hb dX10_count_1 c1_3 (by decide) (by decide) rfl (by decide) ?_
    refine lv_aload_n hx hb dX10_count_56 rfl (lv_at hl 0 rfl) ?_
    refine va_get (D := G.1) (ci := 10) (v := .ref (t4 0)) (C := RX10) (T := TX10) (N := 11) hx hb ht twX10 hown hK.1 hP 0 rfl rfl 7 (by decide) (ht _ kfl_X10_61) (fun _ h9 => h9) rfl dX10_count_57 ?_
    obtain ⟨q6, r6, hf⟩ := bd_s hf
    refine ro_V (n := 0) (As := []) (rest := []) (c_X4_weightsTogether l G t4 t4_weights t4_beds t4_isKept q6 r6) C hK (hP.sub [2, 4] rfl) hl kcode_X4_weightsTogether kml_X10_310 kim_X4_weightsTogether ksel_X4_weightsTogether kini_X4 (by decide +kernel) ⟨⟨rfl, rfl⟩, Nat.le_of_ble_eq_true rfl, Nat.le_of_ble_eq_true rfl⟩ ⟨Nat.zero_le _, Nat.zero_le _⟩ rfl rfl rfl rfl rfl (Nat.le_of_ble_eq_true rfl) dX10_count_60 rfl ?_
    have h9 := Option.some.inj hf
    subst h9
    exact ro_iret C rfl dX10_count_63
  have hf := o_f c1_3 hf
  refine lv_tableOut (tgt := 64) hx hb dX10_count_1 (ts3 c1_0 c1_1 c1_2 c1_3) (by decide) ?_
  refine lv_bipush (v := -2) hx hb dX10_count_64 (by decide) ?_
  have h9 := Option.some.inj hf
  subst h9
  exact ro_iret C rfl dX10_count_66
abbrev Wc_X11_in (l : Launch) (G : TG) (a0 : Int64) (a2 : Int64) (a4 : Int64) (R : Int32) (p : Program) (e : Env) (s : State) (m : MethodId) (below : List Frame) (meth : Method) (c : Code) (H : Heap) (locs : List Loc) (g : JFrame) : Prop := W p l e ({ frames := 0, cells := 0, slots := 0, locals := 0 }) s m ([.long a0, .long a2, .long a4] : List Value).toArray below meth c H locs 0 0 (MQ below (roQ (some (.int R))) ([.long a0, .long a2, .long a4] : List Value).toArray s 0 0 (fun _ => False)) g
set_option maxHeartbeats 4000000 in
set_option maxRecDepth 100000 in
theorem c_X11_in (l : Launch) (G : TG) (a0 : Int64) (a2 : Int64) (a4 : Int64) (R : Int32) (hf : f_X11_in a0 a2 a4 = some R) : RO l yX11_in cX11_in 6 (some .boolean) ({ frames := 0, cells := 0, slots := 0, locals := 0 }) G [.long a0, .long a2, .long a4] [] (some (.int R)) := by
  refine RO.mk (by decide +kernel) (Nat.le_of_ble_eq_true rfl) ?_
  intro p e s m below meth c ls C hP hK hl
  have hx := C.1
  have hb := C.2.1
  have hown : s.vm.findClass RX11 = some m.cls := C.2.2.2.2.2.1
  have ht := C.2.2.2.2.2.2
  have hl : lv_has ls 6 [(0, .long a0), (2, .long a2), (4, .long a4)] := hl
  show Wc_X11_in l G a0 a2 a4 R p e s m below meth c s.heap [] (F0 m 0 ls [])
  refine lv_lload_n hx hb dX11_in_0 rfl (lv_at hl 0 rfl) ?_
  refine lv_lload_n hx hb dX11_in_1 rfl (lv_at hl 1 rfl) ?_
  refine W.lcmp hx hb dX11_in_2 ?_
  refine lv_if_lt (tgt := 17) hx hb dX11_in_3 (by decide) (fun c1 => ?_) (fun c1 => ?_)
  · have hf := o_t c1 hf
    refine lv_iconst (v := 0) hx hb dX11_in_17 (by decide) ?_
    have h9 := Option.some.inj hf
    subst h9
    exact ro_zret C (Or.inl rfl) rfl dX11_in_18
  · have hf := o_f c1 hf
    refine lv_lload_n hx hb dX11_in_6 rfl (lv_at hl 0 rfl) ?_
    refine lv_lload hx hb dX11_in_7 (lv_at hl 2 rfl) ?_
    refine W.lcmp hx hb dX11_in_9 ?_
    refine lv_if_gt (tgt := 17) hx hb dX11_in_10 (by decide) (fun c3 => ?_) (fun c3 => ?_)
    · have hf := o_t c3 hf
      refine lv_iconst (v := 0) hx hb dX11_in_17 (by decide) ?_
      have h9 := Option.some.inj hf
      subst h9
      exact ro_zret C (Or.inl rfl) rfl dX11_in_18
    · have hf := o_f c3 hf
      refine lv_iconst (v := 1) hx hb dX11_in_13 (by decide) ?_
      refine lv_goto (tgt := 18) hx hb dX11_in_14 (by decide) ?_
      have h9 := Option.some.inj hf
      subst h9
      exact ro_zret C (Or.inr rfl) rfl dX11_in_18
abbrev Wc_X11_ones (l : Launch) (G : TG) (a0 : Int32) (R : Int32) (p : Program) (e : Env) (s : State) (m : MethodId) (below : List Frame) (meth : Method) (c : Code) (H : Heap) (locs : List Loc) (g : JFrame) : Prop := W p l e ({ frames := 0, cells := 0, slots := 0, locals := 0 }) s m ([.int a0] : List Value).toArray below meth c H locs 0 0 (MQ below (roQ (some (.int R))) ([.int a0] : List Value).toArray s 0 0 (fun _ => False)) g
set_option maxHeartbeats 4000000 in
set_option maxRecDepth 100000 in
theorem c_X11_ones (l : Launch) (G : TG) (a0 : Int32) (R : Int32) (hf : f_X11_ones a0 = some R) : RO l yX11_ones cX11_ones 3 (some .int) ({ frames := 0, cells := 0, slots := 0, locals := 0 }) G [.int a0] [] (some (.int R)) := by
  refine RO.mk (by decide +kernel) (Nat.le_of_ble_eq_true rfl) ?_
  intro p e s m below meth c ls C hP hK hl
  have hx := C.1
  have hb := C.2.1
  have hown : s.vm.findClass RX11 = some m.cls := C.2.2.2.2.2.1
  have ht := C.2.2.2.2.2.2
  have hl : lv_has ls 3 [(0, .int a0)] := hl
  show Wc_X11_ones l G a0 R p e s m below meth c s.heap [] (F0 m 0 ls [])
  refine lv_iconst (v := 0) hx hb dX11_ones_0 (by decide) ?_
  refine lv_istore_n (lv' := [(1, .int (0 : Int32)), (0, .int a0)]) hx hb dX11_ones_1 rfl hl (by decide) rfl (fun ls hl => ?_)
  refine lv_iconst (v := 0) hx hb dX11_ones_2 (by decide) ?_
  refine lv_istore_n (lv' := [(2, .int (0 : Int32)), (1, .int (0 : Int32)), (0, .int a0)]) hx hb dX11_ones_3 rfl hl (by decide) rfl (fun ls hl => ?_)
  have hx24_1 : ∀ (v1 : Int32) (ls : Array Slot), f_X11_ones_x24_1 v1 = some R → lv_has ls 3 [(1, .int v1)] → Wc_X11_ones l G a0 R p e s m below meth c s.heap [] (F0 m 24 ls []) := by
    intro v1 ls hf hl
    refine lv_iload_n hx hb dX11_ones_24 rfl (lv_at hl 0 rfl) ?_
    have h9 := Option.some.inj hf
    subst h9
    exact ro_iret C rfl dX11_ones_25
  obtain ⟨rL1, hL1, hk1⟩ := bd_s hf
  refine lp_W (P := fun st => ∀ (ls : Array Slot), lv_has ls 3 [(0, .int a0), (1, .int st.1), (2, .int st.2)] → Wc_X11_ones l G a0 R p e s m below meth c s.heap [] (F0 m 4 ls [])) ?_ FU ((0 : Int32), (0 : Int32)) hL1 ls (lv_sub hl [2, 1, 0] rfl)
  intro ⟨v1, v2⟩ oc1 hf hI hE ls hl
  have hl : lv_has ls 3 [(0, .int a0), (1, .int v1), (2, .int v2)] := hl
  have hf : f_X11_ones_b4 a0 v1 v2 = some oc1 := hf
  refine lv_iload_n hx hb dX11_ones_4 rfl (lv_at hl 2 rfl) ?_
  refine lv_bipush (v := 6) hx hb dX11_ones_5 (by decide) ?_
  refine lv_icmp_ge (tgt := 24) hx hb dX11_ones_7 (by decide) (fun c3 => ?_) (fun c3 => ?_)
  · have hf := o_t c3 hf
    cases hf
    have hf : f_X11_ones_x24_1 v1 = some R := by have h9 := hk1; rw [← hE _ rfl] at h9; exact h9
    exact hx24_1 v1 ls hf (lv_sub hl [1] rfl)
  · have hf := o_f c3 hf
    refine lv_iload_n hx hb dX11_ones_10 rfl (lv_at hl 1 rfl) ?_
    refine lv_iload_n hx hb dX11_ones_11 rfl (lv_at hl 0 rfl) ?_
    refine lv_iload_n hx hb dX11_ones_12 rfl (lv_at hl 2 rfl) ?_
    refine lv_ishr hx hb dX11_ones_13 ?_
    refine lv_iconst (v := 1) hx hb dX11_ones_14 (by decide) ?_
    refine lv_iand hx hb dX11_ones_15 ?_
    refine lv_iadd hx hb dX11_ones_16 ?_
    obtain ⟨u4, e4, hf⟩ := bd_s hf
    refine lv_re (Option.some.inj e4).symm ?_
    refine lv_istore_n (lv' := [(1, .int u4), (0, .int a0), (2, .int v2)]) hx hb dX11_ones_17 rfl hl (by decide) rfl (fun ls hl => ?_)
    refine lv_iinc (v := (v2 + (1 : Int32))) (lv' := [(2, .int (v2 + (1 : Int32))), (1, .int u4), (0, .int a0)]) hx hb dX11_ones_18 hl (k := 2) rfl (by rfl) (by decide) rfl (fun ls hl => ?_)
    refine lv_goto (tgt := 4) hx hb dX11_ones_21 (by decide) ?_
    cases hf
    exact hI _ rfl ls (lv_sub hl [2, 1, 0] rfl)
abbrev Wc_X11_write (l : Launch) (G : TG) (mo : Nat → Nat) (mo_text : Nat → Int32) (mo_length : Int32) (mo_at : Int32) (mo_faultAt : Int32) (mo_parts : Int32) (mo_entries : Int32) (mo_ringEarth : Int32) (mo_lead : Int32) (mo_ring : Int32) (mo_jumpMany : Int32) (mo_curveEnd : Int32) (mo_beds : Int32) (mo_all : Int64) (a1 : Int32) (a2 : Int64) (R : Int32 × (Nat → Int32) × Int32) (p : Program) (e : Env) (s : State) (m : MethodId) (below : List Frame) (meth : Method) (c : Code) (A : Nat → Prop) (H : Heap) (locs : List Loc) (g : JFrame) : Prop := W p l e ({ frames := 1, cells := 0, slots := 0, locals := 25 }) s m ([.ref (mo 0), .int a1, .long a2] : List Value).toArray below meth c H locs 0 0 (MQ below (rwQ G (some (.int R.1)) [(oX11 mo R.2.2 mo_at mo_faultAt mo_parts mo_entries mo_ringEarth mo_lead mo_ring mo_jumpMany mo_curveEnd mo_beds mo_all), (wI G (mo 3) 48 R.2.1)] A) ([.ref (mo 0), .int a1, .long a2] : List Value).toArray s 0 0 A) g
set_option maxHeartbeats 4000000 in
set_option maxRecDepth 100000 in
theorem c_X11_write (l : Launch) (G : TG) (mo : Nat → Nat) (mo_text : Nat → Int32) (mo_length : Int32) (mo_at : Int32) (mo_faultAt : Int32) (mo_parts : Int32) (mo_entries : Int32) (mo_ringEarth : Int32) (mo_lead : Int32) (mo_ring : Int32) (mo_jumpMany : Int32) (mo_curveEnd : Int32) (mo_beds : Int32) (mo_all : Int64) (a1 : Int32) (a2 : Int64) (R : Int32 × (Nat → Int32) × Int32) (hf : f_X11_write mo_text mo_length a1 a2 = some R) : RW l yX11_write cX11_write 5 (some .int) ({ frames := 1, cells := 0, slots := 0, locals := 25 }) G [.ref (mo 0), .int a1, .long a2] [(oX11 mo mo_length mo_at mo_faultAt mo_parts mo_entries mo_ringEarth mo_lead mo_ring mo_jumpMany mo_curveEnd mo_beds mo_all), (wI G (mo 3) 48 mo_text)] (some (.int R.1)) [(oX11 mo R.2.2 mo_at mo_faultAt mo_parts mo_entries mo_ringEarth mo_lead mo_ring mo_jumpMany mo_curveEnd mo_beds mo_all), (wI G (mo 3) 48 R.2.1)] := by
  refine RW.mk (by decide +kernel) (Nat.le_of_ble_eq_true rfl) ?_
  intro p e s m below meth c ls A C hP hD hA hz hK hl hS
  have hx := C.1
  have hb := C.2.1
  have hown : s.vm.findClass RX11 = some m.cls := C.2.2.2.2.2.1
  have ht := C.2.2.2.2.2.2
  have hl : lv_has ls 5 [(0, .ref (mo 0)), (1, .int a1), (2, .long a2)] := hl
  show Wc_X11_write l G mo mo_text mo_length mo_at mo_faultAt mo_parts mo_entries mo_ringEarth mo_lead mo_ring mo_jumpMany mo_curveEnd mo_beds mo_all a1 a2 R p e s m below meth c A s.heap [] (F0 m 0 ls [])
  obtain ⟨H, eH, hP, hS⟩ : ∃ H, H = s.heap ∧ va_P G.1 vwCl [(oX11 mo mo_length mo_at mo_faultAt mo_parts mo_entries mo_ringEarth mo_lead mo_ring mo_jumpMany mo_curveEnd mo_beds mo_all), (wI G (mo 3) 48 mo_text)] H ∧ va_S A s.heap H [] := ⟨_, rfl, hP, hS⟩
  obtain ⟨locs, el, hS⟩ : ∃ locs : List Loc, locs = [] ∧ va_S A s.heap H locs := ⟨_, rfl, hS⟩
  have key : Wc_X11_write l G mo mo_text mo_length mo_at mo_faultAt mo_parts mo_entries mo_ringEarth mo_lead mo_ring mo_jumpMany mo_curveEnd mo_beds mo_all a1 a2 R p e s m below meth c A H locs (F0 m 0 ls []) := by
    refine lv_iload_n hx hb dX11_write_0 rfl (lv_at hl 1 rfl) ?_
    refine lv_i2l (v := (a1.toInt64)) hx hb dX11_write_1 rfl ?_
    refine lv_lconst (v := 1) hx hb dX11_write_2 (by decide) ?_
    refine lv_ldc2 hx hb hown (ht _ kcL_X11_63) dX11_write_3 ?_
    obtain ⟨q1, r1, hf⟩ := bd_s hf
    refine ro_S (n := 3) (As := [.long (a1.toInt64), .long (1 : Int64), .long (8 : Int64)]) (rest := []) (c_X11_in l G (a1.toInt64) (1 : Int64) (8 : Int64) q1 r1) C (hK.at hS hz) (hP.sub [] rfl) hl kcode_X11_in kml_X11_65 kst_X11_in kini_X11 (by decide +kernel) ⟨⟨rfl, rfl⟩, Nat.le_of_ble_eq_true rfl, Nat.le_of_ble_eq_true rfl⟩ ⟨Nat.zero_le _, Nat.zero_le _⟩ rfl rfl (Nat.le_of_ble_eq_true rfl) dX11_write_6 rfl ?_
    refine lv_if_ne (tgt := 15) hx hb dX11_write_9 (by decide) (fun c2 => ?_) (fun c2 => ?_)
    · have hf := o_f c2 hf
      refine lv_aload_n hx hb dX11_write_15 rfl (lv_at hl 0 rfl) ?_
      refine va_get (D := G.1) (ci := 11) (v := .int mo_length) (C := RX11) (T := TX11) (N := 29) hx hb ht twX11 hown hK.1 hP 0 rfl rfl 3 (by decide) (ht _ kfl_X11_69) (fun _ h9 => h9) rfl dX11_write_16 ?_
      refine lv_iload_n hx hb dX11_write_19 rfl (lv_at hl 1 rfl) ?_
      refine lv_iadd hx hb dX11_write_20 ?_
      refine lv_bipush (v := 48) hx hb dX11_write_21 (by decide) ?_
      refine lv_icmp_le (tgt := 29) hx hb dX11_write_23 (by decide) (fun c3 => ?_) (fun c3 => ?_)
      · have hf := o_t c3 hf
        refine lv_iload_n hx hb dX11_write_29 rfl (lv_at hl 1 rfl) ?_
        refine lv_iconst (v := 1) hx hb dX11_write_30 (by decide) ?_
        refine lv_isub hx hb dX11_write_31 ?_
        refine lv_istore (lv' := [(4, .int (a1 - (1 : Int32))), (0, .ref (mo 0)), (1, .int a1), (2, .long a2)]) hx hb dX11_write_32 hl (by decide) rfl (fun ls hl => ?_)
        have hx76_4 : ∀ (mo_text : Nat → Int32) (mo_length : Int32) (H : Heap) (locs : List Loc) (ls : Array Slot), f_X11_write_x76_4 mo_text mo_length = some R → va_P G.1 vwCl [(oX11 mo mo_length mo_at mo_faultAt mo_parts mo_entries mo_ringEarth mo_lead mo_ring mo_jumpMany mo_curveEnd mo_beds mo_all), (wI G (mo 3) 48 mo_text)] H → va_D A [(oX11 mo mo_length mo_at mo_faultAt mo_parts mo_entries mo_ringEarth mo_lead mo_ring mo_jumpMany mo_curveEnd mo_beds mo_all), (wI G (mo 3) 48 mo_text)] → va_S A s.heap H locs → lv_has ls 5 [(0, .ref (mo 0))] → Wc_X11_write l G mo mo_text mo_length mo_at mo_faultAt mo_parts mo_entries mo_ringEarth mo_lead mo_ring mo_jumpMany mo_curveEnd mo_beds mo_all a1 a2 R p e s m below meth c A H locs (F0 m 76 ls []) := by
          intro mo_text mo_length H locs ls hf hP hD hS hl
          refine lv_aload_n hx hb dX11_write_76 rfl (lv_at hl 0 rfl) ?_
          refine va_get (D := G.1) (ci := 11) (v := .int mo_length) (C := RX11) (T := TX11) (N := 29) hx hb ht twX11 hown hK.1 hP 0 rfl rfl 3 (by decide) (ht _ kfl_X11_69) (fun _ h9 => h9) rfl dX11_write_77 ?_
          have h9 := Option.some.inj hf
          subst h9
          exact rw_iret C rfl hP hD hS dX11_write_80
        obtain ⟨rL4, hL4, hk4⟩ := bd_s hf
        refine lp_W (P := fun st => ∀ (H : Heap) (locs : List Loc) (ls : Array Slot), va_P G.1 vwCl [(oX11 mo st.2.2 mo_at mo_faultAt mo_parts mo_entries mo_ringEarth mo_lead mo_ring mo_jumpMany mo_curveEnd mo_beds mo_all), (wI G (mo 3) 48 st.2.1)] H → va_D A [(oX11 mo st.2.2 mo_at mo_faultAt mo_parts mo_entries mo_ringEarth mo_lead mo_ring mo_jumpMany mo_curveEnd mo_beds mo_all), (wI G (mo 3) 48 st.2.1)] → va_S A s.heap H locs → lv_has ls 5 [(0, .ref (mo 0)), (2, .long a2), (4, .int st.1)] → Wc_X11_write l G mo mo_text mo_length mo_at mo_faultAt mo_parts mo_entries mo_ringEarth mo_lead mo_ring mo_jumpMany mo_curveEnd mo_beds mo_all a1 a2 R p e s m below meth c A H locs (F0 m 34 ls [])) ?_ FU ((a1 - (1 : Int32)), mo_text, mo_length) hL4 H locs ls hP hD hS (lv_sub hl [1, 3, 0] rfl)
        intro ⟨v4, mo_text, mo_length⟩ oc4 hf hI hE H locs ls hP hD hS hl
        have hP : va_P G.1 vwCl [(oX11 mo mo_length mo_at mo_faultAt mo_parts mo_entries mo_ringEarth mo_lead mo_ring mo_jumpMany mo_curveEnd mo_beds mo_all), (wI G (mo 3) 48 mo_text)] H := hP
        have hD : va_D A [(oX11 mo mo_length mo_at mo_faultAt mo_parts mo_entries mo_ringEarth mo_lead mo_ring mo_jumpMany mo_curveEnd mo_beds mo_all), (wI G (mo 3) 48 mo_text)] := hD
        have hl : lv_has ls 5 [(0, .ref (mo 0)), (2, .long a2), (4, .int v4)] := hl
        have hf : f_X11_write_b34 a2 v4 mo_text mo_length = some oc4 := hf
        refine lv_iload hx hb dX11_write_34 (lv_at hl 2 rfl) ?_
        refine lv_if_lt (tgt := 76) hx hb dX11_write_36 (by decide) (fun c6 => ?_) (fun c6 => ?_)
        · have hf := o_t c6 hf
          cases hf
          have hf : f_X11_write_x76_4 mo_text mo_length = some R := by have h9 := hk4; rw [← hE _ rfl] at h9; exact h9
          exact hx76_4 mo_text mo_length H locs ls hf hP hD hS (lv_sub hl [0] rfl)
        · have hf := o_f c6 hf
          refine lv_aload_n hx hb dX11_write_39 rfl (lv_at hl 0 rfl) ?_
          refine va_get (D := G.1) (ci := 11) (v := .ref (mo 3)) (C := RX11) (T := TX11) (N := 29) hx hb ht twX11 hown hK.1 hP 0 rfl rfl 2 (by decide) (ht _ kfl_X11_16) (fun _ h9 => h9) rfl dX11_write_40 ?_
          refine lv_aload_n hx hb dX11_write_43 rfl (lv_at hl 0 rfl) ?_
          refine va_get (D := G.1) (ci := 11) (v := .int mo_length) (C := RX11) (T := TX11) (N := 29) hx hb ht twX11 hown hK.1 hP 0 rfl rfl 3 (by decide) (ht _ kfl_X11_69) (fun _ h9 => h9) rfl dX11_write_44 ?_
          refine lv_lload_n hx hb dX11_write_47 rfl (lv_at hl 1 rfl) ?_
          refine lv_bipush (v := 8) hx hb dX11_write_48 (by decide) ?_
          refine lv_iload hx hb dX11_write_50 (lv_at hl 2 rfl) ?_
          refine lv_imul hx hb dX11_write_52 ?_
          refine lv_lshr (v := (a2 >>> (((8 : Int32) * v4).toInt64 &&& (63 : Int64)))) hx hb dX11_write_53 rfl ?_
          refine lv_ldc2 hx hb hown (ht _ kcL_X11_73) dX11_write_54 ?_
          refine lv_land hx hb dX11_write_57 ?_
          refine lv_l2i (v := (((a2 >>> (((8 : Int32) * v4).toInt64 &&& (63 : Int64))) &&& (255 : Int64)).toInt32)) hx hb dX11_write_58 rfl ?_
          obtain ⟨g7, hf⟩ := gd_s hf
          refine va_iast hx hb hK.1 hP hD hS 1 0 rfl rfl g7 dX11_write_59 (fun H locs hP hD hS => ?_)
          have hP : va_P G.1 vwCl [(oX11 mo mo_length mo_at mo_faultAt mo_parts mo_entries mo_ringEarth mo_lead mo_ring mo_jumpMany mo_curveEnd mo_beds mo_all), (wI G (mo 3) 48 (upd mo_text mo_length.toNatClampNeg (((a2 >>> (((8 : Int32) * v4).toInt64 &&& (63 : Int64))) &&& (255 : Int64)).toInt32)))] H := hP
          have hD : va_D A [(oX11 mo mo_length mo_at mo_faultAt mo_parts mo_entries mo_ringEarth mo_lead mo_ring mo_jumpMany mo_curveEnd mo_beds mo_all), (wI G (mo 3) 48 (upd mo_text mo_length.toNatClampNeg (((a2 >>> (((8 : Int32) * v4).toInt64 &&& (63 : Int64))) &&& (255 : Int64)).toInt32)))] := hD
          refine lv_aload_n hx hb dX11_write_60 rfl (lv_at hl 0 rfl) ?_
          refine lv_dup hx hb dX11_write_61 rfl ?_
          refine va_get (D := G.1) (ci := 11) (v := .int mo_length) (C := RX11) (T := TX11) (N := 29) hx hb ht twX11 hown hK.1 hP 0 rfl rfl 3 (by decide) (ht _ kfl_X11_69) (fun _ h9 => h9) rfl dX11_write_62 ?_
          refine lv_iconst (v := 1) hx hb dX11_write_65 (by decide) ?_
          refine lv_iadd hx hb dX11_write_66 ?_
          refine va_put (D := G.1) (ci := 11) (v := .int (mo_length + (1 : Int32))) (ty := .int) (C := RX11) (T := TX11) (N := 29) hx hb ht twX11 tyX11 tyX11_ok nmX11 hown hK.1 hP hD hS 0 rfl rfl 3 (by decide) (ht _ kfl_X11_69) (fun _ h9 => h9) rfl (by decide +kernel) rfl rfl (Nat.le_of_ble_eq_true rfl) dX11_write_67 (fun H locs hP hD hS => ?_)
          have hP : va_P G.1 vwCl [(oX11 mo (mo_length + (1 : Int32)) mo_at mo_faultAt mo_parts mo_entries mo_ringEarth mo_lead mo_ring mo_jumpMany mo_curveEnd mo_beds mo_all), (wI G (mo 3) 48 (upd mo_text mo_length.toNatClampNeg (((a2 >>> (((8 : Int32) * v4).toInt64 &&& (63 : Int64))) &&& (255 : Int64)).toInt32)))] H := hP
          have hD : va_D A [(oX11 mo (mo_length + (1 : Int32)) mo_at mo_faultAt mo_parts mo_entries mo_ringEarth mo_lead mo_ring mo_jumpMany mo_curveEnd mo_beds mo_all), (wI G (mo 3) 48 (upd mo_text mo_length.toNatClampNeg (((a2 >>> (((8 : Int32) * v4).toInt64 &&& (63 : Int64))) &&& (255 : Int64)).toInt32)))] := hD
          refine lv_iinc (v := (v4 + (-1 : Int32))) (lv' := [(4, .int (v4 + (-1 : Int32))), (0, .ref (mo 0)), (2, .long a2)]) hx hb dX11_write_70 hl (k := 2) rfl (by rfl) (by decide) rfl (fun ls hl => ?_)
          refine lv_goto (tgt := 34) hx hb dX11_write_73 (by decide) ?_
          cases hf
          exact hI _ rfl H locs ls hP hD hS (lv_sub hl [1, 2, 0] rfl)
      · have hf := o_f c3 hf
        refine lv_bipush (v := -4) hx hb dX11_write_26 (by decide) ?_
        have h9 := Option.some.inj hf
        subst h9
        exact rw_iret C rfl hP hD hS dX11_write_28
    · have hf := o_t c2 hf
      refine lv_bipush (v := -2) hx hb dX11_write_12 (by decide) ?_
      have h9 := Option.some.inj hf
      subst h9
      exact rw_iret C rfl hP hD hS dX11_write_14
  rw [eH, el] at key
  exact key
abbrev Wc_X11_wipe (l : Launch) (G : TG) (mo : Nat → Nat) (mo_length : Int32) (mo_at : Int32) (mo_faultAt : Int32) (mo_parts : Int32) (mo_entries : Int32) (mo_ringEarth : Int32) (mo_lead : Int32) (mo_ring : Int32) (mo_jumpMany : Int32) (mo_curveEnd : Int32) (mo_beds : Int32) (mo_all : Int64) (R : Int32 × Int32) (p : Program) (e : Env) (s : State) (m : MethodId) (below : List Frame) (meth : Method) (c : Code) (A : Nat → Prop) (H : Heap) (locs : List Loc) (g : JFrame) : Prop := W p l e ({ frames := 0, cells := 0, slots := 0, locals := 0 }) s m ([.ref (mo 0)] : List Value).toArray below meth c H locs 0 0 (MQ below (rwQ G (some (.int R.1)) [(oX11 mo R.2 mo_at mo_faultAt mo_parts mo_entries mo_ringEarth mo_lead mo_ring mo_jumpMany mo_curveEnd mo_beds mo_all)] A) ([.ref (mo 0)] : List Value).toArray s 0 0 A) g
set_option maxHeartbeats 4000000 in
set_option maxRecDepth 100000 in
theorem c_X11_wipe (l : Launch) (G : TG) (mo : Nat → Nat) (mo_length : Int32) (mo_at : Int32) (mo_faultAt : Int32) (mo_parts : Int32) (mo_entries : Int32) (mo_ringEarth : Int32) (mo_lead : Int32) (mo_ring : Int32) (mo_jumpMany : Int32) (mo_curveEnd : Int32) (mo_beds : Int32) (mo_all : Int64) (R : Int32 × Int32) (hf : f_X11_wipe mo_length = some R) : RW l yX11_wipe cX11_wipe 2 (some .int) ({ frames := 0, cells := 0, slots := 0, locals := 0 }) G [.ref (mo 0)] [(oX11 mo mo_length mo_at mo_faultAt mo_parts mo_entries mo_ringEarth mo_lead mo_ring mo_jumpMany mo_curveEnd mo_beds mo_all)] (some (.int R.1)) [(oX11 mo R.2 mo_at mo_faultAt mo_parts mo_entries mo_ringEarth mo_lead mo_ring mo_jumpMany mo_curveEnd mo_beds mo_all)] := by
  refine RW.mk (by decide +kernel) (Nat.le_of_ble_eq_true rfl) ?_
  intro p e s m below meth c ls A C hP hD hA hz hK hl hS
  have hx := C.1
  have hb := C.2.1
  have hown : s.vm.findClass RX11 = some m.cls := C.2.2.2.2.2.1
  have ht := C.2.2.2.2.2.2
  have hl : lv_has ls 2 [(0, .ref (mo 0))] := hl
  show Wc_X11_wipe l G mo mo_length mo_at mo_faultAt mo_parts mo_entries mo_ringEarth mo_lead mo_ring mo_jumpMany mo_curveEnd mo_beds mo_all R p e s m below meth c A s.heap [] (F0 m 0 ls [])
  obtain ⟨H, eH, hP, hS⟩ : ∃ H, H = s.heap ∧ va_P G.1 vwCl [(oX11 mo mo_length mo_at mo_faultAt mo_parts mo_entries mo_ringEarth mo_lead mo_ring mo_jumpMany mo_curveEnd mo_beds mo_all)] H ∧ va_S A s.heap H [] := ⟨_, rfl, hP, hS⟩
  obtain ⟨locs, el, hS⟩ : ∃ locs : List Loc, locs = [] ∧ va_S A s.heap H locs := ⟨_, rfl, hS⟩
  have key : Wc_X11_wipe l G mo mo_length mo_at mo_faultAt mo_parts mo_entries mo_ringEarth mo_lead mo_ring mo_jumpMany mo_curveEnd mo_beds mo_all R p e s m below meth c A H locs (F0 m 0 ls []) := by
    refine lv_aload_n hx hb dX11_wipe_0 rfl (lv_at hl 0 rfl) ?_
    refine va_get (D := G.1) (ci := 11) (v := .int mo_length) (C := RX11) (T := TX11) (N := 29) hx hb ht twX11 hown hK.1 hP 0 rfl rfl 3 (by decide) (ht _ kfl_X11_69) (fun _ h9 => h9) rfl dX11_wipe_1 ?_
    refine lv_istore_n (lv' := [(1, .int mo_length), (0, .ref (mo 0))]) hx hb dX11_wipe_4 rfl hl (by decide) rfl (fun ls hl => ?_)
    refine lv_aload_n hx hb dX11_wipe_5 rfl (lv_at hl 1 rfl) ?_
    refine lv_iconst (v := 0) hx hb dX11_wipe_6 (by decide) ?_
    refine va_put (D := G.1) (ci := 11) (v := .int (0 : Int32)) (ty := .int) (C := RX11) (T := TX11) (N := 29) hx hb ht twX11 tyX11 tyX11_ok nmX11 hown hK.1 hP hD hS 0 rfl rfl 3 (by decide) (ht _ kfl_X11_69) (fun _ h9 => h9) rfl (by decide +kernel) rfl rfl (Nat.le_of_ble_eq_true rfl) dX11_wipe_7 (fun H locs hP hD hS => ?_)
    have hP : va_P G.1 vwCl [(oX11 mo (0 : Int32) mo_at mo_faultAt mo_parts mo_entries mo_ringEarth mo_lead mo_ring mo_jumpMany mo_curveEnd mo_beds mo_all)] H := hP
    have hD : va_D A [(oX11 mo (0 : Int32) mo_at mo_faultAt mo_parts mo_entries mo_ringEarth mo_lead mo_ring mo_jumpMany mo_curveEnd mo_beds mo_all)] := hD
    refine lv_iload_n hx hb dX11_wipe_10 rfl (lv_at hl 0 rfl) ?_
    have h9 := Option.some.inj hf
    subst h9
    exact rw_iret C rfl hP hD hS dX11_wipe_11
  rw [eH, el] at key
  exact key
abbrev Wc_X11_fail (l : Launch) (G : TG) (mo : Nat → Nat) (mo_length : Int32) (mo_at : Int32) (mo_faultAt : Int32) (mo_parts : Int32) (mo_entries : Int32) (mo_ringEarth : Int32) (mo_lead : Int32) (mo_ring : Int32) (mo_jumpMany : Int32) (mo_curveEnd : Int32) (mo_beds : Int32) (mo_all : Int64) (R : Int32) (p : Program) (e : Env) (s : State) (m : MethodId) (below : List Frame) (meth : Method) (c : Code) (A : Nat → Prop) (H : Heap) (locs : List Loc) (g : JFrame) : Prop := W p l e ({ frames := 0, cells := 0, slots := 0, locals := 0 }) s m ([.ref (mo 0)] : List Value).toArray below meth c H locs 0 0 (MQ below (rwQ G none [(oX11 mo mo_length mo_at R mo_parts mo_entries mo_ringEarth mo_lead mo_ring mo_jumpMany mo_curveEnd mo_beds mo_all)] A) ([.ref (mo 0)] : List Value).toArray s 0 0 A) g
set_option maxHeartbeats 4000000 in
set_option maxRecDepth 100000 in
theorem c_X11_fail (l : Launch) (G : TG) (mo : Nat → Nat) (mo_length : Int32) (mo_at : Int32) (mo_faultAt : Int32) (mo_parts : Int32) (mo_entries : Int32) (mo_ringEarth : Int32) (mo_lead : Int32) (mo_ring : Int32) (mo_jumpMany : Int32) (mo_curveEnd : Int32) (mo_beds : Int32) (mo_all : Int64) (R : Int32) (hf : f_X11_fail mo_at mo_faultAt = some R) : RW l yX11_fail cX11_fail 1 none ({ frames := 0, cells := 0, slots := 0, locals := 0 }) G [.ref (mo 0)] [(oX11 mo mo_length mo_at mo_faultAt mo_parts mo_entries mo_ringEarth mo_lead mo_ring mo_jumpMany mo_curveEnd mo_beds mo_all)] none [(oX11 mo mo_length mo_at R mo_parts mo_entries mo_ringEarth mo_lead mo_ring mo_jumpMany mo_curveEnd mo_beds mo_all)] := by
  refine RW.mk (by decide +kernel) (Nat.le_of_ble_eq_true rfl) ?_
  intro p e s m below meth c ls A C hP hD hA hz hK hl hS
  have hx := C.1
  have hb := C.2.1
  have hown : s.vm.findClass RX11 = some m.cls := C.2.2.2.2.2.1
  have ht := C.2.2.2.2.2.2
  have hl : lv_has ls 1 [(0, .ref (mo 0))] := hl
  show Wc_X11_fail l G mo mo_length mo_at mo_faultAt mo_parts mo_entries mo_ringEarth mo_lead mo_ring mo_jumpMany mo_curveEnd mo_beds mo_all R p e s m below meth c A s.heap [] (F0 m 0 ls [])
  obtain ⟨H, eH, hP, hS⟩ : ∃ H, H = s.heap ∧ va_P G.1 vwCl [(oX11 mo mo_length mo_at mo_faultAt mo_parts mo_entries mo_ringEarth mo_lead mo_ring mo_jumpMany mo_curveEnd mo_beds mo_all)] H ∧ va_S A s.heap H [] := ⟨_, rfl, hP, hS⟩
  obtain ⟨locs, el, hS⟩ : ∃ locs : List Loc, locs = [] ∧ va_S A s.heap H locs := ⟨_, rfl, hS⟩
  have key : Wc_X11_fail l G mo mo_length mo_at mo_faultAt mo_parts mo_entries mo_ringEarth mo_lead mo_ring mo_jumpMany mo_curveEnd mo_beds mo_all R p e s m below meth c A H locs (F0 m 0 ls []) := by
    have hj21 : ∀ (k1 : Int32) (mo_faultAt : Int32) (H : Heap) (locs : List Loc) (ls : Array Slot), f_X11_fail_j21 k1 = some R → va_P G.1 vwCl [(oX11 mo mo_length mo_at mo_faultAt mo_parts mo_entries mo_ringEarth mo_lead mo_ring mo_jumpMany mo_curveEnd mo_beds mo_all)] H → va_D A [(oX11 mo mo_length mo_at mo_faultAt mo_parts mo_entries mo_ringEarth mo_lead mo_ring mo_jumpMany mo_curveEnd mo_beds mo_all)] → va_S A s.heap H locs → lv_has ls 1 [] → Wc_X11_fail l G mo mo_length mo_at mo_faultAt mo_parts mo_entries mo_ringEarth mo_lead mo_ring mo_jumpMany mo_curveEnd mo_beds mo_all R p e s m below meth c A H locs (F0 m 21 ls [.int k1, .ref (mo 0)]) := by
      intro k1 mo_faultAt H locs ls hf hP hD hS hl
      refine va_put (D := G.1) (ci := 11) (v := .int k1) (ty := .int) (C := RX11) (T := TX11) (N := 29) hx hb ht twX11 tyX11 tyX11_ok nmX11 hown hK.1 hP hD hS 0 rfl rfl 5 (by decide) (ht _ kfl_X11_75) (fun _ h9 => h9) rfl (by decide +kernel) rfl rfl (Nat.le_of_ble_eq_true rfl) dX11_fail_21 (fun H locs hP hD hS => ?_)
      have hP : va_P G.1 vwCl [(oX11 mo mo_length mo_at k1 mo_parts mo_entries mo_ringEarth mo_lead mo_ring mo_jumpMany mo_curveEnd mo_beds mo_all)] H := hP
      have hD : va_D A [(oX11 mo mo_length mo_at k1 mo_parts mo_entries mo_ringEarth mo_lead mo_ring mo_jumpMany mo_curveEnd mo_beds mo_all)] := hD
      have h9 := Option.some.inj hf
      subst h9
      exact rw_vret C hP hD hS dX11_fail_24
    refine lv_aload_n hx hb dX11_fail_0 rfl (lv_at hl 0 rfl) ?_
    refine lv_aload_n hx hb dX11_fail_1 rfl (lv_at hl 0 rfl) ?_
    refine va_get (D := G.1) (ci := 11) (v := .int mo_faultAt) (C := RX11) (T := TX11) (N := 29) hx hb ht twX11 hown hK.1 hP 0 rfl rfl 5 (by decide) (ht _ kfl_X11_75) (fun _ h9 => h9) rfl dX11_fail_2 ?_
    refine lv_bipush (v := -9) hx hb dX11_fail_5 (by decide) ?_
    refine lv_icmp_ne (tgt := 17) hx hb dX11_fail_7 (by decide) (fun c2 => ?_) (fun c2 => ?_)
    · have hf := o_f c2 hf
      refine lv_aload_n hx hb dX11_fail_17 rfl (lv_at hl 0 rfl) ?_
      refine va_get (D := G.1) (ci := 11) (v := .int mo_faultAt) (C := RX11) (T := TX11) (N := 29) hx hb ht twX11 hown hK.1 hP 0 rfl rfl 5 (by decide) (ht _ kfl_X11_75) (fun _ h9 => h9) rfl dX11_fail_18 ?_
      exact hj21 mo_faultAt mo_faultAt H locs ls hf hP hD hS (lv_sub hl [] rfl)
    · have hf := o_t c2 hf
      refine lv_aload_n hx hb dX11_fail_10 rfl (lv_at hl 0 rfl) ?_
      refine va_get (D := G.1) (ci := 11) (v := .int mo_at) (C := RX11) (T := TX11) (N := 29) hx hb ht twX11 hown hK.1 hP 0 rfl rfl 4 (by decide) (ht _ kfl_X11_78) (fun _ h9 => h9) rfl dX11_fail_11 ?_
      refine lv_goto (tgt := 21) hx hb dX11_fail_14 (by decide) ?_
      exact hj21 mo_at mo_faultAt H locs ls hf hP hD hS (lv_sub hl [] rfl)
  rw [eH, el] at key
  exact key
abbrev Wc_X11_isNext (l : Launch) (G : TG) (mo : Nat → Nat) (mo_text : Nat → Int32) (mo_length : Int32) (mo_at : Int32) (mo_faultAt : Int32) (mo_parts : Int32) (mo_entries : Int32) (mo_ringEarth : Int32) (mo_lead : Int32) (mo_ring : Int32) (mo_jumpMany : Int32) (mo_curveEnd : Int32) (mo_beds : Int32) (mo_all : Int64) (a1 : Int32) (R : Int32) (p : Program) (e : Env) (s : State) (m : MethodId) (below : List Frame) (meth : Method) (c : Code) (H : Heap) (locs : List Loc) (g : JFrame) : Prop := W p l e ({ frames := 0, cells := 0, slots := 0, locals := 0 }) s m ([.ref (mo 0), .int a1] : List Value).toArray below meth c H locs 0 0 (MQ below (roQ (some (.int R))) ([.ref (mo 0), .int a1] : List Value).toArray s 0 0 (fun _ => False)) g
set_option maxHeartbeats 4000000 in
set_option maxRecDepth 100000 in
theorem c_X11_isNext (l : Launch) (G : TG) (mo : Nat → Nat) (mo_text : Nat → Int32) (mo_length : Int32) (mo_at : Int32) (mo_faultAt : Int32) (mo_parts : Int32) (mo_entries : Int32) (mo_ringEarth : Int32) (mo_lead : Int32) (mo_ring : Int32) (mo_jumpMany : Int32) (mo_curveEnd : Int32) (mo_beds : Int32) (mo_all : Int64) (a1 : Int32) (R : Int32) (hf : f_X11_isNext mo_text mo_length mo_at mo_faultAt a1 = some R) : RO l yX11_isNext cX11_isNext 2 (some .boolean) ({ frames := 0, cells := 0, slots := 0, locals := 0 }) G [.ref (mo 0), .int a1] [(oX11 mo mo_length mo_at mo_faultAt mo_parts mo_entries mo_ringEarth mo_lead mo_ring mo_jumpMany mo_curveEnd mo_beds mo_all), (wI G (mo 3) 48 mo_text)] (some (.int R)) := by
  refine RO.mk (by decide +kernel) (Nat.le_of_ble_eq_true rfl) ?_
  intro p e s m below meth c ls C hP hK hl
  have hx := C.1
  have hb := C.2.1
  have hown : s.vm.findClass RX11 = some m.cls := C.2.2.2.2.2.1
  have ht := C.2.2.2.2.2.2
  have hl : lv_has ls 2 [(0, .ref (mo 0)), (1, .int a1)] := hl
  show Wc_X11_isNext l G mo mo_text mo_length mo_at mo_faultAt mo_parts mo_entries mo_ringEarth mo_lead mo_ring mo_jumpMany mo_curveEnd mo_beds mo_all a1 R p e s m below meth c s.heap [] (F0 m 0 ls [])
  refine lv_aload_n hx hb dX11_isNext_0 rfl (lv_at hl 0 rfl) ?_
  refine va_get (D := G.1) (ci := 11) (v := .int mo_faultAt) (C := RX11) (T := TX11) (N := 29) hx hb ht twX11 hown hK.1 hP 0 rfl rfl 5 (by decide) (ht _ kfl_X11_75) (fun _ h9 => h9) rfl dX11_isNext_1 ?_
  refine lv_bipush (v := -9) hx hb dX11_isNext_4 (by decide) ?_
  refine lv_icmp_ne (tgt := 37) hx hb dX11_isNext_6 (by decide) (fun c1 => ?_) (fun c1 => ?_)
  · have hf := o_f c1 hf
    refine lv_iconst (v := 0) hx hb dX11_isNext_37 (by decide) ?_
    have h9 := Option.some.inj hf
    subst h9
    exact ro_zret C (Or.inl rfl) rfl dX11_isNext_38
  · have hf := o_t c1 hf
    refine lv_aload_n hx hb dX11_isNext_9 rfl (lv_at hl 0 rfl) ?_
    refine va_get (D := G.1) (ci := 11) (v := .int mo_at) (C := RX11) (T := TX11) (N := 29) hx hb ht twX11 hown hK.1 hP 0 rfl rfl 4 (by decide) (ht _ kfl_X11_78) (fun _ h9 => h9) rfl dX11_isNext_10 ?_
    refine lv_aload_n hx hb dX11_isNext_13 rfl (lv_at hl 0 rfl) ?_
    refine va_get (D := G.1) (ci := 11) (v := .int mo_length) (C := RX11) (T := TX11) (N := 29) hx hb ht twX11 hown hK.1 hP 0 rfl rfl 3 (by decide) (ht _ kfl_X11_69) (fun _ h9 => h9) rfl dX11_isNext_14 ?_
    refine lv_icmp_ge (tgt := 37) hx hb dX11_isNext_17 (by decide) (fun c3 => ?_) (fun c3 => ?_)
    · have hf := o_t c3 hf
      refine lv_iconst (v := 0) hx hb dX11_isNext_37 (by decide) ?_
      have h9 := Option.some.inj hf
      subst h9
      exact ro_zret C (Or.inl rfl) rfl dX11_isNext_38
    · have hf := o_f c3 hf
      refine lv_aload_n hx hb dX11_isNext_20 rfl (lv_at hl 0 rfl) ?_
      refine va_get (D := G.1) (ci := 11) (v := .ref (mo 3)) (C := RX11) (T := TX11) (N := 29) hx hb ht twX11 hown hK.1 hP 0 rfl rfl 2 (by decide) (ht _ kfl_X11_16) (fun _ h9 => h9) rfl dX11_isNext_21 ?_
      refine lv_aload_n hx hb dX11_isNext_24 rfl (lv_at hl 0 rfl) ?_
      refine va_get (D := G.1) (ci := 11) (v := .int mo_at) (C := RX11) (T := TX11) (N := 29) hx hb ht twX11 hown hK.1 hP 0 rfl rfl 4 (by decide) (ht _ kfl_X11_78) (fun _ h9 => h9) rfl dX11_isNext_25 ?_
      obtain ⟨g5, hf⟩ := gd_s hf
      refine va_iald hx hb hK.1 hP 1 0 rfl rfl g5 dX11_isNext_28 ?_
      refine lv_iload_n hx hb dX11_isNext_29 rfl (lv_at hl 1 rfl) ?_
      refine lv_icmp_ne (tgt := 37) hx hb dX11_isNext_30 (by decide) (fun c6 => ?_) (fun c6 => ?_)
      · have hf := o_f c6 hf
        refine lv_iconst (v := 0) hx hb dX11_isNext_37 (by decide) ?_
        have h9 := Option.some.inj hf
        subst h9
        exact ro_zret C (Or.inl rfl) rfl dX11_isNext_38
      · have hf := o_t c6 hf
        refine lv_iconst (v := 1) hx hb dX11_isNext_33 (by decide) ?_
        refine lv_goto (tgt := 38) hx hb dX11_isNext_34 (by decide) ?_
        have h9 := Option.some.inj hf
        subst h9
        exact ro_zret C (Or.inr rfl) rfl dX11_isNext_38
abbrev Wc_X11_figure (l : Launch) (G : TG) (mo : Nat → Nat) (mo_text : Nat → Int32) (mo_length : Int32) (mo_at : Int32) (mo_faultAt : Int32) (mo_parts : Int32) (mo_entries : Int32) (mo_ringEarth : Int32) (mo_lead : Int32) (mo_ring : Int32) (mo_jumpMany : Int32) (mo_curveEnd : Int32) (mo_beds : Int32) (mo_all : Int64) (a1 : Int32) (R : Int32 × Int32 × Int32) (p : Program) (e : Env) (s : State) (m : MethodId) (below : List Frame) (meth : Method) (c : Code) (A : Nat → Prop) (H : Heap) (locs : List Loc) (g : JFrame) : Prop := W p l e ({ frames := 1, cells := 0, slots := 0, locals := 25 }) s m ([.ref (mo 0), .int a1] : List Value).toArray below meth c H locs 0 0 (MQ below (rwQ G (some (.int R.1)) [(oX11 mo mo_length R.2.1 R.2.2 mo_parts mo_entries mo_ringEarth mo_lead mo_ring mo_jumpMany mo_curveEnd mo_beds mo_all), (wI G (mo 3) 48 mo_text)] A) ([.ref (mo 0), .int a1] : List Value).toArray s 0 0 A) g
set_option maxHeartbeats 4000000 in
set_option maxRecDepth 100000 in
theorem c_X11_figure (l : Launch) (G : TG) (mo : Nat → Nat) (mo_text : Nat → Int32) (mo_length : Int32) (mo_at : Int32) (mo_faultAt : Int32) (mo_parts : Int32) (mo_entries : Int32) (mo_ringEarth : Int32) (mo_lead : Int32) (mo_ring : Int32) (mo_jumpMany : Int32) (mo_curveEnd : Int32) (mo_beds : Int32) (mo_all : Int64) (a1 : Int32) (R : Int32 × Int32 × Int32) (hf : f_X11_figure mo_text mo_length mo_at mo_faultAt a1 = some R) : RW l yX11_figure cX11_figure 3 (some .int) ({ frames := 1, cells := 0, slots := 0, locals := 25 }) G [.ref (mo 0), .int a1] [(oX11 mo mo_length mo_at mo_faultAt mo_parts mo_entries mo_ringEarth mo_lead mo_ring mo_jumpMany mo_curveEnd mo_beds mo_all), (wI G (mo 3) 48 mo_text)] (some (.int R.1)) [(oX11 mo mo_length R.2.1 R.2.2 mo_parts mo_entries mo_ringEarth mo_lead mo_ring mo_jumpMany mo_curveEnd mo_beds mo_all), (wI G (mo 3) 48 mo_text)] := by
  refine RW.mk (by decide +kernel) (Nat.le_of_ble_eq_true rfl) ?_
  intro p e s m below meth c ls A C hP hD hA hz hK hl hS
  have hx := C.1
  have hb := C.2.1
  have hown : s.vm.findClass RX11 = some m.cls := C.2.2.2.2.2.1
  have ht := C.2.2.2.2.2.2
  have hl : lv_has ls 3 [(0, .ref (mo 0)), (1, .int a1)] := hl
  show Wc_X11_figure l G mo mo_text mo_length mo_at mo_faultAt mo_parts mo_entries mo_ringEarth mo_lead mo_ring mo_jumpMany mo_curveEnd mo_beds mo_all a1 R p e s m below meth c A s.heap [] (F0 m 0 ls [])
  obtain ⟨H, eH, hP, hS⟩ : ∃ H, H = s.heap ∧ va_P G.1 vwCl [(oX11 mo mo_length mo_at mo_faultAt mo_parts mo_entries mo_ringEarth mo_lead mo_ring mo_jumpMany mo_curveEnd mo_beds mo_all), (wI G (mo 3) 48 mo_text)] H ∧ va_S A s.heap H [] := ⟨_, rfl, hP, hS⟩
  obtain ⟨locs, el, hS⟩ : ∃ locs : List Loc, locs = [] ∧ va_S A s.heap H locs := ⟨_, rfl, hS⟩
  have key : Wc_X11_figure l G mo mo_text mo_length mo_at mo_faultAt mo_parts mo_entries mo_ringEarth mo_lead mo_ring mo_jumpMany mo_curveEnd mo_beds mo_all a1 R p e s m below meth c A H locs (F0 m 0 ls []) := by
    have hj57 : ∀ (mo_at : Int32) (mo_faultAt : Int32) (H : Heap) (locs : List Loc) (ls : Array Slot), f_X11_figure_j57 mo_at mo_faultAt = some R → va_P G.1 vwCl [(oX11 mo mo_length mo_at mo_faultAt mo_parts mo_entries mo_ringEarth mo_lead mo_ring mo_jumpMany mo_curveEnd mo_beds mo_all), (wI G (mo 3) 48 mo_text)] H → va_D A [(oX11 mo mo_length mo_at mo_faultAt mo_parts mo_entries mo_ringEarth mo_lead mo_ring mo_jumpMany mo_curveEnd mo_beds mo_all), (wI G (mo 3) 48 mo_text)] → va_S A s.heap H locs → lv_has ls 3 [(0, .ref (mo 0))] → Wc_X11_figure l G mo mo_text mo_length mo_at mo_faultAt mo_parts mo_entries mo_ringEarth mo_lead mo_ring mo_jumpMany mo_curveEnd mo_beds mo_all a1 R p e s m below meth c A H locs (F0 m 57 ls []) := by
      intro mo_at mo_faultAt H locs ls hf hP hD hS hl
      refine lv_aload_n hx hb dX11_figure_57 rfl (lv_at hl 0 rfl) ?_
      obtain ⟨q1, r1, hf⟩ := bd_s hf
      refine rw_V (n := 0) (As := []) (rest := []) (wr := [(wI G (mo 3) 48 mo_text)]) (ws2 := [(oX11 mo mo_length mo_at q1 mo_parts mo_entries mo_ringEarth mo_lead mo_ring mo_jumpMany mo_curveEnd mo_beds mo_all), (wI G (mo 3) 48 mo_text)]) (c_X11_fail l G mo mo_length mo_at mo_faultAt mo_parts mo_entries mo_ringEarth mo_lead mo_ring mo_jumpMany mo_curveEnd mo_beds mo_all q1 r1) C hK hP hD hS hA hz hl [0] [1] [1, 0] rfl rfl rfl rfl rfl (by decide) rfl rfl rfl kcode_X11_fail kml_X11_83 kim_X11_fail ksel_X11_fail kini_X11 (by decide +kernel) ⟨⟨rfl, rfl⟩, Nat.le_of_ble_eq_true rfl, Nat.le_of_ble_eq_true rfl⟩ ⟨Nat.zero_le _, Nat.zero_le _⟩ rfl rfl rfl rfl rfl (Nat.le_of_ble_eq_true rfl) dX11_figure_58 rfl (fun H locs hP hD hS => ?_)
      refine lv_iconst (v := 0) hx hb dX11_figure_61 (by decide) ?_
      have h9 := Option.some.inj hf
      subst h9
      exact rw_iret C rfl hP hD hS dX11_figure_62
    have hj36 : ∀ (k0 : Int32) (mo_at : Int32) (mo_faultAt : Int32) (H : Heap) (locs : List Loc) (ls : Array Slot), f_X11_figure_j36 a1 k0 mo_at mo_faultAt = some R → va_P G.1 vwCl [(oX11 mo mo_length mo_at mo_faultAt mo_parts mo_entries mo_ringEarth mo_lead mo_ring mo_jumpMany mo_curveEnd mo_beds mo_all), (wI G (mo 3) 48 mo_text)] H → va_D A [(oX11 mo mo_length mo_at mo_faultAt mo_parts mo_entries mo_ringEarth mo_lead mo_ring mo_jumpMany mo_curveEnd mo_beds mo_all), (wI G (mo 3) 48 mo_text)] → va_S A s.heap H locs → lv_has ls 3 [(0, .ref (mo 0)), (1, .int a1)] → Wc_X11_figure l G mo mo_text mo_length mo_at mo_faultAt mo_parts mo_entries mo_ringEarth mo_lead mo_ring mo_jumpMany mo_curveEnd mo_beds mo_all a1 R p e s m below meth c A H locs (F0 m 36 ls [.int k0]) := by
      intro k0 mo_at mo_faultAt H locs ls hf hP hD hS hl
      refine lv_istore_n (lv' := [(2, .int k0), (0, .ref (mo 0)), (1, .int a1)]) hx hb dX11_figure_36 rfl hl (by decide) rfl (fun ls hl => ?_)
      refine lv_iload_n hx hb dX11_figure_37 rfl (lv_at hl 0 rfl) ?_
      refine lv_i2l (v := (k0.toInt64)) hx hb dX11_figure_38 rfl ?_
      refine lv_lconst (v := 0) hx hb dX11_figure_39 (by decide) ?_
      refine lv_ldc2 hx hb hown (ht _ kcL_X11_81) dX11_figure_40 ?_
      obtain ⟨q3, r3, hf⟩ := bd_s hf
      refine ro_S (n := 3) (As := [.long (k0.toInt64), .long (0 : Int64), .long (9 : Int64)]) (rest := []) (c_X11_in l G (k0.toInt64) (0 : Int64) (9 : Int64) q3 r3) C (hK.at hS hz) (hP.sub [] rfl) hl kcode_X11_in kml_X11_65 kst_X11_in kini_X11 (by decide +kernel) ⟨⟨rfl, rfl⟩, Nat.le_of_ble_eq_true rfl, Nat.le_of_ble_eq_true rfl⟩ ⟨Nat.zero_le _, Nat.zero_le _⟩ rfl rfl (Nat.le_of_ble_eq_true rfl) dX11_figure_43 rfl ?_
      refine lv_if_eq (tgt := 57) hx hb dX11_figure_46 (by decide) (fun c4 => ?_) (fun c4 => ?_)
      · have hf := o_t c4 hf
        exact hj57 mo_at mo_faultAt H locs ls hf hP hD hS (lv_sub hl [1] rfl)
      · have hf := o_f c4 hf
        refine lv_iload_n hx hb dX11_figure_49 rfl (lv_at hl 2 rfl) ?_
        refine lv_iload_n hx hb dX11_figure_50 rfl (lv_at hl 0 rfl) ?_
        refine lv_ishr hx hb dX11_figure_51 ?_
        refine lv_iconst (v := 1) hx hb dX11_figure_52 (by decide) ?_
        refine lv_iand hx hb dX11_figure_53 ?_
        refine lv_if_ne (tgt := 63) hx hb dX11_figure_54 (by decide) (fun c5 => ?_) (fun c5 => ?_)
        · have hf := o_f c5 hf
          refine lv_aload_n hx hb dX11_figure_63 rfl (lv_at hl 1 rfl) ?_
          refine lv_dup hx hb dX11_figure_64 rfl ?_
          refine va_get (D := G.1) (ci := 11) (v := .int mo_at) (C := RX11) (T := TX11) (N := 29) hx hb ht twX11 hown hK.1 hP 0 rfl rfl 4 (by decide) (ht _ kfl_X11_78) (fun _ h9 => h9) rfl dX11_figure_65 ?_
          refine lv_iconst (v := 1) hx hb dX11_figure_68 (by decide) ?_
          refine lv_iadd hx hb dX11_figure_69 ?_
          refine va_put (D := G.1) (ci := 11) (v := .int (mo_at + (1 : Int32))) (ty := .int) (C := RX11) (T := TX11) (N := 29) hx hb ht twX11 tyX11 tyX11_ok nmX11 hown hK.1 hP hD hS 0 rfl rfl 4 (by decide) (ht _ kfl_X11_78) (fun _ h9 => h9) rfl (by decide +kernel) rfl rfl (Nat.le_of_ble_eq_true rfl) dX11_figure_70 (fun H locs hP hD hS => ?_)
          have hP : va_P G.1 vwCl [(oX11 mo mo_length (mo_at + (1 : Int32)) mo_faultAt mo_parts mo_entries mo_ringEarth mo_lead mo_ring mo_jumpMany mo_curveEnd mo_beds mo_all), (wI G (mo 3) 48 mo_text)] H := hP
          have hD : va_D A [(oX11 mo mo_length (mo_at + (1 : Int32)) mo_faultAt mo_parts mo_entries mo_ringEarth mo_lead mo_ring mo_jumpMany mo_curveEnd mo_beds mo_all), (wI G (mo 3) 48 mo_text)] := hD
          refine lv_iload_n hx hb dX11_figure_73 rfl (lv_at hl 0 rfl) ?_
          have h9 := Option.some.inj hf
          subst h9
          exact rw_iret C rfl hP hD hS dX11_figure_74
        · have hf := o_t c5 hf
          exact hj57 mo_at mo_faultAt H locs ls hf hP hD hS (lv_sub hl [1] rfl)
    have hj35 : ∀ (mo_at : Int32) (mo_faultAt : Int32) (H : Heap) (locs : List Loc) (ls : Array Slot), f_X11_figure_j35 a1 mo_at mo_faultAt = some R → va_P G.1 vwCl [(oX11 mo mo_length mo_at mo_faultAt mo_parts mo_entries mo_ringEarth mo_lead mo_ring mo_jumpMany mo_curveEnd mo_beds mo_all), (wI G (mo 3) 48 mo_text)] H → va_D A [(oX11 mo mo_length mo_at mo_faultAt mo_parts mo_entries mo_ringEarth mo_lead mo_ring mo_jumpMany mo_curveEnd mo_beds mo_all), (wI G (mo 3) 48 mo_text)] → va_S A s.heap H locs → lv_has ls 3 [(0, .ref (mo 0)), (1, .int a1)] → Wc_X11_figure l G mo mo_text mo_length mo_at mo_faultAt mo_parts mo_entries mo_ringEarth mo_lead mo_ring mo_jumpMany mo_curveEnd mo_beds mo_all a1 R p e s m below meth c A H locs (F0 m 35 ls []) := by
      intro mo_at mo_faultAt H locs ls hf hP hD hS hl
      refine lv_iconst (v := -1) hx hb dX11_figure_35 (by decide) ?_
      exact hj36 (-1 : Int32) mo_at mo_faultAt H locs ls hf hP hD hS (lv_sub hl [0, 1] rfl)
    refine lv_aload_n hx hb dX11_figure_0 rfl (lv_at hl 0 rfl) ?_
    refine va_get (D := G.1) (ci := 11) (v := .int mo_faultAt) (C := RX11) (T := TX11) (N := 29) hx hb ht twX11 hown hK.1 hP 0 rfl rfl 5 (by decide) (ht _ kfl_X11_75) (fun _ h9 => h9) rfl dX11_figure_1 ?_
    refine lv_bipush (v := -9) hx hb dX11_figure_4 (by decide) ?_
    refine lv_icmp_ne (tgt := 35) hx hb dX11_figure_6 (by decide) (fun c7 => ?_) (fun c7 => ?_)
    · have hf := o_f c7 hf
      exact hj35 mo_at mo_faultAt H locs ls hf hP hD hS (lv_sub hl [0, 1] rfl)
    · have hf := o_t c7 hf
      refine lv_aload_n hx hb dX11_figure_9 rfl (lv_at hl 0 rfl) ?_
      refine va_get (D := G.1) (ci := 11) (v := .int mo_at) (C := RX11) (T := TX11) (N := 29) hx hb ht twX11 hown hK.1 hP 0 rfl rfl 4 (by decide) (ht _ kfl_X11_78) (fun _ h9 => h9) rfl dX11_figure_10 ?_
      refine lv_aload_n hx hb dX11_figure_13 rfl (lv_at hl 0 rfl) ?_
      refine va_get (D := G.1) (ci := 11) (v := .int mo_length) (C := RX11) (T := TX11) (N := 29) hx hb ht twX11 hown hK.1 hP 0 rfl rfl 3 (by decide) (ht _ kfl_X11_69) (fun _ h9 => h9) rfl dX11_figure_14 ?_
      refine lv_icmp_ge (tgt := 35) hx hb dX11_figure_17 (by decide) (fun c8 => ?_) (fun c8 => ?_)
      · have hf := o_t c8 hf
        exact hj35 mo_at mo_faultAt H locs ls hf hP hD hS (lv_sub hl [0, 1] rfl)
      · have hf := o_f c8 hf
        refine lv_aload_n hx hb dX11_figure_20 rfl (lv_at hl 0 rfl) ?_
        refine va_get (D := G.1) (ci := 11) (v := .ref (mo 3)) (C := RX11) (T := TX11) (N := 29) hx hb ht twX11 hown hK.1 hP 0 rfl rfl 2 (by decide) (ht _ kfl_X11_16) (fun _ h9 => h9) rfl dX11_figure_21 ?_
        refine lv_aload_n hx hb dX11_figure_24 rfl (lv_at hl 0 rfl) ?_
        refine va_get (D := G.1) (ci := 11) (v := .int mo_at) (C := RX11) (T := TX11) (N := 29) hx hb ht twX11 hown hK.1 hP 0 rfl rfl 4 (by decide) (ht _ kfl_X11_78) (fun _ h9 => h9) rfl dX11_figure_25 ?_
        obtain ⟨g9, hf⟩ := gd_s hf
        refine va_iald hx hb hK.1 hP 1 0 rfl rfl g9 dX11_figure_28 ?_
        refine lv_bipush (v := 48) hx hb dX11_figure_29 (by decide) ?_
        refine lv_isub hx hb dX11_figure_31 ?_
        refine lv_goto (tgt := 36) hx hb dX11_figure_32 (by decide) ?_
        exact hj36 ((mo_text mo_at.toNatClampNeg) - (48 : Int32)) mo_at mo_faultAt H locs ls hf hP hD hS (lv_sub hl [0, 1] rfl)
  rw [eH, el] at key
  exact key
abbrev Wc_X11_placeOf (l : Launch) (G : TG) (a0 : Int32) (R : Int32) (p : Program) (e : Env) (s : State) (m : MethodId) (below : List Frame) (meth : Method) (c : Code) (H : Heap) (locs : List Loc) (g : JFrame) : Prop := W p l e ({ frames := 0, cells := 0, slots := 0, locals := 0 }) s m ([.int a0] : List Value).toArray below meth c H locs 0 0 (MQ below (roQ (some (.int R))) ([.int a0] : List Value).toArray s 0 0 (fun _ => False)) g
set_option maxHeartbeats 4000000 in
set_option maxRecDepth 100000 in
theorem c_X11_placeOf (l : Launch) (G : TG) (a0 : Int32) (R : Int32) (hf : f_X11_placeOf a0 = some R) : RO l yX11_placeOf cX11_placeOf 1 (some .int) ({ frames := 0, cells := 0, slots := 0, locals := 0 }) G [.int a0] [] (some (.int R)) := by
  refine RO.mk (by decide +kernel) (Nat.le_of_ble_eq_true rfl) ?_
  intro p e s m below meth c ls C hP hK hl
  have hx := C.1
  have hb := C.2.1
  have hown : s.vm.findClass RX11 = some m.cls := C.2.2.2.2.2.1
  have ht := C.2.2.2.2.2.2
  have hl : lv_has ls 1 [(0, .int a0)] := hl
  show Wc_X11_placeOf l G a0 R p e s m below meth c s.heap [] (F0 m 0 ls [])
  refine lv_iload_n hx hb dX11_placeOf_0 rfl (lv_at hl 0 rfl) ?_
  refine lv_bipush (v := 82) hx hb dX11_placeOf_1 (by decide) ?_
  refine lv_icmp_ne (tgt := 11) hx hb dX11_placeOf_3 (by decide) (fun c1 => ?_) (fun c1 => ?_)
  · have hf := o_f c1 hf
    refine lv_iload_n hx hb dX11_placeOf_11 rfl (lv_at hl 0 rfl) ?_
    refine lv_bipush (v := 71) hx hb dX11_placeOf_12 (by decide) ?_
    refine lv_icmp_ne (tgt := 22) hx hb dX11_placeOf_14 (by decide) (fun c2 => ?_) (fun c2 => ?_)
    · have hf := o_f c2 hf
      refine lv_iload_n hx hb dX11_placeOf_22 rfl (lv_at hl 0 rfl) ?_
      refine lv_bipush (v := 70) hx hb dX11_placeOf_23 (by decide) ?_
      refine lv_icmp_ne (tgt := 33) hx hb dX11_placeOf_25 (by decide) (fun c3 => ?_) (fun c3 => ?_)
      · have hf := o_f c3 hf
        refine lv_iload_n hx hb dX11_placeOf_33 rfl (lv_at hl 0 rfl) ?_
        refine lv_bipush (v := 77) hx hb dX11_placeOf_34 (by decide) ?_
        refine lv_icmp_ne (tgt := 44) hx hb dX11_placeOf_36 (by decide) (fun c4 => ?_) (fun c4 => ?_)
        · have hf := o_f c4 hf
          refine lv_iload_n hx hb dX11_placeOf_44 rfl (lv_at hl 0 rfl) ?_
          refine lv_bipush (v := 86) hx hb dX11_placeOf_45 (by decide) ?_
          refine lv_icmp_ne (tgt := 55) hx hb dX11_placeOf_47 (by decide) (fun c5 => ?_) (fun c5 => ?_)
          · have hf := o_f c5 hf
            refine lv_iload_n hx hb dX11_placeOf_55 rfl (lv_at hl 0 rfl) ?_
            refine lv_bipush (v := 87) hx hb dX11_placeOf_56 (by decide) ?_
            refine lv_icmp_ne (tgt := 66) hx hb dX11_placeOf_58 (by decide) (fun c6 => ?_) (fun c6 => ?_)
            · have hf := o_f c6 hf
              refine lv_bipush (v := -9) hx hb dX11_placeOf_66 (by decide) ?_
              have h9 := Option.some.inj hf
              subst h9
              exact ro_iret C rfl dX11_placeOf_68
            · have hf := o_t c6 hf
              refine lv_bipush (v := 11) hx hb dX11_placeOf_61 (by decide) ?_
              refine lv_goto (tgt := 68) hx hb dX11_placeOf_63 (by decide) ?_
              have h9 := Option.some.inj hf
              subst h9
              exact ro_iret C rfl dX11_placeOf_68
          · have hf := o_t c5 hf
            refine lv_bipush (v := 10) hx hb dX11_placeOf_50 (by decide) ?_
            refine lv_goto (tgt := 68) hx hb dX11_placeOf_52 (by decide) ?_
            have h9 := Option.some.inj hf
            subst h9
            exact ro_iret C rfl dX11_placeOf_68
        · have hf := o_t c4 hf
          refine lv_bipush (v := 9) hx hb dX11_placeOf_39 (by decide) ?_
          refine lv_goto (tgt := 68) hx hb dX11_placeOf_41 (by decide) ?_
          have h9 := Option.some.inj hf
          subst h9
          exact ro_iret C rfl dX11_placeOf_68
      · have hf := o_t c3 hf
        refine lv_bipush (v := 8) hx hb dX11_placeOf_28 (by decide) ?_
        refine lv_goto (tgt := 68) hx hb dX11_placeOf_30 (by decide) ?_
        have h9 := Option.some.inj hf
        subst h9
        exact ro_iret C rfl dX11_placeOf_68
    · have hf := o_t c2 hf
      refine lv_bipush (v := 7) hx hb dX11_placeOf_17 (by decide) ?_
      refine lv_goto (tgt := 68) hx hb dX11_placeOf_19 (by decide) ?_
      have h9 := Option.some.inj hf
      subst h9
      exact ro_iret C rfl dX11_placeOf_68
  · have hf := o_t c1 hf
    refine lv_bipush (v := 6) hx hb dX11_placeOf_6 (by decide) ?_
    refine lv_goto (tgt := 68) hx hb dX11_placeOf_8 (by decide) ?_
    have h9 := Option.some.inj hf
    subst h9
    exact ro_iret C rfl dX11_placeOf_68
abbrev Wc_X11_readLaw (l : Launch) (G : TG) (mo : Nat → Nat) (mo_read : Nat → Int32) (mo_text : Nat → Int32) (mo_length : Int32) (mo_at : Int32) (mo_faultAt : Int32) (mo_parts : Int32) (mo_entries : Int32) (mo_ringEarth : Int32) (mo_lead : Int32) (mo_ring : Int32) (mo_jumpMany : Int32) (mo_curveEnd : Int32) (mo_beds : Int32) (mo_all : Int64) (R : Int32 × (Nat → Int32) × Int32 × Int32 × Int32) (p : Program) (e : Env) (s : State) (m : MethodId) (below : List Frame) (meth : Method) (c : Code) (A : Nat → Prop) (H : Heap) (locs : List Loc) (g : JFrame) : Prop := W p l e ({ frames := 2, cells := 0, slots := 0, locals := 47 }) s m ([.ref (mo 0)] : List Value).toArray below meth c H locs 0 0 (MQ below (rwQ G (some (.int R.1)) [(oX11 mo mo_length R.2.2.1 R.2.2.2.1 R.2.2.2.2 mo_entries mo_ringEarth mo_lead mo_ring mo_jumpMany mo_curveEnd mo_beds mo_all), (wI G (mo 1) 12 R.2.1), (wI G (mo 3) 48 mo_text)] A) ([.ref (mo 0)] : List Value).toArray s 0 0 A) g
set_option maxHeartbeats 4000000 in
set_option maxRecDepth 100000 in
theorem c_X11_readLaw (l : Launch) (G : TG) (mo : Nat → Nat) (mo_read : Nat → Int32) (mo_text : Nat → Int32) (mo_length : Int32) (mo_at : Int32) (mo_faultAt : Int32) (mo_parts : Int32) (mo_entries : Int32) (mo_ringEarth : Int32) (mo_lead : Int32) (mo_ring : Int32) (mo_jumpMany : Int32) (mo_curveEnd : Int32) (mo_beds : Int32) (mo_all : Int64) (R : Int32 × (Nat → Int32) × Int32 × Int32 × Int32) (hf : f_X11_readLaw mo_read mo_text mo_length = some R) : RW l yX11_readLaw cX11_readLaw 4 (some .int) ({ frames := 2, cells := 0, slots := 0, locals := 47 }) G [.ref (mo 0)] [(oX11 mo mo_length mo_at mo_faultAt mo_parts mo_entries mo_ringEarth mo_lead mo_ring mo_jumpMany mo_curveEnd mo_beds mo_all), (wI G (mo 1) 12 mo_read), (wI G (mo 3) 48 mo_text)] (some (.int R.1)) [(oX11 mo mo_length R.2.2.1 R.2.2.2.1 R.2.2.2.2 mo_entries mo_ringEarth mo_lead mo_ring mo_jumpMany mo_curveEnd mo_beds mo_all), (wI G (mo 1) 12 R.2.1), (wI G (mo 3) 48 mo_text)] := by
  refine RW.mk (by decide +kernel) (Nat.le_of_ble_eq_true rfl) ?_
  intro p e s m below meth c ls A C hP hD hA hz hK hl hS
  have hx := C.1
  have hb := C.2.1
  have hown : s.vm.findClass RX11 = some m.cls := C.2.2.2.2.2.1
  have ht := C.2.2.2.2.2.2
  have hl : lv_has ls 4 [(0, .ref (mo 0))] := hl
  show Wc_X11_readLaw l G mo mo_read mo_text mo_length mo_at mo_faultAt mo_parts mo_entries mo_ringEarth mo_lead mo_ring mo_jumpMany mo_curveEnd mo_beds mo_all R p e s m below meth c A s.heap [] (F0 m 0 ls [])
  obtain ⟨H, eH, hP, hS⟩ : ∃ H, H = s.heap ∧ va_P G.1 vwCl [(oX11 mo mo_length mo_at mo_faultAt mo_parts mo_entries mo_ringEarth mo_lead mo_ring mo_jumpMany mo_curveEnd mo_beds mo_all), (wI G (mo 1) 12 mo_read), (wI G (mo 3) 48 mo_text)] H ∧ va_S A s.heap H [] := ⟨_, rfl, hP, hS⟩
  obtain ⟨locs, el, hS⟩ : ∃ locs : List Loc, locs = [] ∧ va_S A s.heap H locs := ⟨_, rfl, hS⟩
  have key : Wc_X11_readLaw l G mo mo_read mo_text mo_length mo_at mo_faultAt mo_parts mo_entries mo_ringEarth mo_lead mo_ring mo_jumpMany mo_curveEnd mo_beds mo_all R p e s m below meth c A H locs (F0 m 0 ls []) := by
    refine lv_aload_n hx hb dX11_readLaw_0 rfl (lv_at hl 0 rfl) ?_
    refine lv_iconst (v := 0) hx hb dX11_readLaw_1 (by decide) ?_
    refine va_put (D := G.1) (ci := 11) (v := .int (0 : Int32)) (ty := .int) (C := RX11) (T := TX11) (N := 29) hx hb ht twX11 tyX11 tyX11_ok nmX11 hown hK.1 hP hD hS 0 rfl rfl 4 (by decide) (ht _ kfl_X11_78) (fun _ h9 => h9) rfl (by decide +kernel) rfl rfl (Nat.le_of_ble_eq_true rfl) dX11_readLaw_2 (fun H locs hP hD hS => ?_)
    have hP : va_P G.1 vwCl [(oX11 mo mo_length (0 : Int32) mo_faultAt mo_parts mo_entries mo_ringEarth mo_lead mo_ring mo_jumpMany mo_curveEnd mo_beds mo_all), (wI G (mo 1) 12 mo_read), (wI G (mo 3) 48 mo_text)] H := hP
    have hD : va_D A [(oX11 mo mo_length (0 : Int32) mo_faultAt mo_parts mo_entries mo_ringEarth mo_lead mo_ring mo_jumpMany mo_curveEnd mo_beds mo_all), (wI G (mo 1) 12 mo_read), (wI G (mo 3) 48 mo_text)] := hD
    refine lv_aload_n hx hb dX11_readLaw_5 rfl (lv_at hl 0 rfl) ?_
    refine lv_bipush (v := -9) hx hb dX11_readLaw_6 (by decide) ?_
    refine va_put (D := G.1) (ci := 11) (v := .int (-9 : Int32)) (ty := .int) (C := RX11) (T := TX11) (N := 29) hx hb ht twX11 tyX11 tyX11_ok nmX11 hown hK.1 hP hD hS 0 rfl rfl 5 (by decide) (ht _ kfl_X11_75) (fun _ h9 => h9) rfl (by decide +kernel) rfl rfl (Nat.le_of_ble_eq_true rfl) dX11_readLaw_8 (fun H locs hP hD hS => ?_)
    have hP : va_P G.1 vwCl [(oX11 mo mo_length (0 : Int32) (-9 : Int32) mo_parts mo_entries mo_ringEarth mo_lead mo_ring mo_jumpMany mo_curveEnd mo_beds mo_all), (wI G (mo 1) 12 mo_read), (wI G (mo 3) 48 mo_text)] H := hP
    have hD : va_D A [(oX11 mo mo_length (0 : Int32) (-9 : Int32) mo_parts mo_entries mo_ringEarth mo_lead mo_ring mo_jumpMany mo_curveEnd mo_beds mo_all), (wI G (mo 1) 12 mo_read), (wI G (mo 3) 48 mo_text)] := hD
    refine lv_aload_n hx hb dX11_readLaw_11 rfl (lv_at hl 0 rfl) ?_
    refine lv_iconst (v := 0) hx hb dX11_readLaw_12 (by decide) ?_
    refine va_put (D := G.1) (ci := 11) (v := .int (0 : Int32)) (ty := .int) (C := RX11) (T := TX11) (N := 29) hx hb ht twX11 tyX11 tyX11_ok nmX11 hown hK.1 hP hD hS 0 rfl rfl 6 (by decide) (ht _ kfl_X11_86) (fun _ h9 => h9) rfl (by decide +kernel) rfl rfl (Nat.le_of_ble_eq_true rfl) dX11_readLaw_13 (fun H locs hP hD hS => ?_)
    have hP : va_P G.1 vwCl [(oX11 mo mo_length (0 : Int32) (-9 : Int32) (0 : Int32) mo_entries mo_ringEarth mo_lead mo_ring mo_jumpMany mo_curveEnd mo_beds mo_all), (wI G (mo 1) 12 mo_read), (wI G (mo 3) 48 mo_text)] H := hP
    have hD : va_D A [(oX11 mo mo_length (0 : Int32) (-9 : Int32) (0 : Int32) mo_entries mo_ringEarth mo_lead mo_ring mo_jumpMany mo_curveEnd mo_beds mo_all), (wI G (mo 1) 12 mo_read), (wI G (mo 3) 48 mo_text)] := hD
    refine lv_iconst (v := 0) hx hb dX11_readLaw_16 (by decide) ?_
    refine lv_istore_n (lv' := [(1, .int (0 : Int32)), (0, .ref (mo 0))]) hx hb dX11_readLaw_17 rfl hl (by decide) rfl (fun ls hl => ?_)
    refine lv_iconst (v := 0) hx hb dX11_readLaw_18 (by decide) ?_
    refine lv_istore_n (lv' := [(2, .int (0 : Int32)), (1, .int (0 : Int32)), (0, .ref (mo 0))]) hx hb dX11_readLaw_19 rfl hl (by decide) rfl (fun ls hl => ?_)
    have hx39_1 : ∀ (mo_read : Nat → Int32) (H : Heap) (locs : List Loc) (ls : Array Slot), f_X11_readLaw_x39_1 mo_text mo_length mo_read = some R → va_P G.1 vwCl [(oX11 mo mo_length (0 : Int32) (-9 : Int32) (0 : Int32) mo_entries mo_ringEarth mo_lead mo_ring mo_jumpMany mo_curveEnd mo_beds mo_all), (wI G (mo 1) 12 mo_read), (wI G (mo 3) 48 mo_text)] H → va_D A [(oX11 mo mo_length (0 : Int32) (-9 : Int32) (0 : Int32) mo_entries mo_ringEarth mo_lead mo_ring mo_jumpMany mo_curveEnd mo_beds mo_all), (wI G (mo 1) 12 mo_read), (wI G (mo 3) 48 mo_text)] → va_S A s.heap H locs → lv_has ls 4 [(0, .ref (mo 0)), (1, .int (0 : Int32))] → Wc_X11_readLaw l G mo mo_read mo_text mo_length mo_at mo_faultAt mo_parts mo_entries mo_ringEarth mo_lead mo_ring mo_jumpMany mo_curveEnd mo_beds mo_all R p e s m below meth c A H locs (F0 m 39 ls []) := by
      intro mo_read H locs ls hf hP hD hS hl
      have hx236_2 : ∀ (mo_read : Nat → Int32) (mo_at : Int32) (mo_faultAt : Int32) (mo_parts : Int32) (H : Heap) (locs : List Loc) (ls : Array Slot), f_X11_readLaw_x236_2 mo_read mo_at mo_faultAt mo_parts = some R → va_P G.1 vwCl [(oX11 mo mo_length mo_at mo_faultAt mo_parts mo_entries mo_ringEarth mo_lead mo_ring mo_jumpMany mo_curveEnd mo_beds mo_all), (wI G (mo 1) 12 mo_read), (wI G (mo 3) 48 mo_text)] H → va_D A [(oX11 mo mo_length mo_at mo_faultAt mo_parts mo_entries mo_ringEarth mo_lead mo_ring mo_jumpMany mo_curveEnd mo_beds mo_all), (wI G (mo 1) 12 mo_read), (wI G (mo 3) 48 mo_text)] → va_S A s.heap H locs → lv_has ls 4 [(0, .ref (mo 0))] → Wc_X11_readLaw l G mo mo_read mo_text mo_length mo_at mo_faultAt mo_parts mo_entries mo_ringEarth mo_lead mo_ring mo_jumpMany mo_curveEnd mo_beds mo_all R p e s m below meth c A H locs (F0 m 236 ls []) := by
        intro mo_read mo_at mo_faultAt mo_parts H locs ls hf hP hD hS hl
        refine lv_aload_n hx hb dX11_readLaw_236 rfl (lv_at hl 0 rfl) ?_
        refine va_get (D := G.1) (ci := 11) (v := .int mo_faultAt) (C := RX11) (T := TX11) (N := 29) hx hb ht twX11 hown hK.1 hP 0 rfl rfl 5 (by decide) (ht _ kfl_X11_75) (fun _ h9 => h9) rfl dX11_readLaw_237 ?_
        have h9 := Option.some.inj hf
        subst h9
        exact rw_iret C rfl hP hD hS dX11_readLaw_240
      obtain ⟨rL2, hL2, hk2⟩ := bd_s hf
      refine lp_W (P := fun st => ∀ (H : Heap) (locs : List Loc) (ls : Array Slot), va_P G.1 vwCl [(oX11 mo mo_length st.2.2.1 st.2.2.2.1 st.2.2.2.2 mo_entries mo_ringEarth mo_lead mo_ring mo_jumpMany mo_curveEnd mo_beds mo_all), (wI G (mo 1) 12 st.2.1), (wI G (mo 3) 48 mo_text)] H → va_D A [(oX11 mo mo_length st.2.2.1 st.2.2.2.1 st.2.2.2.2 mo_entries mo_ringEarth mo_lead mo_ring mo_jumpMany mo_curveEnd mo_beds mo_all), (wI G (mo 1) 12 st.2.1), (wI G (mo 3) 48 mo_text)] → va_S A s.heap H locs → lv_has ls 4 [(0, .ref (mo 0)), (1, .int st.1)] → Wc_X11_readLaw l G mo mo_read mo_text mo_length mo_at mo_faultAt mo_parts mo_entries mo_ringEarth mo_lead mo_ring mo_jumpMany mo_curveEnd mo_beds mo_all R p e s m below meth c A H locs (F0 m 39 ls [])) ?_ FU ((0 : Int32), mo_read, (0 : Int32), (-9 : Int32), (0 : Int32)) hL2 H locs ls hP hD hS (lv_sub hl [0, 1] rfl)
      intro ⟨v1, mo_read, mo_at, mo_faultAt, mo_parts⟩ oc2 hf hI hE H locs ls hP hD hS hl
      have hP : va_P G.1 vwCl [(oX11 mo mo_length mo_at mo_faultAt mo_parts mo_entries mo_ringEarth mo_lead mo_ring mo_jumpMany mo_curveEnd mo_beds mo_all), (wI G (mo 1) 12 mo_read), (wI G (mo 3) 48 mo_text)] H := hP
      have hD : va_D A [(oX11 mo mo_length mo_at mo_faultAt mo_parts mo_entries mo_ringEarth mo_lead mo_ring mo_jumpMany mo_curveEnd mo_beds mo_all), (wI G (mo 1) 12 mo_read), (wI G (mo 3) 48 mo_text)] := hD
      have hl : lv_has ls 4 [(0, .ref (mo 0)), (1, .int v1)] := hl
      have hf : f_X11_readLaw_b39 mo_text mo_length v1 mo_read mo_at mo_faultAt mo_parts = some oc2 := hf
      have hj221 : ∀ (k0 : Int32) (k1 : Int32) (mo_read : Nat → Int32) (mo_at : Int32) (mo_faultAt : Int32) (mo_parts : Int32) (H : Heap) (locs : List Loc) (ls : Array Slot), f_X11_readLaw_j221 k0 k1 mo_read mo_at mo_faultAt mo_parts = some oc2 → va_P G.1 vwCl [(oX11 mo mo_length mo_at mo_faultAt mo_parts mo_entries mo_ringEarth mo_lead mo_ring mo_jumpMany mo_curveEnd mo_beds mo_all), (wI G (mo 1) 12 mo_read), (wI G (mo 3) 48 mo_text)] H → va_D A [(oX11 mo mo_length mo_at mo_faultAt mo_parts mo_entries mo_ringEarth mo_lead mo_ring mo_jumpMany mo_curveEnd mo_beds mo_all), (wI G (mo 1) 12 mo_read), (wI G (mo 3) 48 mo_text)] → va_S A s.heap H locs → lv_has ls 4 [(0, .ref (mo 0))] → Wc_X11_readLaw l G mo mo_read mo_text mo_length mo_at mo_faultAt mo_parts mo_entries mo_ringEarth mo_lead mo_ring mo_jumpMany mo_curveEnd mo_beds mo_all R p e s m below meth c A H locs (F0 m 221 ls [.int k1, .int k0]) := by
        intro k0 k1 mo_read mo_at mo_faultAt mo_parts H locs ls hf hP hD hS hl
        refine lv_ior hx hb dX11_readLaw_221 ?_
        refine lv_istore_n (lv' := [(1, .int (k0 ||| k1)), (0, .ref (mo 0))]) hx hb dX11_readLaw_222 rfl hl (by decide) rfl (fun ls hl => ?_)
        refine lv_aload_n hx hb dX11_readLaw_223 rfl (lv_at hl 1 rfl) ?_
        refine lv_dup hx hb dX11_readLaw_224 rfl ?_
        refine va_get (D := G.1) (ci := 11) (v := .int mo_parts) (C := RX11) (T := TX11) (N := 29) hx hb ht twX11 hown hK.1 hP 0 rfl rfl 6 (by decide) (ht _ kfl_X11_86) (fun _ h9 => h9) rfl dX11_readLaw_225 ?_
        refine lv_iconst (v := 1) hx hb dX11_readLaw_228 (by decide) ?_
        refine lv_iadd hx hb dX11_readLaw_229 ?_
        refine va_put (D := G.1) (ci := 11) (v := .int (mo_parts + (1 : Int32))) (ty := .int) (C := RX11) (T := TX11) (N := 29) hx hb ht twX11 tyX11 tyX11_ok nmX11 hown hK.1 hP hD hS 0 rfl rfl 6 (by decide) (ht _ kfl_X11_86) (fun _ h9 => h9) rfl (by decide +kernel) rfl rfl (Nat.le_of_ble_eq_true rfl) dX11_readLaw_230 (fun H locs hP hD hS => ?_)
        have hP : va_P G.1 vwCl [(oX11 mo mo_length mo_at mo_faultAt (mo_parts + (1 : Int32)) mo_entries mo_ringEarth mo_lead mo_ring mo_jumpMany mo_curveEnd mo_beds mo_all), (wI G (mo 1) 12 mo_read), (wI G (mo 3) 48 mo_text)] H := hP
        have hD : va_D A [(oX11 mo mo_length mo_at mo_faultAt (mo_parts + (1 : Int32)) mo_entries mo_ringEarth mo_lead mo_ring mo_jumpMany mo_curveEnd mo_beds mo_all), (wI G (mo 1) 12 mo_read), (wI G (mo 3) 48 mo_text)] := hD
        refine lv_goto (tgt := 39) hx hb dX11_readLaw_233 (by decide) ?_
        cases hf
        exact hI _ rfl H locs ls hP hD hS (lv_sub hl [1, 0] rfl)
      have hj207 : ∀ (v1 : Int32) (v2 : Int32) (mo_read : Nat → Int32) (mo_at : Int32) (mo_faultAt : Int32) (mo_parts : Int32) (H : Heap) (locs : List Loc) (ls : Array Slot), f_X11_readLaw_j207 v1 v2 mo_read mo_at mo_faultAt mo_parts = some oc2 → va_P G.1 vwCl [(oX11 mo mo_length mo_at mo_faultAt mo_parts mo_entries mo_ringEarth mo_lead mo_ring mo_jumpMany mo_curveEnd mo_beds mo_all), (wI G (mo 1) 12 mo_read), (wI G (mo 3) 48 mo_text)] H → va_D A [(oX11 mo mo_length mo_at mo_faultAt mo_parts mo_entries mo_ringEarth mo_lead mo_ring mo_jumpMany mo_curveEnd mo_beds mo_all), (wI G (mo 1) 12 mo_read), (wI G (mo 3) 48 mo_text)] → va_S A s.heap H locs → lv_has ls 4 [(0, .ref (mo 0)), (1, .int v1), (2, .int v2)] → Wc_X11_readLaw l G mo mo_read mo_text mo_length mo_at mo_faultAt mo_parts mo_entries mo_ringEarth mo_lead mo_ring mo_jumpMany mo_curveEnd mo_beds mo_all R p e s m below meth c A H locs (F0 m 207 ls []) := by
        intro v1 v2 mo_read mo_at mo_faultAt mo_parts H locs ls hf hP hD hS hl
        refine lv_iload_n hx hb dX11_readLaw_207 rfl (lv_at hl 1 rfl) ?_
        refine lv_iload_n hx hb dX11_readLaw_208 rfl (lv_at hl 2 rfl) ?_
        refine lv_bipush (v := -9) hx hb dX11_readLaw_209 (by decide) ?_
        refine lv_icmp_ne (tgt := 218) hx hb dX11_readLaw_211 (by decide) (fun c4 => ?_) (fun c4 => ?_)
        · have hf := o_f c4 hf
          refine lv_iconst (v := 1) hx hb dX11_readLaw_218 (by decide) ?_
          refine lv_iload_n hx hb dX11_readLaw_219 rfl (lv_at hl 2 rfl) ?_
          refine lv_ishl hx hb dX11_readLaw_220 ?_
          exact hj221 v1 ((1 : Int32) <<< (v2 &&& (31 : Int32))) mo_read mo_at mo_faultAt mo_parts H locs ls hf hP hD hS (lv_sub hl [0] rfl)
        · have hf := o_t c4 hf
          refine lv_iconst (v := 0) hx hb dX11_readLaw_214 (by decide) ?_
          refine lv_goto (tgt := 221) hx hb dX11_readLaw_215 (by decide) ?_
          exact hj221 v1 (0 : Int32) mo_read mo_at mo_faultAt mo_parts H locs ls hf hP hD hS (lv_sub hl [0] rfl)
      have hj203 : ∀ (v1 : Int32) (v2 : Int32) (mo_read : Nat → Int32) (mo_at : Int32) (mo_faultAt : Int32) (mo_parts : Int32) (H : Heap) (locs : List Loc) (ls : Array Slot), f_X11_readLaw_j203 v1 v2 mo_read mo_at mo_faultAt mo_parts = some oc2 → va_P G.1 vwCl [(oX11 mo mo_length mo_at mo_faultAt mo_parts mo_entries mo_ringEarth mo_lead mo_ring mo_jumpMany mo_curveEnd mo_beds mo_all), (wI G (mo 1) 12 mo_read), (wI G (mo 3) 48 mo_text)] H → va_D A [(oX11 mo mo_length mo_at mo_faultAt mo_parts mo_entries mo_ringEarth mo_lead mo_ring mo_jumpMany mo_curveEnd mo_beds mo_all), (wI G (mo 1) 12 mo_read), (wI G (mo 3) 48 mo_text)] → va_S A s.heap H locs → lv_has ls 4 [(0, .ref (mo 0)), (1, .int v1), (2, .int v2)] → Wc_X11_readLaw l G mo mo_read mo_text mo_length mo_at mo_faultAt mo_parts mo_entries mo_ringEarth mo_lead mo_ring mo_jumpMany mo_curveEnd mo_beds mo_all R p e s m below meth c A H locs (F0 m 203 ls []) := by
        intro v1 v2 mo_read mo_at mo_faultAt mo_parts H locs ls hf hP hD hS hl
        refine lv_aload_n hx hb dX11_readLaw_203 rfl (lv_at hl 0 rfl) ?_
        obtain ⟨q5, r5, hf⟩ := bd_s hf
        refine rw_V (n := 0) (As := []) (rest := []) (wr := [(wI G (mo 1) 12 mo_read), (wI G (mo 3) 48 mo_text)]) (ws2 := [(oX11 mo mo_length mo_at q5 mo_parts mo_entries mo_ringEarth mo_lead mo_ring mo_jumpMany mo_curveEnd mo_beds mo_all), (wI G (mo 1) 12 mo_read), (wI G (mo 3) 48 mo_text)]) (c_X11_fail l G mo mo_length mo_at mo_faultAt mo_parts mo_entries mo_ringEarth mo_lead mo_ring mo_jumpMany mo_curveEnd mo_beds mo_all q5 r5) C hK hP hD hS hA hz hl [0] [1, 2] [2, 0, 1] rfl rfl rfl rfl rfl (by decide) rfl rfl rfl kcode_X11_fail kml_X11_83 kim_X11_fail ksel_X11_fail kini_X11 (by decide +kernel) ⟨⟨rfl, rfl⟩, Nat.le_of_ble_eq_true rfl, Nat.le_of_ble_eq_true rfl⟩ ⟨Nat.zero_le _, Nat.zero_le _⟩ rfl rfl rfl rfl rfl (Nat.le_of_ble_eq_true rfl) dX11_readLaw_204 rfl (fun H locs hP hD hS => ?_)
        exact hj207 v1 v2 mo_read mo_at q5 mo_parts H locs ls hf hP hD hS (lv_sub hl [0, 1, 2] rfl)
      have hj199 : ∀ (v1 : Int32) (v2 : Int32) (k1 : Int32) (k2 : Int32) (mo_read : Nat → Int32) (mo_at : Int32) (mo_faultAt : Int32) (mo_parts : Int32) (H : Heap) (locs : List Loc) (ls : Array Slot), f_X11_readLaw_j199 v1 v2 k1 k2 mo_read mo_at mo_faultAt mo_parts = some oc2 → va_P G.1 vwCl [(oX11 mo mo_length mo_at mo_faultAt mo_parts mo_entries mo_ringEarth mo_lead mo_ring mo_jumpMany mo_curveEnd mo_beds mo_all), (wI G (mo 1) 12 mo_read), (wI G (mo 3) 48 mo_text)] H → va_D A [(oX11 mo mo_length mo_at mo_faultAt mo_parts mo_entries mo_ringEarth mo_lead mo_ring mo_jumpMany mo_curveEnd mo_beds mo_all), (wI G (mo 1) 12 mo_read), (wI G (mo 3) 48 mo_text)] → va_S A s.heap H locs → lv_has ls 4 [(0, .ref (mo 0)), (1, .int v1), (2, .int v2)] → Wc_X11_readLaw l G mo mo_read mo_text mo_length mo_at mo_faultAt mo_parts mo_entries mo_ringEarth mo_lead mo_ring mo_jumpMany mo_curveEnd mo_beds mo_all R p e s m below meth c A H locs (F0 m 199 ls [.int k2, .int k1, .ref (mo 1)]) := by
        intro v1 v2 k1 k2 mo_read mo_at mo_faultAt mo_parts H locs ls hf hP hD hS hl
        obtain ⟨g6, hf⟩ := gd_s hf
        refine va_iast hx hb hK.1 hP hD hS 1 0 rfl rfl g6 dX11_readLaw_199 (fun H locs hP hD hS => ?_)
        have hP : va_P G.1 vwCl [(oX11 mo mo_length mo_at mo_faultAt mo_parts mo_entries mo_ringEarth mo_lead mo_ring mo_jumpMany mo_curveEnd mo_beds mo_all), (wI G (mo 1) 12 (upd mo_read k1.toNatClampNeg k2)), (wI G (mo 3) 48 mo_text)] H := hP
        have hD : va_D A [(oX11 mo mo_length mo_at mo_faultAt mo_parts mo_entries mo_ringEarth mo_lead mo_ring mo_jumpMany mo_curveEnd mo_beds mo_all), (wI G (mo 1) 12 (upd mo_read k1.toNatClampNeg k2)), (wI G (mo 3) 48 mo_text)] := hD
        refine lv_goto (tgt := 207) hx hb dX11_readLaw_200 (by decide) ?_
        exact hj207 v1 v2 (upd mo_read k1.toNatClampNeg k2) mo_at mo_faultAt mo_parts H locs ls hf hP hD hS (lv_sub hl [0, 1, 2] rfl)
      have hj140 : ∀ (v1 : Int32) (v2 : Int32) (mo_read : Nat → Int32) (mo_at : Int32) (mo_faultAt : Int32) (mo_parts : Int32) (H : Heap) (locs : List Loc) (ls : Array Slot), f_X11_readLaw_j140 mo_text mo_length v1 v2 mo_read mo_at mo_faultAt mo_parts = some oc2 → va_P G.1 vwCl [(oX11 mo mo_length mo_at mo_faultAt mo_parts mo_entries mo_ringEarth mo_lead mo_ring mo_jumpMany mo_curveEnd mo_beds mo_all), (wI G (mo 1) 12 mo_read), (wI G (mo 3) 48 mo_text)] H → va_D A [(oX11 mo mo_length mo_at mo_faultAt mo_parts mo_entries mo_ringEarth mo_lead mo_ring mo_jumpMany mo_curveEnd mo_beds mo_all), (wI G (mo 1) 12 mo_read), (wI G (mo 3) 48 mo_text)] → va_S A s.heap H locs → lv_has ls 4 [(0, .ref (mo 0)), (1, .int v1), (2, .int v2)] → Wc_X11_readLaw l G mo mo_read mo_text mo_length mo_at mo_faultAt mo_parts mo_entries mo_ringEarth mo_lead mo_ring mo_jumpMany mo_curveEnd mo_beds mo_all R p e s m below meth c A H locs (F0 m 140 ls []) := by
        intro v1 v2 mo_read mo_at mo_faultAt mo_parts H locs ls hf hP hD hS hl
        refine lv_iload_n hx hb dX11_readLaw_140 rfl (lv_at hl 2 rfl) ?_
        refine lv_bipush (v := -9) hx hb dX11_readLaw_141 (by decide) ?_
        refine lv_icmp_eq (tgt := 203) hx hb dX11_readLaw_143 (by decide) (fun c7 => ?_) (fun c7 => ?_)
        · have hf := o_t c7 hf
          exact hj203 v1 v2 mo_read mo_at mo_faultAt mo_parts H locs ls hf hP hD hS (lv_sub hl [0, 1, 2] rfl)
        · have hf := o_f c7 hf
          refine lv_iload_n hx hb dX11_readLaw_146 rfl (lv_at hl 1 rfl) ?_
          refine lv_iload_n hx hb dX11_readLaw_147 rfl (lv_at hl 2 rfl) ?_
          refine lv_ishr hx hb dX11_readLaw_148 ?_
          refine lv_iconst (v := 1) hx hb dX11_readLaw_149 (by decide) ?_
          refine lv_iand hx hb dX11_readLaw_150 ?_
          refine lv_if_ne (tgt := 203) hx hb dX11_readLaw_151 (by decide) (fun c8 => ?_) (fun c8 => ?_)
          · have hf := o_f c8 hf
            exact hj203 v1 v2 mo_read mo_at mo_faultAt mo_parts H locs ls hf hP hD hS (lv_sub hl [0, 1, 2] rfl)
          · have hf := o_t c8 hf
            refine lv_aload_n hx hb dX11_readLaw_154 rfl (lv_at hl 0 rfl) ?_
            refine lv_dup hx hb dX11_readLaw_155 rfl ?_
            refine va_get (D := G.1) (ci := 11) (v := .int mo_at) (C := RX11) (T := TX11) (N := 29) hx hb ht twX11 hown hK.1 hP 0 rfl rfl 4 (by decide) (ht _ kfl_X11_78) (fun _ h9 => h9) rfl dX11_readLaw_156 ?_
            refine lv_iconst (v := 1) hx hb dX11_readLaw_159 (by decide) ?_
            refine lv_iadd hx hb dX11_readLaw_160 ?_
            refine va_put (D := G.1) (ci := 11) (v := .int (mo_at + (1 : Int32))) (ty := .int) (C := RX11) (T := TX11) (N := 29) hx hb ht twX11 tyX11 tyX11_ok nmX11 hown hK.1 hP hD hS 0 rfl rfl 4 (by decide) (ht _ kfl_X11_78) (fun _ h9 => h9) rfl (by decide +kernel) rfl rfl (Nat.le_of_ble_eq_true rfl) dX11_readLaw_161 (fun H locs hP hD hS => ?_)
            have hP : va_P G.1 vwCl [(oX11 mo mo_length (mo_at + (1 : Int32)) mo_faultAt mo_parts mo_entries mo_ringEarth mo_lead mo_ring mo_jumpMany mo_curveEnd mo_beds mo_all), (wI G (mo 1) 12 mo_read), (wI G (mo 3) 48 mo_text)] H := hP
            have hD : va_D A [(oX11 mo mo_length (mo_at + (1 : Int32)) mo_faultAt mo_parts mo_entries mo_ringEarth mo_lead mo_ring mo_jumpMany mo_curveEnd mo_beds mo_all), (wI G (mo 1) 12 mo_read), (wI G (mo 3) 48 mo_text)] := hD
            refine lv_aload_n hx hb dX11_readLaw_164 rfl (lv_at hl 0 rfl) ?_
            refine lv_sipush (v := 1023) hx hb dX11_readLaw_165 (by decide) ?_
            obtain ⟨q9, r9, hf⟩ := bd_s hf
            refine rw_V (n := 1) (As := [.int (1023 : Int32)]) (rest := []) (wr := [(wI G (mo 1) 12 mo_read)]) (ws2 := [(oX11 mo mo_length q9.2.1 q9.2.2 mo_parts mo_entries mo_ringEarth mo_lead mo_ring mo_jumpMany mo_curveEnd mo_beds mo_all), (wI G (mo 1) 12 mo_read), (wI G (mo 3) 48 mo_text)]) (c_X11_figure l G mo mo_text mo_length (mo_at + (1 : Int32)) mo_faultAt mo_parts mo_entries mo_ringEarth mo_lead mo_ring mo_jumpMany mo_curveEnd mo_beds mo_all (1023 : Int32) q9 r9) C hK hP hD hS hA hz hl [0, 2] [1] [1, 0, 2] rfl rfl rfl rfl rfl (by decide) rfl rfl rfl kcode_X11_figure kml_X11_97 kim_X11_figure ksel_X11_figure kini_X11 (by decide +kernel) ⟨⟨rfl, rfl⟩, Nat.le_of_ble_eq_true rfl, Nat.le_of_ble_eq_true rfl⟩ ⟨Nat.zero_le _, Nat.zero_le _⟩ rfl rfl rfl rfl rfl (Nat.le_of_ble_eq_true rfl) dX11_readLaw_168 rfl (fun H locs hP hD hS => ?_)
            refine lv_istore_n (lv' := [(3, .int q9.1), (0, .ref (mo 0)), (1, .int v1), (2, .int v2)]) hx hb dX11_readLaw_171 rfl hl (by decide) rfl (fun ls hl => ?_)
            refine lv_aload_n hx hb dX11_readLaw_172 rfl (lv_at hl 1 rfl) ?_
            refine va_get (D := G.1) (ci := 11) (v := .ref (mo 1)) (C := RX11) (T := TX11) (N := 29) hx hb ht twX11 hown hK.1 hP 0 rfl rfl 0 (by decide) (ht _ kfl_X11_7) (fun _ h9 => h9) rfl dX11_readLaw_173 ?_
            refine lv_iload_n hx hb dX11_readLaw_176 rfl (lv_at hl 3 rfl) ?_
            refine lv_iload_n hx hb dX11_readLaw_177 rfl (lv_at hl 3 rfl) ?_
            refine lv_bipush (v := 8) hx hb dX11_readLaw_178 (by decide) ?_
            refine lv_icmp_ne (tgt := 198) hx hb dX11_readLaw_180 (by decide) (fun c10 => ?_) (fun c10 => ?_)
            · have hf := o_f c10 hf
              refine lv_iload_n hx hb dX11_readLaw_198 rfl (lv_at hl 0 rfl) ?_
              exact hj199 v1 v2 v2 q9.1 mo_read q9.2.1 q9.2.2 mo_parts H locs ls hf hP hD hS (lv_sub hl [1, 2, 3] rfl)
            · have hf := o_t c10 hf
              refine lv_bipush (v := 10) hx hb dX11_readLaw_183 (by decide) ?_
              refine lv_iload_n hx hb dX11_readLaw_185 rfl (lv_at hl 0 rfl) ?_
              refine lv_imul hx hb dX11_readLaw_186 ?_
              refine lv_aload_n hx hb dX11_readLaw_187 rfl (lv_at hl 1 rfl) ?_
              refine lv_sipush (v := 1023) hx hb dX11_readLaw_188 (by decide) ?_
              obtain ⟨q11, r11, hf⟩ := bd_s hf
              refine rw_V (n := 1) (As := [.int (1023 : Int32)]) (rest := [.int ((10 : Int32) * q9.1), .int v2, .ref (mo 1)]) (wr := [(wI G (mo 1) 12 mo_read)]) (ws2 := [(oX11 mo mo_length q11.2.1 q11.2.2 mo_parts mo_entries mo_ringEarth mo_lead mo_ring mo_jumpMany mo_curveEnd mo_beds mo_all), (wI G (mo 1) 12 mo_read), (wI G (mo 3) 48 mo_text)]) (c_X11_figure l G mo mo_text mo_length q9.2.1 q9.2.2 mo_parts mo_entries mo_ringEarth mo_lead mo_ring mo_jumpMany mo_curveEnd mo_beds mo_all (1023 : Int32) q11 r11) C hK hP hD hS hA hz hl [0, 2] [1] [1, 0, 2] rfl rfl rfl rfl rfl (by decide) rfl rfl rfl kcode_X11_figure kml_X11_97 kim_X11_figure ksel_X11_figure kini_X11 (by decide +kernel) ⟨⟨rfl, rfl⟩, Nat.le_of_ble_eq_true rfl, Nat.le_of_ble_eq_true rfl⟩ ⟨Nat.zero_le _, Nat.zero_le _⟩ rfl rfl rfl rfl rfl (Nat.le_of_ble_eq_true rfl) dX11_readLaw_191 rfl (fun H locs hP hD hS => ?_)
              refine lv_iadd hx hb dX11_readLaw_194 ?_
              refine lv_goto (tgt := 199) hx hb dX11_readLaw_195 (by decide) ?_
              exact hj199 v1 v2 v2 (((10 : Int32) * q9.1) + q11.1) mo_read q11.2.1 q11.2.2 mo_parts H locs ls hf hP hD hS (lv_sub hl [1, 2, 3] rfl)
      refine lv_aload_n hx hb dX11_readLaw_39 rfl (lv_at hl 0 rfl) ?_
      refine va_get (D := G.1) (ci := 11) (v := .int mo_faultAt) (C := RX11) (T := TX11) (N := 29) hx hb ht twX11 hown hK.1 hP 0 rfl rfl 5 (by decide) (ht _ kfl_X11_75) (fun _ h9 => h9) rfl dX11_readLaw_40 ?_
      refine lv_bipush (v := -9) hx hb dX11_readLaw_43 (by decide) ?_
      refine lv_icmp_ne (tgt := 236) hx hb dX11_readLaw_45 (by decide) (fun c12 => ?_) (fun c12 => ?_)
      · have hf := o_f c12 hf
        cases hf
        have hf : f_X11_readLaw_x236_2 mo_read mo_at mo_faultAt mo_parts = some R := by have h9 := hk2; rw [← hE _ rfl] at h9; exact h9
        exact hx236_2 mo_read mo_at mo_faultAt mo_parts H locs ls hf hP hD hS (lv_sub hl [0] rfl)
      · have hf := o_t c12 hf
        refine lv_aload_n hx hb dX11_readLaw_48 rfl (lv_at hl 0 rfl) ?_
        refine va_get (D := G.1) (ci := 11) (v := .int mo_at) (C := RX11) (T := TX11) (N := 29) hx hb ht twX11 hown hK.1 hP 0 rfl rfl 4 (by decide) (ht _ kfl_X11_78) (fun _ h9 => h9) rfl dX11_readLaw_49 ?_
        refine lv_aload_n hx hb dX11_readLaw_52 rfl (lv_at hl 0 rfl) ?_
        refine va_get (D := G.1) (ci := 11) (v := .int mo_length) (C := RX11) (T := TX11) (N := 29) hx hb ht twX11 hown hK.1 hP 0 rfl rfl 3 (by decide) (ht _ kfl_X11_69) (fun _ h9 => h9) rfl dX11_readLaw_53 ?_
        refine lv_icmp_ge (tgt := 236) hx hb dX11_readLaw_56 (by decide) (fun c13 => ?_) (fun c13 => ?_)
        · have hf := o_t c13 hf
          cases hf
          have hf : f_X11_readLaw_x236_2 mo_read mo_at mo_faultAt mo_parts = some R := by have h9 := hk2; rw [← hE _ rfl] at h9; exact h9
          exact hx236_2 mo_read mo_at mo_faultAt mo_parts H locs ls hf hP hD hS (lv_sub hl [0] rfl)
        · have hf := o_f c13 hf
          refine lv_aload_n hx hb dX11_readLaw_59 rfl (lv_at hl 0 rfl) ?_
          refine va_get (D := G.1) (ci := 11) (v := .ref (mo 3)) (C := RX11) (T := TX11) (N := 29) hx hb ht twX11 hown hK.1 hP 0 rfl rfl 2 (by decide) (ht _ kfl_X11_16) (fun _ h9 => h9) rfl dX11_readLaw_60 ?_
          refine lv_aload_n hx hb dX11_readLaw_63 rfl (lv_at hl 0 rfl) ?_
          refine va_get (D := G.1) (ci := 11) (v := .int mo_at) (C := RX11) (T := TX11) (N := 29) hx hb ht twX11 hown hK.1 hP 0 rfl rfl 4 (by decide) (ht _ kfl_X11_78) (fun _ h9 => h9) rfl dX11_readLaw_64 ?_
          obtain ⟨g14, hf⟩ := gd_s hf
          refine va_iald hx hb hK.1 hP 2 0 rfl rfl g14 dX11_readLaw_67 ?_
          obtain ⟨q15, r15, hf⟩ := bd_s hf
          refine ro_S (n := 1) (As := [.int (mo_text mo_at.toNatClampNeg)]) (rest := []) (c_X11_placeOf l G (mo_text mo_at.toNatClampNeg) q15 r15) C (hK.at hS hz) (hP.sub [] rfl) hl kcode_X11_placeOf kml_X11_89 kst_X11_placeOf kini_X11 (by decide +kernel) ⟨⟨rfl, rfl⟩, Nat.le_of_ble_eq_true rfl, Nat.le_of_ble_eq_true rfl⟩ ⟨Nat.zero_le _, Nat.zero_le _⟩ rfl rfl (Nat.le_of_ble_eq_true rfl) dX11_readLaw_68 rfl ?_
          refine lv_istore_n (lv' := [(2, .int q15), (0, .ref (mo 0)), (1, .int v1)]) hx hb dX11_readLaw_71 rfl hl (by decide) rfl (fun ls hl => ?_)
          refine lv_aload_n hx hb dX11_readLaw_72 rfl (lv_at hl 1 rfl) ?_
          refine lv_bipush (v := 76) hx hb dX11_readLaw_73 (by decide) ?_
          obtain ⟨q16, r16, hf⟩ := bd_s hf
          refine ro_V (n := 1) (As := [.int (76 : Int32)]) (rest := []) (c_X11_isNext l G mo mo_text mo_length mo_at mo_faultAt mo_parts mo_entries mo_ringEarth mo_lead mo_ring mo_jumpMany mo_curveEnd mo_beds mo_all (76 : Int32) q16 r16) C (hK.at hS hz) (hP.sub [0, 2] rfl) hl kcode_X11_isNext kml_X11_93 kim_X11_isNext ksel_X11_isNext kini_X11 (by decide +kernel) ⟨⟨rfl, rfl⟩, Nat.le_of_ble_eq_true rfl, Nat.le_of_ble_eq_true rfl⟩ ⟨Nat.zero_le _, Nat.zero_le _⟩ rfl rfl rfl rfl rfl (Nat.le_of_ble_eq_true rfl) dX11_readLaw_75 rfl ?_
          refine lv_if_eq (tgt := 140) hx hb dX11_readLaw_78 (by decide) (fun c17 => ?_) (fun c17 => ?_)
          · have hf := o_t c17 hf
            exact hj140 v1 q15 mo_read mo_at mo_faultAt mo_parts H locs ls hf hP hD hS (lv_sub hl [1, 2, 0] rfl)
          · have hf := o_f c17 hf
            refine lv_iload_n hx hb dX11_readLaw_81 rfl (lv_at hl 2 rfl) ?_
            refine lv_bipush (v := 63) hx hb dX11_readLaw_82 (by decide) ?_
            refine lv_iand hx hb dX11_readLaw_84 ?_
            refine lv_bipush (v := 63) hx hb dX11_readLaw_85 (by decide) ?_
            refine lv_icmp_eq (tgt := 140) hx hb dX11_readLaw_87 (by decide) (fun c18 => ?_) (fun c18 => ?_)
            · have hf := o_t c18 hf
              exact hj140 v1 q15 mo_read mo_at mo_faultAt mo_parts H locs ls hf hP hD hS (lv_sub hl [1, 2, 0] rfl)
            · have hf := o_f c18 hf
              refine lv_aload_n hx hb dX11_readLaw_90 rfl (lv_at hl 1 rfl) ?_
              refine lv_dup hx hb dX11_readLaw_91 rfl ?_
              refine va_get (D := G.1) (ci := 11) (v := .int mo_at) (C := RX11) (T := TX11) (N := 29) hx hb ht twX11 hown hK.1 hP 0 rfl rfl 4 (by decide) (ht _ kfl_X11_78) (fun _ h9 => h9) rfl dX11_readLaw_92 ?_
              refine lv_iconst (v := 1) hx hb dX11_readLaw_95 (by decide) ?_
              refine lv_iadd hx hb dX11_readLaw_96 ?_
              refine va_put (D := G.1) (ci := 11) (v := .int (mo_at + (1 : Int32))) (ty := .int) (C := RX11) (T := TX11) (N := 29) hx hb ht twX11 tyX11 tyX11_ok nmX11 hown hK.1 hP hD hS 0 rfl rfl 4 (by decide) (ht _ kfl_X11_78) (fun _ h9 => h9) rfl (by decide +kernel) rfl rfl (Nat.le_of_ble_eq_true rfl) dX11_readLaw_97 (fun H locs hP hD hS => ?_)
              have hP : va_P G.1 vwCl [(oX11 mo mo_length (mo_at + (1 : Int32)) mo_faultAt mo_parts mo_entries mo_ringEarth mo_lead mo_ring mo_jumpMany mo_curveEnd mo_beds mo_all), (wI G (mo 1) 12 mo_read), (wI G (mo 3) 48 mo_text)] H := hP
              have hD : va_D A [(oX11 mo mo_length (mo_at + (1 : Int32)) mo_faultAt mo_parts mo_entries mo_ringEarth mo_lead mo_ring mo_jumpMany mo_curveEnd mo_beds mo_all), (wI G (mo 1) 12 mo_read), (wI G (mo 3) 48 mo_text)] := hD
              refine lv_aload_n hx hb dX11_readLaw_100 rfl (lv_at hl 1 rfl) ?_
              refine lv_bipush (v := 63) hx hb dX11_readLaw_101 (by decide) ?_
              refine lv_iload_n hx hb dX11_readLaw_103 rfl (lv_at hl 2 rfl) ?_
              refine lv_iconst (v := -1) hx hb dX11_readLaw_104 (by decide) ?_
              refine lv_ixor hx hb dX11_readLaw_105 ?_
              refine lv_iand hx hb dX11_readLaw_106 ?_
              obtain ⟨q19, r19, hf⟩ := bd_s hf
              refine rw_V (n := 1) (As := [.int ((63 : Int32) &&& (v1 ^^^ (-1 : Int32)))]) (rest := []) (wr := [(wI G (mo 1) 12 mo_read)]) (ws2 := [(oX11 mo mo_length q19.2.1 q19.2.2 mo_parts mo_entries mo_ringEarth mo_lead mo_ring mo_jumpMany mo_curveEnd mo_beds mo_all), (wI G (mo 1) 12 mo_read), (wI G (mo 3) 48 mo_text)]) (c_X11_figure l G mo mo_text mo_length (mo_at + (1 : Int32)) mo_faultAt mo_parts mo_entries mo_ringEarth mo_lead mo_ring mo_jumpMany mo_curveEnd mo_beds mo_all ((63 : Int32) &&& (v1 ^^^ (-1 : Int32))) q19 r19) C hK hP hD hS hA hz hl [0, 2] [1] [1, 0, 2] rfl rfl rfl rfl rfl (by decide) rfl rfl rfl kcode_X11_figure kml_X11_97 kim_X11_figure ksel_X11_figure kini_X11 (by decide +kernel) ⟨⟨rfl, rfl⟩, Nat.le_of_ble_eq_true rfl, Nat.le_of_ble_eq_true rfl⟩ ⟨Nat.zero_le _, Nat.zero_le _⟩ rfl rfl rfl rfl rfl (Nat.le_of_ble_eq_true rfl) dX11_readLaw_107 rfl (fun H locs hP hD hS => ?_)
              refine lv_istore_n (lv' := [(2, .int q19.1), (0, .ref (mo 0)), (1, .int v1)]) hx hb dX11_readLaw_110 rfl hl (by decide) rfl (fun ls hl => ?_)
              refine lv_aload_n hx hb dX11_readLaw_111 rfl (lv_at hl 1 rfl) ?_
              refine lv_sipush (v := 1023) hx hb dX11_readLaw_112 (by decide) ?_
              obtain ⟨q20, r20, hf⟩ := bd_s hf
              refine rw_V (n := 1) (As := [.int (1023 : Int32)]) (rest := []) (wr := [(wI G (mo 1) 12 mo_read)]) (ws2 := [(oX11 mo mo_length q20.2.1 q20.2.2 mo_parts mo_entries mo_ringEarth mo_lead mo_ring mo_jumpMany mo_curveEnd mo_beds mo_all), (wI G (mo 1) 12 mo_read), (wI G (mo 3) 48 mo_text)]) (c_X11_figure l G mo mo_text mo_length q19.2.1 q19.2.2 mo_parts mo_entries mo_ringEarth mo_lead mo_ring mo_jumpMany mo_curveEnd mo_beds mo_all (1023 : Int32) q20 r20) C hK hP hD hS hA hz hl [0, 2] [1] [1, 0, 2] rfl rfl rfl rfl rfl (by decide) rfl rfl rfl kcode_X11_figure kml_X11_97 kim_X11_figure ksel_X11_figure kini_X11 (by decide +kernel) ⟨⟨rfl, rfl⟩, Nat.le_of_ble_eq_true rfl, Nat.le_of_ble_eq_true rfl⟩ ⟨Nat.zero_le _, Nat.zero_le _⟩ rfl rfl rfl rfl rfl (Nat.le_of_ble_eq_true rfl) dX11_readLaw_115 rfl (fun H locs hP hD hS => ?_)
              refine lv_istore_n (lv' := [(3, .int q20.1), (2, .int q19.1), (0, .ref (mo 0)), (1, .int v1)]) hx hb dX11_readLaw_118 rfl hl (by decide) rfl (fun ls hl => ?_)
              refine lv_aload_n hx hb dX11_readLaw_119 rfl (lv_at hl 2 rfl) ?_
              refine va_get (D := G.1) (ci := 11) (v := .ref (mo 1)) (C := RX11) (T := TX11) (N := 29) hx hb ht twX11 hown hK.1 hP 0 rfl rfl 0 (by decide) (ht _ kfl_X11_7) (fun _ h9 => h9) rfl dX11_readLaw_120 ?_
              refine lv_iload_n hx hb dX11_readLaw_123 rfl (lv_at hl 1 rfl) ?_
              refine lv_bipush (v := 10) hx hb dX11_readLaw_124 (by decide) ?_
              refine lv_iload_n hx hb dX11_readLaw_126 rfl (lv_at hl 0 rfl) ?_
              refine lv_imul hx hb dX11_readLaw_127 ?_
              refine lv_aload_n hx hb dX11_readLaw_128 rfl (lv_at hl 2 rfl) ?_
              refine lv_sipush (v := 1023) hx hb dX11_readLaw_129 (by decide) ?_
              obtain ⟨q21, r21, hf⟩ := bd_s hf
              refine rw_V (n := 1) (As := [.int (1023 : Int32)]) (rest := [.int ((10 : Int32) * q20.1), .int q19.1, .ref (mo 1)]) (wr := [(wI G (mo 1) 12 mo_read)]) (ws2 := [(oX11 mo mo_length q21.2.1 q21.2.2 mo_parts mo_entries mo_ringEarth mo_lead mo_ring mo_jumpMany mo_curveEnd mo_beds mo_all), (wI G (mo 1) 12 mo_read), (wI G (mo 3) 48 mo_text)]) (c_X11_figure l G mo mo_text mo_length q20.2.1 q20.2.2 mo_parts mo_entries mo_ringEarth mo_lead mo_ring mo_jumpMany mo_curveEnd mo_beds mo_all (1023 : Int32) q21 r21) C hK hP hD hS hA hz hl [0, 2] [1] [1, 0, 2] rfl rfl rfl rfl rfl (by decide) rfl rfl rfl kcode_X11_figure kml_X11_97 kim_X11_figure ksel_X11_figure kini_X11 (by decide +kernel) ⟨⟨rfl, rfl⟩, Nat.le_of_ble_eq_true rfl, Nat.le_of_ble_eq_true rfl⟩ ⟨Nat.zero_le _, Nat.zero_le _⟩ rfl rfl rfl rfl rfl (Nat.le_of_ble_eq_true rfl) dX11_readLaw_132 rfl (fun H locs hP hD hS => ?_)
              refine lv_iadd hx hb dX11_readLaw_135 ?_
              obtain ⟨g22, hf⟩ := gd_s hf
              refine va_iast hx hb hK.1 hP hD hS 1 0 rfl rfl g22 dX11_readLaw_136 (fun H locs hP hD hS => ?_)
              have hP : va_P G.1 vwCl [(oX11 mo mo_length q21.2.1 q21.2.2 mo_parts mo_entries mo_ringEarth mo_lead mo_ring mo_jumpMany mo_curveEnd mo_beds mo_all), (wI G (mo 1) 12 (upd mo_read q19.1.toNatClampNeg (((10 : Int32) * q20.1) + q21.1))), (wI G (mo 3) 48 mo_text)] H := hP
              have hD : va_D A [(oX11 mo mo_length q21.2.1 q21.2.2 mo_parts mo_entries mo_ringEarth mo_lead mo_ring mo_jumpMany mo_curveEnd mo_beds mo_all), (wI G (mo 1) 12 (upd mo_read q19.1.toNatClampNeg (((10 : Int32) * q20.1) + q21.1))), (wI G (mo 3) 48 mo_text)] := hD
              refine lv_goto (tgt := 207) hx hb dX11_readLaw_137 (by decide) ?_
              exact hj207 v1 q19.1 (upd mo_read q19.1.toNatClampNeg (((10 : Int32) * q20.1) + q21.1)) q21.2.1 q21.2.2 mo_parts H locs ls hf hP hD hS (lv_sub hl [2, 3, 1] rfl)
    obtain ⟨rL1, hL1, hk1⟩ := bd_s hf
    refine lp_W (P := fun st => ∀ (H : Heap) (locs : List Loc) (ls : Array Slot), va_P G.1 vwCl [(oX11 mo mo_length (0 : Int32) (-9 : Int32) (0 : Int32) mo_entries mo_ringEarth mo_lead mo_ring mo_jumpMany mo_curveEnd mo_beds mo_all), (wI G (mo 1) 12 st.2), (wI G (mo 3) 48 mo_text)] H → va_D A [(oX11 mo mo_length (0 : Int32) (-9 : Int32) (0 : Int32) mo_entries mo_ringEarth mo_lead mo_ring mo_jumpMany mo_curveEnd mo_beds mo_all), (wI G (mo 1) 12 st.2), (wI G (mo 3) 48 mo_text)] → va_S A s.heap H locs → lv_has ls 4 [(0, .ref (mo 0)), (1, .int (0 : Int32)), (2, .int st.1)] → Wc_X11_readLaw l G mo mo_read mo_text mo_length mo_at mo_faultAt mo_parts mo_entries mo_ringEarth mo_lead mo_ring mo_jumpMany mo_curveEnd mo_beds mo_all R p e s m below meth c A H locs (F0 m 20 ls [])) ?_ FU ((0 : Int32), mo_read) hL1 H locs ls hP hD hS (lv_sub hl [2, 1, 0] rfl)
    intro ⟨v2, mo_read⟩ oc1 hf hI hE H locs ls hP hD hS hl
    have hP : va_P G.1 vwCl [(oX11 mo mo_length (0 : Int32) (-9 : Int32) (0 : Int32) mo_entries mo_ringEarth mo_lead mo_ring mo_jumpMany mo_curveEnd mo_beds mo_all), (wI G (mo 1) 12 mo_read), (wI G (mo 3) 48 mo_text)] H := hP
    have hD : va_D A [(oX11 mo mo_length (0 : Int32) (-9 : Int32) (0 : Int32) mo_entries mo_ringEarth mo_lead mo_ring mo_jumpMany mo_curveEnd mo_beds mo_all), (wI G (mo 1) 12 mo_read), (wI G (mo 3) 48 mo_text)] := hD
    have hl : lv_has ls 4 [(0, .ref (mo 0)), (1, .int (0 : Int32)), (2, .int v2)] := hl
    have hf : f_X11_readLaw_b20 v2 mo_read = some oc1 := hf
    refine lv_iload_n hx hb dX11_readLaw_20 rfl (lv_at hl 2 rfl) ?_
    refine lv_bipush (v := 12) hx hb dX11_readLaw_21 (by decide) ?_
    refine lv_icmp_ge (tgt := 39) hx hb dX11_readLaw_23 (by decide) (fun c23 => ?_) (fun c23 => ?_)
    · have hf := o_t c23 hf
      cases hf
      have hf : f_X11_readLaw_x39_1 mo_text mo_length mo_read = some R := by have h9 := hk1; rw [← hE _ rfl] at h9; exact h9
      exact hx39_1 mo_read H locs ls hf hP hD hS (lv_sub hl [0, 1] rfl)
    · have hf := o_f c23 hf
      refine lv_aload_n hx hb dX11_readLaw_26 rfl (lv_at hl 0 rfl) ?_
      refine va_get (D := G.1) (ci := 11) (v := .ref (mo 1)) (C := RX11) (T := TX11) (N := 29) hx hb ht twX11 hown hK.1 hP 0 rfl rfl 0 (by decide) (ht _ kfl_X11_7) (fun _ h9 => h9) rfl dX11_readLaw_27 ?_
      refine lv_iload_n hx hb dX11_readLaw_30 rfl (lv_at hl 2 rfl) ?_
      refine lv_iconst (v := 0) hx hb dX11_readLaw_31 (by decide) ?_
      obtain ⟨g24, hf⟩ := gd_s hf
      refine va_iast hx hb hK.1 hP hD hS 1 0 rfl rfl g24 dX11_readLaw_32 (fun H locs hP hD hS => ?_)
      have hP : va_P G.1 vwCl [(oX11 mo mo_length (0 : Int32) (-9 : Int32) (0 : Int32) mo_entries mo_ringEarth mo_lead mo_ring mo_jumpMany mo_curveEnd mo_beds mo_all), (wI G (mo 1) 12 (upd mo_read v2.toNatClampNeg (0 : Int32))), (wI G (mo 3) 48 mo_text)] H := hP
      have hD : va_D A [(oX11 mo mo_length (0 : Int32) (-9 : Int32) (0 : Int32) mo_entries mo_ringEarth mo_lead mo_ring mo_jumpMany mo_curveEnd mo_beds mo_all), (wI G (mo 1) 12 (upd mo_read v2.toNatClampNeg (0 : Int32))), (wI G (mo 3) 48 mo_text)] := hD
      refine lv_iinc (v := (v2 + (1 : Int32))) (lv' := [(2, .int (v2 + (1 : Int32))), (0, .ref (mo 0)), (1, .int (0 : Int32))]) hx hb dX11_readLaw_33 hl (k := 2) rfl (by rfl) (by decide) rfl (fun ls hl => ?_)
      refine lv_goto (tgt := 20) hx hb dX11_readLaw_36 (by decide) ?_
      cases hf
      exact hI _ rfl H locs ls hP hD hS (lv_sub hl [1, 2, 0] rfl)
  rw [eH, el] at key
  exact key
abbrev Wc_X11_readEntry (l : Launch) (G : TG) (mo : Nat → Nat) (mo_text : Nat → Int32) (mo_length : Int32) (mo_at : Int32) (mo_faultAt : Int32) (mo_parts : Int32) (mo_entryRound : Nat → Int32) (mo_entryIce : Nat → Int32) (mo_entries : Int32) (mo_ringEarth : Int32) (mo_lead : Int32) (mo_ring : Int32) (mo_jumpMany : Int32) (mo_curveEnd : Int32) (mo_beds : Int32) (mo_all : Int64) (a1 : Int32) (R : Int32 × Int32 × Int32 × (Nat → Int32) × (Nat → Int32) × Int32) (p : Program) (e : Env) (s : State) (m : MethodId) (below : List Frame) (meth : Method) (c : Code) (A : Nat → Prop) (H : Heap) (locs : List Loc) (g : JFrame) : Prop := W p l e ({ frames := 2, cells := 0, slots := 0, locals := 47 }) s m ([.ref (mo 0), .int a1] : List Value).toArray below meth c H locs 0 0 (MQ below (rwQ G (some (.int R.1)) [(oX11 mo mo_length R.2.1 R.2.2.1 mo_parts R.2.2.2.2.2 mo_ringEarth mo_lead mo_ring mo_jumpMany mo_curveEnd mo_beds mo_all), (wI G (mo 3) 48 mo_text), (wI G (mo 4) 48 R.2.2.2.1), (wI G (mo 5) 48 R.2.2.2.2.1)] A) ([.ref (mo 0), .int a1] : List Value).toArray s 0 0 A) g
set_option maxHeartbeats 4000000 in
set_option maxRecDepth 100000 in
theorem c_X11_readEntry (l : Launch) (G : TG) (mo : Nat → Nat) (mo_text : Nat → Int32) (mo_length : Int32) (mo_at : Int32) (mo_faultAt : Int32) (mo_parts : Int32) (mo_entryRound : Nat → Int32) (mo_entryIce : Nat → Int32) (mo_entries : Int32) (mo_ringEarth : Int32) (mo_lead : Int32) (mo_ring : Int32) (mo_jumpMany : Int32) (mo_curveEnd : Int32) (mo_beds : Int32) (mo_all : Int64) (a1 : Int32) (R : Int32 × Int32 × Int32 × (Nat → Int32) × (Nat → Int32) × Int32) (hf : f_X11_readEntry mo_text mo_length mo_at mo_faultAt mo_entryRound mo_entryIce mo_entries a1 = some R) : RW l yX11_readEntry cX11_readEntry 9 (some .int) ({ frames := 2, cells := 0, slots := 0, locals := 47 }) G [.ref (mo 0), .int a1] [(oX11 mo mo_length mo_at mo_faultAt mo_parts mo_entries mo_ringEarth mo_lead mo_ring mo_jumpMany mo_curveEnd mo_beds mo_all), (wI G (mo 3) 48 mo_text), (wI G (mo 4) 48 mo_entryRound), (wI G (mo 5) 48 mo_entryIce)] (some (.int R.1)) [(oX11 mo mo_length R.2.1 R.2.2.1 mo_parts R.2.2.2.2.2 mo_ringEarth mo_lead mo_ring mo_jumpMany mo_curveEnd mo_beds mo_all), (wI G (mo 3) 48 mo_text), (wI G (mo 4) 48 R.2.2.2.1), (wI G (mo 5) 48 R.2.2.2.2.1)] := by
  refine RW.mk (by decide +kernel) (Nat.le_of_ble_eq_true rfl) ?_
  intro p e s m below meth c ls A C hP hD hA hz hK hl hS
  have hx := C.1
  have hb := C.2.1
  have hown : s.vm.findClass RX11 = some m.cls := C.2.2.2.2.2.1
  have ht := C.2.2.2.2.2.2
  have hl : lv_has ls 9 [(0, .ref (mo 0)), (1, .int a1)] := hl
  show Wc_X11_readEntry l G mo mo_text mo_length mo_at mo_faultAt mo_parts mo_entryRound mo_entryIce mo_entries mo_ringEarth mo_lead mo_ring mo_jumpMany mo_curveEnd mo_beds mo_all a1 R p e s m below meth c A s.heap [] (F0 m 0 ls [])
  obtain ⟨H, eH, hP, hS⟩ : ∃ H, H = s.heap ∧ va_P G.1 vwCl [(oX11 mo mo_length mo_at mo_faultAt mo_parts mo_entries mo_ringEarth mo_lead mo_ring mo_jumpMany mo_curveEnd mo_beds mo_all), (wI G (mo 3) 48 mo_text), (wI G (mo 4) 48 mo_entryRound), (wI G (mo 5) 48 mo_entryIce)] H ∧ va_S A s.heap H [] := ⟨_, rfl, hP, hS⟩
  obtain ⟨locs, el, hS⟩ : ∃ locs : List Loc, locs = [] ∧ va_S A s.heap H locs := ⟨_, rfl, hS⟩
  have key : Wc_X11_readEntry l G mo mo_text mo_length mo_at mo_faultAt mo_parts mo_entryRound mo_entryIce mo_entries mo_ringEarth mo_lead mo_ring mo_jumpMany mo_curveEnd mo_beds mo_all a1 R p e s m below meth c A H locs (F0 m 0 ls []) := by
    have hj125 : ∀ (v5 : Int32) (mo_at : Int32) (mo_faultAt : Int32) (mo_entryRound : Nat → Int32) (mo_entryIce : Nat → Int32) (mo_entries : Int32) (H : Heap) (locs : List Loc) (ls : Array Slot), f_X11_readEntry_j125 mo_text mo_length v5 mo_at mo_faultAt mo_entryRound mo_entryIce mo_entries = some R → va_P G.1 vwCl [(oX11 mo mo_length mo_at mo_faultAt mo_parts mo_entries mo_ringEarth mo_lead mo_ring mo_jumpMany mo_curveEnd mo_beds mo_all), (wI G (mo 3) 48 mo_text), (wI G (mo 4) 48 mo_entryRound), (wI G (mo 5) 48 mo_entryIce)] H → va_D A [(oX11 mo mo_length mo_at mo_faultAt mo_parts mo_entries mo_ringEarth mo_lead mo_ring mo_jumpMany mo_curveEnd mo_beds mo_all), (wI G (mo 3) 48 mo_text), (wI G (mo 4) 48 mo_entryRound), (wI G (mo 5) 48 mo_entryIce)] → va_S A s.heap H locs → lv_has ls 9 [(0, .ref (mo 0)), (5, .int v5)] → Wc_X11_readEntry l G mo mo_text mo_length mo_at mo_faultAt mo_parts mo_entryRound mo_entryIce mo_entries mo_ringEarth mo_lead mo_ring mo_jumpMany mo_curveEnd mo_beds mo_all a1 R p e s m below meth c A H locs (F0 m 125 ls []) := by
      intro v5 mo_at mo_faultAt mo_entryRound mo_entryIce mo_entries H locs ls hf hP hD hS hl
      refine lv_iconst (v := 0) hx hb dX11_readEntry_125 (by decide) ?_
      refine lv_istore (lv' := [(6, .int (0 : Int32)), (0, .ref (mo 0)), (5, .int v5)]) hx hb dX11_readEntry_126 hl (by decide) rfl (fun ls hl => ?_)
      refine lv_iconst (v := 0) hx hb dX11_readEntry_128 (by decide) ?_
      refine lv_istore (lv' := [(7, .int (0 : Int32)), (6, .int (0 : Int32)), (0, .ref (mo 0)), (5, .int v5)]) hx hb dX11_readEntry_129 hl (by decide) rfl (fun ls hl => ?_)
      have hx210_1 : ∀ (v6 : Int32) (mo_at : Int32) (mo_faultAt : Int32) (H : Heap) (locs : List Loc) (ls : Array Slot), f_X11_readEntry_x210_1 v5 mo_entryRound mo_entryIce mo_entries v6 mo_at mo_faultAt = some R → va_P G.1 vwCl [(oX11 mo mo_length mo_at mo_faultAt mo_parts mo_entries mo_ringEarth mo_lead mo_ring mo_jumpMany mo_curveEnd mo_beds mo_all), (wI G (mo 3) 48 mo_text), (wI G (mo 4) 48 mo_entryRound), (wI G (mo 5) 48 mo_entryIce)] H → va_D A [(oX11 mo mo_length mo_at mo_faultAt mo_parts mo_entries mo_ringEarth mo_lead mo_ring mo_jumpMany mo_curveEnd mo_beds mo_all), (wI G (mo 3) 48 mo_text), (wI G (mo 4) 48 mo_entryRound), (wI G (mo 5) 48 mo_entryIce)] → va_S A s.heap H locs → lv_has ls 9 [(0, .ref (mo 0)), (5, .int v5), (6, .int v6)] → Wc_X11_readEntry l G mo mo_text mo_length mo_at mo_faultAt mo_parts mo_entryRound mo_entryIce mo_entries mo_ringEarth mo_lead mo_ring mo_jumpMany mo_curveEnd mo_beds mo_all a1 R p e s m below meth c A H locs (F0 m 210 ls []) := by
        intro v6 mo_at mo_faultAt H locs ls hf hP hD hS hl
        refine lv_aload_n hx hb dX11_readEntry_210 rfl (lv_at hl 0 rfl) ?_
        refine va_get (D := G.1) (ci := 11) (v := .ref (mo 4)) (C := RX11) (T := TX11) (N := 29) hx hb ht twX11 hown hK.1 hP 0 rfl rfl 7 (by decide) (ht _ kfl_X11_19) (fun _ h9 => h9) rfl dX11_readEntry_211 ?_
        refine lv_aload_n hx hb dX11_readEntry_214 rfl (lv_at hl 0 rfl) ?_
        refine va_get (D := G.1) (ci := 11) (v := .int mo_entries) (C := RX11) (T := TX11) (N := 29) hx hb ht twX11 hown hK.1 hP 0 rfl rfl 9 (by decide) (ht _ kfl_X11_100) (fun _ h9 => h9) rfl dX11_readEntry_215 ?_
        refine lv_iload hx hb dX11_readEntry_218 (lv_at hl 1 rfl) ?_
        obtain ⟨g2, hf⟩ := gd_s hf
        refine va_iast hx hb hK.1 hP hD hS 2 0 rfl rfl g2 dX11_readEntry_220 (fun H locs hP hD hS => ?_)
        have hP : va_P G.1 vwCl [(oX11 mo mo_length mo_at mo_faultAt mo_parts mo_entries mo_ringEarth mo_lead mo_ring mo_jumpMany mo_curveEnd mo_beds mo_all), (wI G (mo 3) 48 mo_text), (wI G (mo 4) 48 (upd mo_entryRound mo_entries.toNatClampNeg v5)), (wI G (mo 5) 48 mo_entryIce)] H := hP
        have hD : va_D A [(oX11 mo mo_length mo_at mo_faultAt mo_parts mo_entries mo_ringEarth mo_lead mo_ring mo_jumpMany mo_curveEnd mo_beds mo_all), (wI G (mo 3) 48 mo_text), (wI G (mo 4) 48 (upd mo_entryRound mo_entries.toNatClampNeg v5)), (wI G (mo 5) 48 mo_entryIce)] := hD
        refine lv_aload_n hx hb dX11_readEntry_221 rfl (lv_at hl 0 rfl) ?_
        refine va_get (D := G.1) (ci := 11) (v := .ref (mo 5)) (C := RX11) (T := TX11) (N := 29) hx hb ht twX11 hown hK.1 hP 0 rfl rfl 8 (by decide) (ht _ kfl_X11_22) (fun _ h9 => h9) rfl dX11_readEntry_222 ?_
        refine lv_aload_n hx hb dX11_readEntry_225 rfl (lv_at hl 0 rfl) ?_
        refine va_get (D := G.1) (ci := 11) (v := .int mo_entries) (C := RX11) (T := TX11) (N := 29) hx hb ht twX11 hown hK.1 hP 0 rfl rfl 9 (by decide) (ht _ kfl_X11_100) (fun _ h9 => h9) rfl dX11_readEntry_226 ?_
        refine lv_iload hx hb dX11_readEntry_229 (lv_at hl 2 rfl) ?_
        obtain ⟨g3, hf⟩ := gd_s hf
        refine va_iast hx hb hK.1 hP hD hS 3 0 rfl rfl g3 dX11_readEntry_231 (fun H locs hP hD hS => ?_)
        have hP : va_P G.1 vwCl [(oX11 mo mo_length mo_at mo_faultAt mo_parts mo_entries mo_ringEarth mo_lead mo_ring mo_jumpMany mo_curveEnd mo_beds mo_all), (wI G (mo 3) 48 mo_text), (wI G (mo 4) 48 (upd mo_entryRound mo_entries.toNatClampNeg v5)), (wI G (mo 5) 48 (upd mo_entryIce mo_entries.toNatClampNeg v6))] H := hP
        have hD : va_D A [(oX11 mo mo_length mo_at mo_faultAt mo_parts mo_entries mo_ringEarth mo_lead mo_ring mo_jumpMany mo_curveEnd mo_beds mo_all), (wI G (mo 3) 48 mo_text), (wI G (mo 4) 48 (upd mo_entryRound mo_entries.toNatClampNeg v5)), (wI G (mo 5) 48 (upd mo_entryIce mo_entries.toNatClampNeg v6))] := hD
        refine lv_aload_n hx hb dX11_readEntry_232 rfl (lv_at hl 0 rfl) ?_
        refine lv_dup hx hb dX11_readEntry_233 rfl ?_
        refine va_get (D := G.1) (ci := 11) (v := .int mo_entries) (C := RX11) (T := TX11) (N := 29) hx hb ht twX11 hown hK.1 hP 0 rfl rfl 9 (by decide) (ht _ kfl_X11_100) (fun _ h9 => h9) rfl dX11_readEntry_234 ?_
        refine lv_iconst (v := 1) hx hb dX11_readEntry_237 (by decide) ?_
        refine lv_iadd hx hb dX11_readEntry_238 ?_
        refine va_put (D := G.1) (ci := 11) (v := .int (mo_entries + (1 : Int32))) (ty := .int) (C := RX11) (T := TX11) (N := 29) hx hb ht twX11 tyX11 tyX11_ok nmX11 hown hK.1 hP hD hS 0 rfl rfl 9 (by decide) (ht _ kfl_X11_100) (fun _ h9 => h9) rfl (by decide +kernel) rfl rfl (Nat.le_of_ble_eq_true rfl) dX11_readEntry_239 (fun H locs hP hD hS => ?_)
        have hP : va_P G.1 vwCl [(oX11 mo mo_length mo_at mo_faultAt mo_parts (mo_entries + (1 : Int32)) mo_ringEarth mo_lead mo_ring mo_jumpMany mo_curveEnd mo_beds mo_all), (wI G (mo 3) 48 mo_text), (wI G (mo 4) 48 (upd mo_entryRound mo_entries.toNatClampNeg v5)), (wI G (mo 5) 48 (upd mo_entryIce mo_entries.toNatClampNeg v6))] H := hP
        have hD : va_D A [(oX11 mo mo_length mo_at mo_faultAt mo_parts (mo_entries + (1 : Int32)) mo_ringEarth mo_lead mo_ring mo_jumpMany mo_curveEnd mo_beds mo_all), (wI G (mo 3) 48 mo_text), (wI G (mo 4) 48 (upd mo_entryRound mo_entries.toNatClampNeg v5)), (wI G (mo 5) 48 (upd mo_entryIce mo_entries.toNatClampNeg v6))] := hD
        refine lv_aload_n hx hb dX11_readEntry_242 rfl (lv_at hl 0 rfl) ?_
        refine va_get (D := G.1) (ci := 11) (v := .int mo_faultAt) (C := RX11) (T := TX11) (N := 29) hx hb ht twX11 hown hK.1 hP 0 rfl rfl 5 (by decide) (ht _ kfl_X11_75) (fun _ h9 => h9) rfl dX11_readEntry_243 ?_
        refine lv_bipush (v := -9) hx hb dX11_readEntry_246 (by decide) ?_
        refine lv_icmp_ne (tgt := 256) hx hb dX11_readEntry_248 (by decide) (fun c4 => ?_) (fun c4 => ?_)
        · have hf := o_f c4 hf
          refine lv_bipush (v := 99) hx hb dX11_readEntry_256 (by decide) ?_
          have h9 := Option.some.inj hf
          subst h9
          exact rw_iret C rfl hP hD hS dX11_readEntry_258
        · have hf := o_t c4 hf
          refine lv_iload hx hb dX11_readEntry_251 (lv_at hl 1 rfl) ?_
          refine lv_goto (tgt := 258) hx hb dX11_readEntry_253 (by decide) ?_
          have h9 := Option.some.inj hf
          subst h9
          exact rw_iret C rfl hP hD hS dX11_readEntry_258
      obtain ⟨rL1, hL1, hk1⟩ := bd_s hf
      refine lp_W (P := fun st => ∀ (H : Heap) (locs : List Loc) (ls : Array Slot), va_P G.1 vwCl [(oX11 mo mo_length st.2.2.1 st.2.2.2 mo_parts mo_entries mo_ringEarth mo_lead mo_ring mo_jumpMany mo_curveEnd mo_beds mo_all), (wI G (mo 3) 48 mo_text), (wI G (mo 4) 48 mo_entryRound), (wI G (mo 5) 48 mo_entryIce)] H → va_D A [(oX11 mo mo_length st.2.2.1 st.2.2.2 mo_parts mo_entries mo_ringEarth mo_lead mo_ring mo_jumpMany mo_curveEnd mo_beds mo_all), (wI G (mo 3) 48 mo_text), (wI G (mo 4) 48 mo_entryRound), (wI G (mo 5) 48 mo_entryIce)] → va_S A s.heap H locs → lv_has ls 9 [(0, .ref (mo 0)), (5, .int v5), (6, .int st.1), (7, .int st.2.1)] → Wc_X11_readEntry l G mo mo_text mo_length mo_at mo_faultAt mo_parts mo_entryRound mo_entryIce mo_entries mo_ringEarth mo_lead mo_ring mo_jumpMany mo_curveEnd mo_beds mo_all a1 R p e s m below meth c A H locs (F0 m 131 ls [])) ?_ FU ((0 : Int32), (0 : Int32), mo_at, mo_faultAt) hL1 H locs ls hP hD hS (lv_sub hl [2, 3, 1, 0] rfl)
      intro ⟨v6, v7, mo_at, mo_faultAt⟩ oc1 hf hI hE H locs ls hP hD hS hl
      have hP : va_P G.1 vwCl [(oX11 mo mo_length mo_at mo_faultAt mo_parts mo_entries mo_ringEarth mo_lead mo_ring mo_jumpMany mo_curveEnd mo_beds mo_all), (wI G (mo 3) 48 mo_text), (wI G (mo 4) 48 mo_entryRound), (wI G (mo 5) 48 mo_entryIce)] H := hP
      have hD : va_D A [(oX11 mo mo_length mo_at mo_faultAt mo_parts mo_entries mo_ringEarth mo_lead mo_ring mo_jumpMany mo_curveEnd mo_beds mo_all), (wI G (mo 3) 48 mo_text), (wI G (mo 4) 48 mo_entryRound), (wI G (mo 5) 48 mo_entryIce)] := hD
      have hl : lv_has ls 9 [(0, .ref (mo 0)), (5, .int v5), (6, .int v6), (7, .int v7)] := hl
      have hf : f_X11_readEntry_b131 mo_text mo_length v6 v7 mo_at mo_faultAt = some oc1 := hf
      have hj198 : ∀ (v8 : Int32) (k0 : Int32) (k1 : Int32) (mo_at : Int32) (mo_faultAt : Int32) (H : Heap) (locs : List Loc) (ls : Array Slot), f_X11_readEntry_j198 v8 k0 k1 mo_at mo_faultAt = some oc1 → va_P G.1 vwCl [(oX11 mo mo_length mo_at mo_faultAt mo_parts mo_entries mo_ringEarth mo_lead mo_ring mo_jumpMany mo_curveEnd mo_beds mo_all), (wI G (mo 3) 48 mo_text), (wI G (mo 4) 48 mo_entryRound), (wI G (mo 5) 48 mo_entryIce)] H → va_D A [(oX11 mo mo_length mo_at mo_faultAt mo_parts mo_entries mo_ringEarth mo_lead mo_ring mo_jumpMany mo_curveEnd mo_beds mo_all), (wI G (mo 3) 48 mo_text), (wI G (mo 4) 48 mo_entryRound), (wI G (mo 5) 48 mo_entryIce)] → va_S A s.heap H locs → lv_has ls 9 [(0, .ref (mo 0)), (5, .int v5), (8, .int v8)] → Wc_X11_readEntry l G mo mo_text mo_length mo_at mo_faultAt mo_parts mo_entryRound mo_entryIce mo_entries mo_ringEarth mo_lead mo_ring mo_jumpMany mo_curveEnd mo_beds mo_all a1 R p e s m below meth c A H locs (F0 m 198 ls [.int k1, .int k0]) := by
        intro v8 k0 k1 mo_at mo_faultAt H locs ls hf hP hD hS hl
        refine lv_ior hx hb dX11_readEntry_198 ?_
        refine lv_istore (lv' := [(6, .int (k0 ||| k1)), (0, .ref (mo 0)), (5, .int v5), (8, .int v8)]) hx hb dX11_readEntry_199 hl (by decide) rfl (fun ls hl => ?_)
        refine lv_iload hx hb dX11_readEntry_201 (lv_at hl 3 rfl) ?_
        refine lv_iconst (v := 1) hx hb dX11_readEntry_203 (by decide) ?_
        refine lv_iadd hx hb dX11_readEntry_204 ?_
        refine lv_istore (lv' := [(7, .int (v8 + (1 : Int32))), (6, .int (k0 ||| k1)), (0, .ref (mo 0)), (5, .int v5), (8, .int v8)]) hx hb dX11_readEntry_205 hl (by decide) rfl (fun ls hl => ?_)
        refine lv_goto (tgt := 131) hx hb dX11_readEntry_207 (by decide) ?_
        cases hf
        exact hI _ rfl H locs ls hP hD hS (lv_sub hl [2, 3, 1, 0] rfl)
      refine lv_aload_n hx hb dX11_readEntry_131 rfl (lv_at hl 0 rfl) ?_
      refine va_get (D := G.1) (ci := 11) (v := .int mo_faultAt) (C := RX11) (T := TX11) (N := 29) hx hb ht twX11 hown hK.1 hP 0 rfl rfl 5 (by decide) (ht _ kfl_X11_75) (fun _ h9 => h9) rfl dX11_readEntry_132 ?_
      refine lv_bipush (v := -9) hx hb dX11_readEntry_135 (by decide) ?_
      refine lv_icmp_ne (tgt := 210) hx hb dX11_readEntry_137 (by decide) (fun c7 => ?_) (fun c7 => ?_)
      · have hf := o_f c7 hf
        cases hf
        have hf : f_X11_readEntry_x210_1 v5 mo_entryRound mo_entryIce mo_entries v6 mo_at mo_faultAt = some R := by have h9 := hk1; rw [← hE _ rfl] at h9; exact h9
        exact hx210_1 v6 mo_at mo_faultAt H locs ls hf hP hD hS (lv_sub hl [0, 1, 2] rfl)
      · have hf := o_t c7 hf
        refine lv_aload_n hx hb dX11_readEntry_140 rfl (lv_at hl 0 rfl) ?_
        refine va_get (D := G.1) (ci := 11) (v := .int mo_at) (C := RX11) (T := TX11) (N := 29) hx hb ht twX11 hown hK.1 hP 0 rfl rfl 4 (by decide) (ht _ kfl_X11_78) (fun _ h9 => h9) rfl dX11_readEntry_141 ?_
        refine lv_aload_n hx hb dX11_readEntry_144 rfl (lv_at hl 0 rfl) ?_
        refine va_get (D := G.1) (ci := 11) (v := .int mo_length) (C := RX11) (T := TX11) (N := 29) hx hb ht twX11 hown hK.1 hP 0 rfl rfl 3 (by decide) (ht _ kfl_X11_69) (fun _ h9 => h9) rfl dX11_readEntry_145 ?_
        refine lv_icmp_ge (tgt := 210) hx hb dX11_readEntry_148 (by decide) (fun c8 => ?_) (fun c8 => ?_)
        · have hf := o_t c8 hf
          cases hf
          have hf : f_X11_readEntry_x210_1 v5 mo_entryRound mo_entryIce mo_entries v6 mo_at mo_faultAt = some R := by have h9 := hk1; rw [← hE _ rfl] at h9; exact h9
          exact hx210_1 v6 mo_at mo_faultAt H locs ls hf hP hD hS (lv_sub hl [0, 1, 2] rfl)
        · have hf := o_f c8 hf
          refine lv_aload_n hx hb dX11_readEntry_151 rfl (lv_at hl 0 rfl) ?_
          refine va_get (D := G.1) (ci := 11) (v := .ref (mo 3)) (C := RX11) (T := TX11) (N := 29) hx hb ht twX11 hown hK.1 hP 0 rfl rfl 2 (by decide) (ht _ kfl_X11_16) (fun _ h9 => h9) rfl dX11_readEntry_152 ?_
          refine lv_aload_n hx hb dX11_readEntry_155 rfl (lv_at hl 0 rfl) ?_
          refine va_get (D := G.1) (ci := 11) (v := .int mo_at) (C := RX11) (T := TX11) (N := 29) hx hb ht twX11 hown hK.1 hP 0 rfl rfl 4 (by decide) (ht _ kfl_X11_78) (fun _ h9 => h9) rfl dX11_readEntry_156 ?_
          obtain ⟨g9, hf⟩ := gd_s hf
          refine va_iald hx hb hK.1 hP 1 0 rfl rfl g9 dX11_readEntry_159 ?_
          refine lv_bipush (v := 59) hx hb dX11_readEntry_160 (by decide) ?_
          refine lv_icmp_eq (tgt := 210) hx hb dX11_readEntry_162 (by decide) (fun c10 => ?_) (fun c10 => ?_)
          · have hf := o_t c10 hf
            cases hf
            have hf : f_X11_readEntry_x210_1 v5 mo_entryRound mo_entryIce mo_entries v6 mo_at mo_faultAt = some R := by have h9 := hk1; rw [← hE _ rfl] at h9; exact h9
            exact hx210_1 v6 mo_at mo_faultAt H locs ls hf hP hD hS (lv_sub hl [0, 1, 2] rfl)
          · have hf := o_f c10 hf
            refine lv_aload_n hx hb dX11_readEntry_165 rfl (lv_at hl 0 rfl) ?_
            refine lv_bipush (v := 63) hx hb dX11_readEntry_166 (by decide) ?_
            refine lv_iload hx hb dX11_readEntry_168 (lv_at hl 3 rfl) ?_
            refine lv_ishr hx hb dX11_readEntry_170 ?_
            refine lv_iload hx hb dX11_readEntry_171 (lv_at hl 3 rfl) ?_
            refine lv_ishl hx hb dX11_readEntry_173 ?_
            obtain ⟨q11, r11, hf⟩ := bd_s hf
            refine rw_V (n := 1) (As := [.int (((63 : Int32) >>> (v7 &&& (31 : Int32))) <<< (v7 &&& (31 : Int32)))]) (rest := []) (wr := [(wI G (mo 4) 48 mo_entryRound), (wI G (mo 5) 48 mo_entryIce)]) (ws2 := [(oX11 mo mo_length q11.2.1 q11.2.2 mo_parts mo_entries mo_ringEarth mo_lead mo_ring mo_jumpMany mo_curveEnd mo_beds mo_all), (wI G (mo 3) 48 mo_text), (wI G (mo 4) 48 mo_entryRound), (wI G (mo 5) 48 mo_entryIce)]) (c_X11_figure l G mo mo_text mo_length mo_at mo_faultAt mo_parts mo_entries mo_ringEarth mo_lead mo_ring mo_jumpMany mo_curveEnd mo_beds mo_all (((63 : Int32) >>> (v7 &&& (31 : Int32))) <<< (v7 &&& (31 : Int32))) q11 r11) C hK hP hD hS hA hz hl [0, 1] [2, 3] [2, 3, 0, 1] rfl rfl rfl rfl rfl (by decide) rfl rfl rfl kcode_X11_figure kml_X11_97 kim_X11_figure ksel_X11_figure kini_X11 (by decide +kernel) ⟨⟨rfl, rfl⟩, Nat.le_of_ble_eq_true rfl, Nat.le_of_ble_eq_true rfl⟩ ⟨Nat.zero_le _, Nat.zero_le _⟩ rfl rfl rfl rfl rfl (Nat.le_of_ble_eq_true rfl) dX11_readEntry_174 rfl (fun H locs hP hD hS => ?_)
            refine lv_istore (lv' := [(8, .int q11.1), (0, .ref (mo 0)), (5, .int v5), (6, .int v6), (7, .int v7)]) hx hb dX11_readEntry_177 hl (by decide) rfl (fun ls hl => ?_)
            refine lv_iload hx hb dX11_readEntry_179 (lv_at hl 3 rfl) ?_
            refine lv_aload_n hx hb dX11_readEntry_181 rfl (lv_at hl 1 rfl) ?_
            refine va_get (D := G.1) (ci := 11) (v := .int q11.2.2) (C := RX11) (T := TX11) (N := 29) hx hb ht twX11 hown hK.1 hP 0 rfl rfl 5 (by decide) (ht _ kfl_X11_75) (fun _ h9 => h9) rfl dX11_readEntry_182 ?_
            refine lv_bipush (v := -9) hx hb dX11_readEntry_185 (by decide) ?_
            refine lv_icmp_ne (tgt := 197) hx hb dX11_readEntry_187 (by decide) (fun c12 => ?_) (fun c12 => ?_)
            · have hf := o_f c12 hf
              refine lv_iconst (v := 0) hx hb dX11_readEntry_197 (by decide) ?_
              exact hj198 q11.1 v6 (0 : Int32) q11.2.1 q11.2.2 H locs ls hf hP hD hS (lv_sub hl [1, 2, 0] rfl)
            · have hf := o_t c12 hf
              refine lv_iconst (v := 1) hx hb dX11_readEntry_190 (by decide) ?_
              refine lv_iload hx hb dX11_readEntry_191 (lv_at hl 0 rfl) ?_
              refine lv_ishl hx hb dX11_readEntry_193 ?_
              refine lv_goto (tgt := 198) hx hb dX11_readEntry_194 (by decide) ?_
              exact hj198 q11.1 v6 ((1 : Int32) <<< (q11.1 &&& (31 : Int32))) q11.2.1 q11.2.2 H locs ls hf hP hD hS (lv_sub hl [1, 2, 0] rfl)
    refine lv_iconst (v := 0) hx hb dX11_readEntry_0 (by decide) ?_
    refine lv_istore_n (lv' := [(2, .int (0 : Int32)), (0, .ref (mo 0)), (1, .int a1)]) hx hb dX11_readEntry_1 rfl hl (by decide) rfl (fun ls hl => ?_)
    refine lv_iconst (v := 0) hx hb dX11_readEntry_2 (by decide) ?_
    refine lv_istore_n (lv' := [(3, .int (0 : Int32)), (2, .int (0 : Int32)), (0, .ref (mo 0)), (1, .int a1)]) hx hb dX11_readEntry_3 rfl hl (by decide) rfl (fun ls hl => ?_)
    have hx37_13 : ∀ (v2 : Int32) (H : Heap) (locs : List Loc) (ls : Array Slot), f_X11_readEntry_x37_13 mo_text mo_length mo_at mo_faultAt mo_entryRound mo_entryIce mo_entries a1 v2 = some R → va_P G.1 vwCl [(oX11 mo mo_length mo_at mo_faultAt mo_parts mo_entries mo_ringEarth mo_lead mo_ring mo_jumpMany mo_curveEnd mo_beds mo_all), (wI G (mo 3) 48 mo_text), (wI G (mo 4) 48 mo_entryRound), (wI G (mo 5) 48 mo_entryIce)] H → va_D A [(oX11 mo mo_length mo_at mo_faultAt mo_parts mo_entries mo_ringEarth mo_lead mo_ring mo_jumpMany mo_curveEnd mo_beds mo_all), (wI G (mo 3) 48 mo_text), (wI G (mo 4) 48 mo_entryRound), (wI G (mo 5) 48 mo_entryIce)] → va_S A s.heap H locs → lv_has ls 9 [(0, .ref (mo 0)), (1, .int a1), (2, .int v2)] → Wc_X11_readEntry l G mo mo_text mo_length mo_at mo_faultAt mo_parts mo_entryRound mo_entryIce mo_entries mo_ringEarth mo_lead mo_ring mo_jumpMany mo_curveEnd mo_beds mo_all a1 R p e s m below meth c A H locs (F0 m 37 ls []) := by
      intro v2 H locs ls hf hP hD hS hl
      refine lv_aload_n hx hb dX11_readEntry_37 rfl (lv_at hl 0 rfl) ?_
      refine lv_iload_n hx hb dX11_readEntry_38 rfl (lv_at hl 2 rfl) ?_
      obtain ⟨q14, r14, hf⟩ := bd_s hf
      refine rw_V (n := 1) (As := [.int v2]) (rest := []) (wr := [(wI G (mo 4) 48 mo_entryRound), (wI G (mo 5) 48 mo_entryIce)]) (ws2 := [(oX11 mo mo_length q14.2.1 q14.2.2 mo_parts mo_entries mo_ringEarth mo_lead mo_ring mo_jumpMany mo_curveEnd mo_beds mo_all), (wI G (mo 3) 48 mo_text), (wI G (mo 4) 48 mo_entryRound), (wI G (mo 5) 48 mo_entryIce)]) (c_X11_figure l G mo mo_text mo_length mo_at mo_faultAt mo_parts mo_entries mo_ringEarth mo_lead mo_ring mo_jumpMany mo_curveEnd mo_beds mo_all v2 q14 r14) C hK hP hD hS hA hz hl [0, 1] [2, 3] [2, 3, 0, 1] rfl rfl rfl rfl rfl (by decide) rfl rfl rfl kcode_X11_figure kml_X11_97 kim_X11_figure ksel_X11_figure kini_X11 (by decide +kernel) ⟨⟨rfl, rfl⟩, Nat.le_of_ble_eq_true rfl, Nat.le_of_ble_eq_true rfl⟩ ⟨Nat.zero_le _, Nat.zero_le _⟩ rfl rfl rfl rfl rfl (Nat.le_of_ble_eq_true rfl) dX11_readEntry_39 rfl (fun H locs hP hD hS => ?_)
      refine lv_istore_n (lv' := [(3, .int q14.1), (0, .ref (mo 0)), (1, .int a1), (2, .int v2)]) hx hb dX11_readEntry_42 rfl hl (by decide) rfl (fun ls hl => ?_)
      refine lv_iconst (v := 0) hx hb dX11_readEntry_43 (by decide) ?_
      refine lv_istore (lv' := [(4, .int (0 : Int32)), (3, .int q14.1), (0, .ref (mo 0)), (1, .int a1), (2, .int v2)]) hx hb dX11_readEntry_44 hl (by decide) rfl (fun ls hl => ?_)
      refine lv_iconst (v := 0) hx hb dX11_readEntry_46 (by decide) ?_
      refine lv_istore (lv' := [(5, .int (0 : Int32)), (4, .int (0 : Int32)), (3, .int q14.1), (0, .ref (mo 0)), (1, .int a1), (2, .int v2)]) hx hb dX11_readEntry_47 hl (by decide) rfl (fun ls hl => ?_)
      have hx86_15 : ∀ (v4 : Int32) (H : Heap) (locs : List Loc) (ls : Array Slot), f_X11_readEntry_x86_15 mo_text mo_length mo_entryRound mo_entryIce mo_entries q14 v4 = some R → va_P G.1 vwCl [(oX11 mo mo_length q14.2.1 q14.2.2 mo_parts mo_entries mo_ringEarth mo_lead mo_ring mo_jumpMany mo_curveEnd mo_beds mo_all), (wI G (mo 3) 48 mo_text), (wI G (mo 4) 48 mo_entryRound), (wI G (mo 5) 48 mo_entryIce)] H → va_D A [(oX11 mo mo_length q14.2.1 q14.2.2 mo_parts mo_entries mo_ringEarth mo_lead mo_ring mo_jumpMany mo_curveEnd mo_beds mo_all), (wI G (mo 3) 48 mo_text), (wI G (mo 4) 48 mo_entryRound), (wI G (mo 5) 48 mo_entryIce)] → va_S A s.heap H locs → lv_has ls 9 [(0, .ref (mo 0)), (3, .int q14.1), (4, .int v4)] → Wc_X11_readEntry l G mo mo_text mo_length mo_at mo_faultAt mo_parts mo_entryRound mo_entryIce mo_entries mo_ringEarth mo_lead mo_ring mo_jumpMany mo_curveEnd mo_beds mo_all a1 R p e s m below meth c A H locs (F0 m 86 ls []) := by
        intro v4 H locs ls hf hP hD hS hl
        refine lv_bipush (v := 10) hx hb dX11_readEntry_86 (by decide) ?_
        refine lv_iload_n hx hb dX11_readEntry_88 rfl (lv_at hl 1 rfl) ?_
        refine lv_imul hx hb dX11_readEntry_89 ?_
        refine lv_aload_n hx hb dX11_readEntry_90 rfl (lv_at hl 0 rfl) ?_
        refine lv_iload hx hb dX11_readEntry_91 (lv_at hl 2 rfl) ?_
        obtain ⟨q16, r16, hf⟩ := bd_s hf
        refine rw_V (n := 1) (As := [.int v4]) (rest := [.int ((10 : Int32) * q14.1)]) (wr := [(wI G (mo 4) 48 mo_entryRound), (wI G (mo 5) 48 mo_entryIce)]) (ws2 := [(oX11 mo mo_length q16.2.1 q16.2.2 mo_parts mo_entries mo_ringEarth mo_lead mo_ring mo_jumpMany mo_curveEnd mo_beds mo_all), (wI G (mo 3) 48 mo_text), (wI G (mo 4) 48 mo_entryRound), (wI G (mo 5) 48 mo_entryIce)]) (c_X11_figure l G mo mo_text mo_length q14.2.1 q14.2.2 mo_parts mo_entries mo_ringEarth mo_lead mo_ring mo_jumpMany mo_curveEnd mo_beds mo_all v4 q16 r16) C hK hP hD hS hA hz hl [0, 1] [2, 3] [2, 3, 0, 1] rfl rfl rfl rfl rfl (by decide) rfl rfl rfl kcode_X11_figure kml_X11_97 kim_X11_figure ksel_X11_figure kini_X11 (by decide +kernel) ⟨⟨rfl, rfl⟩, Nat.le_of_ble_eq_true rfl, Nat.le_of_ble_eq_true rfl⟩ ⟨Nat.zero_le _, Nat.zero_le _⟩ rfl rfl rfl rfl rfl (Nat.le_of_ble_eq_true rfl) dX11_readEntry_93 rfl (fun H locs hP hD hS => ?_)
        refine lv_iadd hx hb dX11_readEntry_96 ?_
        refine lv_istore (lv' := [(5, .int (((10 : Int32) * q14.1) + q16.1)), (0, .ref (mo 0)), (3, .int q14.1), (4, .int v4)]) hx hb dX11_readEntry_97 hl (by decide) rfl (fun ls hl => ?_)
        refine lv_aload_n hx hb dX11_readEntry_99 rfl (lv_at hl 1 rfl) ?_
        refine lv_bipush (v := 58) hx hb dX11_readEntry_100 (by decide) ?_
        obtain ⟨q17, r17, hf⟩ := bd_s hf
        refine ro_V (n := 1) (As := [.int (58 : Int32)]) (rest := []) (c_X11_isNext l G mo mo_text mo_length q16.2.1 q16.2.2 mo_parts mo_entries mo_ringEarth mo_lead mo_ring mo_jumpMany mo_curveEnd mo_beds mo_all (58 : Int32) q17 r17) C (hK.at hS hz) (hP.sub [0, 1] rfl) hl kcode_X11_isNext kml_X11_93 kim_X11_isNext ksel_X11_isNext kini_X11 (by decide +kernel) ⟨⟨rfl, rfl⟩, Nat.le_of_ble_eq_true rfl, Nat.le_of_ble_eq_true rfl⟩ ⟨Nat.zero_le _, Nat.zero_le _⟩ rfl rfl rfl rfl rfl (Nat.le_of_ble_eq_true rfl) dX11_readEntry_102 rfl ?_
        refine lv_if_eq (tgt := 121) hx hb dX11_readEntry_105 (by decide) (fun c18 => ?_) (fun c18 => ?_)
        · have hf := o_t c18 hf
          refine lv_aload_n hx hb dX11_readEntry_121 rfl (lv_at hl 1 rfl) ?_
          obtain ⟨q19, r19, hf⟩ := bd_s hf
          refine rw_V (n := 0) (As := []) (rest := []) (wr := [(wI G (mo 3) 48 mo_text), (wI G (mo 4) 48 mo_entryRound), (wI G (mo 5) 48 mo_entryIce)]) (ws2 := [(oX11 mo mo_length q16.2.1 q19 mo_parts mo_entries mo_ringEarth mo_lead mo_ring mo_jumpMany mo_curveEnd mo_beds mo_all), (wI G (mo 3) 48 mo_text), (wI G (mo 4) 48 mo_entryRound), (wI G (mo 5) 48 mo_entryIce)]) (c_X11_fail l G mo mo_length q16.2.1 q16.2.2 mo_parts mo_entries mo_ringEarth mo_lead mo_ring mo_jumpMany mo_curveEnd mo_beds mo_all q19 r19) C hK hP hD hS hA hz hl [0] [1, 2, 3] [3, 0, 1, 2] rfl rfl rfl rfl rfl (by decide) rfl rfl rfl kcode_X11_fail kml_X11_83 kim_X11_fail ksel_X11_fail kini_X11 (by decide +kernel) ⟨⟨rfl, rfl⟩, Nat.le_of_ble_eq_true rfl, Nat.le_of_ble_eq_true rfl⟩ ⟨Nat.zero_le _, Nat.zero_le _⟩ rfl rfl rfl rfl rfl (Nat.le_of_ble_eq_true rfl) dX11_readEntry_122 rfl (fun H locs hP hD hS => ?_)
          exact hj125 (((10 : Int32) * q14.1) + q16.1) q16.2.1 q19 mo_entryRound mo_entryIce mo_entries H locs ls hf hP hD hS (lv_sub hl [1, 0] rfl)
        · have hf := o_f c18 hf
          refine lv_aload_n hx hb dX11_readEntry_108 rfl (lv_at hl 1 rfl) ?_
          refine lv_dup hx hb dX11_readEntry_109 rfl ?_
          refine va_get (D := G.1) (ci := 11) (v := .int q16.2.1) (C := RX11) (T := TX11) (N := 29) hx hb ht twX11 hown hK.1 hP 0 rfl rfl 4 (by decide) (ht _ kfl_X11_78) (fun _ h9 => h9) rfl dX11_readEntry_110 ?_
          refine lv_iconst (v := 1) hx hb dX11_readEntry_113 (by decide) ?_
          refine lv_iadd hx hb dX11_readEntry_114 ?_
          refine va_put (D := G.1) (ci := 11) (v := .int (q16.2.1 + (1 : Int32))) (ty := .int) (C := RX11) (T := TX11) (N := 29) hx hb ht twX11 tyX11 tyX11_ok nmX11 hown hK.1 hP hD hS 0 rfl rfl 4 (by decide) (ht _ kfl_X11_78) (fun _ h9 => h9) rfl (by decide +kernel) rfl rfl (Nat.le_of_ble_eq_true rfl) dX11_readEntry_115 (fun H locs hP hD hS => ?_)
          have hP : va_P G.1 vwCl [(oX11 mo mo_length (q16.2.1 + (1 : Int32)) q16.2.2 mo_parts mo_entries mo_ringEarth mo_lead mo_ring mo_jumpMany mo_curveEnd mo_beds mo_all), (wI G (mo 3) 48 mo_text), (wI G (mo 4) 48 mo_entryRound), (wI G (mo 5) 48 mo_entryIce)] H := hP
          have hD : va_D A [(oX11 mo mo_length (q16.2.1 + (1 : Int32)) q16.2.2 mo_parts mo_entries mo_ringEarth mo_lead mo_ring mo_jumpMany mo_curveEnd mo_beds mo_all), (wI G (mo 3) 48 mo_text), (wI G (mo 4) 48 mo_entryRound), (wI G (mo 5) 48 mo_entryIce)] := hD
          refine lv_goto (tgt := 125) hx hb dX11_readEntry_118 (by decide) ?_
          exact hj125 (((10 : Int32) * q14.1) + q16.1) (q16.2.1 + (1 : Int32)) q16.2.2 mo_entryRound mo_entryIce mo_entries H locs ls hf hP hD hS (lv_sub hl [1, 0] rfl)
      obtain ⟨rL15, hL15, hk15⟩ := bd_s hf
      refine lp_W (P := fun st => ∀ (H : Heap) (locs : List Loc) (ls : Array Slot), va_P G.1 vwCl [(oX11 mo mo_length q14.2.1 q14.2.2 mo_parts mo_entries mo_ringEarth mo_lead mo_ring mo_jumpMany mo_curveEnd mo_beds mo_all), (wI G (mo 3) 48 mo_text), (wI G (mo 4) 48 mo_entryRound), (wI G (mo 5) 48 mo_entryIce)] H → va_D A [(oX11 mo mo_length q14.2.1 q14.2.2 mo_parts mo_entries mo_ringEarth mo_lead mo_ring mo_jumpMany mo_curveEnd mo_beds mo_all), (wI G (mo 3) 48 mo_text), (wI G (mo 4) 48 mo_entryRound), (wI G (mo 5) 48 mo_entryIce)] → va_S A s.heap H locs → lv_has ls 9 [(0, .ref (mo 0)), (1, .int a1), (3, .int q14.1), (4, .int st.1), (5, .int st.2)] → Wc_X11_readEntry l G mo mo_text mo_length mo_at mo_faultAt mo_parts mo_entryRound mo_entryIce mo_entries mo_ringEarth mo_lead mo_ring mo_jumpMany mo_curveEnd mo_beds mo_all a1 R p e s m below meth c A H locs (F0 m 49 ls [])) ?_ FU ((0 : Int32), (0 : Int32)) hL15 H locs ls hP hD hS (lv_sub hl [3, 4, 2, 1, 0] rfl)
      intro ⟨v4, v5⟩ oc15 hf hI hE H locs ls hP hD hS hl
      have hP : va_P G.1 vwCl [(oX11 mo mo_length q14.2.1 q14.2.2 mo_parts mo_entries mo_ringEarth mo_lead mo_ring mo_jumpMany mo_curveEnd mo_beds mo_all), (wI G (mo 3) 48 mo_text), (wI G (mo 4) 48 mo_entryRound), (wI G (mo 5) 48 mo_entryIce)] H := hP
      have hD : va_D A [(oX11 mo mo_length q14.2.1 q14.2.2 mo_parts mo_entries mo_ringEarth mo_lead mo_ring mo_jumpMany mo_curveEnd mo_beds mo_all), (wI G (mo 3) 48 mo_text), (wI G (mo 4) 48 mo_entryRound), (wI G (mo 5) 48 mo_entryIce)] := hD
      have hl : lv_has ls 9 [(0, .ref (mo 0)), (1, .int a1), (3, .int q14.1), (4, .int v4), (5, .int v5)] := hl
      have hf : f_X11_readEntry_b49 a1 q14 v4 v5 = some oc15 := hf
      have hj77 : ∀ (v5 : Int32) (k0 : Int32) (k1 : Int32) (H : Heap) (locs : List Loc) (ls : Array Slot), f_X11_readEntry_j77 v5 k0 k1 = some oc15 → va_P G.1 vwCl [(oX11 mo mo_length q14.2.1 q14.2.2 mo_parts mo_entries mo_ringEarth mo_lead mo_ring mo_jumpMany mo_curveEnd mo_beds mo_all), (wI G (mo 3) 48 mo_text), (wI G (mo 4) 48 mo_entryRound), (wI G (mo 5) 48 mo_entryIce)] H → va_D A [(oX11 mo mo_length q14.2.1 q14.2.2 mo_parts mo_entries mo_ringEarth mo_lead mo_ring mo_jumpMany mo_curveEnd mo_beds mo_all), (wI G (mo 3) 48 mo_text), (wI G (mo 4) 48 mo_entryRound), (wI G (mo 5) 48 mo_entryIce)] → va_S A s.heap H locs → lv_has ls 9 [(0, .ref (mo 0)), (1, .int a1), (3, .int q14.1), (5, .int v5)] → Wc_X11_readEntry l G mo mo_text mo_length mo_at mo_faultAt mo_parts mo_entryRound mo_entryIce mo_entries mo_ringEarth mo_lead mo_ring mo_jumpMany mo_curveEnd mo_beds mo_all a1 R p e s m below meth c A H locs (F0 m 77 ls [.int k1, .int k0]) := by
        intro v5 k0 k1 H locs ls hf hP hD hS hl
        refine lv_ior hx hb dX11_readEntry_77 ?_
        refine lv_istore (lv' := [(4, .int (k0 ||| k1)), (0, .ref (mo 0)), (1, .int a1), (3, .int q14.1), (5, .int v5)]) hx hb dX11_readEntry_78 hl (by decide) rfl (fun ls hl => ?_)
        refine lv_iinc (v := (v5 + (1 : Int32))) (lv' := [(5, .int (v5 + (1 : Int32))), (4, .int (k0 ||| k1)), (0, .ref (mo 0)), (1, .int a1), (3, .int q14.1)]) hx hb dX11_readEntry_80 hl (k := 4) rfl (by rfl) (by decide) rfl (fun ls hl => ?_)
        refine lv_goto (tgt := 49) hx hb dX11_readEntry_83 (by decide) ?_
        cases hf
        exact hI _ rfl H locs ls hP hD hS (lv_sub hl [2, 3, 4, 1, 0] rfl)
      refine lv_iload hx hb dX11_readEntry_49 (lv_at hl 4 rfl) ?_
      refine lv_bipush (v := 10) hx hb dX11_readEntry_51 (by decide) ?_
      refine lv_icmp_ge (tgt := 86) hx hb dX11_readEntry_53 (by decide) (fun c20 => ?_) (fun c20 => ?_)
      · have hf := o_t c20 hf
        cases hf
        have hf : f_X11_readEntry_x86_15 mo_text mo_length mo_entryRound mo_entryIce mo_entries q14 v4 = some R := by have h9 := hk15; rw [← hE _ rfl] at h9; exact h9
        exact hx86_15 v4 H locs ls hf hP hD hS (lv_sub hl [0, 2, 3] rfl)
      · have hf := o_f c20 hf
        refine lv_iload hx hb dX11_readEntry_56 (lv_at hl 3 rfl) ?_
        refine lv_bipush (v := 10) hx hb dX11_readEntry_58 (by decide) ?_
        refine lv_iload_n hx hb dX11_readEntry_60 rfl (lv_at hl 2 rfl) ?_
        refine lv_imul hx hb dX11_readEntry_61 ?_
        refine lv_iload hx hb dX11_readEntry_62 (lv_at hl 4 rfl) ?_
        refine lv_iadd hx hb dX11_readEntry_64 ?_
        refine lv_iload_n hx hb dX11_readEntry_65 rfl (lv_at hl 1 rfl) ?_
        refine lv_icmp_le (tgt := 76) hx hb dX11_readEntry_66 (by decide) (fun c21 => ?_) (fun c21 => ?_)
        · have hf := o_t c21 hf
          refine lv_iconst (v := 0) hx hb dX11_readEntry_76 (by decide) ?_
          exact hj77 v5 v4 (0 : Int32) H locs ls hf hP hD hS (lv_sub hl [0, 1, 2, 4] rfl)
        · have hf := o_f c21 hf
          refine lv_iconst (v := 1) hx hb dX11_readEntry_69 (by decide) ?_
          refine lv_iload hx hb dX11_readEntry_70 (lv_at hl 4 rfl) ?_
          refine lv_ishl hx hb dX11_readEntry_72 ?_
          refine lv_goto (tgt := 77) hx hb dX11_readEntry_73 (by decide) ?_
          exact hj77 v5 v4 ((1 : Int32) <<< (v5 &&& (31 : Int32))) H locs ls hf hP hD hS (lv_sub hl [0, 1, 2, 4] rfl)
    obtain ⟨rL13, hL13, hk13⟩ := bd_s hf
    refine lp_W (P := fun st => ∀ (H : Heap) (locs : List Loc) (ls : Array Slot), va_P G.1 vwCl [(oX11 mo mo_length mo_at mo_faultAt mo_parts mo_entries mo_ringEarth mo_lead mo_ring mo_jumpMany mo_curveEnd mo_beds mo_all), (wI G (mo 3) 48 mo_text), (wI G (mo 4) 48 mo_entryRound), (wI G (mo 5) 48 mo_entryIce)] H → va_D A [(oX11 mo mo_length mo_at mo_faultAt mo_parts mo_entries mo_ringEarth mo_lead mo_ring mo_jumpMany mo_curveEnd mo_beds mo_all), (wI G (mo 3) 48 mo_text), (wI G (mo 4) 48 mo_entryRound), (wI G (mo 5) 48 mo_entryIce)] → va_S A s.heap H locs → lv_has ls 9 [(0, .ref (mo 0)), (1, .int a1), (2, .int st.1), (3, .int st.2)] → Wc_X11_readEntry l G mo mo_text mo_length mo_at mo_faultAt mo_parts mo_entryRound mo_entryIce mo_entries mo_ringEarth mo_lead mo_ring mo_jumpMany mo_curveEnd mo_beds mo_all a1 R p e s m below meth c A H locs (F0 m 4 ls [])) ?_ FU ((0 : Int32), (0 : Int32)) hL13 H locs ls hP hD hS (lv_sub hl [2, 3, 1, 0] rfl)
    intro ⟨v2, v3⟩ oc13 hf hI hE H locs ls hP hD hS hl
    have hP : va_P G.1 vwCl [(oX11 mo mo_length mo_at mo_faultAt mo_parts mo_entries mo_ringEarth mo_lead mo_ring mo_jumpMany mo_curveEnd mo_beds mo_all), (wI G (mo 3) 48 mo_text), (wI G (mo 4) 48 mo_entryRound), (wI G (mo 5) 48 mo_entryIce)] H := hP
    have hD : va_D A [(oX11 mo mo_length mo_at mo_faultAt mo_parts mo_entries mo_ringEarth mo_lead mo_ring mo_jumpMany mo_curveEnd mo_beds mo_all), (wI G (mo 3) 48 mo_text), (wI G (mo 4) 48 mo_entryRound), (wI G (mo 5) 48 mo_entryIce)] := hD
    have hl : lv_has ls 9 [(0, .ref (mo 0)), (1, .int a1), (2, .int v2), (3, .int v3)] := hl
    have hf : f_X11_readEntry_b4_13 a1 v2 v3 = some oc13 := hf
    have hj29 : ∀ (v3 : Int32) (k0 : Int32) (k1 : Int32) (H : Heap) (locs : List Loc) (ls : Array Slot), f_X11_readEntry_j29 v3 k0 k1 = some oc13 → va_P G.1 vwCl [(oX11 mo mo_length mo_at mo_faultAt mo_parts mo_entries mo_ringEarth mo_lead mo_ring mo_jumpMany mo_curveEnd mo_beds mo_all), (wI G (mo 3) 48 mo_text), (wI G (mo 4) 48 mo_entryRound), (wI G (mo 5) 48 mo_entryIce)] H → va_D A [(oX11 mo mo_length mo_at mo_faultAt mo_parts mo_entries mo_ringEarth mo_lead mo_ring mo_jumpMany mo_curveEnd mo_beds mo_all), (wI G (mo 3) 48 mo_text), (wI G (mo 4) 48 mo_entryRound), (wI G (mo 5) 48 mo_entryIce)] → va_S A s.heap H locs → lv_has ls 9 [(0, .ref (mo 0)), (1, .int a1), (3, .int v3)] → Wc_X11_readEntry l G mo mo_text mo_length mo_at mo_faultAt mo_parts mo_entryRound mo_entryIce mo_entries mo_ringEarth mo_lead mo_ring mo_jumpMany mo_curveEnd mo_beds mo_all a1 R p e s m below meth c A H locs (F0 m 29 ls [.int k1, .int k0]) := by
      intro v3 k0 k1 H locs ls hf hP hD hS hl
      refine lv_ior hx hb dX11_readEntry_29 ?_
      refine lv_istore_n (lv' := [(2, .int (k0 ||| k1)), (0, .ref (mo 0)), (1, .int a1), (3, .int v3)]) hx hb dX11_readEntry_30 rfl hl (by decide) rfl (fun ls hl => ?_)
      refine lv_iinc (v := (v3 + (1 : Int32))) (lv' := [(3, .int (v3 + (1 : Int32))), (2, .int (k0 ||| k1)), (0, .ref (mo 0)), (1, .int a1)]) hx hb dX11_readEntry_31 hl (k := 3) rfl (by rfl) (by decide) rfl (fun ls hl => ?_)
      refine lv_goto (tgt := 4) hx hb dX11_readEntry_34 (by decide) ?_
      cases hf
      exact hI _ rfl H locs ls hP hD hS (lv_sub hl [2, 3, 1, 0] rfl)
    refine lv_iload_n hx hb dX11_readEntry_4 rfl (lv_at hl 3 rfl) ?_
    refine lv_bipush (v := 10) hx hb dX11_readEntry_5 (by decide) ?_
    refine lv_icmp_ge (tgt := 37) hx hb dX11_readEntry_7 (by decide) (fun c22 => ?_) (fun c22 => ?_)
    · have hf := o_t c22 hf
      cases hf
      have hf : f_X11_readEntry_x37_13 mo_text mo_length mo_at mo_faultAt mo_entryRound mo_entryIce mo_entries a1 v2 = some R := by have h9 := hk13; rw [← hE _ rfl] at h9; exact h9
      exact hx37_13 v2 H locs ls hf hP hD hS (lv_sub hl [0, 1, 2] rfl)
    · have hf := o_f c22 hf
      refine lv_iload_n hx hb dX11_readEntry_10 rfl (lv_at hl 2 rfl) ?_
      refine lv_bipush (v := 10) hx hb dX11_readEntry_11 (by decide) ?_
      refine lv_iload_n hx hb dX11_readEntry_13 rfl (lv_at hl 3 rfl) ?_
      refine lv_imul hx hb dX11_readEntry_14 ?_
      refine lv_bipush (v := 9) hx hb dX11_readEntry_15 (by decide) ?_
      refine lv_iadd hx hb dX11_readEntry_17 ?_
      refine lv_iload_n hx hb dX11_readEntry_18 rfl (lv_at hl 1 rfl) ?_
      refine lv_icmp_le (tgt := 28) hx hb dX11_readEntry_19 (by decide) (fun c23 => ?_) (fun c23 => ?_)
      · have hf := o_t c23 hf
        refine lv_iconst (v := 0) hx hb dX11_readEntry_28 (by decide) ?_
        exact hj29 v3 v2 (0 : Int32) H locs ls hf hP hD hS (lv_sub hl [0, 1, 3] rfl)
      · have hf := o_f c23 hf
        refine lv_iconst (v := 1) hx hb dX11_readEntry_22 (by decide) ?_
        refine lv_iload_n hx hb dX11_readEntry_23 rfl (lv_at hl 3 rfl) ?_
        refine lv_ishl hx hb dX11_readEntry_24 ?_
        refine lv_goto (tgt := 29) hx hb dX11_readEntry_25 (by decide) ?_
        exact hj29 v3 v2 ((1 : Int32) <<< (v3 &&& (31 : Int32))) H locs ls hf hP hD hS (lv_sub hl [0, 1, 3] rfl)
  rw [eH, el] at key
  exact key
abbrev Wc_X11_readStory (l : Launch) (G : TG) (mo : Nat → Nat) (mo_text : Nat → Int32) (mo_length : Int32) (mo_at : Int32) (mo_faultAt : Int32) (mo_parts : Int32) (mo_entryRound : Nat → Int32) (mo_entryIce : Nat → Int32) (mo_entries : Int32) (mo_ringEarth : Int32) (mo_lead : Int32) (mo_ring : Int32) (mo_jumpMany : Int32) (mo_curveEnd : Int32) (mo_beds : Int32) (mo_all : Int64) (R : Int32 × Int32 × Int32 × (Nat → Int32) × (Nat → Int32) × Int32) (p : Program) (e : Env) (s : State) (m : MethodId) (below : List Frame) (meth : Method) (c : Code) (A : Nat → Prop) (H : Heap) (locs : List Loc) (g : JFrame) : Prop := W p l e ({ frames := 3, cells := 0, slots := 0, locals := 75 }) s m ([.ref (mo 0)] : List Value).toArray below meth c H locs 0 0 (MQ below (rwQ G (some (.int R.1)) [(oX11 mo mo_length R.2.1 R.2.2.1 mo_parts R.2.2.2.2.2 mo_ringEarth mo_lead mo_ring mo_jumpMany mo_curveEnd mo_beds mo_all), (wI G (mo 3) 48 mo_text), (wI G (mo 4) 48 R.2.2.2.1), (wI G (mo 5) 48 R.2.2.2.2.1)] A) ([.ref (mo 0)] : List Value).toArray s 0 0 A) g
set_option maxHeartbeats 4000000 in
set_option maxRecDepth 100000 in
theorem c_X11_readStory (l : Launch) (G : TG) (mo : Nat → Nat) (mo_text : Nat → Int32) (mo_length : Int32) (mo_at : Int32) (mo_faultAt : Int32) (mo_parts : Int32) (mo_entryRound : Nat → Int32) (mo_entryIce : Nat → Int32) (mo_entries : Int32) (mo_ringEarth : Int32) (mo_lead : Int32) (mo_ring : Int32) (mo_jumpMany : Int32) (mo_curveEnd : Int32) (mo_beds : Int32) (mo_all : Int64) (R : Int32 × Int32 × Int32 × (Nat → Int32) × (Nat → Int32) × Int32) (hf : f_X11_readStory mo_text mo_length mo_entryRound mo_entryIce = some R) : RW l yX11_readStory cX11_readStory 3 (some .int) ({ frames := 3, cells := 0, slots := 0, locals := 75 }) G [.ref (mo 0)] [(oX11 mo mo_length mo_at mo_faultAt mo_parts mo_entries mo_ringEarth mo_lead mo_ring mo_jumpMany mo_curveEnd mo_beds mo_all), (wI G (mo 3) 48 mo_text), (wI G (mo 4) 48 mo_entryRound), (wI G (mo 5) 48 mo_entryIce)] (some (.int R.1)) [(oX11 mo mo_length R.2.1 R.2.2.1 mo_parts R.2.2.2.2.2 mo_ringEarth mo_lead mo_ring mo_jumpMany mo_curveEnd mo_beds mo_all), (wI G (mo 3) 48 mo_text), (wI G (mo 4) 48 R.2.2.2.1), (wI G (mo 5) 48 R.2.2.2.2.1)] := by
  refine RW.mk (by decide +kernel) (Nat.le_of_ble_eq_true rfl) ?_
  intro p e s m below meth c ls A C hP hD hA hz hK hl hS
  have hx := C.1
  have hb := C.2.1
  have hown : s.vm.findClass RX11 = some m.cls := C.2.2.2.2.2.1
  have ht := C.2.2.2.2.2.2
  have hl : lv_has ls 3 [(0, .ref (mo 0))] := hl
  show Wc_X11_readStory l G mo mo_text mo_length mo_at mo_faultAt mo_parts mo_entryRound mo_entryIce mo_entries mo_ringEarth mo_lead mo_ring mo_jumpMany mo_curveEnd mo_beds mo_all R p e s m below meth c A s.heap [] (F0 m 0 ls [])
  obtain ⟨H, eH, hP, hS⟩ : ∃ H, H = s.heap ∧ va_P G.1 vwCl [(oX11 mo mo_length mo_at mo_faultAt mo_parts mo_entries mo_ringEarth mo_lead mo_ring mo_jumpMany mo_curveEnd mo_beds mo_all), (wI G (mo 3) 48 mo_text), (wI G (mo 4) 48 mo_entryRound), (wI G (mo 5) 48 mo_entryIce)] H ∧ va_S A s.heap H [] := ⟨_, rfl, hP, hS⟩
  obtain ⟨locs, el, hS⟩ : ∃ locs : List Loc, locs = [] ∧ va_S A s.heap H locs := ⟨_, rfl, hS⟩
  have key : Wc_X11_readStory l G mo mo_text mo_length mo_at mo_faultAt mo_parts mo_entryRound mo_entryIce mo_entries mo_ringEarth mo_lead mo_ring mo_jumpMany mo_curveEnd mo_beds mo_all R p e s m below meth c A H locs (F0 m 0 ls []) := by
    have hj96 : ∀ (mo_at : Int32) (mo_faultAt : Int32) (mo_entryRound : Nat → Int32) (mo_entryIce : Nat → Int32) (mo_entries : Int32) (H : Heap) (locs : List Loc) (ls : Array Slot), f_X11_readStory_j96 mo_at mo_faultAt mo_entryRound mo_entryIce mo_entries = some R → va_P G.1 vwCl [(oX11 mo mo_length mo_at mo_faultAt mo_parts mo_entries mo_ringEarth mo_lead mo_ring mo_jumpMany mo_curveEnd mo_beds mo_all), (wI G (mo 3) 48 mo_text), (wI G (mo 4) 48 mo_entryRound), (wI G (mo 5) 48 mo_entryIce)] H → va_D A [(oX11 mo mo_length mo_at mo_faultAt mo_parts mo_entries mo_ringEarth mo_lead mo_ring mo_jumpMany mo_curveEnd mo_beds mo_all), (wI G (mo 3) 48 mo_text), (wI G (mo 4) 48 mo_entryRound), (wI G (mo 5) 48 mo_entryIce)] → va_S A s.heap H locs → lv_has ls 3 [(0, .ref (mo 0))] → Wc_X11_readStory l G mo mo_text mo_length mo_at mo_faultAt mo_parts mo_entryRound mo_entryIce mo_entries mo_ringEarth mo_lead mo_ring mo_jumpMany mo_curveEnd mo_beds mo_all R p e s m below meth c A H locs (F0 m 96 ls []) := by
      intro mo_at mo_faultAt mo_entryRound mo_entryIce mo_entries H locs ls hf hP hD hS hl
      refine lv_aload_n hx hb dX11_readStory_96 rfl (lv_at hl 0 rfl) ?_
      refine va_get (D := G.1) (ci := 11) (v := .int mo_faultAt) (C := RX11) (T := TX11) (N := 29) hx hb ht twX11 hown hK.1 hP 0 rfl rfl 5 (by decide) (ht _ kfl_X11_75) (fun _ h9 => h9) rfl dX11_readStory_97 ?_
      have h9 := Option.some.inj hf
      subst h9
      exact rw_iret C rfl hP hD hS dX11_readStory_100
    refine lv_aload_n hx hb dX11_readStory_0 rfl (lv_at hl 0 rfl) ?_
    refine lv_iconst (v := 0) hx hb dX11_readStory_1 (by decide) ?_
    refine va_put (D := G.1) (ci := 11) (v := .int (0 : Int32)) (ty := .int) (C := RX11) (T := TX11) (N := 29) hx hb ht twX11 tyX11 tyX11_ok nmX11 hown hK.1 hP hD hS 0 rfl rfl 4 (by decide) (ht _ kfl_X11_78) (fun _ h9 => h9) rfl (by decide +kernel) rfl rfl (Nat.le_of_ble_eq_true rfl) dX11_readStory_2 (fun H locs hP hD hS => ?_)
    have hP : va_P G.1 vwCl [(oX11 mo mo_length (0 : Int32) mo_faultAt mo_parts mo_entries mo_ringEarth mo_lead mo_ring mo_jumpMany mo_curveEnd mo_beds mo_all), (wI G (mo 3) 48 mo_text), (wI G (mo 4) 48 mo_entryRound), (wI G (mo 5) 48 mo_entryIce)] H := hP
    have hD : va_D A [(oX11 mo mo_length (0 : Int32) mo_faultAt mo_parts mo_entries mo_ringEarth mo_lead mo_ring mo_jumpMany mo_curveEnd mo_beds mo_all), (wI G (mo 3) 48 mo_text), (wI G (mo 4) 48 mo_entryRound), (wI G (mo 5) 48 mo_entryIce)] := hD
    refine lv_aload_n hx hb dX11_readStory_5 rfl (lv_at hl 0 rfl) ?_
    refine lv_bipush (v := -9) hx hb dX11_readStory_6 (by decide) ?_
    refine va_put (D := G.1) (ci := 11) (v := .int (-9 : Int32)) (ty := .int) (C := RX11) (T := TX11) (N := 29) hx hb ht twX11 tyX11 tyX11_ok nmX11 hown hK.1 hP hD hS 0 rfl rfl 5 (by decide) (ht _ kfl_X11_75) (fun _ h9 => h9) rfl (by decide +kernel) rfl rfl (Nat.le_of_ble_eq_true rfl) dX11_readStory_8 (fun H locs hP hD hS => ?_)
    have hP : va_P G.1 vwCl [(oX11 mo mo_length (0 : Int32) (-9 : Int32) mo_parts mo_entries mo_ringEarth mo_lead mo_ring mo_jumpMany mo_curveEnd mo_beds mo_all), (wI G (mo 3) 48 mo_text), (wI G (mo 4) 48 mo_entryRound), (wI G (mo 5) 48 mo_entryIce)] H := hP
    have hD : va_D A [(oX11 mo mo_length (0 : Int32) (-9 : Int32) mo_parts mo_entries mo_ringEarth mo_lead mo_ring mo_jumpMany mo_curveEnd mo_beds mo_all), (wI G (mo 3) 48 mo_text), (wI G (mo 4) 48 mo_entryRound), (wI G (mo 5) 48 mo_entryIce)] := hD
    refine lv_aload_n hx hb dX11_readStory_11 rfl (lv_at hl 0 rfl) ?_
    refine lv_iconst (v := 0) hx hb dX11_readStory_12 (by decide) ?_
    refine va_put (D := G.1) (ci := 11) (v := .int (0 : Int32)) (ty := .int) (C := RX11) (T := TX11) (N := 29) hx hb ht twX11 tyX11 tyX11_ok nmX11 hown hK.1 hP hD hS 0 rfl rfl 9 (by decide) (ht _ kfl_X11_100) (fun _ h9 => h9) rfl (by decide +kernel) rfl rfl (Nat.le_of_ble_eq_true rfl) dX11_readStory_13 (fun H locs hP hD hS => ?_)
    have hP : va_P G.1 vwCl [(oX11 mo mo_length (0 : Int32) (-9 : Int32) mo_parts (0 : Int32) mo_ringEarth mo_lead mo_ring mo_jumpMany mo_curveEnd mo_beds mo_all), (wI G (mo 3) 48 mo_text), (wI G (mo 4) 48 mo_entryRound), (wI G (mo 5) 48 mo_entryIce)] H := hP
    have hD : va_D A [(oX11 mo mo_length (0 : Int32) (-9 : Int32) mo_parts (0 : Int32) mo_ringEarth mo_lead mo_ring mo_jumpMany mo_curveEnd mo_beds mo_all), (wI G (mo 3) 48 mo_text), (wI G (mo 4) 48 mo_entryRound), (wI G (mo 5) 48 mo_entryIce)] := hD
    refine lv_iconst (v := -1) hx hb dX11_readStory_16 (by decide) ?_
    refine lv_istore_n (lv' := [(1, .int (-1 : Int32)), (0, .ref (mo 0))]) hx hb dX11_readStory_17 rfl hl (by decide) rfl (fun ls hl => ?_)
    refine lv_iconst (v := 1) hx hb dX11_readStory_18 (by decide) ?_
    refine lv_istore_n (lv' := [(2, .int (1 : Int32)), (1, .int (-1 : Int32)), (0, .ref (mo 0))]) hx hb dX11_readStory_19 rfl hl (by decide) rfl (fun ls hl => ?_)
    have hx72_2 : ∀ (mo_at : Int32) (mo_faultAt : Int32) (mo_entryRound : Nat → Int32) (mo_entryIce : Nat → Int32) (mo_entries : Int32) (H : Heap) (locs : List Loc) (ls : Array Slot), f_X11_readStory_x72_2 mo_length mo_at mo_faultAt mo_entryRound mo_entryIce mo_entries = some R → va_P G.1 vwCl [(oX11 mo mo_length mo_at mo_faultAt mo_parts mo_entries mo_ringEarth mo_lead mo_ring mo_jumpMany mo_curveEnd mo_beds mo_all), (wI G (mo 3) 48 mo_text), (wI G (mo 4) 48 mo_entryRound), (wI G (mo 5) 48 mo_entryIce)] H → va_D A [(oX11 mo mo_length mo_at mo_faultAt mo_parts mo_entries mo_ringEarth mo_lead mo_ring mo_jumpMany mo_curveEnd mo_beds mo_all), (wI G (mo 3) 48 mo_text), (wI G (mo 4) 48 mo_entryRound), (wI G (mo 5) 48 mo_entryIce)] → va_S A s.heap H locs → lv_has ls 3 [(0, .ref (mo 0))] → Wc_X11_readStory l G mo mo_text mo_length mo_at mo_faultAt mo_parts mo_entryRound mo_entryIce mo_entries mo_ringEarth mo_lead mo_ring mo_jumpMany mo_curveEnd mo_beds mo_all R p e s m below meth c A H locs (F0 m 72 ls []) := by
      intro mo_at mo_faultAt mo_entryRound mo_entryIce mo_entries H locs ls hf hP hD hS hl
      refine lv_aload_n hx hb dX11_readStory_72 rfl (lv_at hl 0 rfl) ?_
      refine va_get (D := G.1) (ci := 11) (v := .int mo_faultAt) (C := RX11) (T := TX11) (N := 29) hx hb ht twX11 hown hK.1 hP 0 rfl rfl 5 (by decide) (ht _ kfl_X11_75) (fun _ h9 => h9) rfl dX11_readStory_73 ?_
      refine lv_bipush (v := -9) hx hb dX11_readStory_76 (by decide) ?_
      refine lv_icmp_ne (tgt := 96) hx hb dX11_readStory_78 (by decide) (fun c3 => ?_) (fun c3 => ?_)
      · have hf := o_f c3 hf
        exact hj96 mo_at mo_faultAt mo_entryRound mo_entryIce mo_entries H locs ls hf hP hD hS (lv_sub hl [0] rfl)
      · have hf := o_t c3 hf
        refine lv_aload_n hx hb dX11_readStory_81 rfl (lv_at hl 0 rfl) ?_
        refine va_get (D := G.1) (ci := 11) (v := .int mo_at) (C := RX11) (T := TX11) (N := 29) hx hb ht twX11 hown hK.1 hP 0 rfl rfl 4 (by decide) (ht _ kfl_X11_78) (fun _ h9 => h9) rfl dX11_readStory_82 ?_
        refine lv_aload_n hx hb dX11_readStory_85 rfl (lv_at hl 0 rfl) ?_
        refine va_get (D := G.1) (ci := 11) (v := .int mo_length) (C := RX11) (T := TX11) (N := 29) hx hb ht twX11 hown hK.1 hP 0 rfl rfl 3 (by decide) (ht _ kfl_X11_69) (fun _ h9 => h9) rfl dX11_readStory_86 ?_
        refine lv_icmp_ge (tgt := 96) hx hb dX11_readStory_89 (by decide) (fun c4 => ?_) (fun c4 => ?_)
        · have hf := o_t c4 hf
          exact hj96 mo_at mo_faultAt mo_entryRound mo_entryIce mo_entries H locs ls hf hP hD hS (lv_sub hl [0] rfl)
        · have hf := o_f c4 hf
          refine lv_aload_n hx hb dX11_readStory_92 rfl (lv_at hl 0 rfl) ?_
          obtain ⟨q5, r5, hf⟩ := bd_s hf
          refine rw_V (n := 0) (As := []) (rest := []) (wr := [(wI G (mo 3) 48 mo_text), (wI G (mo 4) 48 mo_entryRound), (wI G (mo 5) 48 mo_entryIce)]) (ws2 := [(oX11 mo mo_length mo_at q5 mo_parts mo_entries mo_ringEarth mo_lead mo_ring mo_jumpMany mo_curveEnd mo_beds mo_all), (wI G (mo 3) 48 mo_text), (wI G (mo 4) 48 mo_entryRound), (wI G (mo 5) 48 mo_entryIce)]) (c_X11_fail l G mo mo_length mo_at mo_faultAt mo_parts mo_entries mo_ringEarth mo_lead mo_ring mo_jumpMany mo_curveEnd mo_beds mo_all q5 r5) C hK hP hD hS hA hz hl [0] [1, 2, 3] [3, 0, 1, 2] rfl rfl rfl rfl rfl (by decide) rfl rfl rfl kcode_X11_fail kml_X11_83 kim_X11_fail ksel_X11_fail kini_X11 (by decide +kernel) ⟨⟨rfl, rfl⟩, Nat.le_of_ble_eq_true rfl, Nat.le_of_ble_eq_true rfl⟩ ⟨Nat.zero_le _, Nat.zero_le _⟩ rfl rfl rfl rfl rfl (Nat.le_of_ble_eq_true rfl) dX11_readStory_93 rfl (fun H locs hP hD hS => ?_)
          exact hj96 mo_at q5 mo_entryRound mo_entryIce mo_entries H locs ls hf hP hD hS (lv_sub hl [0] rfl)
    obtain ⟨rL2, hL2, hk2⟩ := bd_s hf
    refine lp_W (P := fun st => ∀ (H : Heap) (locs : List Loc) (ls : Array Slot), va_P G.1 vwCl [(oX11 mo mo_length st.2.2.1 st.2.2.2.1 mo_parts st.2.2.2.2.2.2 mo_ringEarth mo_lead mo_ring mo_jumpMany mo_curveEnd mo_beds mo_all), (wI G (mo 3) 48 mo_text), (wI G (mo 4) 48 st.2.2.2.2.1), (wI G (mo 5) 48 st.2.2.2.2.2.1)] H → va_D A [(oX11 mo mo_length st.2.2.1 st.2.2.2.1 mo_parts st.2.2.2.2.2.2 mo_ringEarth mo_lead mo_ring mo_jumpMany mo_curveEnd mo_beds mo_all), (wI G (mo 3) 48 mo_text), (wI G (mo 4) 48 st.2.2.2.2.1), (wI G (mo 5) 48 st.2.2.2.2.2.1)] → va_S A s.heap H locs → lv_has ls 3 [(0, .ref (mo 0)), (1, .int st.1), (2, .int st.2.1)] → Wc_X11_readStory l G mo mo_text mo_length mo_at mo_faultAt mo_parts mo_entryRound mo_entryIce mo_entries mo_ringEarth mo_lead mo_ring mo_jumpMany mo_curveEnd mo_beds mo_all R p e s m below meth c A H locs (F0 m 20 ls [])) ?_ FU ((-1 : Int32), (1 : Int32), (0 : Int32), (-9 : Int32), mo_entryRound, mo_entryIce, (0 : Int32)) hL2 H locs ls hP hD hS (lv_sub hl [2, 1, 0] rfl)
    intro ⟨v1, v2, mo_at, mo_faultAt, mo_entryRound, mo_entryIce, mo_entries⟩ oc2 hf hI hE H locs ls hP hD hS hl
    have hP : va_P G.1 vwCl [(oX11 mo mo_length mo_at mo_faultAt mo_parts mo_entries mo_ringEarth mo_lead mo_ring mo_jumpMany mo_curveEnd mo_beds mo_all), (wI G (mo 3) 48 mo_text), (wI G (mo 4) 48 mo_entryRound), (wI G (mo 5) 48 mo_entryIce)] H := hP
    have hD : va_D A [(oX11 mo mo_length mo_at mo_faultAt mo_parts mo_entries mo_ringEarth mo_lead mo_ring mo_jumpMany mo_curveEnd mo_beds mo_all), (wI G (mo 3) 48 mo_text), (wI G (mo 4) 48 mo_entryRound), (wI G (mo 5) 48 mo_entryIce)] := hD
    have hl : lv_has ls 3 [(0, .ref (mo 0)), (1, .int v1), (2, .int v2)] := hl
    have hf : f_X11_readStory_b20 mo_text mo_length v1 v2 mo_at mo_faultAt mo_entryRound mo_entryIce mo_entries = some oc2 := hf
    have hj65 : ∀ (v1 : Int32) (v2 : Int32) (k1 : Int32) (k2 : Int32) (mo_at : Int32) (mo_faultAt : Int32) (mo_entryRound : Nat → Int32) (mo_entryIce : Nat → Int32) (mo_entries : Int32) (H : Heap) (locs : List Loc) (ls : Array Slot), f_X11_readStory_j65 v1 v2 k1 k2 mo_faultAt mo_entryRound mo_entryIce mo_entries = some oc2 → va_P G.1 vwCl [(oX11 mo mo_length mo_at mo_faultAt mo_parts mo_entries mo_ringEarth mo_lead mo_ring mo_jumpMany mo_curveEnd mo_beds mo_all), (wI G (mo 3) 48 mo_text), (wI G (mo 4) 48 mo_entryRound), (wI G (mo 5) 48 mo_entryIce)] H → va_D A [(oX11 mo mo_length mo_at mo_faultAt mo_parts mo_entries mo_ringEarth mo_lead mo_ring mo_jumpMany mo_curveEnd mo_beds mo_all), (wI G (mo 3) 48 mo_text), (wI G (mo 4) 48 mo_entryRound), (wI G (mo 5) 48 mo_entryIce)] → va_S A s.heap H locs → lv_has ls 3 [(0, .ref (mo 0)), (1, .int v1), (2, .int v2)] → Wc_X11_readStory l G mo mo_text mo_length mo_at mo_faultAt mo_parts mo_entryRound mo_entryIce mo_entries mo_ringEarth mo_lead mo_ring mo_jumpMany mo_curveEnd mo_beds mo_all R p e s m below meth c A H locs (F0 m 65 ls [.int k2, .int k1, .ref (mo 0)]) := by
      intro v1 v2 k1 k2 mo_at mo_faultAt mo_entryRound mo_entryIce mo_entries H locs ls hf hP hD hS hl
      refine lv_iadd hx hb dX11_readStory_65 ?_
      refine va_put (D := G.1) (ci := 11) (v := .int (k1 + k2)) (ty := .int) (C := RX11) (T := TX11) (N := 29) hx hb ht twX11 tyX11 tyX11_ok nmX11 hown hK.1 hP hD hS 0 rfl rfl 4 (by decide) (ht _ kfl_X11_78) (fun _ h9 => h9) rfl (by decide +kernel) rfl rfl (Nat.le_of_ble_eq_true rfl) dX11_readStory_66 (fun H locs hP hD hS => ?_)
      have hP : va_P G.1 vwCl [(oX11 mo mo_length (k1 + k2) mo_faultAt mo_parts mo_entries mo_ringEarth mo_lead mo_ring mo_jumpMany mo_curveEnd mo_beds mo_all), (wI G (mo 3) 48 mo_text), (wI G (mo 4) 48 mo_entryRound), (wI G (mo 5) 48 mo_entryIce)] H := hP
      have hD : va_D A [(oX11 mo mo_length (k1 + k2) mo_faultAt mo_parts mo_entries mo_ringEarth mo_lead mo_ring mo_jumpMany mo_curveEnd mo_beds mo_all), (wI G (mo 3) 48 mo_text), (wI G (mo 4) 48 mo_entryRound), (wI G (mo 5) 48 mo_entryIce)] := hD
      refine lv_goto (tgt := 20) hx hb dX11_readStory_69 (by decide) ?_
      cases hf
      exact hI _ rfl H locs ls hP hD hS (lv_sub hl [0, 1, 2] rfl)
    have hj50 : ∀ (v1 : Int32) (k0 : Int32) (mo_at : Int32) (mo_faultAt : Int32) (mo_entryRound : Nat → Int32) (mo_entryIce : Nat → Int32) (mo_entries : Int32) (H : Heap) (locs : List Loc) (ls : Array Slot), f_X11_readStory_j50 v1 k0 mo_at mo_faultAt mo_entryRound mo_entryIce mo_entries = some oc2 → va_P G.1 vwCl [(oX11 mo mo_length mo_at mo_faultAt mo_parts mo_entries mo_ringEarth mo_lead mo_ring mo_jumpMany mo_curveEnd mo_beds mo_all), (wI G (mo 3) 48 mo_text), (wI G (mo 4) 48 mo_entryRound), (wI G (mo 5) 48 mo_entryIce)] H → va_D A [(oX11 mo mo_length mo_at mo_faultAt mo_parts mo_entries mo_ringEarth mo_lead mo_ring mo_jumpMany mo_curveEnd mo_beds mo_all), (wI G (mo 3) 48 mo_text), (wI G (mo 4) 48 mo_entryRound), (wI G (mo 5) 48 mo_entryIce)] → va_S A s.heap H locs → lv_has ls 3 [(0, .ref (mo 0)), (1, .int v1)] → Wc_X11_readStory l G mo mo_text mo_length mo_at mo_faultAt mo_parts mo_entryRound mo_entryIce mo_entries mo_ringEarth mo_lead mo_ring mo_jumpMany mo_curveEnd mo_beds mo_all R p e s m below meth c A H locs (F0 m 50 ls [.int k0]) := by
      intro v1 k0 mo_at mo_faultAt mo_entryRound mo_entryIce mo_entries H locs ls hf hP hD hS hl
      refine lv_istore_n (lv' := [(2, .int k0), (0, .ref (mo 0)), (1, .int v1)]) hx hb dX11_readStory_50 rfl hl (by decide) rfl (fun ls hl => ?_)
      refine lv_aload_n hx hb dX11_readStory_51 rfl (lv_at hl 1 rfl) ?_
      refine lv_dup hx hb dX11_readStory_52 rfl ?_
      refine va_get (D := G.1) (ci := 11) (v := .int mo_at) (C := RX11) (T := TX11) (N := 29) hx hb ht twX11 hown hK.1 hP 0 rfl rfl 4 (by decide) (ht _ kfl_X11_78) (fun _ h9 => h9) rfl dX11_readStory_53 ?_
      refine lv_iload_n hx hb dX11_readStory_56 rfl (lv_at hl 0 rfl) ?_
      refine lv_if_eq (tgt := 64) hx hb dX11_readStory_57 (by decide) (fun c6 => ?_) (fun c6 => ?_)
      · have hf := o_t c6 hf
        refine lv_iconst (v := 0) hx hb dX11_readStory_64 (by decide) ?_
        exact hj65 v1 k0 mo_at (0 : Int32) mo_at mo_faultAt mo_entryRound mo_entryIce mo_entries H locs ls hf hP hD hS (lv_sub hl [1, 2, 0] rfl)
      · have hf := o_f c6 hf
        refine lv_iconst (v := 1) hx hb dX11_readStory_60 (by decide) ?_
        refine lv_goto (tgt := 65) hx hb dX11_readStory_61 (by decide) ?_
        exact hj65 v1 k0 mo_at (1 : Int32) mo_at mo_faultAt mo_entryRound mo_entryIce mo_entries H locs ls hf hP hD hS (lv_sub hl [1, 2, 0] rfl)
    have hj49 : ∀ (v1 : Int32) (mo_at : Int32) (mo_faultAt : Int32) (mo_entryRound : Nat → Int32) (mo_entryIce : Nat → Int32) (mo_entries : Int32) (H : Heap) (locs : List Loc) (ls : Array Slot), f_X11_readStory_j49 v1 mo_at mo_faultAt mo_entryRound mo_entryIce mo_entries = some oc2 → va_P G.1 vwCl [(oX11 mo mo_length mo_at mo_faultAt mo_parts mo_entries mo_ringEarth mo_lead mo_ring mo_jumpMany mo_curveEnd mo_beds mo_all), (wI G (mo 3) 48 mo_text), (wI G (mo 4) 48 mo_entryRound), (wI G (mo 5) 48 mo_entryIce)] H → va_D A [(oX11 mo mo_length mo_at mo_faultAt mo_parts mo_entries mo_ringEarth mo_lead mo_ring mo_jumpMany mo_curveEnd mo_beds mo_all), (wI G (mo 3) 48 mo_text), (wI G (mo 4) 48 mo_entryRound), (wI G (mo 5) 48 mo_entryIce)] → va_S A s.heap H locs → lv_has ls 3 [(0, .ref (mo 0)), (1, .int v1)] → Wc_X11_readStory l G mo mo_text mo_length mo_at mo_faultAt mo_parts mo_entryRound mo_entryIce mo_entries mo_ringEarth mo_lead mo_ring mo_jumpMany mo_curveEnd mo_beds mo_all R p e s m below meth c A H locs (F0 m 49 ls []) := by
      intro v1 mo_at mo_faultAt mo_entryRound mo_entryIce mo_entries H locs ls hf hP hD hS hl
      refine lv_iconst (v := 0) hx hb dX11_readStory_49 (by decide) ?_
      exact hj50 v1 (0 : Int32) mo_at mo_faultAt mo_entryRound mo_entryIce mo_entries H locs ls hf hP hD hS (lv_sub hl [0, 1] rfl)
    refine lv_iload_n hx hb dX11_readStory_20 rfl (lv_at hl 2 rfl) ?_
    refine lv_if_eq (tgt := 72) hx hb dX11_readStory_21 (by decide) (fun c7 => ?_) (fun c7 => ?_)
    · have hf := o_t c7 hf
      cases hf
      have hf : f_X11_readStory_x72_2 mo_length mo_at mo_faultAt mo_entryRound mo_entryIce mo_entries = some R := by have h9 := hk2; rw [← hE _ rfl] at h9; exact h9
      exact hx72_2 mo_at mo_faultAt mo_entryRound mo_entryIce mo_entries H locs ls hf hP hD hS (lv_sub hl [0] rfl)
    · have hf := o_f c7 hf
      refine lv_aload_n hx hb dX11_readStory_24 rfl (lv_at hl 0 rfl) ?_
      refine lv_iload_n hx hb dX11_readStory_25 rfl (lv_at hl 1 rfl) ?_
      obtain ⟨q8, r8, hf⟩ := bd_s hf
      refine rw_V (n := 1) (As := [.int v1]) (rest := []) (wr := []) (ws2 := [(oX11 mo mo_length q8.2.1 q8.2.2.1 mo_parts q8.2.2.2.2.2 mo_ringEarth mo_lead mo_ring mo_jumpMany mo_curveEnd mo_beds mo_all), (wI G (mo 3) 48 mo_text), (wI G (mo 4) 48 q8.2.2.2.1), (wI G (mo 5) 48 q8.2.2.2.2.1)]) (c_X11_readEntry l G mo mo_text mo_length mo_at mo_faultAt mo_parts mo_entryRound mo_entryIce mo_entries mo_ringEarth mo_lead mo_ring mo_jumpMany mo_curveEnd mo_beds mo_all v1 q8 r8) C hK hP hD hS hA hz hl [0, 1, 2, 3] [] [0, 1, 2, 3] rfl rfl rfl rfl rfl (by decide) rfl rfl rfl kcode_X11_readEntry kml_X11_103 kim_X11_readEntry ksel_X11_readEntry kini_X11 (by decide +kernel) ⟨⟨rfl, rfl⟩, Nat.le_of_ble_eq_true rfl, Nat.le_of_ble_eq_true rfl⟩ ⟨Nat.zero_le _, Nat.zero_le _⟩ rfl rfl rfl rfl rfl (Nat.le_of_ble_eq_true rfl) dX11_readStory_26 rfl (fun H locs hP hD hS => ?_)
      refine lv_istore_n (lv' := [(1, .int q8.1), (0, .ref (mo 0)), (2, .int v2)]) hx hb dX11_readStory_29 rfl hl (by decide) rfl (fun ls hl => ?_)
      refine lv_aload_n hx hb dX11_readStory_30 rfl (lv_at hl 1 rfl) ?_
      refine lv_bipush (v := 59) hx hb dX11_readStory_31 (by decide) ?_
      obtain ⟨q9, r9, hf⟩ := bd_s hf
      refine ro_V (n := 1) (As := [.int (59 : Int32)]) (rest := []) (c_X11_isNext l G mo mo_text mo_length q8.2.1 q8.2.2.1 mo_parts q8.2.2.2.2.2 mo_ringEarth mo_lead mo_ring mo_jumpMany mo_curveEnd mo_beds mo_all (59 : Int32) q9 r9) C (hK.at hS hz) (hP.sub [0, 1] rfl) hl kcode_X11_isNext kml_X11_93 kim_X11_isNext ksel_X11_isNext kini_X11 (by decide +kernel) ⟨⟨rfl, rfl⟩, Nat.le_of_ble_eq_true rfl, Nat.le_of_ble_eq_true rfl⟩ ⟨Nat.zero_le _, Nat.zero_le _⟩ rfl rfl rfl rfl rfl (Nat.le_of_ble_eq_true rfl) dX11_readStory_33 rfl ?_
      refine lv_if_eq (tgt := 49) hx hb dX11_readStory_36 (by decide) (fun c10 => ?_) (fun c10 => ?_)
      · have hf := o_t c10 hf
        exact hj49 q8.1 q8.2.1 q8.2.2.1 q8.2.2.2.1 q8.2.2.2.2.1 q8.2.2.2.2.2 H locs ls hf hP hD hS (lv_sub hl [1, 0] rfl)
      · have hf := o_f c10 hf
        refine lv_iload_n hx hb dX11_readStory_39 rfl (lv_at hl 0 rfl) ?_
        refine lv_bipush (v := 99) hx hb dX11_readStory_40 (by decide) ?_
        refine lv_icmp_ge (tgt := 49) hx hb dX11_readStory_42 (by decide) (fun c11 => ?_) (fun c11 => ?_)
        · have hf := o_t c11 hf
          exact hj49 q8.1 q8.2.1 q8.2.2.1 q8.2.2.2.1 q8.2.2.2.2.1 q8.2.2.2.2.2 H locs ls hf hP hD hS (lv_sub hl [1, 0] rfl)
        · have hf := o_f c11 hf
          refine lv_iconst (v := 1) hx hb dX11_readStory_45 (by decide) ?_
          refine lv_goto (tgt := 50) hx hb dX11_readStory_46 (by decide) ?_
          exact hj50 q8.1 (1 : Int32) q8.2.1 q8.2.2.1 q8.2.2.2.1 q8.2.2.2.2.1 q8.2.2.2.2.2 H locs ls hf hP hD hS (lv_sub hl [1, 0] rfl)
  rw [eH, el] at key
  exact key
abbrev Wc_X11_fault (l : Launch) (G : TG) (mo : Nat → Nat) (mo_read : Nat → Int32) (mo_text : Nat → Int32) (mo_length : Int32) (mo_at : Int32) (mo_faultAt : Int32) (mo_parts : Int32) (mo_entryRound : Nat → Int32) (mo_entryIce : Nat → Int32) (mo_entries : Int32) (mo_ringEarth : Int32) (mo_lead : Int32) (mo_ring : Int32) (mo_jumpMany : Int32) (mo_curveEnd : Int32) (mo_beds : Int32) (mo_all : Int64) (a1 : Int32) (R : Int32 × (Nat → Int32) × Int32 × Int32 × Int32 × (Nat → Int32) × (Nat → Int32) × Int32) (p : Program) (e : Env) (s : State) (m : MethodId) (below : List Frame) (meth : Method) (c : Code) (A : Nat → Prop) (H : Heap) (locs : List Loc) (g : JFrame) : Prop := W p l e ({ frames := 4, cells := 0, slots := 0, locals := 97 }) s m ([.ref (mo 0), .int a1] : List Value).toArray below meth c H locs 0 0 (MQ below (rwQ G (some (.int R.1)) [(oX11 mo mo_length R.2.2.1 R.2.2.2.1 R.2.2.2.2.1 R.2.2.2.2.2.2.2 mo_ringEarth mo_lead mo_ring mo_jumpMany mo_curveEnd mo_beds mo_all), (wI G (mo 1) 12 R.2.1), (wI G (mo 3) 48 mo_text), (wI G (mo 4) 48 R.2.2.2.2.2.1), (wI G (mo 5) 48 R.2.2.2.2.2.2.1)] A) ([.ref (mo 0), .int a1] : List Value).toArray s 0 0 A) g
set_option maxHeartbeats 4000000 in
set_option maxRecDepth 100000 in
theorem c_X11_fault (l : Launch) (G : TG) (mo : Nat → Nat) (mo_read : Nat → Int32) (mo_text : Nat → Int32) (mo_length : Int32) (mo_at : Int32) (mo_faultAt : Int32) (mo_parts : Int32) (mo_entryRound : Nat → Int32) (mo_entryIce : Nat → Int32) (mo_entries : Int32) (mo_ringEarth : Int32) (mo_lead : Int32) (mo_ring : Int32) (mo_jumpMany : Int32) (mo_curveEnd : Int32) (mo_beds : Int32) (mo_all : Int64) (a1 : Int32) (R : Int32 × (Nat → Int32) × Int32 × Int32 × Int32 × (Nat → Int32) × (Nat → Int32) × Int32) (hf : f_X11_fault mo_read mo_text mo_length mo_parts mo_entryRound mo_entryIce mo_entries a1 = some R) : RW l yX11_fault cX11_fault 2 (some .int) ({ frames := 4, cells := 0, slots := 0, locals := 97 }) G [.ref (mo 0), .int a1] [(oX11 mo mo_length mo_at mo_faultAt mo_parts mo_entries mo_ringEarth mo_lead mo_ring mo_jumpMany mo_curveEnd mo_beds mo_all), (wI G (mo 1) 12 mo_read), (wI G (mo 3) 48 mo_text), (wI G (mo 4) 48 mo_entryRound), (wI G (mo 5) 48 mo_entryIce)] (some (.int R.1)) [(oX11 mo mo_length R.2.2.1 R.2.2.2.1 R.2.2.2.2.1 R.2.2.2.2.2.2.2 mo_ringEarth mo_lead mo_ring mo_jumpMany mo_curveEnd mo_beds mo_all), (wI G (mo 1) 12 R.2.1), (wI G (mo 3) 48 mo_text), (wI G (mo 4) 48 R.2.2.2.2.2.1), (wI G (mo 5) 48 R.2.2.2.2.2.2.1)] := by
  refine RW.mk (by decide +kernel) (Nat.le_of_ble_eq_true rfl) ?_
  intro p e s m below meth c ls A C hP hD hA hz hK hl hS
  have hx := C.1
  have hb := C.2.1
  have hown : s.vm.findClass RX11 = some m.cls := C.2.2.2.2.2.1
  have ht := C.2.2.2.2.2.2
  have hl : lv_has ls 2 [(0, .ref (mo 0)), (1, .int a1)] := hl
  show Wc_X11_fault l G mo mo_read mo_text mo_length mo_at mo_faultAt mo_parts mo_entryRound mo_entryIce mo_entries mo_ringEarth mo_lead mo_ring mo_jumpMany mo_curveEnd mo_beds mo_all a1 R p e s m below meth c A s.heap [] (F0 m 0 ls [])
  obtain ⟨H, eH, hP, hS⟩ : ∃ H, H = s.heap ∧ va_P G.1 vwCl [(oX11 mo mo_length mo_at mo_faultAt mo_parts mo_entries mo_ringEarth mo_lead mo_ring mo_jumpMany mo_curveEnd mo_beds mo_all), (wI G (mo 1) 12 mo_read), (wI G (mo 3) 48 mo_text), (wI G (mo 4) 48 mo_entryRound), (wI G (mo 5) 48 mo_entryIce)] H ∧ va_S A s.heap H [] := ⟨_, rfl, hP, hS⟩
  obtain ⟨locs, el, hS⟩ : ∃ locs : List Loc, locs = [] ∧ va_S A s.heap H locs := ⟨_, rfl, hS⟩
  have key : Wc_X11_fault l G mo mo_read mo_text mo_length mo_at mo_faultAt mo_parts mo_entryRound mo_entryIce mo_entries mo_ringEarth mo_lead mo_ring mo_jumpMany mo_curveEnd mo_beds mo_all a1 R p e s m below meth c A H locs (F0 m 0 ls []) := by
    refine lv_iload_n hx hb dX11_fault_0 rfl (lv_at hl 1 rfl) ?_
    refine lv_if_eq (tgt := 11) hx hb dX11_fault_1 (by decide) (fun c1 => ?_) (fun c1 => ?_)
    · have hf := o_t c1 hf
      refine lv_aload_n hx hb dX11_fault_11 rfl (lv_at hl 0 rfl) ?_
      obtain ⟨q2, r2, hf⟩ := bd_s hf
      refine rw_V (n := 0) (As := []) (rest := []) (wr := [(wI G (mo 4) 48 mo_entryRound), (wI G (mo 5) 48 mo_entryIce)]) (ws2 := [(oX11 mo mo_length q2.2.2.1 q2.2.2.2.1 q2.2.2.2.2 mo_entries mo_ringEarth mo_lead mo_ring mo_jumpMany mo_curveEnd mo_beds mo_all), (wI G (mo 1) 12 q2.2.1), (wI G (mo 3) 48 mo_text), (wI G (mo 4) 48 mo_entryRound), (wI G (mo 5) 48 mo_entryIce)]) (c_X11_readLaw l G mo mo_read mo_text mo_length mo_at mo_faultAt mo_parts mo_entries mo_ringEarth mo_lead mo_ring mo_jumpMany mo_curveEnd mo_beds mo_all q2 r2) C hK hP hD hS hA hz hl [0, 1, 2] [3, 4] [2, 3, 4, 0, 1] rfl rfl rfl rfl rfl (by decide) rfl rfl rfl kcode_X11_readLaw kml_X11_110 kim_X11_readLaw ksel_X11_readLaw kini_X11 (by decide +kernel) ⟨⟨rfl, rfl⟩, Nat.le_of_ble_eq_true rfl, Nat.le_of_ble_eq_true rfl⟩ ⟨Nat.zero_le _, Nat.zero_le _⟩ rfl rfl rfl rfl rfl (Nat.le_of_ble_eq_true rfl) dX11_fault_12 rfl (fun H locs hP hD hS => ?_)
      have h9 := Option.some.inj hf
      subst h9
      exact rw_iret C rfl hP hD hS dX11_fault_15
    · have hf := o_f c1 hf
      refine lv_aload_n hx hb dX11_fault_4 rfl (lv_at hl 0 rfl) ?_
      obtain ⟨q4, r4, hf⟩ := bd_s hf
      refine rw_V (n := 0) (As := []) (rest := []) (wr := [(wI G (mo 1) 12 mo_read)]) (ws2 := [(oX11 mo mo_length q4.2.1 q4.2.2.1 mo_parts q4.2.2.2.2.2 mo_ringEarth mo_lead mo_ring mo_jumpMany mo_curveEnd mo_beds mo_all), (wI G (mo 1) 12 mo_read), (wI G (mo 3) 48 mo_text), (wI G (mo 4) 48 q4.2.2.2.1), (wI G (mo 5) 48 q4.2.2.2.2.1)]) (c_X11_readStory l G mo mo_text mo_length mo_at mo_faultAt mo_parts mo_entryRound mo_entryIce mo_entries mo_ringEarth mo_lead mo_ring mo_jumpMany mo_curveEnd mo_beds mo_all q4 r4) C hK hP hD hS hA hz hl [0, 2, 3, 4] [1] [1, 0, 2, 3, 4] rfl rfl rfl rfl rfl (by decide) rfl rfl rfl kcode_X11_readStory kml_X11_106 kim_X11_readStory ksel_X11_readStory kini_X11 (by decide +kernel) ⟨⟨rfl, rfl⟩, Nat.le_of_ble_eq_true rfl, Nat.le_of_ble_eq_true rfl⟩ ⟨Nat.zero_le _, Nat.zero_le _⟩ rfl rfl rfl rfl rfl (Nat.le_of_ble_eq_true rfl) dX11_fault_5 rfl (fun H locs hP hD hS => ?_)
      refine lv_goto (tgt := 15) hx hb dX11_fault_8 (by decide) ?_
      have h9 := Option.some.inj hf
      subst h9
      exact rw_iret C rfl hP hD hS dX11_fault_15
  rw [eH, el] at key
  exact key
abbrev Wc_X11_law (l : Launch) (G : TG) (mo : Nat → Nat) (mo_read : Nat → Int32) (mo_laws : Nat → Int32) (mo_text : Nat → Int32) (mo_length : Int32) (mo_at : Int32) (mo_faultAt : Int32) (mo_parts : Int32) (mo_entries : Int32) (mo_ringEarth : Int32) (mo_lead : Int32) (mo_ring : Int32) (mo_jumpMany : Int32) (mo_curveEnd : Int32) (mo_beds : Int32) (mo_all : Int64) (R : Int32 × (Nat → Int32) × (Nat → Int32) × Int32 × Int32 × Int32) (p : Program) (e : Env) (s : State) (m : MethodId) (below : List Frame) (meth : Method) (c : Code) (A : Nat → Prop) (H : Heap) (locs : List Loc) (g : JFrame) : Prop := W p l e ({ frames := 3, cells := 0, slots := 0, locals := 70 }) s m ([.ref (mo 0)] : List Value).toArray below meth c H locs 0 0 (MQ below (rwQ G (some (.int R.1)) [(oX11 mo mo_length R.2.2.2.1 R.2.2.2.2.1 R.2.2.2.2.2 mo_entries mo_ringEarth mo_lead mo_ring mo_jumpMany mo_curveEnd mo_beds mo_all), (wI G (mo 1) 12 R.2.1), (wI G (mo 2) 12 R.2.2.1), (wI G (mo 3) 48 mo_text)] A) ([.ref (mo 0)] : List Value).toArray s 0 0 A) g
set_option maxHeartbeats 4000000 in
set_option maxRecDepth 100000 in
theorem c_X11_law (l : Launch) (G : TG) (mo : Nat → Nat) (mo_read : Nat → Int32) (mo_laws : Nat → Int32) (mo_text : Nat → Int32) (mo_length : Int32) (mo_at : Int32) (mo_faultAt : Int32) (mo_parts : Int32) (mo_entries : Int32) (mo_ringEarth : Int32) (mo_lead : Int32) (mo_ring : Int32) (mo_jumpMany : Int32) (mo_curveEnd : Int32) (mo_beds : Int32) (mo_all : Int64) (R : Int32 × (Nat → Int32) × (Nat → Int32) × Int32 × Int32 × Int32) (hf : f_X11_law mo_read mo_laws mo_text mo_length = some R) : RW l yX11_law cX11_law 2 (some .int) ({ frames := 3, cells := 0, slots := 0, locals := 70 }) G [.ref (mo 0)] [(oX11 mo mo_length mo_at mo_faultAt mo_parts mo_entries mo_ringEarth mo_lead mo_ring mo_jumpMany mo_curveEnd mo_beds mo_all), (wI G (mo 1) 12 mo_read), (wI G (mo 2) 12 mo_laws), (wI G (mo 3) 48 mo_text)] (some (.int R.1)) [(oX11 mo mo_length R.2.2.2.1 R.2.2.2.2.1 R.2.2.2.2.2 mo_entries mo_ringEarth mo_lead mo_ring mo_jumpMany mo_curveEnd mo_beds mo_all), (wI G (mo 1) 12 R.2.1), (wI G (mo 2) 12 R.2.2.1), (wI G (mo 3) 48 mo_text)] := by
  refine RW.mk (by decide +kernel) (Nat.le_of_ble_eq_true rfl) ?_
  intro p e s m below meth c ls A C hP hD hA hz hK hl hS
  have hx := C.1
  have hb := C.2.1
  have hown : s.vm.findClass RX11 = some m.cls := C.2.2.2.2.2.1
  have ht := C.2.2.2.2.2.2
  have hl : lv_has ls 2 [(0, .ref (mo 0))] := hl
  show Wc_X11_law l G mo mo_read mo_laws mo_text mo_length mo_at mo_faultAt mo_parts mo_entries mo_ringEarth mo_lead mo_ring mo_jumpMany mo_curveEnd mo_beds mo_all R p e s m below meth c A s.heap [] (F0 m 0 ls [])
  obtain ⟨H, eH, hP, hS⟩ : ∃ H, H = s.heap ∧ va_P G.1 vwCl [(oX11 mo mo_length mo_at mo_faultAt mo_parts mo_entries mo_ringEarth mo_lead mo_ring mo_jumpMany mo_curveEnd mo_beds mo_all), (wI G (mo 1) 12 mo_read), (wI G (mo 2) 12 mo_laws), (wI G (mo 3) 48 mo_text)] H ∧ va_S A s.heap H [] := ⟨_, rfl, hP, hS⟩
  obtain ⟨locs, el, hS⟩ : ∃ locs : List Loc, locs = [] ∧ va_S A s.heap H locs := ⟨_, rfl, hS⟩
  have key : Wc_X11_law l G mo mo_read mo_laws mo_text mo_length mo_at mo_faultAt mo_parts mo_entries mo_ringEarth mo_lead mo_ring mo_jumpMany mo_curveEnd mo_beds mo_all R p e s m below meth c A H locs (F0 m 0 ls []) := by
    refine lv_aload_n hx hb dX11_law_0 rfl (lv_at hl 0 rfl) ?_
    obtain ⟨q1, r1, hf⟩ := bd_s hf
    refine rw_V (n := 0) (As := []) (rest := []) (wr := [(wI G (mo 2) 12 mo_laws)]) (ws2 := [(oX11 mo mo_length q1.2.2.1 q1.2.2.2.1 q1.2.2.2.2 mo_entries mo_ringEarth mo_lead mo_ring mo_jumpMany mo_curveEnd mo_beds mo_all), (wI G (mo 1) 12 q1.2.1), (wI G (mo 2) 12 mo_laws), (wI G (mo 3) 48 mo_text)]) (c_X11_readLaw l G mo mo_read mo_text mo_length mo_at mo_faultAt mo_parts mo_entries mo_ringEarth mo_lead mo_ring mo_jumpMany mo_curveEnd mo_beds mo_all q1 r1) C hK hP hD hS hA hz hl [0, 1, 3] [2] [1, 2, 0, 3] rfl rfl rfl rfl rfl (by decide) rfl rfl rfl kcode_X11_readLaw kml_X11_110 kim_X11_readLaw ksel_X11_readLaw kini_X11 (by decide +kernel) ⟨⟨rfl, rfl⟩, Nat.le_of_ble_eq_true rfl, Nat.le_of_ble_eq_true rfl⟩ ⟨Nat.zero_le _, Nat.zero_le _⟩ rfl rfl rfl rfl rfl (Nat.le_of_ble_eq_true rfl) dX11_law_1 rfl (fun H locs hP hD hS => ?_)
    refine lv_bipush (v := -9) hx hb dX11_law_4 (by decide) ?_
    refine lv_icmp_eq (tgt := 12) hx hb dX11_law_6 (by decide) (fun c2 => ?_) (fun c2 => ?_)
    · have hf := o_t c2 hf
      refine lv_iconst (v := 0) hx hb dX11_law_12 (by decide) ?_
      refine lv_istore_n (lv' := [(1, .int (0 : Int32)), (0, .ref (mo 0))]) hx hb dX11_law_13 rfl hl (by decide) rfl (fun ls hl => ?_)
      have hx38_3 : ∀ (mo_laws : Nat → Int32) (H : Heap) (locs : List Loc) (ls : Array Slot), f_X11_law_x38_3 q1 mo_laws = some R → va_P G.1 vwCl [(oX11 mo mo_length q1.2.2.1 q1.2.2.2.1 q1.2.2.2.2 mo_entries mo_ringEarth mo_lead mo_ring mo_jumpMany mo_curveEnd mo_beds mo_all), (wI G (mo 1) 12 q1.2.1), (wI G (mo 2) 12 mo_laws), (wI G (mo 3) 48 mo_text)] H → va_D A [(oX11 mo mo_length q1.2.2.1 q1.2.2.2.1 q1.2.2.2.2 mo_entries mo_ringEarth mo_lead mo_ring mo_jumpMany mo_curveEnd mo_beds mo_all), (wI G (mo 1) 12 q1.2.1), (wI G (mo 2) 12 mo_laws), (wI G (mo 3) 48 mo_text)] → va_S A s.heap H locs → lv_has ls 2 [(0, .ref (mo 0))] → Wc_X11_law l G mo mo_read mo_laws mo_text mo_length mo_at mo_faultAt mo_parts mo_entries mo_ringEarth mo_lead mo_ring mo_jumpMany mo_curveEnd mo_beds mo_all R p e s m below meth c A H locs (F0 m 38 ls []) := by
        intro mo_laws H locs ls hf hP hD hS hl
        refine lv_aload_n hx hb dX11_law_38 rfl (lv_at hl 0 rfl) ?_
        refine va_get (D := G.1) (ci := 11) (v := .int q1.2.2.2.2) (C := RX11) (T := TX11) (N := 29) hx hb ht twX11 hown hK.1 hP 0 rfl rfl 6 (by decide) (ht _ kfl_X11_86) (fun _ h9 => h9) rfl dX11_law_39 ?_
        have h9 := Option.some.inj hf
        subst h9
        exact rw_iret C rfl hP hD hS dX11_law_42
      obtain ⟨rL3, hL3, hk3⟩ := bd_s hf
      refine lp_W (P := fun st => ∀ (H : Heap) (locs : List Loc) (ls : Array Slot), va_P G.1 vwCl [(oX11 mo mo_length q1.2.2.1 q1.2.2.2.1 q1.2.2.2.2 mo_entries mo_ringEarth mo_lead mo_ring mo_jumpMany mo_curveEnd mo_beds mo_all), (wI G (mo 1) 12 q1.2.1), (wI G (mo 2) 12 st.2), (wI G (mo 3) 48 mo_text)] H → va_D A [(oX11 mo mo_length q1.2.2.1 q1.2.2.2.1 q1.2.2.2.2 mo_entries mo_ringEarth mo_lead mo_ring mo_jumpMany mo_curveEnd mo_beds mo_all), (wI G (mo 1) 12 q1.2.1), (wI G (mo 2) 12 st.2), (wI G (mo 3) 48 mo_text)] → va_S A s.heap H locs → lv_has ls 2 [(0, .ref (mo 0)), (1, .int st.1)] → Wc_X11_law l G mo mo_read mo_laws mo_text mo_length mo_at mo_faultAt mo_parts mo_entries mo_ringEarth mo_lead mo_ring mo_jumpMany mo_curveEnd mo_beds mo_all R p e s m below meth c A H locs (F0 m 14 ls [])) ?_ FU ((0 : Int32), mo_laws) hL3 H locs ls hP hD hS (lv_sub hl [1, 0] rfl)
      intro ⟨v1, mo_laws⟩ oc3 hf hI hE H locs ls hP hD hS hl
      have hP : va_P G.1 vwCl [(oX11 mo mo_length q1.2.2.1 q1.2.2.2.1 q1.2.2.2.2 mo_entries mo_ringEarth mo_lead mo_ring mo_jumpMany mo_curveEnd mo_beds mo_all), (wI G (mo 1) 12 q1.2.1), (wI G (mo 2) 12 mo_laws), (wI G (mo 3) 48 mo_text)] H := hP
      have hD : va_D A [(oX11 mo mo_length q1.2.2.1 q1.2.2.2.1 q1.2.2.2.2 mo_entries mo_ringEarth mo_lead mo_ring mo_jumpMany mo_curveEnd mo_beds mo_all), (wI G (mo 1) 12 q1.2.1), (wI G (mo 2) 12 mo_laws), (wI G (mo 3) 48 mo_text)] := hD
      have hl : lv_has ls 2 [(0, .ref (mo 0)), (1, .int v1)] := hl
      have hf : f_X11_law_b14 q1 v1 mo_laws = some oc3 := hf
      refine lv_iload_n hx hb dX11_law_14 rfl (lv_at hl 1 rfl) ?_
      refine lv_bipush (v := 12) hx hb dX11_law_15 (by decide) ?_
      refine lv_icmp_ge (tgt := 38) hx hb dX11_law_17 (by decide) (fun c5 => ?_) (fun c5 => ?_)
      · have hf := o_t c5 hf
        cases hf
        have hf : f_X11_law_x38_3 q1 mo_laws = some R := by have h9 := hk3; rw [← hE _ rfl] at h9; exact h9
        exact hx38_3 mo_laws H locs ls hf hP hD hS (lv_sub hl [0] rfl)
      · have hf := o_f c5 hf
        refine lv_aload_n hx hb dX11_law_20 rfl (lv_at hl 0 rfl) ?_
        refine va_get (D := G.1) (ci := 11) (v := .ref (mo 2)) (C := RX11) (T := TX11) (N := 29) hx hb ht twX11 hown hK.1 hP 0 rfl rfl 1 (by decide) (ht _ kfl_X11_13) (fun _ h9 => h9) rfl dX11_law_21 ?_
        refine lv_iload_n hx hb dX11_law_24 rfl (lv_at hl 1 rfl) ?_
        refine lv_aload_n hx hb dX11_law_25 rfl (lv_at hl 0 rfl) ?_
        refine va_get (D := G.1) (ci := 11) (v := .ref (mo 1)) (C := RX11) (T := TX11) (N := 29) hx hb ht twX11 hown hK.1 hP 0 rfl rfl 0 (by decide) (ht _ kfl_X11_7) (fun _ h9 => h9) rfl dX11_law_26 ?_
        refine lv_iload_n hx hb dX11_law_29 rfl (lv_at hl 1 rfl) ?_
        obtain ⟨g6, hf⟩ := gd_s hf
        refine va_iald hx hb hK.1 hP 1 0 rfl rfl g6 dX11_law_30 ?_
        obtain ⟨g7, hf⟩ := gd_s hf
        refine va_iast hx hb hK.1 hP hD hS 2 0 rfl rfl g7 dX11_law_31 (fun H locs hP hD hS => ?_)
        have hP : va_P G.1 vwCl [(oX11 mo mo_length q1.2.2.1 q1.2.2.2.1 q1.2.2.2.2 mo_entries mo_ringEarth mo_lead mo_ring mo_jumpMany mo_curveEnd mo_beds mo_all), (wI G (mo 1) 12 q1.2.1), (wI G (mo 2) 12 (upd mo_laws v1.toNatClampNeg (q1.2.1 v1.toNatClampNeg))), (wI G (mo 3) 48 mo_text)] H := hP
        have hD : va_D A [(oX11 mo mo_length q1.2.2.1 q1.2.2.2.1 q1.2.2.2.2 mo_entries mo_ringEarth mo_lead mo_ring mo_jumpMany mo_curveEnd mo_beds mo_all), (wI G (mo 1) 12 q1.2.1), (wI G (mo 2) 12 (upd mo_laws v1.toNatClampNeg (q1.2.1 v1.toNatClampNeg))), (wI G (mo 3) 48 mo_text)] := hD
        refine lv_iinc (v := (v1 + (1 : Int32))) (lv' := [(1, .int (v1 + (1 : Int32))), (0, .ref (mo 0))]) hx hb dX11_law_32 hl (k := 1) rfl (by rfl) (by decide) rfl (fun ls hl => ?_)
        refine lv_goto (tgt := 14) hx hb dX11_law_35 (by decide) ?_
        cases hf
        exact hI _ rfl H locs ls hP hD hS (lv_sub hl [1, 0] rfl)
    · have hf := o_f c2 hf
      refine lv_bipush (v := -3) hx hb dX11_law_9 (by decide) ?_
      have h9 := Option.some.inj hf
      subst h9
      exact rw_iret C rfl hP hD hS dX11_law_11
  rw [eH, el] at key
  exact key
abbrev Wc_X11_lawful (l : Launch) (G : TG) (mo : Nat → Nat) (mo_laws : Nat → Int32) (mo_length : Int32) (mo_at : Int32) (mo_faultAt : Int32) (mo_parts : Int32) (mo_entries : Int32) (mo_ringEarth : Int32) (mo_lead : Int32) (mo_ring : Int32) (mo_jumpMany : Int32) (mo_curveEnd : Int32) (mo_beds : Int32) (mo_all : Int64) (a1 : Int32) (R : Int32) (p : Program) (e : Env) (s : State) (m : MethodId) (below : List Frame) (meth : Method) (c : Code) (H : Heap) (locs : List Loc) (g : JFrame) : Prop := W p l e ({ frames := 1, cells := 0, slots := 0, locals := 25 }) s m ([.ref (mo 0), .int a1] : List Value).toArray below meth c H locs 0 0 (MQ below (roQ (some (.int R))) ([.ref (mo 0), .int a1] : List Value).toArray s 0 0 (fun _ => False)) g
set_option maxHeartbeats 4000000 in
set_option maxRecDepth 100000 in
theorem c_X11_lawful (l : Launch) (G : TG) (mo : Nat → Nat) (mo_laws : Nat → Int32) (mo_length : Int32) (mo_at : Int32) (mo_faultAt : Int32) (mo_parts : Int32) (mo_entries : Int32) (mo_ringEarth : Int32) (mo_lead : Int32) (mo_ring : Int32) (mo_jumpMany : Int32) (mo_curveEnd : Int32) (mo_beds : Int32) (mo_all : Int64) (a1 : Int32) (R : Int32) (hf : f_X11_lawful mo_laws a1 = some R) : RO l yX11_lawful cX11_lawful 2 (some .int) ({ frames := 1, cells := 0, slots := 0, locals := 25 }) G [.ref (mo 0), .int a1] [(oX11 mo mo_length mo_at mo_faultAt mo_parts mo_entries mo_ringEarth mo_lead mo_ring mo_jumpMany mo_curveEnd mo_beds mo_all), (wI G (mo 2) 12 mo_laws)] (some (.int R)) := by
  refine RO.mk (by decide +kernel) (Nat.le_of_ble_eq_true rfl) ?_
  intro p e s m below meth c ls C hP hK hl
  have hx := C.1
  have hb := C.2.1
  have hown : s.vm.findClass RX11 = some m.cls := C.2.2.2.2.2.1
  have ht := C.2.2.2.2.2.2
  have hl : lv_has ls 2 [(0, .ref (mo 0)), (1, .int a1)] := hl
  show Wc_X11_lawful l G mo mo_laws mo_length mo_at mo_faultAt mo_parts mo_entries mo_ringEarth mo_lead mo_ring mo_jumpMany mo_curveEnd mo_beds mo_all a1 R p e s m below meth c s.heap [] (F0 m 0 ls [])
  refine lv_iload_n hx hb dX11_lawful_0 rfl (lv_at hl 1 rfl) ?_
  refine lv_i2l (v := (a1.toInt64)) hx hb dX11_lawful_1 rfl ?_
  refine lv_lconst (v := 0) hx hb dX11_lawful_2 (by decide) ?_
  refine lv_ldc2 hx hb hown (ht _ kcL_X11_113) dX11_lawful_3 ?_
  obtain ⟨q1, r1, hf⟩ := bd_s hf
  refine ro_S (n := 3) (As := [.long (a1.toInt64), .long (0 : Int64), .long (11 : Int64)]) (rest := []) (c_X11_in l G (a1.toInt64) (0 : Int64) (11 : Int64) q1 r1) C hK (hP.sub [] rfl) hl kcode_X11_in kml_X11_65 kst_X11_in kini_X11 (by decide +kernel) ⟨⟨rfl, rfl⟩, Nat.le_of_ble_eq_true rfl, Nat.le_of_ble_eq_true rfl⟩ ⟨Nat.zero_le _, Nat.zero_le _⟩ rfl rfl (Nat.le_of_ble_eq_true rfl) dX11_lawful_6 rfl ?_
  refine lv_if_eq (tgt := 21) hx hb dX11_lawful_9 (by decide) (fun c2 => ?_) (fun c2 => ?_)
  · have hf := o_t c2 hf
    refine lv_bipush (v := -2) hx hb dX11_lawful_21 (by decide) ?_
    have h9 := Option.some.inj hf
    subst h9
    exact ro_iret C rfl dX11_lawful_23
  · have hf := o_f c2 hf
    refine lv_aload_n hx hb dX11_lawful_12 rfl (lv_at hl 0 rfl) ?_
    refine va_get (D := G.1) (ci := 11) (v := .ref (mo 2)) (C := RX11) (T := TX11) (N := 29) hx hb ht twX11 hown hK.1 hP 0 rfl rfl 1 (by decide) (ht _ kfl_X11_13) (fun _ h9 => h9) rfl dX11_lawful_13 ?_
    refine lv_iload_n hx hb dX11_lawful_16 rfl (lv_at hl 1 rfl) ?_
    obtain ⟨g4, hf⟩ := gd_s hf
    refine va_iald hx hb hK.1 hP 1 0 rfl rfl g4 dX11_lawful_17 ?_
    refine lv_goto (tgt := 23) hx hb dX11_lawful_18 (by decide) ?_
    have h9 := Option.some.inj hf
    subst h9
    exact ro_iret C rfl dX11_lawful_23
abbrev Wc_X11_isStory (l : Launch) (G : TG) (a0 : Int32) (R : Int32) (p : Program) (e : Env) (s : State) (m : MethodId) (below : List Frame) (meth : Method) (c : Code) (H : Heap) (locs : List Loc) (g : JFrame) : Prop := W p l e ({ frames := 1, cells := 0, slots := 0, locals := 25 }) s m ([.int a0] : List Value).toArray below meth c H locs 0 0 (MQ below (roQ (some (.int R))) ([.int a0] : List Value).toArray s 0 0 (fun _ => False)) g
set_option maxHeartbeats 4000000 in
set_option maxRecDepth 100000 in
theorem c_X11_isStory (l : Launch) (G : TG) (a0 : Int32) (R : Int32) (hf : f_X11_isStory a0 = some R) : RO l yX11_isStory cX11_isStory 1 (some .boolean) ({ frames := 1, cells := 0, slots := 0, locals := 25 }) G [.int a0] [] (some (.int R)) := by
  refine RO.mk (by decide +kernel) (Nat.le_of_ble_eq_true rfl) ?_
  intro p e s m below meth c ls C hP hK hl
  have hx := C.1
  have hb := C.2.1
  have hown : s.vm.findClass RX11 = some m.cls := C.2.2.2.2.2.1
  have ht := C.2.2.2.2.2.2
  have hl : lv_has ls 1 [(0, .int a0)] := hl
  show Wc_X11_isStory l G a0 R p e s m below meth c s.heap [] (F0 m 0 ls [])
  refine lv_iload_n hx hb dX11_isStory_0 rfl (lv_at hl 0 rfl) ?_
  refine lv_i2l (v := (a0.toInt64)) hx hb dX11_isStory_1 rfl ?_
  refine lv_lconst (v := 0) hx hb dX11_isStory_2 (by decide) ?_
  refine lv_ldc2 hx hb hown (ht _ kcL_X11_115) dX11_isStory_3 ?_
  obtain ⟨q1, r1, hf⟩ := bd_s hf
  refine ro_S (n := 3) (As := [.long (a0.toInt64), .long (0 : Int64), .long (3 : Int64)]) (rest := []) (c_X11_in l G (a0.toInt64) (0 : Int64) (3 : Int64) q1 r1) C hK (hP.sub [] rfl) hl kcode_X11_in kml_X11_65 kst_X11_in kini_X11 (by decide +kernel) ⟨⟨rfl, rfl⟩, Nat.le_of_ble_eq_true rfl, Nat.le_of_ble_eq_true rfl⟩ ⟨Nat.zero_le _, Nat.zero_le _⟩ rfl rfl (Nat.le_of_ble_eq_true rfl) dX11_isStory_6 rfl ?_
  obtain ⟨z2, hf⟩ := zb_s hf
  have h9 := Option.some.inj hf
  subst h9
  exact ro_zret C z2 rfl dX11_isStory_9
abbrev Wc_X11_story (l : Launch) (G : TG) (mo : Nat → Nat) (mo_text : Nat → Int32) (mo_length : Int32) (mo_at : Int32) (mo_faultAt : Int32) (mo_parts : Int32) (mo_entryRound : Nat → Int32) (mo_entryIce : Nat → Int32) (mo_entries : Int32) (mo_stories : Nat → Int32) (mo_ringEarth : Int32) (mo_lead : Int32) (mo_ring : Int32) (mo_jumpMany : Int32) (mo_curveEnd : Int32) (mo_beds : Int32) (mo_all : Int64) (a1 : Int32) (R : Int32 × Int32 × Int32 × (Nat → Int32) × (Nat → Int32) × Int32 × (Nat → Int32)) (p : Program) (e : Env) (s : State) (m : MethodId) (below : List Frame) (meth : Method) (c : Code) (A : Nat → Prop) (H : Heap) (locs : List Loc) (g : JFrame) : Prop := W p l e ({ frames := 4, cells := 0, slots := 0, locals := 97 }) s m ([.ref (mo 0), .int a1] : List Value).toArray below meth c H locs 0 0 (MQ below (rwQ G (some (.int R.1)) [(oX11 mo mo_length R.2.1 R.2.2.1 mo_parts R.2.2.2.2.2.1 mo_ringEarth mo_lead mo_ring mo_jumpMany mo_curveEnd mo_beds mo_all), (wI G (mo 3) 48 mo_text), (wI G (mo 4) 48 R.2.2.2.1), (wI G (mo 5) 48 R.2.2.2.2.1), (wI G (mo 6) 400 R.2.2.2.2.2.2)] A) ([.ref (mo 0), .int a1] : List Value).toArray s 0 0 A) g
set_option maxHeartbeats 4000000 in
set_option maxRecDepth 100000 in
theorem c_X11_story (l : Launch) (G : TG) (mo : Nat → Nat) (mo_text : Nat → Int32) (mo_length : Int32) (mo_at : Int32) (mo_faultAt : Int32) (mo_parts : Int32) (mo_entryRound : Nat → Int32) (mo_entryIce : Nat → Int32) (mo_entries : Int32) (mo_stories : Nat → Int32) (mo_ringEarth : Int32) (mo_lead : Int32) (mo_ring : Int32) (mo_jumpMany : Int32) (mo_curveEnd : Int32) (mo_beds : Int32) (mo_all : Int64) (a1 : Int32) (R : Int32 × Int32 × Int32 × (Nat → Int32) × (Nat → Int32) × Int32 × (Nat → Int32)) (hf : f_X11_story mo_text mo_length mo_at mo_faultAt mo_entryRound mo_entryIce mo_entries mo_stories a1 = some R) : RW l yX11_story cX11_story 5 (some .int) ({ frames := 4, cells := 0, slots := 0, locals := 97 }) G [.ref (mo 0), .int a1] [(oX11 mo mo_length mo_at mo_faultAt mo_parts mo_entries mo_ringEarth mo_lead mo_ring mo_jumpMany mo_curveEnd mo_beds mo_all), (wI G (mo 3) 48 mo_text), (wI G (mo 4) 48 mo_entryRound), (wI G (mo 5) 48 mo_entryIce), (wI G (mo 6) 400 mo_stories)] (some (.int R.1)) [(oX11 mo mo_length R.2.1 R.2.2.1 mo_parts R.2.2.2.2.2.1 mo_ringEarth mo_lead mo_ring mo_jumpMany mo_curveEnd mo_beds mo_all), (wI G (mo 3) 48 mo_text), (wI G (mo 4) 48 R.2.2.2.1), (wI G (mo 5) 48 R.2.2.2.2.1), (wI G (mo 6) 400 R.2.2.2.2.2.2)] := by
  refine RW.mk (by decide +kernel) (Nat.le_of_ble_eq_true rfl) ?_
  intro p e s m below meth c ls A C hP hD hA hz hK hl hS
  have hx := C.1
  have hb := C.2.1
  have hown : s.vm.findClass RX11 = some m.cls := C.2.2.2.2.2.1
  have ht := C.2.2.2.2.2.2
  have hl : lv_has ls 5 [(0, .ref (mo 0)), (1, .int a1)] := hl
  show Wc_X11_story l G mo mo_text mo_length mo_at mo_faultAt mo_parts mo_entryRound mo_entryIce mo_entries mo_stories mo_ringEarth mo_lead mo_ring mo_jumpMany mo_curveEnd mo_beds mo_all a1 R p e s m below meth c A s.heap [] (F0 m 0 ls [])
  obtain ⟨H, eH, hP, hS⟩ : ∃ H, H = s.heap ∧ va_P G.1 vwCl [(oX11 mo mo_length mo_at mo_faultAt mo_parts mo_entries mo_ringEarth mo_lead mo_ring mo_jumpMany mo_curveEnd mo_beds mo_all), (wI G (mo 3) 48 mo_text), (wI G (mo 4) 48 mo_entryRound), (wI G (mo 5) 48 mo_entryIce), (wI G (mo 6) 400 mo_stories)] H ∧ va_S A s.heap H [] := ⟨_, rfl, hP, hS⟩
  obtain ⟨locs, el, hS⟩ : ∃ locs : List Loc, locs = [] ∧ va_S A s.heap H locs := ⟨_, rfl, hS⟩
  have key : Wc_X11_story l G mo mo_text mo_length mo_at mo_faultAt mo_parts mo_entryRound mo_entryIce mo_entries mo_stories mo_ringEarth mo_lead mo_ring mo_jumpMany mo_curveEnd mo_beds mo_all a1 R p e s m below meth c A H locs (F0 m 0 ls []) := by
    refine lv_iload_n hx hb dX11_story_0 rfl (lv_at hl 1 rfl) ?_
    obtain ⟨q1, r1, hf⟩ := bd_s hf
    refine ro_S (n := 1) (As := [.int a1]) (rest := []) (c_X11_isStory l G a1 q1 r1) C (hK.at hS hz) (hP.sub [] rfl) hl kcode_X11_isStory kml_X11_117 kst_X11_isStory kini_X11 (by decide +kernel) ⟨⟨rfl, rfl⟩, Nat.le_of_ble_eq_true rfl, Nat.le_of_ble_eq_true rfl⟩ ⟨Nat.zero_le _, Nat.zero_le _⟩ rfl rfl (Nat.le_of_ble_eq_true rfl) dX11_story_1 rfl ?_
    refine lv_if_ne (tgt := 9) hx hb dX11_story_4 (by decide) (fun c2 => ?_) (fun c2 => ?_)
    · have hf := o_f c2 hf
      refine lv_aload_n hx hb dX11_story_9 rfl (lv_at hl 0 rfl) ?_
      obtain ⟨q3, r3, hf⟩ := bd_s hf
      refine rw_V (n := 0) (As := []) (rest := []) (wr := [(wI G (mo 6) 400 mo_stories)]) (ws2 := [(oX11 mo mo_length q3.2.1 q3.2.2.1 mo_parts q3.2.2.2.2.2 mo_ringEarth mo_lead mo_ring mo_jumpMany mo_curveEnd mo_beds mo_all), (wI G (mo 3) 48 mo_text), (wI G (mo 4) 48 q3.2.2.2.1), (wI G (mo 5) 48 q3.2.2.2.2.1), (wI G (mo 6) 400 mo_stories)]) (c_X11_readStory l G mo mo_text mo_length mo_at mo_faultAt mo_parts mo_entryRound mo_entryIce mo_entries mo_ringEarth mo_lead mo_ring mo_jumpMany mo_curveEnd mo_beds mo_all q3 r3) C hK hP hD hS hA hz hl [0, 1, 2, 3] [4] [1, 2, 3, 4, 0] rfl rfl rfl rfl rfl (by decide) rfl rfl rfl kcode_X11_readStory kml_X11_106 kim_X11_readStory ksel_X11_readStory kini_X11 (by decide +kernel) ⟨⟨rfl, rfl⟩, Nat.le_of_ble_eq_true rfl, Nat.le_of_ble_eq_true rfl⟩ ⟨Nat.zero_le _, Nat.zero_le _⟩ rfl rfl rfl rfl rfl (Nat.le_of_ble_eq_true rfl) dX11_story_10 rfl (fun H locs hP hD hS => ?_)
      refine lv_bipush (v := -9) hx hb dX11_story_13 (by decide) ?_
      refine lv_icmp_eq (tgt := 21) hx hb dX11_story_15 (by decide) (fun c4 => ?_) (fun c4 => ?_)
      · have hf := o_t c4 hf
        refine lv_iconst (v := 0) hx hb dX11_story_21 (by decide) ?_
        refine lv_istore_n (lv' := [(2, .int (0 : Int32)), (0, .ref (mo 0)), (1, .int a1)]) hx hb dX11_story_22 rfl hl (by decide) rfl (fun ls hl => ?_)
        refine lv_iconst (v := 0) hx hb dX11_story_23 (by decide) ?_
        refine lv_istore_n (lv' := [(3, .int (0 : Int32)), (2, .int (0 : Int32)), (0, .ref (mo 0)), (1, .int a1)]) hx hb dX11_story_24 rfl hl (by decide) rfl (fun ls hl => ?_)
        refine lv_iconst (v := 0) hx hb dX11_story_25 (by decide) ?_
        refine lv_istore (lv' := [(4, .int (0 : Int32)), (3, .int (0 : Int32)), (2, .int (0 : Int32)), (0, .ref (mo 0)), (1, .int a1)]) hx hb dX11_story_26 hl (by decide) rfl (fun ls hl => ?_)
        have hx83_5 : ∀ (mo_stories : Nat → Int32) (H : Heap) (locs : List Loc) (ls : Array Slot), f_X11_story_x83_5 q3 mo_stories = some R → va_P G.1 vwCl [(oX11 mo mo_length q3.2.1 q3.2.2.1 mo_parts q3.2.2.2.2.2 mo_ringEarth mo_lead mo_ring mo_jumpMany mo_curveEnd mo_beds mo_all), (wI G (mo 3) 48 mo_text), (wI G (mo 4) 48 q3.2.2.2.1), (wI G (mo 5) 48 q3.2.2.2.2.1), (wI G (mo 6) 400 mo_stories)] H → va_D A [(oX11 mo mo_length q3.2.1 q3.2.2.1 mo_parts q3.2.2.2.2.2 mo_ringEarth mo_lead mo_ring mo_jumpMany mo_curveEnd mo_beds mo_all), (wI G (mo 3) 48 mo_text), (wI G (mo 4) 48 q3.2.2.2.1), (wI G (mo 5) 48 q3.2.2.2.2.1), (wI G (mo 6) 400 mo_stories)] → va_S A s.heap H locs → lv_has ls 5 [(0, .ref (mo 0))] → Wc_X11_story l G mo mo_text mo_length mo_at mo_faultAt mo_parts mo_entryRound mo_entryIce mo_entries mo_stories mo_ringEarth mo_lead mo_ring mo_jumpMany mo_curveEnd mo_beds mo_all a1 R p e s m below meth c A H locs (F0 m 83 ls []) := by
          intro mo_stories H locs ls hf hP hD hS hl
          refine lv_aload_n hx hb dX11_story_83 rfl (lv_at hl 0 rfl) ?_
          refine va_get (D := G.1) (ci := 11) (v := .int q3.2.2.2.2.2) (C := RX11) (T := TX11) (N := 29) hx hb ht twX11 hown hK.1 hP 0 rfl rfl 9 (by decide) (ht _ kfl_X11_100) (fun _ h9 => h9) rfl dX11_story_84 ?_
          have h9 := Option.some.inj hf
          subst h9
          exact rw_iret C rfl hP hD hS dX11_story_87
        obtain ⟨rL5, hL5, hk5⟩ := bd_s hf
        refine lp_W (P := fun st => ∀ (H : Heap) (locs : List Loc) (ls : Array Slot), va_P G.1 vwCl [(oX11 mo mo_length q3.2.1 q3.2.2.1 mo_parts q3.2.2.2.2.2 mo_ringEarth mo_lead mo_ring mo_jumpMany mo_curveEnd mo_beds mo_all), (wI G (mo 3) 48 mo_text), (wI G (mo 4) 48 q3.2.2.2.1), (wI G (mo 5) 48 q3.2.2.2.2.1), (wI G (mo 6) 400 st.2.2.2)] H → va_D A [(oX11 mo mo_length q3.2.1 q3.2.2.1 mo_parts q3.2.2.2.2.2 mo_ringEarth mo_lead mo_ring mo_jumpMany mo_curveEnd mo_beds mo_all), (wI G (mo 3) 48 mo_text), (wI G (mo 4) 48 q3.2.2.2.1), (wI G (mo 5) 48 q3.2.2.2.2.1), (wI G (mo 6) 400 st.2.2.2)] → va_S A s.heap H locs → lv_has ls 5 [(0, .ref (mo 0)), (1, .int a1), (2, .int st.1), (3, .int st.2.1), (4, .int st.2.2.1)] → Wc_X11_story l G mo mo_text mo_length mo_at mo_faultAt mo_parts mo_entryRound mo_entryIce mo_entries mo_stories mo_ringEarth mo_lead mo_ring mo_jumpMany mo_curveEnd mo_beds mo_all a1 R p e s m below meth c A H locs (F0 m 28 ls [])) ?_ FU ((0 : Int32), (0 : Int32), (0 : Int32), mo_stories) hL5 H locs ls hP hD hS (lv_sub hl [3, 4, 2, 1, 0] rfl)
        intro ⟨v2, v3, v4, mo_stories⟩ oc5 hf hI hE H locs ls hP hD hS hl
        have hP : va_P G.1 vwCl [(oX11 mo mo_length q3.2.1 q3.2.2.1 mo_parts q3.2.2.2.2.2 mo_ringEarth mo_lead mo_ring mo_jumpMany mo_curveEnd mo_beds mo_all), (wI G (mo 3) 48 mo_text), (wI G (mo 4) 48 q3.2.2.2.1), (wI G (mo 5) 48 q3.2.2.2.2.1), (wI G (mo 6) 400 mo_stories)] H := hP
        have hD : va_D A [(oX11 mo mo_length q3.2.1 q3.2.2.1 mo_parts q3.2.2.2.2.2 mo_ringEarth mo_lead mo_ring mo_jumpMany mo_curveEnd mo_beds mo_all), (wI G (mo 3) 48 mo_text), (wI G (mo 4) 48 q3.2.2.2.1), (wI G (mo 5) 48 q3.2.2.2.2.1), (wI G (mo 6) 400 mo_stories)] := hD
        have hl : lv_has ls 5 [(0, .ref (mo 0)), (1, .int a1), (2, .int v2), (3, .int v3), (4, .int v4)] := hl
        have hf : f_X11_story_b28 a1 q3 v2 v3 v4 mo_stories = some oc5 := hf
        have hj64 : ∀ (v2 : Int32) (v3 : Int32) (v4 : Int32) (mo_stories : Nat → Int32) (H : Heap) (locs : List Loc) (ls : Array Slot), f_X11_story_j64 a1 v2 v3 v4 mo_stories = some oc5 → va_P G.1 vwCl [(oX11 mo mo_length q3.2.1 q3.2.2.1 mo_parts q3.2.2.2.2.2 mo_ringEarth mo_lead mo_ring mo_jumpMany mo_curveEnd mo_beds mo_all), (wI G (mo 3) 48 mo_text), (wI G (mo 4) 48 q3.2.2.2.1), (wI G (mo 5) 48 q3.2.2.2.2.1), (wI G (mo 6) 400 mo_stories)] H → va_D A [(oX11 mo mo_length q3.2.1 q3.2.2.1 mo_parts q3.2.2.2.2.2 mo_ringEarth mo_lead mo_ring mo_jumpMany mo_curveEnd mo_beds mo_all), (wI G (mo 3) 48 mo_text), (wI G (mo 4) 48 q3.2.2.2.1), (wI G (mo 5) 48 q3.2.2.2.2.1), (wI G (mo 6) 400 mo_stories)] → va_S A s.heap H locs → lv_has ls 5 [(0, .ref (mo 0)), (1, .int a1), (2, .int v2), (3, .int v3), (4, .int v4)] → Wc_X11_story l G mo mo_text mo_length mo_at mo_faultAt mo_parts mo_entryRound mo_entryIce mo_entries mo_stories mo_ringEarth mo_lead mo_ring mo_jumpMany mo_curveEnd mo_beds mo_all a1 R p e s m below meth c A H locs (F0 m 64 ls []) := by
          intro v2 v3 v4 mo_stories H locs ls hf hP hD hS hl
          refine lv_aload_n hx hb dX11_story_64 rfl (lv_at hl 0 rfl) ?_
          refine va_get (D := G.1) (ci := 11) (v := .ref (mo 6)) (C := RX11) (T := TX11) (N := 29) hx hb ht twX11 hown hK.1 hP 0 rfl rfl 10 (by decide) (ht _ kfl_X11_25) (fun _ h9 => h9) rfl dX11_story_65 ?_
          refine lv_bipush (v := 100) hx hb dX11_story_68 (by decide) ?_
          refine lv_iload_n hx hb dX11_story_70 rfl (lv_at hl 1 rfl) ?_
          refine lv_imul hx hb dX11_story_71 ?_
          refine lv_iload hx hb dX11_story_72 (lv_at hl 4 rfl) ?_
          refine lv_iadd hx hb dX11_story_74 ?_
          refine lv_iload_n hx hb dX11_story_75 rfl (lv_at hl 2 rfl) ?_
          obtain ⟨g7, hf⟩ := gd_s hf
          refine va_iast hx hb hK.1 hP hD hS 4 0 rfl rfl g7 dX11_story_76 (fun H locs hP hD hS => ?_)
          have hP : va_P G.1 vwCl [(oX11 mo mo_length q3.2.1 q3.2.2.1 mo_parts q3.2.2.2.2.2 mo_ringEarth mo_lead mo_ring mo_jumpMany mo_curveEnd mo_beds mo_all), (wI G (mo 3) 48 mo_text), (wI G (mo 4) 48 q3.2.2.2.1), (wI G (mo 5) 48 q3.2.2.2.2.1), (wI G (mo 6) 400 (upd mo_stories (((100 : Int32) * a1) + v4).toNatClampNeg v2))] H := hP
          have hD : va_D A [(oX11 mo mo_length q3.2.1 q3.2.2.1 mo_parts q3.2.2.2.2.2 mo_ringEarth mo_lead mo_ring mo_jumpMany mo_curveEnd mo_beds mo_all), (wI G (mo 3) 48 mo_text), (wI G (mo 4) 48 q3.2.2.2.1), (wI G (mo 5) 48 q3.2.2.2.2.1), (wI G (mo 6) 400 (upd mo_stories (((100 : Int32) * a1) + v4).toNatClampNeg v2))] := hD
          refine lv_iinc (v := (v4 + (1 : Int32))) (lv' := [(4, .int (v4 + (1 : Int32))), (0, .ref (mo 0)), (1, .int a1), (2, .int v2), (3, .int v3)]) hx hb dX11_story_77 hl (k := 4) rfl (by rfl) (by decide) rfl (fun ls hl => ?_)
          refine lv_goto (tgt := 28) hx hb dX11_story_80 (by decide) ?_
          cases hf
          exact hI _ rfl H locs ls hP hD hS (lv_sub hl [1, 2, 3, 4, 0] rfl)
        refine lv_iload hx hb dX11_story_28 (lv_at hl 4 rfl) ?_
        refine lv_bipush (v := 100) hx hb dX11_story_30 (by decide) ?_
        refine lv_icmp_ge (tgt := 83) hx hb dX11_story_32 (by decide) (fun c8 => ?_) (fun c8 => ?_)
        · have hf := o_t c8 hf
          cases hf
          have hf : f_X11_story_x83_5 q3 mo_stories = some R := by have h9 := hk5; rw [← hE _ rfl] at h9; exact h9
          exact hx83_5 mo_stories H locs ls hf hP hD hS (lv_sub hl [0] rfl)
        · have hf := o_f c8 hf
          refine lv_iload_n hx hb dX11_story_35 rfl (lv_at hl 3 rfl) ?_
          refine lv_aload_n hx hb dX11_story_36 rfl (lv_at hl 0 rfl) ?_
          refine va_get (D := G.1) (ci := 11) (v := .int q3.2.2.2.2.2) (C := RX11) (T := TX11) (N := 29) hx hb ht twX11 hown hK.1 hP 0 rfl rfl 9 (by decide) (ht _ kfl_X11_100) (fun _ h9 => h9) rfl dX11_story_37 ?_
          refine lv_icmp_ge (tgt := 64) hx hb dX11_story_40 (by decide) (fun c9 => ?_) (fun c9 => ?_)
          · have hf := o_t c9 hf
            exact hj64 v2 v3 v4 mo_stories H locs ls hf hP hD hS (lv_sub hl [0, 1, 2, 3, 4] rfl)
          · have hf := o_f c9 hf
            refine lv_aload_n hx hb dX11_story_43 rfl (lv_at hl 0 rfl) ?_
            refine va_get (D := G.1) (ci := 11) (v := .ref (mo 4)) (C := RX11) (T := TX11) (N := 29) hx hb ht twX11 hown hK.1 hP 0 rfl rfl 7 (by decide) (ht _ kfl_X11_19) (fun _ h9 => h9) rfl dX11_story_44 ?_
            refine lv_iload_n hx hb dX11_story_47 rfl (lv_at hl 3 rfl) ?_
            obtain ⟨g10, hf⟩ := gd_s hf
            refine va_iald hx hb hK.1 hP 2 0 rfl rfl g10 dX11_story_48 ?_
            refine lv_iload hx hb dX11_story_49 (lv_at hl 4 rfl) ?_
            refine lv_icmp_ne (tgt := 64) hx hb dX11_story_51 (by decide) (fun c11 => ?_) (fun c11 => ?_)
            · have hf := o_f c11 hf
              exact hj64 v2 v3 v4 mo_stories H locs ls hf hP hD hS (lv_sub hl [0, 1, 2, 3, 4] rfl)
            · have hf := o_t c11 hf
              refine lv_aload_n hx hb dX11_story_54 rfl (lv_at hl 0 rfl) ?_
              refine va_get (D := G.1) (ci := 11) (v := .ref (mo 5)) (C := RX11) (T := TX11) (N := 29) hx hb ht twX11 hown hK.1 hP 0 rfl rfl 8 (by decide) (ht _ kfl_X11_22) (fun _ h9 => h9) rfl dX11_story_55 ?_
              refine lv_iload_n hx hb dX11_story_58 rfl (lv_at hl 3 rfl) ?_
              obtain ⟨g12, hf⟩ := gd_s hf
              refine va_iald hx hb hK.1 hP 3 0 rfl rfl g12 dX11_story_59 ?_
              refine lv_istore_n (lv' := [(2, .int (q3.2.2.2.2.1 v3.toNatClampNeg)), (0, .ref (mo 0)), (1, .int a1), (3, .int v3), (4, .int v4)]) hx hb dX11_story_60 rfl hl (by decide) rfl (fun ls hl => ?_)
              refine lv_iinc (v := (v3 + (1 : Int32))) (lv' := [(3, .int (v3 + (1 : Int32))), (2, .int (q3.2.2.2.2.1 v3.toNatClampNeg)), (0, .ref (mo 0)), (1, .int a1), (4, .int v4)]) hx hb dX11_story_61 hl (k := 3) rfl (by rfl) (by decide) rfl (fun ls hl => ?_)
              exact hj64 (q3.2.2.2.2.1 v3.toNatClampNeg) (v3 + (1 : Int32)) v4 mo_stories H locs ls hf hP hD hS (lv_sub hl [2, 3, 1, 0, 4] rfl)
      · have hf := o_f c4 hf
        refine lv_bipush (v := -3) hx hb dX11_story_18 (by decide) ?_
        have h9 := Option.some.inj hf
        subst h9
        exact rw_iret C rfl hP hD hS dX11_story_20
    · have hf := o_t c2 hf
      refine lv_iconst (v := -1) hx hb dX11_story_7 (by decide) ?_
      have h9 := Option.some.inj hf
      subst h9
      exact rw_iret C rfl hP hD hS dX11_story_8
  rw [eH, el] at key
  exact key
abbrev Wc_X11_isEarth (l : Launch) (G : TG) (a0 : Int32) (a1 : Int32) (R : Int32) (p : Program) (e : Env) (s : State) (m : MethodId) (below : List Frame) (meth : Method) (c : Code) (H : Heap) (locs : List Loc) (g : JFrame) : Prop := W p l e ({ frames := 1, cells := 0, slots := 0, locals := 25 }) s m ([.int a0, .int a1] : List Value).toArray below meth c H locs 0 0 (MQ below (roQ (some (.int R))) ([.int a0, .int a1] : List Value).toArray s 0 0 (fun _ => False)) g
set_option maxHeartbeats 4000000 in
set_option maxRecDepth 100000 in
theorem c_X11_isEarth (l : Launch) (G : TG) (a0 : Int32) (a1 : Int32) (R : Int32) (hf : f_X11_isEarth a0 a1 = some R) : RO l yX11_isEarth cX11_isEarth 2 (some .boolean) ({ frames := 1, cells := 0, slots := 0, locals := 25 }) G [.int a0, .int a1] [] (some (.int R)) := by
  refine RO.mk (by decide +kernel) (Nat.le_of_ble_eq_true rfl) ?_
  intro p e s m below meth c ls C hP hK hl
  have hx := C.1
  have hb := C.2.1
  have hown : s.vm.findClass RX11 = some m.cls := C.2.2.2.2.2.1
  have ht := C.2.2.2.2.2.2
  have hl : lv_has ls 2 [(0, .int a0), (1, .int a1)] := hl
  show Wc_X11_isEarth l G a0 a1 R p e s m below meth c s.heap [] (F0 m 0 ls [])
  refine lv_iload_n hx hb dX11_isEarth_0 rfl (lv_at hl 0 rfl) ?_
  refine lv_i2l (v := (a0.toInt64)) hx hb dX11_isEarth_1 rfl ?_
  refine lv_lconst (v := 0) hx hb dX11_isEarth_2 (by decide) ?_
  refine lv_ldc2 hx hb hown (ht _ kcL_X11_120) dX11_isEarth_3 ?_
  obtain ⟨q1, r1, hf⟩ := bd_s hf
  refine ro_S (n := 3) (As := [.long (a0.toInt64), .long (0 : Int64), .long (63 : Int64)]) (rest := []) (c_X11_in l G (a0.toInt64) (0 : Int64) (63 : Int64) q1 r1) C hK (hP.sub [] rfl) hl kcode_X11_in kml_X11_65 kst_X11_in kini_X11 (by decide +kernel) ⟨⟨rfl, rfl⟩, Nat.le_of_ble_eq_true rfl, Nat.le_of_ble_eq_true rfl⟩ ⟨Nat.zero_le _, Nat.zero_le _⟩ rfl rfl (Nat.le_of_ble_eq_true rfl) dX11_isEarth_6 rfl ?_
  refine lv_if_eq (tgt := 28) hx hb dX11_isEarth_9 (by decide) (fun c2 => ?_) (fun c2 => ?_)
  · have hf := o_t c2 hf
    refine lv_iconst (v := 0) hx hb dX11_isEarth_28 (by decide) ?_
    have h9 := Option.some.inj hf
    subst h9
    exact ro_zret C (Or.inl rfl) rfl dX11_isEarth_29
  · have hf := o_f c2 hf
    refine lv_iload_n hx hb dX11_isEarth_12 rfl (lv_at hl 1 rfl) ?_
    refine lv_i2l (v := (a1.toInt64)) hx hb dX11_isEarth_13 rfl ?_
    refine lv_lconst (v := 0) hx hb dX11_isEarth_14 (by decide) ?_
    refine lv_ldc2 hx hb hown (ht _ kcL_X11_122) dX11_isEarth_15 ?_
    obtain ⟨q4, r4, hf⟩ := bd_s hf
    refine ro_S (n := 3) (As := [.long (a1.toInt64), .long (0 : Int64), .long (99 : Int64)]) (rest := []) (c_X11_in l G (a1.toInt64) (0 : Int64) (99 : Int64) q4 r4) C hK (hP.sub [] rfl) hl kcode_X11_in kml_X11_65 kst_X11_in kini_X11 (by decide +kernel) ⟨⟨rfl, rfl⟩, Nat.le_of_ble_eq_true rfl, Nat.le_of_ble_eq_true rfl⟩ ⟨Nat.zero_le _, Nat.zero_le _⟩ rfl rfl (Nat.le_of_ble_eq_true rfl) dX11_isEarth_18 rfl ?_
    refine lv_if_eq (tgt := 28) hx hb dX11_isEarth_21 (by decide) (fun c5 => ?_) (fun c5 => ?_)
    · have hf := o_t c5 hf
      refine lv_iconst (v := 0) hx hb dX11_isEarth_28 (by decide) ?_
      have h9 := Option.some.inj hf
      subst h9
      exact ro_zret C (Or.inl rfl) rfl dX11_isEarth_29
    · have hf := o_f c5 hf
      refine lv_iconst (v := 1) hx hb dX11_isEarth_24 (by decide) ?_
      refine lv_goto (tgt := 29) hx hb dX11_isEarth_25 (by decide) ?_
      have h9 := Option.some.inj hf
      subst h9
      exact ro_zret C (Or.inr rfl) rfl dX11_isEarth_29
abbrev Wc_X11_taken (l : Launch) (G : TG) (mo : Nat → Nat) (mo_laws : Nat → Int32) (mo_length : Int32) (mo_at : Int32) (mo_faultAt : Int32) (mo_parts : Int32) (mo_entries : Int32) (mo_ringEarth : Int32) (mo_lead : Int32) (mo_ring : Int32) (mo_jumpMany : Int32) (mo_curveEnd : Int32) (mo_beds : Int32) (mo_all : Int64) (a1 : Int32) (a2 : Int32) (R : Int32) (p : Program) (e : Env) (s : State) (m : MethodId) (below : List Frame) (meth : Method) (c : Code) (H : Heap) (locs : List Loc) (g : JFrame) : Prop := W p l e ({ frames := 0, cells := 0, slots := 0, locals := 0 }) s m ([.ref (mo 0), .int a1, .int a2] : List Value).toArray below meth c H locs 0 0 (MQ below (roQ (some (.int R))) ([.ref (mo 0), .int a1, .int a2] : List Value).toArray s 0 0 (fun _ => False)) g
set_option maxHeartbeats 4000000 in
set_option maxRecDepth 100000 in
theorem c_X11_taken (l : Launch) (G : TG) (mo : Nat → Nat) (mo_laws : Nat → Int32) (mo_length : Int32) (mo_at : Int32) (mo_faultAt : Int32) (mo_parts : Int32) (mo_entries : Int32) (mo_ringEarth : Int32) (mo_lead : Int32) (mo_ring : Int32) (mo_jumpMany : Int32) (mo_curveEnd : Int32) (mo_beds : Int32) (mo_all : Int64) (a1 : Int32) (a2 : Int32) (R : Int32) (hf : f_X11_taken mo_laws a1 a2 = some R) : RO l yX11_taken cX11_taken 4 (some .int) ({ frames := 0, cells := 0, slots := 0, locals := 0 }) G [.ref (mo 0), .int a1, .int a2] [(oX11 mo mo_length mo_at mo_faultAt mo_parts mo_entries mo_ringEarth mo_lead mo_ring mo_jumpMany mo_curveEnd mo_beds mo_all), (wI G (mo 2) 12 mo_laws)] (some (.int R)) := by
  refine RO.mk (by decide +kernel) (Nat.le_of_ble_eq_true rfl) ?_
  intro p e s m below meth c ls C hP hK hl
  have hx := C.1
  have hb := C.2.1
  have hown : s.vm.findClass RX11 = some m.cls := C.2.2.2.2.2.1
  have ht := C.2.2.2.2.2.2
  have hl : lv_has ls 4 [(0, .ref (mo 0)), (1, .int a1), (2, .int a2)] := hl
  show Wc_X11_taken l G mo mo_laws mo_length mo_at mo_faultAt mo_parts mo_entries mo_ringEarth mo_lead mo_ring mo_jumpMany mo_curveEnd mo_beds mo_all a1 a2 R p e s m below meth c s.heap [] (F0 m 0 ls [])
  have hj18 : ∀ (k0 : Int32) (ls : Array Slot), f_X11_taken_j18 mo_laws a2 k0 = some R → lv_has ls 4 [(0, .ref (mo 0)), (2, .int a2)] → Wc_X11_taken l G mo mo_laws mo_length mo_at mo_faultAt mo_parts mo_entries mo_ringEarth mo_lead mo_ring mo_jumpMany mo_curveEnd mo_beds mo_all a1 a2 R p e s m below meth c s.heap [] (F0 m 18 ls [.int k0]) := by
    intro k0 ls hf hl
    refine lv_istore_n (lv' := [(3, .int k0), (0, .ref (mo 0)), (2, .int a2)]) hx hb dX11_taken_18 rfl hl (by decide) rfl (fun ls hl => ?_)
    refine lv_aload_n hx hb dX11_taken_19 rfl (lv_at hl 1 rfl) ?_
    refine va_get (D := G.1) (ci := 11) (v := .ref (mo 2)) (C := RX11) (T := TX11) (N := 29) hx hb ht twX11 hown hK.1 hP 0 rfl rfl 1 (by decide) (ht _ kfl_X11_13) (fun _ h9 => h9) rfl dX11_taken_20 ?_
    refine lv_iload_n hx hb dX11_taken_23 rfl (lv_at hl 0 rfl) ?_
    obtain ⟨g1, hf⟩ := gd_s hf
    refine va_iald hx hb hK.1 hP 1 0 rfl rfl g1 dX11_taken_24 ?_
    refine lv_iload_n hx hb dX11_taken_25 rfl (lv_at hl 2 rfl) ?_
    refine lv_iload_n hx hb dX11_taken_26 rfl (lv_at hl 0 rfl) ?_
    refine lv_ishr hx hb dX11_taken_27 ?_
    refine lv_iconst (v := 1) hx hb dX11_taken_28 (by decide) ?_
    refine lv_iand hx hb dX11_taken_29 ?_
    refine lv_iconst (v := 1) hx hb dX11_taken_30 (by decide) ?_
    refine lv_icmp_ne (tgt := 47) hx hb dX11_taken_31 (by decide) (fun c2 => ?_) (fun c2 => ?_)
    · have hf := o_f c2 hf
      refine lv_bipush (v := 10) hx hb dX11_taken_47 (by decide) ?_
      refine lv_imul hx hb dX11_taken_49 ?_
      have h9 := Option.some.inj hf
      subst h9
      exact ro_iret C rfl dX11_taken_50
    · have hf := o_t c2 hf
      refine lv_bipush (v := 10) hx hb dX11_taken_34 (by decide) ?_
      refine lv_aload_n hx hb dX11_taken_36 rfl (lv_at hl 1 rfl) ?_
      refine va_get (D := G.1) (ci := 11) (v := .ref (mo 2)) (C := RX11) (T := TX11) (N := 29) hx hb ht twX11 hown hK.1 hP 0 rfl rfl 1 (by decide) (ht _ kfl_X11_13) (fun _ h9 => h9) rfl dX11_taken_37 ?_
      refine lv_bipush (v := 6) hx hb dX11_taken_40 (by decide) ?_
      obtain ⟨g4, hf⟩ := gd_s hf
      refine va_iald hx hb hK.1 hP 1 0 rfl rfl g4 dX11_taken_42 ?_
      refine lv_isub hx hb dX11_taken_43 ?_
      refine lv_goto (tgt := 49) hx hb dX11_taken_44 (by decide) ?_
      refine lv_imul hx hb dX11_taken_49 ?_
      have h9 := Option.some.inj hf
      subst h9
      exact ro_iret C rfl dX11_taken_50
  refine lv_iload_n hx hb dX11_taken_0 rfl (lv_at hl 1 rfl) ?_
  refine lv_if_ge (tgt := 8) hx hb dX11_taken_1 (by decide) (fun c6 => ?_) (fun c6 => ?_)
  · have hf := o_t c6 hf
    refine lv_iload_n hx hb dX11_taken_8 rfl (lv_at hl 1 rfl) ?_
    refine lv_iconst (v := 5) hx hb dX11_taken_9 (by decide) ?_
    refine lv_icmp_le (tgt := 17) hx hb dX11_taken_10 (by decide) (fun c7 => ?_) (fun c7 => ?_)
    · have hf := o_t c7 hf
      refine lv_iload_n hx hb dX11_taken_17 rfl (lv_at hl 1 rfl) ?_
      exact hj18 a1 ls hf (lv_sub hl [0, 2] rfl)
    · have hf := o_f c7 hf
      refine lv_iconst (v := 5) hx hb dX11_taken_13 (by decide) ?_
      refine lv_goto (tgt := 18) hx hb dX11_taken_14 (by decide) ?_
      exact hj18 (5 : Int32) ls hf (lv_sub hl [0, 2] rfl)
  · have hf := o_f c6 hf
    refine lv_iconst (v := 0) hx hb dX11_taken_4 (by decide) ?_
    refine lv_goto (tgt := 18) hx hb dX11_taken_5 (by decide) ?_
    exact hj18 (0 : Int32) ls hf (lv_sub hl [0, 2] rfl)
abbrev Wc_X11_warmthOf (l : Launch) (G : TG) (mo : Nat → Nat) (mo_laws : Nat → Int32) (mo_length : Int32) (mo_at : Int32) (mo_faultAt : Int32) (mo_parts : Int32) (mo_entries : Int32) (mo_ringEarth : Int32) (mo_lead : Int32) (mo_ring : Int32) (mo_jumpMany : Int32) (mo_curveEnd : Int32) (mo_beds : Int32) (mo_all : Int64) (a1 : Int32) (a2 : Int32) (a3 : Int32) (R : Int32) (p : Program) (e : Env) (s : State) (m : MethodId) (below : List Frame) (meth : Method) (c : Code) (H : Heap) (locs : List Loc) (g : JFrame) : Prop := W p l e ({ frames := 1, cells := 0, slots := 0, locals := 23 }) s m ([.ref (mo 0), .int a1, .int a2, .int a3] : List Value).toArray below meth c H locs 0 0 (MQ below (roQ (some (.int R))) ([.ref (mo 0), .int a1, .int a2, .int a3] : List Value).toArray s 0 0 (fun _ => False)) g
set_option maxHeartbeats 4000000 in
set_option maxRecDepth 100000 in
theorem c_X11_warmthOf (l : Launch) (G : TG) (mo : Nat → Nat) (mo_laws : Nat → Int32) (mo_length : Int32) (mo_at : Int32) (mo_faultAt : Int32) (mo_parts : Int32) (mo_entries : Int32) (mo_ringEarth : Int32) (mo_lead : Int32) (mo_ring : Int32) (mo_jumpMany : Int32) (mo_curveEnd : Int32) (mo_beds : Int32) (mo_all : Int64) (a1 : Int32) (a2 : Int32) (a3 : Int32) (R : Int32) (hf : f_X11_warmthOf mo_laws a1 a2 a3 = some R) : RO l yX11_warmthOf cX11_warmthOf 4 (some .int) ({ frames := 1, cells := 0, slots := 0, locals := 23 }) G [.ref (mo 0), .int a1, .int a2, .int a3] [(oX11 mo mo_length mo_at mo_faultAt mo_parts mo_entries mo_ringEarth mo_lead mo_ring mo_jumpMany mo_curveEnd mo_beds mo_all), (wI G (mo 2) 12 mo_laws)] (some (.int R)) := by
  refine RO.mk (by decide +kernel) (Nat.le_of_ble_eq_true rfl) ?_
  intro p e s m below meth c ls C hP hK hl
  have hx := C.1
  have hb := C.2.1
  have hown : s.vm.findClass RX11 = some m.cls := C.2.2.2.2.2.1
  have ht := C.2.2.2.2.2.2
  have hl : lv_has ls 4 [(0, .ref (mo 0)), (1, .int a1), (2, .int a2), (3, .int a3)] := hl
  show Wc_X11_warmthOf l G mo mo_laws mo_length mo_at mo_faultAt mo_parts mo_entries mo_ringEarth mo_lead mo_ring mo_jumpMany mo_curveEnd mo_beds mo_all a1 a2 a3 R p e s m below meth c s.heap [] (F0 m 0 ls [])
  refine lv_iconst (v := 2) hx hb dX11_warmthOf_0 (by decide) ?_
  refine lv_aload_n hx hb dX11_warmthOf_1 rfl (lv_at hl 0 rfl) ?_
  refine lv_iload_n hx hb dX11_warmthOf_2 rfl (lv_at hl 1 rfl) ?_
  refine lv_iload_n hx hb dX11_warmthOf_3 rfl (lv_at hl 2 rfl) ?_
  obtain ⟨q1, r1, hf⟩ := bd_s hf
  refine ro_V (n := 2) (As := [.int a1, .int a2]) (rest := [.int (2 : Int32)]) (c_X11_taken l G mo mo_laws mo_length mo_at mo_faultAt mo_parts mo_entries mo_ringEarth mo_lead mo_ring mo_jumpMany mo_curveEnd mo_beds mo_all a1 a2 q1 r1) C hK (hP.sub [0, 1] rfl) hl kcode_X11_taken kml_X11_131 kim_X11_taken ksel_X11_taken kini_X11 (by decide +kernel) ⟨⟨rfl, rfl⟩, Nat.le_of_ble_eq_true rfl, Nat.le_of_ble_eq_true rfl⟩ ⟨Nat.zero_le _, Nat.zero_le _⟩ rfl rfl rfl rfl rfl (Nat.le_of_ble_eq_true rfl) dX11_warmthOf_4 rfl ?_
  refine lv_imul hx hb dX11_warmthOf_7 ?_
  refine lv_aload_n hx hb dX11_warmthOf_8 rfl (lv_at hl 0 rfl) ?_
  refine lv_iload_n hx hb dX11_warmthOf_9 rfl (lv_at hl 1 rfl) ?_
  refine lv_iconst (v := 1) hx hb dX11_warmthOf_10 (by decide) ?_
  refine lv_isub hx hb dX11_warmthOf_11 ?_
  refine lv_iload_n hx hb dX11_warmthOf_12 rfl (lv_at hl 2 rfl) ?_
  obtain ⟨q2, r2, hf⟩ := bd_s hf
  refine ro_V (n := 2) (As := [.int (a1 - (1 : Int32)), .int a2]) (rest := [.int ((2 : Int32) * q1)]) (c_X11_taken l G mo mo_laws mo_length mo_at mo_faultAt mo_parts mo_entries mo_ringEarth mo_lead mo_ring mo_jumpMany mo_curveEnd mo_beds mo_all (a1 - (1 : Int32)) a2 q2 r2) C hK (hP.sub [0, 1] rfl) hl kcode_X11_taken kml_X11_131 kim_X11_taken ksel_X11_taken kini_X11 (by decide +kernel) ⟨⟨rfl, rfl⟩, Nat.le_of_ble_eq_true rfl, Nat.le_of_ble_eq_true rfl⟩ ⟨Nat.zero_le _, Nat.zero_le _⟩ rfl rfl rfl rfl rfl (Nat.le_of_ble_eq_true rfl) dX11_warmthOf_13 rfl ?_
  refine lv_iadd hx hb dX11_warmthOf_16 ?_
  refine lv_aload_n hx hb dX11_warmthOf_17 rfl (lv_at hl 0 rfl) ?_
  refine lv_iload_n hx hb dX11_warmthOf_18 rfl (lv_at hl 1 rfl) ?_
  refine lv_iconst (v := 1) hx hb dX11_warmthOf_19 (by decide) ?_
  refine lv_iadd hx hb dX11_warmthOf_20 ?_
  refine lv_iload_n hx hb dX11_warmthOf_21 rfl (lv_at hl 2 rfl) ?_
  obtain ⟨q3, r3, hf⟩ := bd_s hf
  refine ro_V (n := 2) (As := [.int (a1 + (1 : Int32)), .int a2]) (rest := [.int (((2 : Int32) * q1) + q2)]) (c_X11_taken l G mo mo_laws mo_length mo_at mo_faultAt mo_parts mo_entries mo_ringEarth mo_lead mo_ring mo_jumpMany mo_curveEnd mo_beds mo_all (a1 + (1 : Int32)) a2 q3 r3) C hK (hP.sub [0, 1] rfl) hl kcode_X11_taken kml_X11_131 kim_X11_taken ksel_X11_taken kini_X11 (by decide +kernel) ⟨⟨rfl, rfl⟩, Nat.le_of_ble_eq_true rfl, Nat.le_of_ble_eq_true rfl⟩ ⟨Nat.zero_le _, Nat.zero_le _⟩ rfl rfl rfl rfl rfl (Nat.le_of_ble_eq_true rfl) dX11_warmthOf_22 rfl ?_
  refine lv_iadd hx hb dX11_warmthOf_25 ?_
  refine lv_bipush (v := 40) hx hb dX11_warmthOf_26 (by decide) ?_
  refine lv_aload_n hx hb dX11_warmthOf_28 rfl (lv_at hl 0 rfl) ?_
  refine va_get (D := G.1) (ci := 11) (v := .ref (mo 2)) (C := RX11) (T := TX11) (N := 29) hx hb ht twX11 hown hK.1 hP 0 rfl rfl 1 (by decide) (ht _ kfl_X11_13) (fun _ h9 => h9) rfl dX11_warmthOf_29 ?_
  refine lv_bipush (v := 7) hx hb dX11_warmthOf_32 (by decide) ?_
  obtain ⟨g4, hf⟩ := gd_s hf
  refine va_iald hx hb hK.1 hP 1 0 rfl rfl g4 dX11_warmthOf_34 ?_
  refine lv_imul hx hb dX11_warmthOf_35 ?_
  refine lv_iload_n hx hb dX11_warmthOf_36 rfl (lv_at hl 3 rfl) ?_
  refine lv_imul hx hb dX11_warmthOf_37 ?_
  refine lv_iadd hx hb dX11_warmthOf_38 ?_
  have h9 := Option.some.inj hf
  subst h9
  exact ro_iret C rfl dX11_warmthOf_39
abbrev Wc_X11_iceThen (l : Launch) (G : TG) (mo : Nat → Nat) (mo_laws : Nat → Int32) (mo_length : Int32) (mo_at : Int32) (mo_faultAt : Int32) (mo_parts : Int32) (mo_entries : Int32) (mo_ringEarth : Int32) (mo_lead : Int32) (mo_ring : Int32) (mo_jumpMany : Int32) (mo_curveEnd : Int32) (mo_beds : Int32) (mo_all : Int64) (a1 : Int32) (a2 : Int32) (R : Int32) (p : Program) (e : Env) (s : State) (m : MethodId) (below : List Frame) (meth : Method) (c : Code) (H : Heap) (locs : List Loc) (g : JFrame) : Prop := W p l e ({ frames := 2, cells := 0, slots := 0, locals := 46 }) s m ([.ref (mo 0), .int a1, .int a2] : List Value).toArray below meth c H locs 0 0 (MQ below (roQ (some (.int R))) ([.ref (mo 0), .int a1, .int a2] : List Value).toArray s 0 0 (fun _ => False)) g
set_option maxHeartbeats 4000000 in
set_option maxRecDepth 100000 in
theorem c_X11_iceThen (l : Launch) (G : TG) (mo : Nat → Nat) (mo_laws : Nat → Int32) (mo_length : Int32) (mo_at : Int32) (mo_faultAt : Int32) (mo_parts : Int32) (mo_entries : Int32) (mo_ringEarth : Int32) (mo_lead : Int32) (mo_ring : Int32) (mo_jumpMany : Int32) (mo_curveEnd : Int32) (mo_beds : Int32) (mo_all : Int64) (a1 : Int32) (a2 : Int32) (R : Int32) (hf : f_X11_iceThen mo_laws a1 a2 = some R) : RO l yX11_iceThen cX11_iceThen 7 (some .int) ({ frames := 2, cells := 0, slots := 0, locals := 46 }) G [.ref (mo 0), .int a1, .int a2] [(oX11 mo mo_length mo_at mo_faultAt mo_parts mo_entries mo_ringEarth mo_lead mo_ring mo_jumpMany mo_curveEnd mo_beds mo_all), (wI G (mo 2) 12 mo_laws)] (some (.int R)) := by
  refine RO.mk (by decide +kernel) (Nat.le_of_ble_eq_true rfl) ?_
  intro p e s m below meth c ls C hP hK hl
  have hx := C.1
  have hb := C.2.1
  have hown : s.vm.findClass RX11 = some m.cls := C.2.2.2.2.2.1
  have ht := C.2.2.2.2.2.2
  have hl : lv_has ls 7 [(0, .ref (mo 0)), (1, .int a1), (2, .int a2)] := hl
  show Wc_X11_iceThen l G mo mo_laws mo_length mo_at mo_faultAt mo_parts mo_entries mo_ringEarth mo_lead mo_ring mo_jumpMany mo_curveEnd mo_beds mo_all a1 a2 R p e s m below meth c s.heap [] (F0 m 0 ls [])
  refine lv_iconst (v := 0) hx hb dX11_iceThen_0 (by decide) ?_
  refine lv_istore_n (lv' := [(3, .int (0 : Int32)), (0, .ref (mo 0)), (1, .int a1), (2, .int a2)]) hx hb dX11_iceThen_1 rfl hl (by decide) rfl (fun ls hl => ?_)
  refine lv_iconst (v := 0) hx hb dX11_iceThen_2 (by decide) ?_
  refine lv_istore (lv' := [(4, .int (0 : Int32)), (3, .int (0 : Int32)), (0, .ref (mo 0)), (1, .int a1), (2, .int a2)]) hx hb dX11_iceThen_3 hl (by decide) rfl (fun ls hl => ?_)
  have hx99_1 : ∀ (v3 : Int32) (ls : Array Slot), f_X11_iceThen_x99_1 v3 = some R → lv_has ls 7 [(3, .int v3)] → Wc_X11_iceThen l G mo mo_laws mo_length mo_at mo_faultAt mo_parts mo_entries mo_ringEarth mo_lead mo_ring mo_jumpMany mo_curveEnd mo_beds mo_all a1 a2 R p e s m below meth c s.heap [] (F0 m 99 ls []) := by
    intro v3 ls hf hl
    refine lv_iload_n hx hb dX11_iceThen_99 rfl (lv_at hl 0 rfl) ?_
    have h9 := Option.some.inj hf
    subst h9
    exact ro_iret C rfl dX11_iceThen_100
  obtain ⟨rL1, hL1, hk1⟩ := bd_s hf
  refine lp_W (P := fun st => ∀ (ls : Array Slot), lv_has ls 7 [(0, .ref (mo 0)), (1, .int a1), (2, .int a2), (3, .int st.1), (4, .int st.2)] → Wc_X11_iceThen l G mo mo_laws mo_length mo_at mo_faultAt mo_parts mo_entries mo_ringEarth mo_lead mo_ring mo_jumpMany mo_curveEnd mo_beds mo_all a1 a2 R p e s m below meth c s.heap [] (F0 m 5 ls [])) ?_ FU ((0 : Int32), (0 : Int32)) hL1 ls (lv_sub hl [2, 3, 4, 1, 0] rfl)
  intro ⟨v3, v4⟩ oc1 hf hI hE ls hl
  have hl : lv_has ls 7 [(0, .ref (mo 0)), (1, .int a1), (2, .int a2), (3, .int v3), (4, .int v4)] := hl
  have hf : f_X11_iceThen_b5 mo_laws a1 a2 v3 v4 = some oc1 := hf
  have hj91 : ∀ (v4 : Int32) (k0 : Int32) (k1 : Int32) (ls : Array Slot), f_X11_iceThen_j91 v4 k0 k1 = some oc1 → lv_has ls 7 [(0, .ref (mo 0)), (1, .int a1), (2, .int a2), (4, .int v4)] → Wc_X11_iceThen l G mo mo_laws mo_length mo_at mo_faultAt mo_parts mo_entries mo_ringEarth mo_lead mo_ring mo_jumpMany mo_curveEnd mo_beds mo_all a1 a2 R p e s m below meth c s.heap [] (F0 m 91 ls [.int k1, .int k0]) := by
    intro v4 k0 k1 ls hf hl
    refine lv_ior hx hb dX11_iceThen_91 ?_
    refine lv_istore_n (lv' := [(3, .int (k0 ||| k1)), (0, .ref (mo 0)), (1, .int a1), (2, .int a2), (4, .int v4)]) hx hb dX11_iceThen_92 rfl hl (by decide) rfl (fun ls hl => ?_)
    refine lv_iinc (v := (v4 + (1 : Int32))) (lv' := [(4, .int (v4 + (1 : Int32))), (3, .int (k0 ||| k1)), (0, .ref (mo 0)), (1, .int a1), (2, .int a2)]) hx hb dX11_iceThen_93 hl (k := 4) rfl (by rfl) (by decide) rfl (fun ls hl => ?_)
    refine lv_goto (tgt := 5) hx hb dX11_iceThen_96 (by decide) ?_
    cases hf
    exact hI _ rfl ls (lv_sub hl [2, 3, 4, 1, 0] rfl)
  have hj75 : ∀ (v3 : Int32) (v4 : Int32) (k0 : Int32) (ls : Array Slot), f_X11_iceThen_j75 v3 v4 k0 = some oc1 → lv_has ls 7 [(0, .ref (mo 0)), (1, .int a1), (2, .int a2), (3, .int v3), (4, .int v4)] → Wc_X11_iceThen l G mo mo_laws mo_length mo_at mo_faultAt mo_parts mo_entries mo_ringEarth mo_lead mo_ring mo_jumpMany mo_curveEnd mo_beds mo_all a1 a2 R p e s m below meth c s.heap [] (F0 m 75 ls [.int k0]) := by
    intro v3 v4 k0 ls hf hl
    refine lv_istore (lv' := [(6, .int k0), (0, .ref (mo 0)), (1, .int a1), (2, .int a2), (3, .int v3), (4, .int v4)]) hx hb dX11_iceThen_75 hl (by decide) rfl (fun ls hl => ?_)
    refine lv_iload_n hx hb dX11_iceThen_77 rfl (lv_at hl 4 rfl) ?_
    refine lv_iload hx hb dX11_iceThen_78 (lv_at hl 0 rfl) ?_
    refine lv_if_eq (tgt := 90) hx hb dX11_iceThen_80 (by decide) (fun c3 => ?_) (fun c3 => ?_)
    · have hf := o_t c3 hf
      refine lv_iconst (v := 0) hx hb dX11_iceThen_90 (by decide) ?_
      exact hj91 v4 v3 (0 : Int32) ls hf (lv_sub hl [1, 2, 3, 5] rfl)
    · have hf := o_f c3 hf
      refine lv_iconst (v := 1) hx hb dX11_iceThen_83 (by decide) ?_
      refine lv_iload hx hb dX11_iceThen_84 (lv_at hl 5 rfl) ?_
      refine lv_ishl hx hb dX11_iceThen_86 ?_
      refine lv_goto (tgt := 91) hx hb dX11_iceThen_87 (by decide) ?_
      exact hj91 v4 v3 ((1 : Int32) <<< (v4 &&& (31 : Int32))) ls hf (lv_sub hl [1, 2, 3, 5] rfl)
  have hj74 : ∀ (v3 : Int32) (v4 : Int32) (ls : Array Slot), f_X11_iceThen_j74 v3 v4 = some oc1 → lv_has ls 7 [(0, .ref (mo 0)), (1, .int a1), (2, .int a2), (3, .int v3), (4, .int v4)] → Wc_X11_iceThen l G mo mo_laws mo_length mo_at mo_faultAt mo_parts mo_entries mo_ringEarth mo_lead mo_ring mo_jumpMany mo_curveEnd mo_beds mo_all a1 a2 R p e s m below meth c s.heap [] (F0 m 74 ls []) := by
    intro v3 v4 ls hf hl
    refine lv_iconst (v := 0) hx hb dX11_iceThen_74 (by decide) ?_
    exact hj75 v3 v4 (0 : Int32) ls hf (lv_sub hl [0, 1, 2, 3, 4] rfl)
  have hj70 : ∀ (v3 : Int32) (v4 : Int32) (ls : Array Slot), f_X11_iceThen_j70 v3 v4 = some oc1 → lv_has ls 7 [(0, .ref (mo 0)), (1, .int a1), (2, .int a2), (3, .int v3), (4, .int v4)] → Wc_X11_iceThen l G mo mo_laws mo_length mo_at mo_faultAt mo_parts mo_entries mo_ringEarth mo_lead mo_ring mo_jumpMany mo_curveEnd mo_beds mo_all a1 a2 R p e s m below meth c s.heap [] (F0 m 70 ls []) := by
    intro v3 v4 ls hf hl
    refine lv_iconst (v := 1) hx hb dX11_iceThen_70 (by decide) ?_
    refine lv_goto (tgt := 75) hx hb dX11_iceThen_71 (by decide) ?_
    exact hj75 v3 v4 (1 : Int32) ls hf (lv_sub hl [0, 1, 2, 3, 4] rfl)
  refine lv_iload hx hb dX11_iceThen_5 (lv_at hl 4 rfl) ?_
  refine lv_bipush (v := 6) hx hb dX11_iceThen_7 (by decide) ?_
  refine lv_icmp_ge (tgt := 99) hx hb dX11_iceThen_9 (by decide) (fun c4 => ?_) (fun c4 => ?_)
  · have hf := o_t c4 hf
    cases hf
    have hf : f_X11_iceThen_x99_1 v3 = some R := by have h9 := hk1; rw [← hE _ rfl] at h9; exact h9
    exact hx99_1 v3 ls hf (lv_sub hl [3] rfl)
  · have hf := o_f c4 hf
    refine lv_aload_n hx hb dX11_iceThen_12 rfl (lv_at hl 0 rfl) ?_
    refine lv_iload hx hb dX11_iceThen_13 (lv_at hl 4 rfl) ?_
    refine lv_iload_n hx hb dX11_iceThen_15 rfl (lv_at hl 1 rfl) ?_
    refine lv_iload_n hx hb dX11_iceThen_16 rfl (lv_at hl 2 rfl) ?_
    obtain ⟨q5, r5, hf⟩ := bd_s hf
    refine ro_V (n := 3) (As := [.int v4, .int a1, .int a2]) (rest := []) (c_X11_warmthOf l G mo mo_laws mo_length mo_at mo_faultAt mo_parts mo_entries mo_ringEarth mo_lead mo_ring mo_jumpMany mo_curveEnd mo_beds mo_all v4 a1 a2 q5 r5) C hK (hP.sub [0, 1] rfl) hl kcode_X11_warmthOf kml_X11_135 kim_X11_warmthOf ksel_X11_warmthOf kini_X11 (by decide +kernel) ⟨⟨rfl, rfl⟩, Nat.le_of_ble_eq_true rfl, Nat.le_of_ble_eq_true rfl⟩ ⟨Nat.zero_le _, Nat.zero_le _⟩ rfl rfl rfl rfl rfl (Nat.le_of_ble_eq_true rfl) dX11_iceThen_17 rfl ?_
    refine lv_istore (lv' := [(5, .int q5), (0, .ref (mo 0)), (1, .int a1), (2, .int a2), (3, .int v3), (4, .int v4)]) hx hb dX11_iceThen_20 hl (by decide) rfl (fun ls hl => ?_)
    refine lv_iload hx hb dX11_iceThen_22 (lv_at hl 0 rfl) ?_
    refine lv_bipush (v := 40) hx hb dX11_iceThen_24 (by decide) ?_
    refine lv_aload_n hx hb dX11_iceThen_26 rfl (lv_at hl 1 rfl) ?_
    refine va_get (D := G.1) (ci := 11) (v := .ref (mo 2)) (C := RX11) (T := TX11) (N := 29) hx hb ht twX11 hown hK.1 hP 0 rfl rfl 1 (by decide) (ht _ kfl_X11_13) (fun _ h9 => h9) rfl dX11_iceThen_27 ?_
    refine lv_bipush (v := 8) hx hb dX11_iceThen_30 (by decide) ?_
    obtain ⟨g6, hf⟩ := gd_s hf
    refine va_iald hx hb hK.1 hP 1 0 rfl rfl g6 dX11_iceThen_32 ?_
    refine lv_imul hx hb dX11_iceThen_33 ?_
    refine lv_icmp_lt (tgt := 70) hx hb dX11_iceThen_34 (by decide) (fun c7 => ?_) (fun c7 => ?_)
    · have hf := o_t c7 hf
      exact hj70 v3 v4 ls hf (lv_sub hl [1, 2, 3, 4, 5] rfl)
    · have hf := o_f c7 hf
      refine lv_iload hx hb dX11_iceThen_37 (lv_at hl 0 rfl) ?_
      refine lv_bipush (v := 40) hx hb dX11_iceThen_39 (by decide) ?_
      refine lv_aload_n hx hb dX11_iceThen_41 rfl (lv_at hl 1 rfl) ?_
      refine va_get (D := G.1) (ci := 11) (v := .ref (mo 2)) (C := RX11) (T := TX11) (N := 29) hx hb ht twX11 hown hK.1 hP 0 rfl rfl 1 (by decide) (ht _ kfl_X11_13) (fun _ h9 => h9) rfl dX11_iceThen_42 ?_
      refine lv_bipush (v := 8) hx hb dX11_iceThen_45 (by decide) ?_
      obtain ⟨g8, hf⟩ := gd_s hf
      refine va_iald hx hb hK.1 hP 1 0 rfl rfl g8 dX11_iceThen_47 ?_
      refine lv_aload_n hx hb dX11_iceThen_48 rfl (lv_at hl 1 rfl) ?_
      refine va_get (D := G.1) (ci := 11) (v := .ref (mo 2)) (C := RX11) (T := TX11) (N := 29) hx hb ht twX11 hown hK.1 hP 0 rfl rfl 1 (by decide) (ht _ kfl_X11_13) (fun _ h9 => h9) rfl dX11_iceThen_49 ?_
      refine lv_bipush (v := 9) hx hb dX11_iceThen_52 (by decide) ?_
      obtain ⟨g9, hf⟩ := gd_s hf
      refine va_iald hx hb hK.1 hP 1 0 rfl rfl g9 dX11_iceThen_54 ?_
      refine lv_iadd hx hb dX11_iceThen_55 ?_
      refine lv_imul hx hb dX11_iceThen_56 ?_
      refine lv_icmp_ge (tgt := 74) hx hb dX11_iceThen_57 (by decide) (fun c10 => ?_) (fun c10 => ?_)
      · have hf := o_t c10 hf
        exact hj74 v3 v4 ls hf (lv_sub hl [1, 2, 3, 4, 5] rfl)
      · have hf := o_f c10 hf
        refine lv_iload_n hx hb dX11_iceThen_60 rfl (lv_at hl 2 rfl) ?_
        refine lv_iload hx hb dX11_iceThen_61 (lv_at hl 5 rfl) ?_
        refine lv_ishr hx hb dX11_iceThen_63 ?_
        refine lv_iconst (v := 1) hx hb dX11_iceThen_64 (by decide) ?_
        refine lv_iand hx hb dX11_iceThen_65 ?_
        refine lv_iconst (v := 1) hx hb dX11_iceThen_66 (by decide) ?_
        refine lv_icmp_ne (tgt := 74) hx hb dX11_iceThen_67 (by decide) (fun c11 => ?_) (fun c11 => ?_)
        · have hf := o_f c11 hf
          exact hj74 v3 v4 ls hf (lv_sub hl [1, 2, 3, 4, 5] rfl)
        · have hf := o_t c11 hf
          exact hj70 v3 v4 ls hf (lv_sub hl [1, 2, 3, 4, 5] rfl)
abbrev Wc_X11_roundOf (l : Launch) (G : TG) (mo : Nat → Nat) (mo_laws : Nat → Int32) (mo_length : Int32) (mo_at : Int32) (mo_faultAt : Int32) (mo_parts : Int32) (mo_entries : Int32) (mo_ringEarth : Int32) (mo_lead : Int32) (mo_ring : Int32) (mo_jumpMany : Int32) (mo_curveEnd : Int32) (mo_beds : Int32) (mo_all : Int64) (a1 : Int32) (R : Int32) (p : Program) (e : Env) (s : State) (m : MethodId) (below : List Frame) (meth : Method) (c : Code) (H : Heap) (locs : List Loc) (g : JFrame) : Prop := W p l e ({ frames := 3, cells := 0, slots := 0, locals := 72 }) s m ([.ref (mo 0), .int a1] : List Value).toArray below meth c H locs 0 0 (MQ below (roQ (some (.int R))) ([.ref (mo 0), .int a1] : List Value).toArray s 0 0 (fun _ => False)) g
set_option maxHeartbeats 4000000 in
set_option maxRecDepth 100000 in
theorem c_X11_roundOf (l : Launch) (G : TG) (mo : Nat → Nat) (mo_laws : Nat → Int32) (mo_length : Int32) (mo_at : Int32) (mo_faultAt : Int32) (mo_parts : Int32) (mo_entries : Int32) (mo_ringEarth : Int32) (mo_lead : Int32) (mo_ring : Int32) (mo_jumpMany : Int32) (mo_curveEnd : Int32) (mo_beds : Int32) (mo_all : Int64) (a1 : Int32) (R : Int32) (hf : f_X11_roundOf mo_laws a1 = some R) : RO l yX11_roundOf cX11_roundOf 5 (some .int) ({ frames := 3, cells := 0, slots := 0, locals := 72 }) G [.ref (mo 0), .int a1] [(oX11 mo mo_length mo_at mo_faultAt mo_parts mo_entries mo_ringEarth mo_lead mo_ring mo_jumpMany mo_curveEnd mo_beds mo_all), (wI G (mo 2) 12 mo_laws)] (some (.int R)) := by
  refine RO.mk (by decide +kernel) (Nat.le_of_ble_eq_true rfl) ?_
  intro p e s m below meth c ls C hP hK hl
  have hx := C.1
  have hb := C.2.1
  have hown : s.vm.findClass RX11 = some m.cls := C.2.2.2.2.2.1
  have ht := C.2.2.2.2.2.2
  have hl : lv_has ls 5 [(0, .ref (mo 0)), (1, .int a1)] := hl
  show Wc_X11_roundOf l G mo mo_laws mo_length mo_at mo_faultAt mo_parts mo_entries mo_ringEarth mo_lead mo_ring mo_jumpMany mo_curveEnd mo_beds mo_all a1 R p e s m below meth c s.heap [] (F0 m 0 ls [])
  have hj60 : ∀ (v2 : Int32) (v3 : Int32) (k0 : Int32) (ls : Array Slot), f_X11_roundOf_j60 mo_laws v2 v3 k0 = some R → lv_has ls 5 [(0, .ref (mo 0)), (2, .int v2), (3, .int v3)] → Wc_X11_roundOf l G mo mo_laws mo_length mo_at mo_faultAt mo_parts mo_entries mo_ringEarth mo_lead mo_ring mo_jumpMany mo_curveEnd mo_beds mo_all a1 R p e s m below meth c s.heap [] (F0 m 60 ls [.int k0]) := by
    intro v2 v3 k0 ls hf hl
    refine lv_istore (lv' := [(4, .int k0), (0, .ref (mo 0)), (2, .int v2), (3, .int v3)]) hx hb dX11_roundOf_60 hl (by decide) rfl (fun ls hl => ?_)
    refine lv_bipush (v := 100) hx hb dX11_roundOf_62 (by decide) ?_
    refine lv_aload_n hx hb dX11_roundOf_64 rfl (lv_at hl 1 rfl) ?_
    refine lv_iload_n hx hb dX11_roundOf_65 rfl (lv_at hl 2 rfl) ?_
    refine lv_iload_n hx hb dX11_roundOf_66 rfl (lv_at hl 3 rfl) ?_
    obtain ⟨q1, r1, hf⟩ := bd_s hf
    refine ro_V (n := 2) (As := [.int v2, .int v3]) (rest := [.int (100 : Int32)]) (c_X11_iceThen l G mo mo_laws mo_length mo_at mo_faultAt mo_parts mo_entries mo_ringEarth mo_lead mo_ring mo_jumpMany mo_curveEnd mo_beds mo_all v2 v3 q1 r1) C hK (hP.sub [0, 1] rfl) hl kcode_X11_iceThen kml_X11_142 kim_X11_iceThen ksel_X11_iceThen kini_X11 (by decide +kernel) ⟨⟨rfl, rfl⟩, Nat.le_of_ble_eq_true rfl, Nat.le_of_ble_eq_true rfl⟩ ⟨Nat.zero_le _, Nat.zero_le _⟩ rfl rfl rfl rfl rfl (Nat.le_of_ble_eq_true rfl) dX11_roundOf_67 rfl ?_
    refine lv_imul hx hb dX11_roundOf_70 ?_
    refine lv_iload hx hb dX11_roundOf_71 (lv_at hl 0 rfl) ?_
    refine lv_iadd hx hb dX11_roundOf_73 ?_
    have h9 := Option.some.inj hf
    subst h9
    exact ro_iret C rfl dX11_roundOf_74
  refine lv_iload_n hx hb dX11_roundOf_0 rfl (lv_at hl 1 rfl) ?_
  refine lv_bipush (v := 100) hx hb dX11_roundOf_1 (by decide) ?_
  obtain ⟨n3, hf⟩ := dz_s hf
  refine lv_idiv hx hb dX11_roundOf_3 n3 ?_
  refine lv_istore_n (lv' := [(2, .int (a1 / (100 : Int32))), (0, .ref (mo 0)), (1, .int a1)]) hx hb dX11_roundOf_4 rfl hl (by decide) rfl (fun ls hl => ?_)
  refine lv_iload_n hx hb dX11_roundOf_5 rfl (lv_at hl 2 rfl) ?_
  refine lv_bipush (v := 100) hx hb dX11_roundOf_6 (by decide) ?_
  obtain ⟨n4, hf⟩ := dz_s hf
  refine lv_irem hx hb dX11_roundOf_8 n4 ?_
  obtain ⟨u5, e5, hf⟩ := bd_s hf
  refine lv_re (Option.some.inj e5).symm ?_
  refine lv_istore_n (lv' := [(3, .int u5), (2, .int (a1 / (100 : Int32))), (0, .ref (mo 0)), (1, .int a1)]) hx hb dX11_roundOf_9 rfl hl (by decide) rfl (fun ls hl => ?_)
  refine lv_iload_n hx hb dX11_roundOf_10 rfl (lv_at hl 0 rfl) ?_
  refine lv_aload_n hx hb dX11_roundOf_11 rfl (lv_at hl 2 rfl) ?_
  refine va_get (D := G.1) (ci := 11) (v := .ref (mo 2)) (C := RX11) (T := TX11) (N := 29) hx hb ht twX11 hown hK.1 hP 0 rfl rfl 1 (by decide) (ht _ kfl_X11_13) (fun _ h9 => h9) rfl dX11_roundOf_12 ?_
  refine lv_bipush (v := 10) hx hb dX11_roundOf_15 (by decide) ?_
  obtain ⟨g6, hf⟩ := gd_s hf
  refine va_iald hx hb hK.1 hP 1 0 rfl rfl g6 dX11_roundOf_17 ?_
  refine lv_iadd hx hb dX11_roundOf_18 ?_
  refine lv_aload_n hx hb dX11_roundOf_19 rfl (lv_at hl 2 rfl) ?_
  refine va_get (D := G.1) (ci := 11) (v := .ref (mo 2)) (C := RX11) (T := TX11) (N := 29) hx hb ht twX11 hown hK.1 hP 0 rfl rfl 1 (by decide) (ht _ kfl_X11_13) (fun _ h9 => h9) rfl dX11_roundOf_20 ?_
  refine lv_bipush (v := 11) hx hb dX11_roundOf_23 (by decide) ?_
  obtain ⟨g7, hf⟩ := gd_s hf
  refine va_iald hx hb hK.1 hP 1 0 rfl rfl g7 dX11_roundOf_25 ?_
  refine lv_bipush (v := 6) hx hb dX11_roundOf_26 (by decide) ?_
  refine lv_iload_n hx hb dX11_roundOf_28 rfl (lv_at hl 1 rfl) ?_
  obtain ⟨q8, r8, hf⟩ := bd_s hf
  refine ro_S (n := 1) (As := [.int (a1 / (100 : Int32))]) (rest := [.int (6 : Int32), .int (mo_laws (11 : Int32).toNatClampNeg), .int (u5 + (mo_laws (10 : Int32).toNatClampNeg))]) (c_X11_ones l G (a1 / (100 : Int32)) q8 r8) C hK (hP.sub [] rfl) hl kcode_X11_ones kml_X11_139 kst_X11_ones kini_X11 (by decide +kernel) ⟨⟨rfl, rfl⟩, Nat.le_of_ble_eq_true rfl, Nat.le_of_ble_eq_true rfl⟩ ⟨Nat.zero_le _, Nat.zero_le _⟩ rfl rfl (Nat.le_of_ble_eq_true rfl) dX11_roundOf_29 rfl ?_
  refine lv_isub hx hb dX11_roundOf_32 ?_
  refine lv_imul hx hb dX11_roundOf_33 ?_
  refine lv_isub hx hb dX11_roundOf_34 ?_
  obtain ⟨u9, e9, hf⟩ := bd_s hf
  refine lv_re (Option.some.inj e9).symm ?_
  refine lv_istore (lv' := [(4, .int u9), (3, .int u5), (2, .int (a1 / (100 : Int32))), (0, .ref (mo 0)), (1, .int a1)]) hx hb dX11_roundOf_35 hl (by decide) rfl (fun ls hl => ?_)
  refine lv_iload hx hb dX11_roundOf_37 (lv_at hl 0 rfl) ?_
  refine lv_if_ge (tgt := 46) hx hb dX11_roundOf_39 (by decide) (fun c10 => ?_) (fun c10 => ?_)
  · have hf := o_t c10 hf
    refine lv_iload hx hb dX11_roundOf_46 (lv_at hl 0 rfl) ?_
    refine lv_bipush (v := 99) hx hb dX11_roundOf_48 (by decide) ?_
    refine lv_icmp_le (tgt := 58) hx hb dX11_roundOf_50 (by decide) (fun c11 => ?_) (fun c11 => ?_)
    · have hf := o_t c11 hf
      refine lv_iload hx hb dX11_roundOf_58 (lv_at hl 0 rfl) ?_
      exact hj60 (a1 / (100 : Int32)) u5 u9 ls hf (lv_sub hl [3, 2, 1] rfl)
    · have hf := o_f c11 hf
      refine lv_bipush (v := 99) hx hb dX11_roundOf_53 (by decide) ?_
      refine lv_goto (tgt := 60) hx hb dX11_roundOf_55 (by decide) ?_
      exact hj60 (a1 / (100 : Int32)) u5 (99 : Int32) ls hf (lv_sub hl [3, 2, 1] rfl)
  · have hf := o_f c10 hf
    refine lv_iconst (v := 0) hx hb dX11_roundOf_42 (by decide) ?_
    refine lv_goto (tgt := 60) hx hb dX11_roundOf_43 (by decide) ?_
    exact hj60 (a1 / (100 : Int32)) u5 (0 : Int32) ls hf (lv_sub hl [3, 2, 1] rfl)
abbrev Wc_X11_lived (l : Launch) (G : TG) (mo : Nat → Nat) (mo_laws : Nat → Int32) (mo_length : Int32) (mo_at : Int32) (mo_faultAt : Int32) (mo_parts : Int32) (mo_entries : Int32) (mo_stories : Nat → Int32) (mo_ringEarth : Int32) (mo_lead : Int32) (mo_ring : Int32) (mo_jumpMany : Int32) (mo_curveEnd : Int32) (mo_beds : Int32) (mo_all : Int64) (a1 : Int32) (a2 : Int32) (a3 : Int32) (R : Int32 × (Nat → Int32)) (p : Program) (e : Env) (s : State) (m : MethodId) (below : List Frame) (meth : Method) (c : Code) (A : Nat → Prop) (H : Heap) (locs : List Loc) (g : JFrame) : Prop := W p l e ({ frames := 4, cells := 0, slots := 0, locals := 96 }) s m ([.ref (mo 0), .int a1, .int a2, .int a3] : List Value).toArray below meth c H locs 0 0 (MQ below (rwQ G (some (.int R.1)) [(oX11 mo mo_length mo_at mo_faultAt mo_parts mo_entries mo_ringEarth mo_lead mo_ring mo_jumpMany mo_curveEnd mo_beds mo_all), (wI G (mo 2) 12 mo_laws), (wI G (mo 6) 400 R.2)] A) ([.ref (mo 0), .int a1, .int a2, .int a3] : List Value).toArray s 0 0 A) g
set_option maxHeartbeats 4000000 in
set_option maxRecDepth 100000 in
theorem c_X11_lived (l : Launch) (G : TG) (mo : Nat → Nat) (mo_laws : Nat → Int32) (mo_length : Int32) (mo_at : Int32) (mo_faultAt : Int32) (mo_parts : Int32) (mo_entries : Int32) (mo_stories : Nat → Int32) (mo_ringEarth : Int32) (mo_lead : Int32) (mo_ring : Int32) (mo_jumpMany : Int32) (mo_curveEnd : Int32) (mo_beds : Int32) (mo_all : Int64) (a1 : Int32) (a2 : Int32) (a3 : Int32) (R : Int32 × (Nat → Int32)) (hf : f_X11_lived mo_laws mo_stories a1 a2 a3 = some R) : RW l yX11_lived cX11_lived 7 (some .int) ({ frames := 4, cells := 0, slots := 0, locals := 96 }) G [.ref (mo 0), .int a1, .int a2, .int a3] [(oX11 mo mo_length mo_at mo_faultAt mo_parts mo_entries mo_ringEarth mo_lead mo_ring mo_jumpMany mo_curveEnd mo_beds mo_all), (wI G (mo 2) 12 mo_laws), (wI G (mo 6) 400 mo_stories)] (some (.int R.1)) [(oX11 mo mo_length mo_at mo_faultAt mo_parts mo_entries mo_ringEarth mo_lead mo_ring mo_jumpMany mo_curveEnd mo_beds mo_all), (wI G (mo 2) 12 mo_laws), (wI G (mo 6) 400 R.2)] := by
  refine RW.mk (by decide +kernel) (Nat.le_of_ble_eq_true rfl) ?_
  intro p e s m below meth c ls A C hP hD hA hz hK hl hS
  have hx := C.1
  have hb := C.2.1
  have hown : s.vm.findClass RX11 = some m.cls := C.2.2.2.2.2.1
  have ht := C.2.2.2.2.2.2
  have hl : lv_has ls 7 [(0, .ref (mo 0)), (1, .int a1), (2, .int a2), (3, .int a3)] := hl
  show Wc_X11_lived l G mo mo_laws mo_length mo_at mo_faultAt mo_parts mo_entries mo_stories mo_ringEarth mo_lead mo_ring mo_jumpMany mo_curveEnd mo_beds mo_all a1 a2 a3 R p e s m below meth c A s.heap [] (F0 m 0 ls [])
  obtain ⟨H, eH, hP, hS⟩ : ∃ H, H = s.heap ∧ va_P G.1 vwCl [(oX11 mo mo_length mo_at mo_faultAt mo_parts mo_entries mo_ringEarth mo_lead mo_ring mo_jumpMany mo_curveEnd mo_beds mo_all), (wI G (mo 2) 12 mo_laws), (wI G (mo 6) 400 mo_stories)] H ∧ va_S A s.heap H [] := ⟨_, rfl, hP, hS⟩
  obtain ⟨locs, el, hS⟩ : ∃ locs : List Loc, locs = [] ∧ va_S A s.heap H locs := ⟨_, rfl, hS⟩
  have key : Wc_X11_lived l G mo mo_laws mo_length mo_at mo_faultAt mo_parts mo_entries mo_stories mo_ringEarth mo_lead mo_ring mo_jumpMany mo_curveEnd mo_beds mo_all a1 a2 a3 R p e s m below meth c A H locs (F0 m 0 ls []) := by
    refine lv_iload_n hx hb dX11_lived_0 rfl (lv_at hl 1 rfl) ?_
    obtain ⟨q1, r1, hf⟩ := bd_s hf
    refine ro_S (n := 1) (As := [.int a1]) (rest := []) (c_X11_isStory l G a1 q1 r1) C (hK.at hS hz) (hP.sub [] rfl) hl kcode_X11_isStory kml_X11_117 kst_X11_isStory kini_X11 (by decide +kernel) ⟨⟨rfl, rfl⟩, Nat.le_of_ble_eq_true rfl, Nat.le_of_ble_eq_true rfl⟩ ⟨Nat.zero_le _, Nat.zero_le _⟩ rfl rfl (Nat.le_of_ble_eq_true rfl) dX11_lived_1 rfl ?_
    refine lv_if_ne (tgt := 9) hx hb dX11_lived_4 (by decide) (fun c2 => ?_) (fun c2 => ?_)
    · have hf := o_f c2 hf
      refine lv_iload_n hx hb dX11_lived_9 rfl (lv_at hl 2 rfl) ?_
      refine lv_iload_n hx hb dX11_lived_10 rfl (lv_at hl 3 rfl) ?_
      obtain ⟨q3, r3, hf⟩ := bd_s hf
      refine ro_S (n := 2) (As := [.int a2, .int a3]) (rest := []) (c_X11_isEarth l G a2 a3 q3 r3) C (hK.at hS hz) (hP.sub [] rfl) hl kcode_X11_isEarth kml_X11_124 kst_X11_isEarth kini_X11 (by decide +kernel) ⟨⟨rfl, rfl⟩, Nat.le_of_ble_eq_true rfl, Nat.le_of_ble_eq_true rfl⟩ ⟨Nat.zero_le _, Nat.zero_le _⟩ rfl rfl (Nat.le_of_ble_eq_true rfl) dX11_lived_11 rfl ?_
      refine lv_if_ne (tgt := 20) hx hb dX11_lived_14 (by decide) (fun c4 => ?_) (fun c4 => ?_)
      · have hf := o_f c4 hf
        refine lv_bipush (v := 100) hx hb dX11_lived_20 (by decide) ?_
        refine lv_iload_n hx hb dX11_lived_22 rfl (lv_at hl 2 rfl) ?_
        refine lv_imul hx hb dX11_lived_23 ?_
        refine lv_iload_n hx hb dX11_lived_24 rfl (lv_at hl 3 rfl) ?_
        refine lv_iadd hx hb dX11_lived_25 ?_
        refine lv_istore (lv' := [(4, .int (((100 : Int32) * a2) + a3)), (0, .ref (mo 0)), (1, .int a1), (2, .int a2), (3, .int a3)]) hx hb dX11_lived_26 hl (by decide) rfl (fun ls hl => ?_)
        refine lv_iconst (v := 0) hx hb dX11_lived_28 (by decide) ?_
        refine lv_istore (lv' := [(5, .int (0 : Int32)), (4, .int (((100 : Int32) * a2) + a3)), (0, .ref (mo 0)), (1, .int a1), (2, .int a2), (3, .int a3)]) hx hb dX11_lived_29 hl (by decide) rfl (fun ls hl => ?_)
        refine lv_iconst (v := 0) hx hb dX11_lived_31 (by decide) ?_
        refine lv_istore (lv' := [(6, .int (0 : Int32)), (5, .int (0 : Int32)), (4, .int (((100 : Int32) * a2) + a3)), (0, .ref (mo 0)), (1, .int a1), (2, .int a2), (3, .int a3)]) hx hb dX11_lived_32 hl (by decide) rfl (fun ls hl => ?_)
        have hx92_5 : ∀ (v5 : Int32) (mo_stories : Nat → Int32) (H : Heap) (locs : List Loc) (ls : Array Slot), f_X11_lived_x92_5 v5 mo_stories = some R → va_P G.1 vwCl [(oX11 mo mo_length mo_at mo_faultAt mo_parts mo_entries mo_ringEarth mo_lead mo_ring mo_jumpMany mo_curveEnd mo_beds mo_all), (wI G (mo 2) 12 mo_laws), (wI G (mo 6) 400 mo_stories)] H → va_D A [(oX11 mo mo_length mo_at mo_faultAt mo_parts mo_entries mo_ringEarth mo_lead mo_ring mo_jumpMany mo_curveEnd mo_beds mo_all), (wI G (mo 2) 12 mo_laws), (wI G (mo 6) 400 mo_stories)] → va_S A s.heap H locs → lv_has ls 7 [(5, .int v5)] → Wc_X11_lived l G mo mo_laws mo_length mo_at mo_faultAt mo_parts mo_entries mo_stories mo_ringEarth mo_lead mo_ring mo_jumpMany mo_curveEnd mo_beds mo_all a1 a2 a3 R p e s m below meth c A H locs (F0 m 92 ls []) := by
          intro v5 mo_stories H locs ls hf hP hD hS hl
          refine lv_iload hx hb dX11_lived_92 (lv_at hl 0 rfl) ?_
          have h9 := Option.some.inj hf
          subst h9
          exact rw_iret C rfl hP hD hS dX11_lived_94
        obtain ⟨rL5, hL5, hk5⟩ := bd_s hf
        refine lp_W (P := fun st => ∀ (H : Heap) (locs : List Loc) (ls : Array Slot), va_P G.1 vwCl [(oX11 mo mo_length mo_at mo_faultAt mo_parts mo_entries mo_ringEarth mo_lead mo_ring mo_jumpMany mo_curveEnd mo_beds mo_all), (wI G (mo 2) 12 mo_laws), (wI G (mo 6) 400 st.2.2.2)] H → va_D A [(oX11 mo mo_length mo_at mo_faultAt mo_parts mo_entries mo_ringEarth mo_lead mo_ring mo_jumpMany mo_curveEnd mo_beds mo_all), (wI G (mo 2) 12 mo_laws), (wI G (mo 6) 400 st.2.2.2)] → va_S A s.heap H locs → lv_has ls 7 [(0, .ref (mo 0)), (1, .int a1), (4, .int st.1), (5, .int st.2.1), (6, .int st.2.2.1)] → Wc_X11_lived l G mo mo_laws mo_length mo_at mo_faultAt mo_parts mo_entries mo_stories mo_ringEarth mo_lead mo_ring mo_jumpMany mo_curveEnd mo_beds mo_all a1 a2 a3 R p e s m below meth c A H locs (F0 m 34 ls [])) ?_ FU ((((100 : Int32) * a2) + a3), (0 : Int32), (0 : Int32), mo_stories) hL5 H locs ls hP hD hS (lv_sub hl [3, 4, 2, 1, 0] rfl)
        intro ⟨v4, v5, v6, mo_stories⟩ oc5 hf hI hE H locs ls hP hD hS hl
        have hP : va_P G.1 vwCl [(oX11 mo mo_length mo_at mo_faultAt mo_parts mo_entries mo_ringEarth mo_lead mo_ring mo_jumpMany mo_curveEnd mo_beds mo_all), (wI G (mo 2) 12 mo_laws), (wI G (mo 6) 400 mo_stories)] H := hP
        have hD : va_D A [(oX11 mo mo_length mo_at mo_faultAt mo_parts mo_entries mo_ringEarth mo_lead mo_ring mo_jumpMany mo_curveEnd mo_beds mo_all), (wI G (mo 2) 12 mo_laws), (wI G (mo 6) 400 mo_stories)] := hD
        have hl : lv_has ls 7 [(0, .ref (mo 0)), (1, .int a1), (4, .int v4), (5, .int v5), (6, .int v6)] := hl
        have hf : f_X11_lived_b34 mo_laws a1 v4 v5 v6 mo_stories = some oc5 := hf
        have hj75 : ∀ (v4 : Int32) (v6 : Int32) (k0 : Int32) (k1 : Int32) (mo_stories : Nat → Int32) (H : Heap) (locs : List Loc) (ls : Array Slot), f_X11_lived_j75 mo_laws v4 v6 k0 k1 mo_stories = some oc5 → va_P G.1 vwCl [(oX11 mo mo_length mo_at mo_faultAt mo_parts mo_entries mo_ringEarth mo_lead mo_ring mo_jumpMany mo_curveEnd mo_beds mo_all), (wI G (mo 2) 12 mo_laws), (wI G (mo 6) 400 mo_stories)] H → va_D A [(oX11 mo mo_length mo_at mo_faultAt mo_parts mo_entries mo_ringEarth mo_lead mo_ring mo_jumpMany mo_curveEnd mo_beds mo_all), (wI G (mo 2) 12 mo_laws), (wI G (mo 6) 400 mo_stories)] → va_S A s.heap H locs → lv_has ls 7 [(0, .ref (mo 0)), (1, .int a1), (4, .int v4), (6, .int v6)] → Wc_X11_lived l G mo mo_laws mo_length mo_at mo_faultAt mo_parts mo_entries mo_stories mo_ringEarth mo_lead mo_ring mo_jumpMany mo_curveEnd mo_beds mo_all a1 a2 a3 R p e s m below meth c A H locs (F0 m 75 ls [.int k1, .int k0]) := by
          intro v4 v6 k0 k1 mo_stories H locs ls hf hP hD hS hl
          refine lv_iadd hx hb dX11_lived_75 ?_
          refine lv_istore (lv' := [(5, .int (k0 + k1)), (0, .ref (mo 0)), (1, .int a1), (4, .int v4), (6, .int v6)]) hx hb dX11_lived_76 hl (by decide) rfl (fun ls hl => ?_)
          refine lv_aload_n hx hb dX11_lived_78 rfl (lv_at hl 1 rfl) ?_
          refine lv_iload hx hb dX11_lived_79 (lv_at hl 3 rfl) ?_
          obtain ⟨q7, r7, hf⟩ := bd_s hf
          refine ro_V (n := 1) (As := [.int v4]) (rest := []) (c_X11_roundOf l G mo mo_laws mo_length mo_at mo_faultAt mo_parts mo_entries mo_ringEarth mo_lead mo_ring mo_jumpMany mo_curveEnd mo_beds mo_all v4 q7 r7) C (hK.at hS hz) (hP.sub [0, 1] rfl) hl kcode_X11_roundOf kml_X11_128 kim_X11_roundOf ksel_X11_roundOf kini_X11 (by decide +kernel) ⟨⟨rfl, rfl⟩, Nat.le_of_ble_eq_true rfl, Nat.le_of_ble_eq_true rfl⟩ ⟨Nat.zero_le _, Nat.zero_le _⟩ rfl rfl rfl rfl rfl (Nat.le_of_ble_eq_true rfl) dX11_lived_81 rfl ?_
          refine lv_istore (lv' := [(4, .int q7), (5, .int (k0 + k1)), (0, .ref (mo 0)), (1, .int a1), (6, .int v6)]) hx hb dX11_lived_84 hl (by decide) rfl (fun ls hl => ?_)
          refine lv_iinc (v := (v6 + (1 : Int32))) (lv' := [(6, .int (v6 + (1 : Int32))), (4, .int q7), (5, .int (k0 + k1)), (0, .ref (mo 0)), (1, .int a1)]) hx hb dX11_lived_86 hl (k := 4) rfl (by rfl) (by decide) rfl (fun ls hl => ?_)
          refine lv_goto (tgt := 34) hx hb dX11_lived_89 (by decide) ?_
          cases hf
          exact hI _ rfl H locs ls hP hD hS (lv_sub hl [3, 4, 1, 2, 0] rfl)
        refine lv_iload hx hb dX11_lived_34 (lv_at hl 4 rfl) ?_
        refine lv_bipush (v := 100) hx hb dX11_lived_36 (by decide) ?_
        refine lv_icmp_ge (tgt := 92) hx hb dX11_lived_38 (by decide) (fun c8 => ?_) (fun c8 => ?_)
        · have hf := o_t c8 hf
          cases hf
          have hf : f_X11_lived_x92_5 v5 mo_stories = some R := by have h9 := hk5; rw [← hE _ rfl] at h9; exact h9
          exact hx92_5 v5 mo_stories H locs ls hf hP hD hS (lv_sub hl [3] rfl)
        · have hf := o_f c8 hf
          refine lv_aload_n hx hb dX11_lived_41 rfl (lv_at hl 0 rfl) ?_
          refine va_get (D := G.1) (ci := 11) (v := .ref (mo 6)) (C := RX11) (T := TX11) (N := 29) hx hb ht twX11 hown hK.1 hP 0 rfl rfl 10 (by decide) (ht _ kfl_X11_25) (fun _ h9 => h9) rfl dX11_lived_42 ?_
          refine lv_bipush (v := 100) hx hb dX11_lived_45 (by decide) ?_
          refine lv_iload_n hx hb dX11_lived_47 rfl (lv_at hl 1 rfl) ?_
          refine lv_imul hx hb dX11_lived_48 ?_
          refine lv_iload hx hb dX11_lived_49 (lv_at hl 4 rfl) ?_
          refine lv_iadd hx hb dX11_lived_51 ?_
          refine lv_iload hx hb dX11_lived_52 (lv_at hl 2 rfl) ?_
          refine lv_bipush (v := 100) hx hb dX11_lived_54 (by decide) ?_
          obtain ⟨n9, hf⟩ := dz_s hf
          refine lv_idiv hx hb dX11_lived_56 n9 ?_
          obtain ⟨g10, hf⟩ := gd_s hf
          refine va_iast hx hb hK.1 hP hD hS 2 0 rfl rfl g10 dX11_lived_57 (fun H locs hP hD hS => ?_)
          have hP : va_P G.1 vwCl [(oX11 mo mo_length mo_at mo_faultAt mo_parts mo_entries mo_ringEarth mo_lead mo_ring mo_jumpMany mo_curveEnd mo_beds mo_all), (wI G (mo 2) 12 mo_laws), (wI G (mo 6) 400 (upd mo_stories (((100 : Int32) * a1) + v6).toNatClampNeg (v4 / (100 : Int32))))] H := hP
          have hD : va_D A [(oX11 mo mo_length mo_at mo_faultAt mo_parts mo_entries mo_ringEarth mo_lead mo_ring mo_jumpMany mo_curveEnd mo_beds mo_all), (wI G (mo 2) 12 mo_laws), (wI G (mo 6) 400 (upd mo_stories (((100 : Int32) * a1) + v6).toNatClampNeg (v4 / (100 : Int32))))] := hD
          refine lv_iload hx hb dX11_lived_58 (lv_at hl 3 rfl) ?_
          refine lv_iload hx hb dX11_lived_60 (lv_at hl 2 rfl) ?_
          refine lv_bipush (v := 100) hx hb dX11_lived_62 (by decide) ?_
          obtain ⟨n11, hf⟩ := dz_s hf
          refine lv_idiv hx hb dX11_lived_64 n11 ?_
          refine lv_bipush (v := 63) hx hb dX11_lived_65 (by decide) ?_
          refine lv_icmp_ne (tgt := 74) hx hb dX11_lived_67 (by decide) (fun c12 => ?_) (fun c12 => ?_)
          · have hf := o_f c12 hf
            refine lv_iconst (v := 0) hx hb dX11_lived_74 (by decide) ?_
            exact hj75 v4 v6 v5 (0 : Int32) (upd mo_stories (((100 : Int32) * a1) + v6).toNatClampNeg (v4 / (100 : Int32))) H locs ls hf hP hD hS (lv_sub hl [0, 1, 2, 4] rfl)
          · have hf := o_t c12 hf
            refine lv_iconst (v := 1) hx hb dX11_lived_70 (by decide) ?_
            refine lv_goto (tgt := 75) hx hb dX11_lived_71 (by decide) ?_
            exact hj75 v4 v6 v5 (1 : Int32) (upd mo_stories (((100 : Int32) * a1) + v6).toNatClampNeg (v4 / (100 : Int32))) H locs ls hf hP hD hS (lv_sub hl [0, 1, 2, 4] rfl)
      · have hf := o_t c4 hf
        refine lv_bipush (v := -2) hx hb dX11_lived_17 (by decide) ?_
        have h9 := Option.some.inj hf
        subst h9
        exact rw_iret C rfl hP hD hS dX11_lived_19
    · have hf := o_t c2 hf
      refine lv_iconst (v := -1) hx hb dX11_lived_7 (by decide) ?_
      have h9 := Option.some.inj hf
      subst h9
      exact rw_iret C rfl hP hD hS dX11_lived_8
  rw [eH, el] at key
  exact key
abbrev Wc_X11_at (l : Launch) (G : TG) (mo : Nat → Nat) (mo_length : Int32) (mo_at : Int32) (mo_faultAt : Int32) (mo_parts : Int32) (mo_entries : Int32) (mo_stories : Nat → Int32) (mo_ringEarth : Int32) (mo_lead : Int32) (mo_ring : Int32) (mo_jumpMany : Int32) (mo_curveEnd : Int32) (mo_beds : Int32) (mo_all : Int64) (a1 : Int32) (a2 : Int32) (R : Int32) (p : Program) (e : Env) (s : State) (m : MethodId) (below : List Frame) (meth : Method) (c : Code) (H : Heap) (locs : List Loc) (g : JFrame) : Prop := W p l e ({ frames := 2, cells := 0, slots := 0, locals := 45 }) s m ([.ref (mo 0), .int a1, .int a2] : List Value).toArray below meth c H locs 0 0 (MQ below (roQ (some (.int R))) ([.ref (mo 0), .int a1, .int a2] : List Value).toArray s 0 0 (fun _ => False)) g
set_option maxHeartbeats 4000000 in
set_option maxRecDepth 100000 in
theorem c_X11_at (l : Launch) (G : TG) (mo : Nat → Nat) (mo_length : Int32) (mo_at : Int32) (mo_faultAt : Int32) (mo_parts : Int32) (mo_entries : Int32) (mo_stories : Nat → Int32) (mo_ringEarth : Int32) (mo_lead : Int32) (mo_ring : Int32) (mo_jumpMany : Int32) (mo_curveEnd : Int32) (mo_beds : Int32) (mo_all : Int64) (a1 : Int32) (a2 : Int32) (R : Int32) (hf : f_X11_at mo_stories a1 a2 = some R) : RO l yX11_at cX11_at 3 (some .int) ({ frames := 2, cells := 0, slots := 0, locals := 45 }) G [.ref (mo 0), .int a1, .int a2] [(oX11 mo mo_length mo_at mo_faultAt mo_parts mo_entries mo_ringEarth mo_lead mo_ring mo_jumpMany mo_curveEnd mo_beds mo_all), (wI G (mo 6) 400 mo_stories)] (some (.int R)) := by
  refine RO.mk (by decide +kernel) (Nat.le_of_ble_eq_true rfl) ?_
  intro p e s m below meth c ls C hP hK hl
  have hx := C.1
  have hb := C.2.1
  have hown : s.vm.findClass RX11 = some m.cls := C.2.2.2.2.2.1
  have ht := C.2.2.2.2.2.2
  have hl : lv_has ls 3 [(0, .ref (mo 0)), (1, .int a1), (2, .int a2)] := hl
  show Wc_X11_at l G mo mo_length mo_at mo_faultAt mo_parts mo_entries mo_stories mo_ringEarth mo_lead mo_ring mo_jumpMany mo_curveEnd mo_beds mo_all a1 a2 R p e s m below meth c s.heap [] (F0 m 0 ls [])
  refine lv_iload_n hx hb dX11_at_0 rfl (lv_at hl 1 rfl) ?_
  obtain ⟨q1, r1, hf⟩ := bd_s hf
  refine ro_S (n := 1) (As := [.int a1]) (rest := []) (c_X11_isStory l G a1 q1 r1) C hK (hP.sub [] rfl) hl kcode_X11_isStory kml_X11_117 kst_X11_isStory kini_X11 (by decide +kernel) ⟨⟨rfl, rfl⟩, Nat.le_of_ble_eq_true rfl, Nat.le_of_ble_eq_true rfl⟩ ⟨Nat.zero_le _, Nat.zero_le _⟩ rfl rfl (Nat.le_of_ble_eq_true rfl) dX11_at_1 rfl ?_
  refine lv_if_ne (tgt := 9) hx hb dX11_at_4 (by decide) (fun c2 => ?_) (fun c2 => ?_)
  · have hf := o_f c2 hf
    refine lv_iload_n hx hb dX11_at_9 rfl (lv_at hl 2 rfl) ?_
    refine lv_i2l (v := (a2.toInt64)) hx hb dX11_at_10 rfl ?_
    refine lv_lconst (v := 0) hx hb dX11_at_11 (by decide) ?_
    refine lv_ldc2 hx hb hown (ht _ kcL_X11_122) dX11_at_12 ?_
    obtain ⟨q3, r3, hf⟩ := bd_s hf
    refine ro_S (n := 3) (As := [.long (a2.toInt64), .long (0 : Int64), .long (99 : Int64)]) (rest := []) (c_X11_in l G (a2.toInt64) (0 : Int64) (99 : Int64) q3 r3) C hK (hP.sub [] rfl) hl kcode_X11_in kml_X11_65 kst_X11_in kini_X11 (by decide +kernel) ⟨⟨rfl, rfl⟩, Nat.le_of_ble_eq_true rfl, Nat.le_of_ble_eq_true rfl⟩ ⟨Nat.zero_le _, Nat.zero_le _⟩ rfl rfl (Nat.le_of_ble_eq_true rfl) dX11_at_15 rfl ?_
    refine lv_if_eq (tgt := 35) hx hb dX11_at_18 (by decide) (fun c4 => ?_) (fun c4 => ?_)
    · have hf := o_t c4 hf
      refine lv_bipush (v := -2) hx hb dX11_at_35 (by decide) ?_
      have h9 := Option.some.inj hf
      subst h9
      exact ro_iret C rfl dX11_at_37
    · have hf := o_f c4 hf
      refine lv_aload_n hx hb dX11_at_21 rfl (lv_at hl 0 rfl) ?_
      refine va_get (D := G.1) (ci := 11) (v := .ref (mo 6)) (C := RX11) (T := TX11) (N := 29) hx hb ht twX11 hown hK.1 hP 0 rfl rfl 10 (by decide) (ht _ kfl_X11_25) (fun _ h9 => h9) rfl dX11_at_22 ?_
      refine lv_bipush (v := 100) hx hb dX11_at_25 (by decide) ?_
      refine lv_iload_n hx hb dX11_at_27 rfl (lv_at hl 1 rfl) ?_
      refine lv_imul hx hb dX11_at_28 ?_
      refine lv_iload_n hx hb dX11_at_29 rfl (lv_at hl 2 rfl) ?_
      refine lv_iadd hx hb dX11_at_30 ?_
      obtain ⟨g6, hf⟩ := gd_s hf
      refine va_iald hx hb hK.1 hP 1 0 rfl rfl g6 dX11_at_31 ?_
      refine lv_goto (tgt := 37) hx hb dX11_at_32 (by decide) ?_
      have h9 := Option.some.inj hf
      subst h9
      exact ro_iret C rfl dX11_at_37
  · have hf := o_t c2 hf
    refine lv_iconst (v := -1) hx hb dX11_at_7 (by decide) ?_
    have h9 := Option.some.inj hf
    subst h9
    exact ro_iret C rfl dX11_at_8
abbrev Wc_X11_warmth (l : Launch) (G : TG) (mo : Nat → Nat) (mo_laws : Nat → Int32) (mo_length : Int32) (mo_at : Int32) (mo_faultAt : Int32) (mo_parts : Int32) (mo_entries : Int32) (mo_ringEarth : Int32) (mo_lead : Int32) (mo_ring : Int32) (mo_jumpMany : Int32) (mo_curveEnd : Int32) (mo_beds : Int32) (mo_all : Int64) (a1 : Int32) (a2 : Int32) (a3 : Int32) (R : Int32) (p : Program) (e : Env) (s : State) (m : MethodId) (below : List Frame) (meth : Method) (c : Code) (H : Heap) (locs : List Loc) (g : JFrame) : Prop := W p l e ({ frames := 2, cells := 0, slots := 0, locals := 46 }) s m ([.ref (mo 0), .int a1, .int a2, .int a3] : List Value).toArray below meth c H locs 0 0 (MQ below (roQ (some (.int R))) ([.ref (mo 0), .int a1, .int a2, .int a3] : List Value).toArray s 0 0 (fun _ => False)) g
set_option maxHeartbeats 4000000 in
set_option maxRecDepth 100000 in
theorem c_X11_warmth (l : Launch) (G : TG) (mo : Nat → Nat) (mo_laws : Nat → Int32) (mo_length : Int32) (mo_at : Int32) (mo_faultAt : Int32) (mo_parts : Int32) (mo_entries : Int32) (mo_ringEarth : Int32) (mo_lead : Int32) (mo_ring : Int32) (mo_jumpMany : Int32) (mo_curveEnd : Int32) (mo_beds : Int32) (mo_all : Int64) (a1 : Int32) (a2 : Int32) (a3 : Int32) (R : Int32) (hf : f_X11_warmth mo_laws a1 a2 a3 = some R) : RO l yX11_warmth cX11_warmth 4 (some .int) ({ frames := 2, cells := 0, slots := 0, locals := 46 }) G [.ref (mo 0), .int a1, .int a2, .int a3] [(oX11 mo mo_length mo_at mo_faultAt mo_parts mo_entries mo_ringEarth mo_lead mo_ring mo_jumpMany mo_curveEnd mo_beds mo_all), (wI G (mo 2) 12 mo_laws)] (some (.int R)) := by
  refine RO.mk (by decide +kernel) (Nat.le_of_ble_eq_true rfl) ?_
  intro p e s m below meth c ls C hP hK hl
  have hx := C.1
  have hb := C.2.1
  have hown : s.vm.findClass RX11 = some m.cls := C.2.2.2.2.2.1
  have ht := C.2.2.2.2.2.2
  have hl : lv_has ls 4 [(0, .ref (mo 0)), (1, .int a1), (2, .int a2), (3, .int a3)] := hl
  show Wc_X11_warmth l G mo mo_laws mo_length mo_at mo_faultAt mo_parts mo_entries mo_ringEarth mo_lead mo_ring mo_jumpMany mo_curveEnd mo_beds mo_all a1 a2 a3 R p e s m below meth c s.heap [] (F0 m 0 ls [])
  refine lv_iload_n hx hb dX11_warmth_0 rfl (lv_at hl 1 rfl) ?_
  refine lv_i2l (v := (a1.toInt64)) hx hb dX11_warmth_1 rfl ?_
  refine lv_lconst (v := 0) hx hb dX11_warmth_2 (by decide) ?_
  refine lv_ldc2 hx hb hown (ht _ kcL_X11_145) dX11_warmth_3 ?_
  obtain ⟨q1, r1, hf⟩ := bd_s hf
  refine ro_S (n := 3) (As := [.long (a1.toInt64), .long (0 : Int64), .long (5 : Int64)]) (rest := []) (c_X11_in l G (a1.toInt64) (0 : Int64) (5 : Int64) q1 r1) C hK (hP.sub [] rfl) hl kcode_X11_in kml_X11_65 kst_X11_in kini_X11 (by decide +kernel) ⟨⟨rfl, rfl⟩, Nat.le_of_ble_eq_true rfl, Nat.le_of_ble_eq_true rfl⟩ ⟨Nat.zero_le _, Nat.zero_le _⟩ rfl rfl (Nat.le_of_ble_eq_true rfl) dX11_warmth_6 rfl ?_
  refine lv_if_ne (tgt := 14) hx hb dX11_warmth_9 (by decide) (fun c2 => ?_) (fun c2 => ?_)
  · have hf := o_f c2 hf
    refine lv_iload_n hx hb dX11_warmth_14 rfl (lv_at hl 2 rfl) ?_
    refine lv_iload_n hx hb dX11_warmth_15 rfl (lv_at hl 3 rfl) ?_
    obtain ⟨q3, r3, hf⟩ := bd_s hf
    refine ro_S (n := 2) (As := [.int a2, .int a3]) (rest := []) (c_X11_isEarth l G a2 a3 q3 r3) C hK (hP.sub [] rfl) hl kcode_X11_isEarth kml_X11_124 kst_X11_isEarth kini_X11 (by decide +kernel) ⟨⟨rfl, rfl⟩, Nat.le_of_ble_eq_true rfl, Nat.le_of_ble_eq_true rfl⟩ ⟨Nat.zero_le _, Nat.zero_le _⟩ rfl rfl (Nat.le_of_ble_eq_true rfl) dX11_warmth_16 rfl ?_
    refine lv_if_eq (tgt := 32) hx hb dX11_warmth_19 (by decide) (fun c4 => ?_) (fun c4 => ?_)
    · have hf := o_t c4 hf
      refine lv_bipush (v := -2) hx hb dX11_warmth_32 (by decide) ?_
      have h9 := Option.some.inj hf
      subst h9
      exact ro_iret C rfl dX11_warmth_34
    · have hf := o_f c4 hf
      refine lv_aload_n hx hb dX11_warmth_22 rfl (lv_at hl 0 rfl) ?_
      refine lv_iload_n hx hb dX11_warmth_23 rfl (lv_at hl 1 rfl) ?_
      refine lv_iload_n hx hb dX11_warmth_24 rfl (lv_at hl 2 rfl) ?_
      refine lv_iload_n hx hb dX11_warmth_25 rfl (lv_at hl 3 rfl) ?_
      obtain ⟨q6, r6, hf⟩ := bd_s hf
      refine ro_V (n := 3) (As := [.int a1, .int a2, .int a3]) (rest := []) (c_X11_warmthOf l G mo mo_laws mo_length mo_at mo_faultAt mo_parts mo_entries mo_ringEarth mo_lead mo_ring mo_jumpMany mo_curveEnd mo_beds mo_all a1 a2 a3 q6 r6) C hK (hP.sub [0, 1] rfl) hl kcode_X11_warmthOf kml_X11_135 kim_X11_warmthOf ksel_X11_warmthOf kini_X11 (by decide +kernel) ⟨⟨rfl, rfl⟩, Nat.le_of_ble_eq_true rfl, Nat.le_of_ble_eq_true rfl⟩ ⟨Nat.zero_le _, Nat.zero_le _⟩ rfl rfl rfl rfl rfl (Nat.le_of_ble_eq_true rfl) dX11_warmth_26 rfl ?_
      refine lv_goto (tgt := 34) hx hb dX11_warmth_29 (by decide) ?_
      have h9 := Option.some.inj hf
      subst h9
      exact ro_iret C rfl dX11_warmth_34
  · have hf := o_t c2 hf
    refine lv_iconst (v := -1) hx hb dX11_warmth_12 (by decide) ?_
    have h9 := Option.some.inj hf
    subst h9
    exact ro_iret C rfl dX11_warmth_13
