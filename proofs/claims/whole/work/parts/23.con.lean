abbrev Wc_X11_round (l : Launch) (G : TG) (mo : Nat → Nat) (mo_laws : Nat → Int32) (mo_length : Int32) (mo_at : Int32) (mo_faultAt : Int32) (mo_parts : Int32) (mo_entries : Int32) (mo_ringEarth : Int32) (mo_lead : Int32) (mo_ring : Int32) (mo_jumpMany : Int32) (mo_curveEnd : Int32) (mo_beds : Int32) (mo_all : Int64) (a1 : Int32) (a2 : Int32) (R : Int32) (p : Program) (e : Env) (s : State) (m : MethodId) (below : List Frame) (meth : Method) (c : Code) (H : Heap) (locs : List Loc) (g : JFrame) : Prop := W p l e ({ frames := 4, cells := 0, slots := 0, locals := 96 }) s m ([.ref (mo 0), .int a1, .int a2] : List Value).toArray below meth c H locs 0 0 (MQ below (roQ (some (.int R))) ([.ref (mo 0), .int a1, .int a2] : List Value).toArray s 0 0 (fun _ => False)) g
set_option maxHeartbeats 4000000 in
set_option maxRecDepth 100000 in
theorem c_X11_round (l : Launch) (G : TG) (mo : Nat → Nat) (mo_laws : Nat → Int32) (mo_length : Int32) (mo_at : Int32) (mo_faultAt : Int32) (mo_parts : Int32) (mo_entries : Int32) (mo_ringEarth : Int32) (mo_lead : Int32) (mo_ring : Int32) (mo_jumpMany : Int32) (mo_curveEnd : Int32) (mo_beds : Int32) (mo_all : Int64) (a1 : Int32) (a2 : Int32) (R : Int32) (hf : f_X11_round mo_laws a1 a2 = some R) : RO l yX11_round cX11_round 3 (some .int) ({ frames := 4, cells := 0, slots := 0, locals := 96 }) G [.ref (mo 0), .int a1, .int a2] [(oX11 mo mo_length mo_at mo_faultAt mo_parts mo_entries mo_ringEarth mo_lead mo_ring mo_jumpMany mo_curveEnd mo_beds mo_all), (wI G (mo 2) 12 mo_laws)] (some (.int R)) := by
  refine RO.mk (by decide +kernel) (Nat.le_of_ble_eq_true rfl) ?_
  intro p e s m below meth c ls C hP hK hl
  have hx := C.1
  have hb := C.2.1
  have hown : s.vm.findClass RX11 = some m.cls := C.2.2.2.2.2.1
  have ht := C.2.2.2.2.2.2
  have hl : lv_has ls 3 [(0, .ref (mo 0)), (1, .int a1), (2, .int a2)] := hl
  show Wc_X11_round l G mo mo_laws mo_length mo_at mo_faultAt mo_parts mo_entries mo_ringEarth mo_lead mo_ring mo_jumpMany mo_curveEnd mo_beds mo_all a1 a2 R p e s m below meth c s.heap [] (F0 m 0 ls [])
  refine lv_iload_n hx hb dX11_round_0 rfl (lv_at hl 1 rfl) ?_
  refine lv_iload_n hx hb dX11_round_1 rfl (lv_at hl 2 rfl) ?_
  obtain ⟨q1, r1, hf⟩ := bd_s hf
  refine ro_S (n := 2) (As := [.int a1, .int a2]) (rest := []) (c_X11_isEarth l G a1 a2 q1 r1) C hK (hP.sub [] rfl) hl kcode_X11_isEarth kml_X11_124 kst_X11_isEarth kini_X11 (by decide +kernel) ⟨⟨rfl, rfl⟩, Nat.le_of_ble_eq_true rfl, Nat.le_of_ble_eq_true rfl⟩ ⟨Nat.zero_le _, Nat.zero_le _⟩ rfl rfl (Nat.le_of_ble_eq_true rfl) dX11_round_2 rfl ?_
  refine lv_if_eq (tgt := 21) hx hb dX11_round_5 (by decide) (fun c2 => ?_) (fun c2 => ?_)
  · have hf := o_t c2 hf
    refine lv_bipush (v := -2) hx hb dX11_round_21 (by decide) ?_
    have h9 := Option.some.inj hf
    subst h9
    exact ro_iret C rfl dX11_round_23
  · have hf := o_f c2 hf
    refine lv_aload_n hx hb dX11_round_8 rfl (lv_at hl 0 rfl) ?_
    refine lv_bipush (v := 100) hx hb dX11_round_9 (by decide) ?_
    refine lv_iload_n hx hb dX11_round_11 rfl (lv_at hl 1 rfl) ?_
    refine lv_imul hx hb dX11_round_12 ?_
    refine lv_iload_n hx hb dX11_round_13 rfl (lv_at hl 2 rfl) ?_
    refine lv_iadd hx hb dX11_round_14 ?_
    obtain ⟨q4, r4, hf⟩ := bd_s hf
    refine ro_V (n := 1) (As := [.int (((100 : Int32) * a1) + a2)]) (rest := []) (c_X11_roundOf l G mo mo_laws mo_length mo_at mo_faultAt mo_parts mo_entries mo_ringEarth mo_lead mo_ring mo_jumpMany mo_curveEnd mo_beds mo_all (((100 : Int32) * a1) + a2) q4 r4) C hK (hP.sub [0, 1] rfl) hl kcode_X11_roundOf kml_X11_128 kim_X11_roundOf ksel_X11_roundOf kini_X11 (by decide +kernel) ⟨⟨rfl, rfl⟩, Nat.le_of_ble_eq_true rfl, Nat.le_of_ble_eq_true rfl⟩ ⟨Nat.zero_le _, Nat.zero_le _⟩ rfl rfl rfl rfl rfl (Nat.le_of_ble_eq_true rfl) dX11_round_15 rfl ?_
    refine lv_goto (tgt := 23) hx hb dX11_round_18 (by decide) ?_
    have h9 := Option.some.inj hf
    subst h9
    exact ro_iret C rfl dX11_round_23
abbrev Wc_X11_after (l : Launch) (G : TG) (mo : Nat → Nat) (mo_laws : Nat → Int32) (mo_length : Int32) (mo_at : Int32) (mo_faultAt : Int32) (mo_parts : Int32) (mo_entries : Int32) (mo_ringEarth : Int32) (mo_lead : Int32) (mo_ring : Int32) (mo_jumpMany : Int32) (mo_curveEnd : Int32) (mo_beds : Int32) (mo_all : Int64) (a1 : Int32) (a2 : Int32) (a3 : Int32) (R : Int32) (p : Program) (e : Env) (s : State) (m : MethodId) (below : List Frame) (meth : Method) (c : Code) (H : Heap) (locs : List Loc) (g : JFrame) : Prop := W p l e ({ frames := 4, cells := 0, slots := 0, locals := 96 }) s m ([.ref (mo 0), .int a1, .int a2, .int a3] : List Value).toArray below meth c H locs 0 0 (MQ below (roQ (some (.int R))) ([.ref (mo 0), .int a1, .int a2, .int a3] : List Value).toArray s 0 0 (fun _ => False)) g
set_option maxHeartbeats 4000000 in
set_option maxRecDepth 100000 in
theorem c_X11_after (l : Launch) (G : TG) (mo : Nat → Nat) (mo_laws : Nat → Int32) (mo_length : Int32) (mo_at : Int32) (mo_faultAt : Int32) (mo_parts : Int32) (mo_entries : Int32) (mo_ringEarth : Int32) (mo_lead : Int32) (mo_ring : Int32) (mo_jumpMany : Int32) (mo_curveEnd : Int32) (mo_beds : Int32) (mo_all : Int64) (a1 : Int32) (a2 : Int32) (a3 : Int32) (R : Int32) (hf : f_X11_after mo_laws a1 a2 a3 = some R) : RO l yX11_after cX11_after 6 (some .int) ({ frames := 4, cells := 0, slots := 0, locals := 96 }) G [.ref (mo 0), .int a1, .int a2, .int a3] [(oX11 mo mo_length mo_at mo_faultAt mo_parts mo_entries mo_ringEarth mo_lead mo_ring mo_jumpMany mo_curveEnd mo_beds mo_all), (wI G (mo 2) 12 mo_laws)] (some (.int R)) := by
  refine RO.mk (by decide +kernel) (Nat.le_of_ble_eq_true rfl) ?_
  intro p e s m below meth c ls C hP hK hl
  have hx := C.1
  have hb := C.2.1
  have hown : s.vm.findClass RX11 = some m.cls := C.2.2.2.2.2.1
  have ht := C.2.2.2.2.2.2
  have hl : lv_has ls 6 [(0, .ref (mo 0)), (1, .int a1), (2, .int a2), (3, .int a3)] := hl
  show Wc_X11_after l G mo mo_laws mo_length mo_at mo_faultAt mo_parts mo_entries mo_ringEarth mo_lead mo_ring mo_jumpMany mo_curveEnd mo_beds mo_all a1 a2 a3 R p e s m below meth c s.heap [] (F0 m 0 ls [])
  refine lv_iload_n hx hb dX11_after_0 rfl (lv_at hl 1 rfl) ?_
  refine lv_iload_n hx hb dX11_after_1 rfl (lv_at hl 2 rfl) ?_
  obtain ⟨q1, r1, hf⟩ := bd_s hf
  refine ro_S (n := 2) (As := [.int a1, .int a2]) (rest := []) (c_X11_isEarth l G a1 a2 q1 r1) C hK (hP.sub [] rfl) hl kcode_X11_isEarth kml_X11_124 kst_X11_isEarth kini_X11 (by decide +kernel) ⟨⟨rfl, rfl⟩, Nat.le_of_ble_eq_true rfl, Nat.le_of_ble_eq_true rfl⟩ ⟨Nat.zero_le _, Nat.zero_le _⟩ rfl rfl (Nat.le_of_ble_eq_true rfl) dX11_after_2 rfl ?_
  refine lv_if_eq (tgt := 20) hx hb dX11_after_5 (by decide) (fun c2 => ?_) (fun c2 => ?_)
  · have hf := o_t c2 hf
    refine lv_bipush (v := -2) hx hb dX11_after_20 (by decide) ?_
    have h9 := Option.some.inj hf
    subst h9
    exact ro_iret C rfl dX11_after_22
  · have hf := o_f c2 hf
    refine lv_iload_n hx hb dX11_after_8 rfl (lv_at hl 3 rfl) ?_
    refine lv_i2l (v := (a3.toInt64)) hx hb dX11_after_9 rfl ?_
    refine lv_lconst (v := 0) hx hb dX11_after_10 (by decide) ?_
    refine lv_ldc2 hx hb hown (ht _ kcL_X11_147) dX11_after_11 ?_
    obtain ⟨q4, r4, hf⟩ := bd_s hf
    refine ro_S (n := 3) (As := [.long (a3.toInt64), .long (0 : Int64), .long (100000 : Int64)]) (rest := []) (c_X11_in l G (a3.toInt64) (0 : Int64) (100000 : Int64) q4 r4) C hK (hP.sub [] rfl) hl kcode_X11_in kml_X11_65 kst_X11_in kini_X11 (by decide +kernel) ⟨⟨rfl, rfl⟩, Nat.le_of_ble_eq_true rfl, Nat.le_of_ble_eq_true rfl⟩ ⟨Nat.zero_le _, Nat.zero_le _⟩ rfl rfl (Nat.le_of_ble_eq_true rfl) dX11_after_14 rfl ?_
    refine lv_if_ne (tgt := 23) hx hb dX11_after_17 (by decide) (fun c5 => ?_) (fun c5 => ?_)
    · have hf := o_f c5 hf
      refine lv_bipush (v := 100) hx hb dX11_after_23 (by decide) ?_
      refine lv_iload_n hx hb dX11_after_25 rfl (lv_at hl 1 rfl) ?_
      refine lv_imul hx hb dX11_after_26 ?_
      refine lv_iload_n hx hb dX11_after_27 rfl (lv_at hl 2 rfl) ?_
      refine lv_iadd hx hb dX11_after_28 ?_
      refine lv_istore (lv' := [(4, .int (((100 : Int32) * a1) + a2)), (0, .ref (mo 0)), (1, .int a1), (2, .int a2), (3, .int a3)]) hx hb dX11_after_29 hl (by decide) rfl (fun ls hl => ?_)
      refine lv_iconst (v := 0) hx hb dX11_after_31 (by decide) ?_
      refine lv_istore (lv' := [(5, .int (0 : Int32)), (4, .int (((100 : Int32) * a1) + a2)), (0, .ref (mo 0)), (1, .int a1), (2, .int a2), (3, .int a3)]) hx hb dX11_after_32 hl (by decide) rfl (fun ls hl => ?_)
      have hx54_6 : ∀ (v4 : Int32) (ls : Array Slot), f_X11_after_x54_6 v4 = some R → lv_has ls 6 [(4, .int v4)] → Wc_X11_after l G mo mo_laws mo_length mo_at mo_faultAt mo_parts mo_entries mo_ringEarth mo_lead mo_ring mo_jumpMany mo_curveEnd mo_beds mo_all a1 a2 a3 R p e s m below meth c s.heap [] (F0 m 54 ls []) := by
        intro v4 ls hf hl
        refine lv_iload hx hb dX11_after_54 (lv_at hl 0 rfl) ?_
        have h9 := Option.some.inj hf
        subst h9
        exact ro_iret C rfl dX11_after_56
      obtain ⟨rL6, hL6, hk6⟩ := bd_s hf
      refine lp_W (P := fun st => ∀ (ls : Array Slot), lv_has ls 6 [(0, .ref (mo 0)), (3, .int a3), (4, .int st.1), (5, .int st.2)] → Wc_X11_after l G mo mo_laws mo_length mo_at mo_faultAt mo_parts mo_entries mo_ringEarth mo_lead mo_ring mo_jumpMany mo_curveEnd mo_beds mo_all a1 a2 a3 R p e s m below meth c s.heap [] (F0 m 34 ls [])) ?_ FU ((((100 : Int32) * a1) + a2), (0 : Int32)) hL6 ls (lv_sub hl [2, 5, 1, 0] rfl)
      intro ⟨v4, v5⟩ oc6 hf hI hE ls hl
      have hl : lv_has ls 6 [(0, .ref (mo 0)), (3, .int a3), (4, .int v4), (5, .int v5)] := hl
      have hf : f_X11_after_b34 mo_laws a3 v4 v5 = some oc6 := hf
      refine lv_iload hx hb dX11_after_34 (lv_at hl 3 rfl) ?_
      refine lv_iload_n hx hb dX11_after_36 rfl (lv_at hl 1 rfl) ?_
      refine lv_icmp_ge (tgt := 54) hx hb dX11_after_37 (by decide) (fun c8 => ?_) (fun c8 => ?_)
      · have hf := o_t c8 hf
        cases hf
        have hf : f_X11_after_x54_6 v4 = some R := by have h9 := hk6; rw [← hE _ rfl] at h9; exact h9
        exact hx54_6 v4 ls hf (lv_sub hl [2] rfl)
      · have hf := o_f c8 hf
        refine lv_aload_n hx hb dX11_after_40 rfl (lv_at hl 0 rfl) ?_
        refine lv_iload hx hb dX11_after_41 (lv_at hl 2 rfl) ?_
        obtain ⟨q9, r9, hf⟩ := bd_s hf
        refine ro_V (n := 1) (As := [.int v4]) (rest := []) (c_X11_roundOf l G mo mo_laws mo_length mo_at mo_faultAt mo_parts mo_entries mo_ringEarth mo_lead mo_ring mo_jumpMany mo_curveEnd mo_beds mo_all v4 q9 r9) C hK (hP.sub [0, 1] rfl) hl kcode_X11_roundOf kml_X11_128 kim_X11_roundOf ksel_X11_roundOf kini_X11 (by decide +kernel) ⟨⟨rfl, rfl⟩, Nat.le_of_ble_eq_true rfl, Nat.le_of_ble_eq_true rfl⟩ ⟨Nat.zero_le _, Nat.zero_le _⟩ rfl rfl rfl rfl rfl (Nat.le_of_ble_eq_true rfl) dX11_after_43 rfl ?_
        refine lv_istore (lv' := [(4, .int q9), (0, .ref (mo 0)), (3, .int a3), (5, .int v5)]) hx hb dX11_after_46 hl (by decide) rfl (fun ls hl => ?_)
        refine lv_iinc (v := (v5 + (1 : Int32))) (lv' := [(5, .int (v5 + (1 : Int32))), (4, .int q9), (0, .ref (mo 0)), (3, .int a3)]) hx hb dX11_after_48 hl (k := 3) rfl (by rfl) (by decide) rfl (fun ls hl => ?_)
        refine lv_goto (tgt := 34) hx hb dX11_after_51 (by decide) ?_
        cases hf
        exact hI _ rfl ls (lv_sub hl [2, 3, 1, 0] rfl)
    · have hf := o_t c5 hf
      refine lv_bipush (v := -2) hx hb dX11_after_20 (by decide) ?_
      have h9 := Option.some.inj hf
      subst h9
      exact ro_iret C rfl dX11_after_22
abbrev Wc_X11_layRun (l : Launch) (G : TG) (mo : Nat → Nat) (mo_laws : Nat → Int32) (mo_length : Int32) (mo_at : Int32) (mo_faultAt : Int32) (mo_parts : Int32) (mo_entries : Int32) (mo_metAt : Nat → Int32) (mo_ringEarth : Int32) (mo_lead : Int32) (mo_ring : Int32) (mo_jumpMany : Int32) (mo_curveEnd : Int32) (mo_beds : Int32) (mo_all : Int64) (a1 : Int32) (a2 : Int32) (R : (Nat → Int32) × Int32 × Int32 × Int32) (p : Program) (e : Env) (s : State) (m : MethodId) (below : List Frame) (meth : Method) (c : Code) (A : Nat → Prop) (H : Heap) (locs : List Loc) (g : JFrame) : Prop := W p l e ({ frames := 4, cells := 0, slots := 0, locals := 96 }) s m ([.ref (mo 0), .int a1, .int a2] : List Value).toArray below meth c H locs 0 0 (MQ below (rwQ G none [(oX11 mo mo_length mo_at mo_faultAt mo_parts mo_entries R.2.1 R.2.2.1 R.2.2.2 mo_jumpMany mo_curveEnd mo_beds mo_all), (wI G (mo 2) 12 mo_laws), (wI G (mo 8) 6400 R.1)] A) ([.ref (mo 0), .int a1, .int a2] : List Value).toArray s 0 0 A) g
set_option maxHeartbeats 4000000 in
set_option maxRecDepth 100000 in
theorem c_X11_layRun (l : Launch) (G : TG) (mo : Nat → Nat) (mo_laws : Nat → Int32) (mo_length : Int32) (mo_at : Int32) (mo_faultAt : Int32) (mo_parts : Int32) (mo_entries : Int32) (mo_metAt : Nat → Int32) (mo_ringEarth : Int32) (mo_lead : Int32) (mo_ring : Int32) (mo_jumpMany : Int32) (mo_curveEnd : Int32) (mo_beds : Int32) (mo_all : Int64) (a1 : Int32) (a2 : Int32) (R : (Nat → Int32) × Int32 × Int32 × Int32) (hf : f_X11_layRun mo_laws mo_metAt a1 a2 = some R) : RW l yX11_layRun cX11_layRun 5 none ({ frames := 4, cells := 0, slots := 0, locals := 96 }) G [.ref (mo 0), .int a1, .int a2] [(oX11 mo mo_length mo_at mo_faultAt mo_parts mo_entries mo_ringEarth mo_lead mo_ring mo_jumpMany mo_curveEnd mo_beds mo_all), (wI G (mo 2) 12 mo_laws), (wI G (mo 8) 6400 mo_metAt)] none [(oX11 mo mo_length mo_at mo_faultAt mo_parts mo_entries R.2.1 R.2.2.1 R.2.2.2 mo_jumpMany mo_curveEnd mo_beds mo_all), (wI G (mo 2) 12 mo_laws), (wI G (mo 8) 6400 R.1)] := by
  refine RW.mk (by decide +kernel) (Nat.le_of_ble_eq_true rfl) ?_
  intro p e s m below meth c ls A C hP hD hA hz hK hl hS
  have hx := C.1
  have hb := C.2.1
  have hown : s.vm.findClass RX11 = some m.cls := C.2.2.2.2.2.1
  have ht := C.2.2.2.2.2.2
  have hl : lv_has ls 5 [(0, .ref (mo 0)), (1, .int a1), (2, .int a2)] := hl
  show Wc_X11_layRun l G mo mo_laws mo_length mo_at mo_faultAt mo_parts mo_entries mo_metAt mo_ringEarth mo_lead mo_ring mo_jumpMany mo_curveEnd mo_beds mo_all a1 a2 R p e s m below meth c A s.heap [] (F0 m 0 ls [])
  obtain ⟨H, eH, hP, hS⟩ : ∃ H, H = s.heap ∧ va_P G.1 vwCl [(oX11 mo mo_length mo_at mo_faultAt mo_parts mo_entries mo_ringEarth mo_lead mo_ring mo_jumpMany mo_curveEnd mo_beds mo_all), (wI G (mo 2) 12 mo_laws), (wI G (mo 8) 6400 mo_metAt)] H ∧ va_S A s.heap H [] := ⟨_, rfl, hP, hS⟩
  obtain ⟨locs, el, hS⟩ : ∃ locs : List Loc, locs = [] ∧ va_S A s.heap H locs := ⟨_, rfl, hS⟩
  have key : Wc_X11_layRun l G mo mo_laws mo_length mo_at mo_faultAt mo_parts mo_entries mo_metAt mo_ringEarth mo_lead mo_ring mo_jumpMany mo_curveEnd mo_beds mo_all a1 a2 R p e s m below meth c A H locs (F0 m 0 ls []) := by
    refine lv_iconst (v := 0) hx hb dX11_layRun_0 (by decide) ?_
    refine lv_istore_n (lv' := [(3, .int (0 : Int32)), (0, .ref (mo 0)), (1, .int a1), (2, .int a2)]) hx hb dX11_layRun_1 rfl hl (by decide) rfl (fun ls hl => ?_)
    have hx23_1 : ∀ (mo_metAt : Nat → Int32) (H : Heap) (locs : List Loc) (ls : Array Slot), f_X11_layRun_x23_1 mo_laws a1 a2 mo_metAt = some R → va_P G.1 vwCl [(oX11 mo mo_length mo_at mo_faultAt mo_parts mo_entries mo_ringEarth mo_lead mo_ring mo_jumpMany mo_curveEnd mo_beds mo_all), (wI G (mo 2) 12 mo_laws), (wI G (mo 8) 6400 mo_metAt)] H → va_D A [(oX11 mo mo_length mo_at mo_faultAt mo_parts mo_entries mo_ringEarth mo_lead mo_ring mo_jumpMany mo_curveEnd mo_beds mo_all), (wI G (mo 2) 12 mo_laws), (wI G (mo 8) 6400 mo_metAt)] → va_S A s.heap H locs → lv_has ls 5 [(0, .ref (mo 0)), (1, .int a1), (2, .int a2)] → Wc_X11_layRun l G mo mo_laws mo_length mo_at mo_faultAt mo_parts mo_entries mo_metAt mo_ringEarth mo_lead mo_ring mo_jumpMany mo_curveEnd mo_beds mo_all a1 a2 R p e s m below meth c A H locs (F0 m 23 ls []) := by
      intro mo_metAt H locs ls hf hP hD hS hl
      refine lv_bipush (v := 100) hx hb dX11_layRun_23 (by decide) ?_
      refine lv_iload_n hx hb dX11_layRun_25 rfl (lv_at hl 1 rfl) ?_
      refine lv_imul hx hb dX11_layRun_26 ?_
      refine lv_iload_n hx hb dX11_layRun_27 rfl (lv_at hl 2 rfl) ?_
      refine lv_iadd hx hb dX11_layRun_28 ?_
      refine lv_istore_n (lv' := [(3, .int (((100 : Int32) * a1) + a2)), (0, .ref (mo 0)), (1, .int a1), (2, .int a2)]) hx hb dX11_layRun_29 rfl hl (by decide) rfl (fun ls hl => ?_)
      refine lv_iconst (v := 0) hx hb dX11_layRun_30 (by decide) ?_
      refine lv_istore (lv' := [(4, .int (0 : Int32)), (3, .int (((100 : Int32) * a1) + a2)), (0, .ref (mo 0)), (1, .int a1), (2, .int a2)]) hx hb dX11_layRun_31 hl (by decide) rfl (fun ls hl => ?_)
      have hx64_2 : ∀ (v3 : Int32) (v4 : Int32) (mo_metAt : Nat → Int32) (H : Heap) (locs : List Loc) (ls : Array Slot), f_X11_layRun_x64_2 v3 v4 mo_metAt = some R → va_P G.1 vwCl [(oX11 mo mo_length mo_at mo_faultAt mo_parts mo_entries mo_ringEarth mo_lead mo_ring mo_jumpMany mo_curveEnd mo_beds mo_all), (wI G (mo 2) 12 mo_laws), (wI G (mo 8) 6400 mo_metAt)] H → va_D A [(oX11 mo mo_length mo_at mo_faultAt mo_parts mo_entries mo_ringEarth mo_lead mo_ring mo_jumpMany mo_curveEnd mo_beds mo_all), (wI G (mo 2) 12 mo_laws), (wI G (mo 8) 6400 mo_metAt)] → va_S A s.heap H locs → lv_has ls 5 [(0, .ref (mo 0)), (3, .int v3), (4, .int v4)] → Wc_X11_layRun l G mo mo_laws mo_length mo_at mo_faultAt mo_parts mo_entries mo_metAt mo_ringEarth mo_lead mo_ring mo_jumpMany mo_curveEnd mo_beds mo_all a1 a2 R p e s m below meth c A H locs (F0 m 64 ls []) := by
        intro v3 v4 mo_metAt H locs ls hf hP hD hS hl
        refine lv_aload_n hx hb dX11_layRun_64 rfl (lv_at hl 0 rfl) ?_
        refine lv_iload_n hx hb dX11_layRun_65 rfl (lv_at hl 1 rfl) ?_
        refine va_put (D := G.1) (ci := 11) (v := .int v3) (ty := .int) (C := RX11) (T := TX11) (N := 29) hx hb ht twX11 tyX11 tyX11_ok nmX11 hown hK.1 hP hD hS 0 rfl rfl 13 (by decide) (ht _ kfl_X11_149) (fun _ h9 => h9) rfl (by decide +kernel) rfl rfl (Nat.le_of_ble_eq_true rfl) dX11_layRun_66 (fun H locs hP hD hS => ?_)
        have hP : va_P G.1 vwCl [(oX11 mo mo_length mo_at mo_faultAt mo_parts mo_entries v3 mo_lead mo_ring mo_jumpMany mo_curveEnd mo_beds mo_all), (wI G (mo 2) 12 mo_laws), (wI G (mo 8) 6400 mo_metAt)] H := hP
        have hD : va_D A [(oX11 mo mo_length mo_at mo_faultAt mo_parts mo_entries v3 mo_lead mo_ring mo_jumpMany mo_curveEnd mo_beds mo_all), (wI G (mo 2) 12 mo_laws), (wI G (mo 8) 6400 mo_metAt)] := hD
        refine lv_aload_n hx hb dX11_layRun_69 rfl (lv_at hl 0 rfl) ?_
        refine lv_aload_n hx hb dX11_layRun_70 rfl (lv_at hl 0 rfl) ?_
        refine va_get (D := G.1) (ci := 11) (v := .ref (mo 8)) (C := RX11) (T := TX11) (N := 29) hx hb ht twX11 hown hK.1 hP 0 rfl rfl 12 (by decide) (ht _ kfl_X11_31) (fun _ h9 => h9) rfl dX11_layRun_71 ?_
        refine lv_iload_n hx hb dX11_layRun_74 rfl (lv_at hl 1 rfl) ?_
        obtain ⟨g3, hf⟩ := gd_s hf
        refine va_iald hx hb hK.1 hP 2 0 rfl rfl g3 dX11_layRun_75 ?_
        refine va_put (D := G.1) (ci := 11) (v := .int (mo_metAt v3.toNatClampNeg)) (ty := .int) (C := RX11) (T := TX11) (N := 29) hx hb ht twX11 tyX11 tyX11_ok nmX11 hown hK.1 hP hD hS 0 rfl rfl 14 (by decide) (ht _ kfl_X11_152) (fun _ h9 => h9) rfl (by decide +kernel) rfl rfl (Nat.le_of_ble_eq_true rfl) dX11_layRun_76 (fun H locs hP hD hS => ?_)
        have hP : va_P G.1 vwCl [(oX11 mo mo_length mo_at mo_faultAt mo_parts mo_entries v3 (mo_metAt v3.toNatClampNeg) mo_ring mo_jumpMany mo_curveEnd mo_beds mo_all), (wI G (mo 2) 12 mo_laws), (wI G (mo 8) 6400 mo_metAt)] H := hP
        have hD : va_D A [(oX11 mo mo_length mo_at mo_faultAt mo_parts mo_entries v3 (mo_metAt v3.toNatClampNeg) mo_ring mo_jumpMany mo_curveEnd mo_beds mo_all), (wI G (mo 2) 12 mo_laws), (wI G (mo 8) 6400 mo_metAt)] := hD
        refine lv_aload_n hx hb dX11_layRun_79 rfl (lv_at hl 0 rfl) ?_
        refine lv_iload hx hb dX11_layRun_80 (lv_at hl 2 rfl) ?_
        refine lv_aload_n hx hb dX11_layRun_82 rfl (lv_at hl 0 rfl) ?_
        refine va_get (D := G.1) (ci := 11) (v := .int (mo_metAt v3.toNatClampNeg)) (C := RX11) (T := TX11) (N := 29) hx hb ht twX11 hown hK.1 hP 0 rfl rfl 14 (by decide) (ht _ kfl_X11_152) (fun _ h9 => h9) rfl dX11_layRun_83 ?_
        refine lv_isub hx hb dX11_layRun_86 ?_
        refine va_put (D := G.1) (ci := 11) (v := .int (v4 - (mo_metAt v3.toNatClampNeg))) (ty := .int) (C := RX11) (T := TX11) (N := 29) hx hb ht twX11 tyX11 tyX11_ok nmX11 hown hK.1 hP hD hS 0 rfl rfl 15 (by decide) (ht _ kfl_X11_155) (fun _ h9 => h9) rfl (by decide +kernel) rfl rfl (Nat.le_of_ble_eq_true rfl) dX11_layRun_87 (fun H locs hP hD hS => ?_)
        have hP : va_P G.1 vwCl [(oX11 mo mo_length mo_at mo_faultAt mo_parts mo_entries v3 (mo_metAt v3.toNatClampNeg) (v4 - (mo_metAt v3.toNatClampNeg)) mo_jumpMany mo_curveEnd mo_beds mo_all), (wI G (mo 2) 12 mo_laws), (wI G (mo 8) 6400 mo_metAt)] H := hP
        have hD : va_D A [(oX11 mo mo_length mo_at mo_faultAt mo_parts mo_entries v3 (mo_metAt v3.toNatClampNeg) (v4 - (mo_metAt v3.toNatClampNeg)) mo_jumpMany mo_curveEnd mo_beds mo_all), (wI G (mo 2) 12 mo_laws), (wI G (mo 8) 6400 mo_metAt)] := hD
        have h9 := Option.some.inj hf
        subst h9
        exact rw_vret C hP hD hS dX11_layRun_90
      obtain ⟨rL2, hL2, hk2⟩ := bd_s hf
      refine lp_W (P := fun st => ∀ (H : Heap) (locs : List Loc) (ls : Array Slot), va_P G.1 vwCl [(oX11 mo mo_length mo_at mo_faultAt mo_parts mo_entries mo_ringEarth mo_lead mo_ring mo_jumpMany mo_curveEnd mo_beds mo_all), (wI G (mo 2) 12 mo_laws), (wI G (mo 8) 6400 st.2.2)] H → va_D A [(oX11 mo mo_length mo_at mo_faultAt mo_parts mo_entries mo_ringEarth mo_lead mo_ring mo_jumpMany mo_curveEnd mo_beds mo_all), (wI G (mo 2) 12 mo_laws), (wI G (mo 8) 6400 st.2.2)] → va_S A s.heap H locs → lv_has ls 5 [(0, .ref (mo 0)), (3, .int st.1), (4, .int st.2.1)] → Wc_X11_layRun l G mo mo_laws mo_length mo_at mo_faultAt mo_parts mo_entries mo_metAt mo_ringEarth mo_lead mo_ring mo_jumpMany mo_curveEnd mo_beds mo_all a1 a2 R p e s m below meth c A H locs (F0 m 33 ls [])) ?_ FU ((((100 : Int32) * a1) + a2), (0 : Int32), mo_metAt) hL2 H locs ls hP hD hS (lv_sub hl [2, 1, 0] rfl)
      intro ⟨v3, v4, mo_metAt⟩ oc2 hf hI hE H locs ls hP hD hS hl
      have hP : va_P G.1 vwCl [(oX11 mo mo_length mo_at mo_faultAt mo_parts mo_entries mo_ringEarth mo_lead mo_ring mo_jumpMany mo_curveEnd mo_beds mo_all), (wI G (mo 2) 12 mo_laws), (wI G (mo 8) 6400 mo_metAt)] H := hP
      have hD : va_D A [(oX11 mo mo_length mo_at mo_faultAt mo_parts mo_entries mo_ringEarth mo_lead mo_ring mo_jumpMany mo_curveEnd mo_beds mo_all), (wI G (mo 2) 12 mo_laws), (wI G (mo 8) 6400 mo_metAt)] := hD
      have hl : lv_has ls 5 [(0, .ref (mo 0)), (3, .int v3), (4, .int v4)] := hl
      have hf : f_X11_layRun_b33 mo_laws v3 v4 mo_metAt = some oc2 := hf
      refine lv_aload_n hx hb dX11_layRun_33 rfl (lv_at hl 0 rfl) ?_
      refine va_get (D := G.1) (ci := 11) (v := .ref (mo 8)) (C := RX11) (T := TX11) (N := 29) hx hb ht twX11 hown hK.1 hP 0 rfl rfl 12 (by decide) (ht _ kfl_X11_31) (fun _ h9 => h9) rfl dX11_layRun_34 ?_
      refine lv_iload_n hx hb dX11_layRun_37 rfl (lv_at hl 1 rfl) ?_
      obtain ⟨g5, hf⟩ := gd_s hf
      refine va_iald hx hb hK.1 hP 2 0 rfl rfl g5 dX11_layRun_38 ?_
      refine lv_bipush (v := -9) hx hb dX11_layRun_39 (by decide) ?_
      refine lv_icmp_ne (tgt := 64) hx hb dX11_layRun_41 (by decide) (fun c6 => ?_) (fun c6 => ?_)
      · have hf := o_f c6 hf
        cases hf
        have hf : f_X11_layRun_x64_2 v3 v4 mo_metAt = some R := by have h9 := hk2; rw [← hE _ rfl] at h9; exact h9
        exact hx64_2 v3 v4 mo_metAt H locs ls hf hP hD hS (lv_sub hl [0, 1, 2] rfl)
      · have hf := o_t c6 hf
        refine lv_aload_n hx hb dX11_layRun_44 rfl (lv_at hl 0 rfl) ?_
        refine va_get (D := G.1) (ci := 11) (v := .ref (mo 8)) (C := RX11) (T := TX11) (N := 29) hx hb ht twX11 hown hK.1 hP 0 rfl rfl 12 (by decide) (ht _ kfl_X11_31) (fun _ h9 => h9) rfl dX11_layRun_45 ?_
        refine lv_iload_n hx hb dX11_layRun_48 rfl (lv_at hl 1 rfl) ?_
        refine lv_iload hx hb dX11_layRun_49 (lv_at hl 2 rfl) ?_
        obtain ⟨g7, hf⟩ := gd_s hf
        refine va_iast hx hb hK.1 hP hD hS 2 0 rfl rfl g7 dX11_layRun_51 (fun H locs hP hD hS => ?_)
        have hP : va_P G.1 vwCl [(oX11 mo mo_length mo_at mo_faultAt mo_parts mo_entries mo_ringEarth mo_lead mo_ring mo_jumpMany mo_curveEnd mo_beds mo_all), (wI G (mo 2) 12 mo_laws), (wI G (mo 8) 6400 (upd mo_metAt v3.toNatClampNeg v4))] H := hP
        have hD : va_D A [(oX11 mo mo_length mo_at mo_faultAt mo_parts mo_entries mo_ringEarth mo_lead mo_ring mo_jumpMany mo_curveEnd mo_beds mo_all), (wI G (mo 2) 12 mo_laws), (wI G (mo 8) 6400 (upd mo_metAt v3.toNatClampNeg v4))] := hD
        refine lv_aload_n hx hb dX11_layRun_52 rfl (lv_at hl 0 rfl) ?_
        refine lv_iload_n hx hb dX11_layRun_53 rfl (lv_at hl 1 rfl) ?_
        obtain ⟨q8, r8, hf⟩ := bd_s hf
        refine ro_V (n := 1) (As := [.int v3]) (rest := []) (c_X11_roundOf l G mo mo_laws mo_length mo_at mo_faultAt mo_parts mo_entries mo_ringEarth mo_lead mo_ring mo_jumpMany mo_curveEnd mo_beds mo_all v3 q8 r8) C (hK.at hS hz) (hP.sub [0, 1] rfl) hl kcode_X11_roundOf kml_X11_128 kim_X11_roundOf ksel_X11_roundOf kini_X11 (by decide +kernel) ⟨⟨rfl, rfl⟩, Nat.le_of_ble_eq_true rfl, Nat.le_of_ble_eq_true rfl⟩ ⟨Nat.zero_le _, Nat.zero_le _⟩ rfl rfl rfl rfl rfl (Nat.le_of_ble_eq_true rfl) dX11_layRun_54 rfl ?_
        refine lv_istore_n (lv' := [(3, .int q8), (0, .ref (mo 0)), (4, .int v4)]) hx hb dX11_layRun_57 rfl hl (by decide) rfl (fun ls hl => ?_)
        refine lv_iinc (v := (v4 + (1 : Int32))) (lv' := [(4, .int (v4 + (1 : Int32))), (3, .int q8), (0, .ref (mo 0))]) hx hb dX11_layRun_58 hl (k := 2) rfl (by rfl) (by decide) rfl (fun ls hl => ?_)
        refine lv_goto (tgt := 33) hx hb dX11_layRun_61 (by decide) ?_
        cases hf
        exact hI _ rfl H locs ls hP hD hS (lv_sub hl [2, 1, 0] rfl)
    obtain ⟨rL1, hL1, hk1⟩ := bd_s hf
    refine lp_W (P := fun st => ∀ (H : Heap) (locs : List Loc) (ls : Array Slot), va_P G.1 vwCl [(oX11 mo mo_length mo_at mo_faultAt mo_parts mo_entries mo_ringEarth mo_lead mo_ring mo_jumpMany mo_curveEnd mo_beds mo_all), (wI G (mo 2) 12 mo_laws), (wI G (mo 8) 6400 st.2)] H → va_D A [(oX11 mo mo_length mo_at mo_faultAt mo_parts mo_entries mo_ringEarth mo_lead mo_ring mo_jumpMany mo_curveEnd mo_beds mo_all), (wI G (mo 2) 12 mo_laws), (wI G (mo 8) 6400 st.2)] → va_S A s.heap H locs → lv_has ls 5 [(0, .ref (mo 0)), (1, .int a1), (2, .int a2), (3, .int st.1)] → Wc_X11_layRun l G mo mo_laws mo_length mo_at mo_faultAt mo_parts mo_entries mo_metAt mo_ringEarth mo_lead mo_ring mo_jumpMany mo_curveEnd mo_beds mo_all a1 a2 R p e s m below meth c A H locs (F0 m 2 ls [])) ?_ FU ((0 : Int32), mo_metAt) hL1 H locs ls hP hD hS (lv_sub hl [1, 2, 3, 0] rfl)
    intro ⟨v3, mo_metAt⟩ oc1 hf hI hE H locs ls hP hD hS hl
    have hP : va_P G.1 vwCl [(oX11 mo mo_length mo_at mo_faultAt mo_parts mo_entries mo_ringEarth mo_lead mo_ring mo_jumpMany mo_curveEnd mo_beds mo_all), (wI G (mo 2) 12 mo_laws), (wI G (mo 8) 6400 mo_metAt)] H := hP
    have hD : va_D A [(oX11 mo mo_length mo_at mo_faultAt mo_parts mo_entries mo_ringEarth mo_lead mo_ring mo_jumpMany mo_curveEnd mo_beds mo_all), (wI G (mo 2) 12 mo_laws), (wI G (mo 8) 6400 mo_metAt)] := hD
    have hl : lv_has ls 5 [(0, .ref (mo 0)), (1, .int a1), (2, .int a2), (3, .int v3)] := hl
    have hf : f_X11_layRun_b2 v3 mo_metAt = some oc1 := hf
    refine lv_iload_n hx hb dX11_layRun_2 rfl (lv_at hl 3 rfl) ?_
    refine lv_sipush (v := 6400) hx hb dX11_layRun_3 (by decide) ?_
    refine lv_icmp_ge (tgt := 23) hx hb dX11_layRun_6 (by decide) (fun c9 => ?_) (fun c9 => ?_)
    · have hf := o_t c9 hf
      cases hf
      have hf : f_X11_layRun_x23_1 mo_laws a1 a2 mo_metAt = some R := by have h9 := hk1; rw [← hE _ rfl] at h9; exact h9
      exact hx23_1 mo_metAt H locs ls hf hP hD hS (lv_sub hl [0, 1, 2] rfl)
    · have hf := o_f c9 hf
      refine lv_aload_n hx hb dX11_layRun_9 rfl (lv_at hl 0 rfl) ?_
      refine va_get (D := G.1) (ci := 11) (v := .ref (mo 8)) (C := RX11) (T := TX11) (N := 29) hx hb ht twX11 hown hK.1 hP 0 rfl rfl 12 (by decide) (ht _ kfl_X11_31) (fun _ h9 => h9) rfl dX11_layRun_10 ?_
      refine lv_iload_n hx hb dX11_layRun_13 rfl (lv_at hl 3 rfl) ?_
      refine lv_bipush (v := -9) hx hb dX11_layRun_14 (by decide) ?_
      obtain ⟨g10, hf⟩ := gd_s hf
      refine va_iast hx hb hK.1 hP hD hS 2 0 rfl rfl g10 dX11_layRun_16 (fun H locs hP hD hS => ?_)
      have hP : va_P G.1 vwCl [(oX11 mo mo_length mo_at mo_faultAt mo_parts mo_entries mo_ringEarth mo_lead mo_ring mo_jumpMany mo_curveEnd mo_beds mo_all), (wI G (mo 2) 12 mo_laws), (wI G (mo 8) 6400 (upd mo_metAt v3.toNatClampNeg (-9 : Int32)))] H := hP
      have hD : va_D A [(oX11 mo mo_length mo_at mo_faultAt mo_parts mo_entries mo_ringEarth mo_lead mo_ring mo_jumpMany mo_curveEnd mo_beds mo_all), (wI G (mo 2) 12 mo_laws), (wI G (mo 8) 6400 (upd mo_metAt v3.toNatClampNeg (-9 : Int32)))] := hD
      refine lv_iinc (v := (v3 + (1 : Int32))) (lv' := [(3, .int (v3 + (1 : Int32))), (0, .ref (mo 0)), (1, .int a1), (2, .int a2)]) hx hb dX11_layRun_17 hl (k := 3) rfl (by rfl) (by decide) rfl (fun ls hl => ?_)
      refine lv_goto (tgt := 2) hx hb dX11_layRun_20 (by decide) ?_
      cases hf
      exact hI _ rfl H locs ls hP hD hS (lv_sub hl [1, 2, 3, 0] rfl)
  rw [eH, el] at key
  exact key
abbrev Wc_X11_run (l : Launch) (G : TG) (mo : Nat → Nat) (mo_laws : Nat → Int32) (mo_length : Int32) (mo_at : Int32) (mo_faultAt : Int32) (mo_parts : Int32) (mo_entries : Int32) (mo_metAt : Nat → Int32) (mo_ringEarth : Int32) (mo_lead : Int32) (mo_ring : Int32) (mo_jumpMany : Int32) (mo_curveEnd : Int32) (mo_beds : Int32) (mo_all : Int64) (a1 : Int32) (a2 : Int32) (a3 : Int32) (R : Int32 × (Nat → Int32) × Int32 × Int32 × Int32) (p : Program) (e : Env) (s : State) (m : MethodId) (below : List Frame) (meth : Method) (c : Code) (A : Nat → Prop) (H : Heap) (locs : List Loc) (g : JFrame) : Prop := W p l e ({ frames := 5, cells := 0, slots := 0, locals := 120 }) s m ([.ref (mo 0), .int a1, .int a2, .int a3] : List Value).toArray below meth c H locs 0 0 (MQ below (rwQ G (some (.int R.1)) [(oX11 mo mo_length mo_at mo_faultAt mo_parts mo_entries R.2.2.1 R.2.2.2.1 R.2.2.2.2 mo_jumpMany mo_curveEnd mo_beds mo_all), (wI G (mo 2) 12 mo_laws), (wI G (mo 8) 6400 R.2.1)] A) ([.ref (mo 0), .int a1, .int a2, .int a3] : List Value).toArray s 0 0 A) g
set_option maxHeartbeats 4000000 in
set_option maxRecDepth 100000 in
theorem c_X11_run (l : Launch) (G : TG) (mo : Nat → Nat) (mo_laws : Nat → Int32) (mo_length : Int32) (mo_at : Int32) (mo_faultAt : Int32) (mo_parts : Int32) (mo_entries : Int32) (mo_metAt : Nat → Int32) (mo_ringEarth : Int32) (mo_lead : Int32) (mo_ring : Int32) (mo_jumpMany : Int32) (mo_curveEnd : Int32) (mo_beds : Int32) (mo_all : Int64) (a1 : Int32) (a2 : Int32) (a3 : Int32) (R : Int32 × (Nat → Int32) × Int32 × Int32 × Int32) (hf : f_X11_run mo_laws mo_metAt mo_ringEarth mo_lead mo_ring a1 a2 a3 = some R) : RW l yX11_run cX11_run 9 (some .int) ({ frames := 5, cells := 0, slots := 0, locals := 120 }) G [.ref (mo 0), .int a1, .int a2, .int a3] [(oX11 mo mo_length mo_at mo_faultAt mo_parts mo_entries mo_ringEarth mo_lead mo_ring mo_jumpMany mo_curveEnd mo_beds mo_all), (wI G (mo 2) 12 mo_laws), (wI G (mo 8) 6400 mo_metAt)] (some (.int R.1)) [(oX11 mo mo_length mo_at mo_faultAt mo_parts mo_entries R.2.2.1 R.2.2.2.1 R.2.2.2.2 mo_jumpMany mo_curveEnd mo_beds mo_all), (wI G (mo 2) 12 mo_laws), (wI G (mo 8) 6400 R.2.1)] := by
  refine RW.mk (by decide +kernel) (Nat.le_of_ble_eq_true rfl) ?_
  intro p e s m below meth c ls A C hP hD hA hz hK hl hS
  have hx := C.1
  have hb := C.2.1
  have hown : s.vm.findClass RX11 = some m.cls := C.2.2.2.2.2.1
  have ht := C.2.2.2.2.2.2
  have hl : lv_has ls 9 [(0, .ref (mo 0)), (1, .int a1), (2, .int a2), (3, .int a3)] := hl
  show Wc_X11_run l G mo mo_laws mo_length mo_at mo_faultAt mo_parts mo_entries mo_metAt mo_ringEarth mo_lead mo_ring mo_jumpMany mo_curveEnd mo_beds mo_all a1 a2 a3 R p e s m below meth c A s.heap [] (F0 m 0 ls [])
  obtain ⟨H, eH, hP, hS⟩ : ∃ H, H = s.heap ∧ va_P G.1 vwCl [(oX11 mo mo_length mo_at mo_faultAt mo_parts mo_entries mo_ringEarth mo_lead mo_ring mo_jumpMany mo_curveEnd mo_beds mo_all), (wI G (mo 2) 12 mo_laws), (wI G (mo 8) 6400 mo_metAt)] H ∧ va_S A s.heap H [] := ⟨_, rfl, hP, hS⟩
  obtain ⟨locs, el, hS⟩ : ∃ locs : List Loc, locs = [] ∧ va_S A s.heap H locs := ⟨_, rfl, hS⟩
  have key : Wc_X11_run l G mo mo_laws mo_length mo_at mo_faultAt mo_parts mo_entries mo_metAt mo_ringEarth mo_lead mo_ring mo_jumpMany mo_curveEnd mo_beds mo_all a1 a2 a3 R p e s m below meth c A H locs (F0 m 0 ls []) := by
    refine lv_iload_n hx hb dX11_run_0 rfl (lv_at hl 1 rfl) ?_
    refine lv_iload_n hx hb dX11_run_1 rfl (lv_at hl 2 rfl) ?_
    obtain ⟨q1, r1, hf⟩ := bd_s hf
    refine ro_S (n := 2) (As := [.int a1, .int a2]) (rest := []) (c_X11_isEarth l G a1 a2 q1 r1) C (hK.at hS hz) (hP.sub [] rfl) hl kcode_X11_isEarth kml_X11_124 kst_X11_isEarth kini_X11 (by decide +kernel) ⟨⟨rfl, rfl⟩, Nat.le_of_ble_eq_true rfl, Nat.le_of_ble_eq_true rfl⟩ ⟨Nat.zero_le _, Nat.zero_le _⟩ rfl rfl (Nat.le_of_ble_eq_true rfl) dX11_run_2 rfl ?_
    refine lv_if_eq (tgt := 20) hx hb dX11_run_5 (by decide) (fun c2 => ?_) (fun c2 => ?_)
    · have hf := o_t c2 hf
      refine lv_bipush (v := -2) hx hb dX11_run_20 (by decide) ?_
      have h9 := Option.some.inj hf
      subst h9
      exact rw_iret C rfl hP hD hS dX11_run_22
    · have hf := o_f c2 hf
      refine lv_iload_n hx hb dX11_run_8 rfl (lv_at hl 3 rfl) ?_
      refine lv_i2l (v := (a3.toInt64)) hx hb dX11_run_9 rfl ?_
      refine lv_lconst (v := 0) hx hb dX11_run_10 (by decide) ?_
      refine lv_ldc2 hx hb hown (ht _ kcL_X11_158) dX11_run_11 ?_
      obtain ⟨q4, r4, hf⟩ := bd_s hf
      refine ro_S (n := 3) (As := [.long (a3.toInt64), .long (0 : Int64), .long (4 : Int64)]) (rest := []) (c_X11_in l G (a3.toInt64) (0 : Int64) (4 : Int64) q4 r4) C (hK.at hS hz) (hP.sub [] rfl) hl kcode_X11_in kml_X11_65 kst_X11_in kini_X11 (by decide +kernel) ⟨⟨rfl, rfl⟩, Nat.le_of_ble_eq_true rfl, Nat.le_of_ble_eq_true rfl⟩ ⟨Nat.zero_le _, Nat.zero_le _⟩ rfl rfl (Nat.le_of_ble_eq_true rfl) dX11_run_14 rfl ?_
      refine lv_if_ne (tgt := 23) hx hb dX11_run_17 (by decide) (fun c5 => ?_) (fun c5 => ?_)
      · have hf := o_f c5 hf
        refine lv_aload_n hx hb dX11_run_23 rfl (lv_at hl 0 rfl) ?_
        refine lv_iload_n hx hb dX11_run_24 rfl (lv_at hl 1 rfl) ?_
        refine lv_iload_n hx hb dX11_run_25 rfl (lv_at hl 2 rfl) ?_
        obtain ⟨q6, r6, hf⟩ := bd_s hf
        refine rw_V (n := 2) (As := [.int a1, .int a2]) (rest := []) (wr := []) (ws2 := [(oX11 mo mo_length mo_at mo_faultAt mo_parts mo_entries q6.2.1 q6.2.2.1 q6.2.2.2 mo_jumpMany mo_curveEnd mo_beds mo_all), (wI G (mo 2) 12 mo_laws), (wI G (mo 8) 6400 q6.1)]) (c_X11_layRun l G mo mo_laws mo_length mo_at mo_faultAt mo_parts mo_entries mo_metAt mo_ringEarth mo_lead mo_ring mo_jumpMany mo_curveEnd mo_beds mo_all a1 a2 q6 r6) C hK hP hD hS hA hz hl [0, 1, 2] [] [0, 1, 2] rfl rfl rfl rfl rfl (by decide) rfl rfl rfl kcode_X11_layRun kml_X11_160 kim_X11_layRun ksel_X11_layRun kini_X11 (by decide +kernel) ⟨⟨rfl, rfl⟩, Nat.le_of_ble_eq_true rfl, Nat.le_of_ble_eq_true rfl⟩ ⟨Nat.zero_le _, Nat.zero_le _⟩ rfl rfl rfl rfl rfl (Nat.le_of_ble_eq_true rfl) dX11_run_26 rfl (fun H locs hP hD hS => ?_)
        refine lv_iconst (v := 0) hx hb dX11_run_29 (by decide) ?_
        refine lv_istore (lv' := [(4, .int (0 : Int32)), (0, .ref (mo 0)), (1, .int a1), (2, .int a2), (3, .int a3)]) hx hb dX11_run_30 hl (by decide) rfl (fun ls hl => ?_)
        refine lv_bipush (v := 99) hx hb dX11_run_32 (by decide) ?_
        refine lv_istore (lv' := [(5, .int (99 : Int32)), (4, .int (0 : Int32)), (0, .ref (mo 0)), (1, .int a1), (2, .int a2), (3, .int a3)]) hx hb dX11_run_34 hl (by decide) rfl (fun ls hl => ?_)
        refine lv_iconst (v := 0) hx hb dX11_run_36 (by decide) ?_
        refine lv_istore (lv' := [(6, .int (0 : Int32)), (5, .int (99 : Int32)), (4, .int (0 : Int32)), (0, .ref (mo 0)), (1, .int a1), (2, .int a2), (3, .int a3)]) hx hb dX11_run_37 hl (by decide) rfl (fun ls hl => ?_)
        refine lv_aload_n hx hb dX11_run_39 rfl (lv_at hl 3 rfl) ?_
        refine va_get (D := G.1) (ci := 11) (v := .int q6.2.1) (C := RX11) (T := TX11) (N := 29) hx hb ht twX11 hown hK.1 hP 0 rfl rfl 13 (by decide) (ht _ kfl_X11_149) (fun _ h9 => h9) rfl dX11_run_40 ?_
        refine lv_istore (lv' := [(7, .int q6.2.1), (6, .int (0 : Int32)), (5, .int (99 : Int32)), (4, .int (0 : Int32)), (0, .ref (mo 0)), (1, .int a1), (2, .int a2), (3, .int a3)]) hx hb dX11_run_43 hl (by decide) rfl (fun ls hl => ?_)
        refine lv_iconst (v := 0) hx hb dX11_run_45 (by decide) ?_
        refine lv_istore (lv' := [(8, .int (0 : Int32)), (7, .int q6.2.1), (6, .int (0 : Int32)), (5, .int (99 : Int32)), (4, .int (0 : Int32)), (0, .ref (mo 0)), (1, .int a1), (2, .int a2), (3, .int a3)]) hx hb dX11_run_46 hl (by decide) rfl (fun ls hl => ?_)
        have hx135_7 : ∀ (v4 : Int32) (v5 : Int32) (v6 : Int32) (H : Heap) (locs : List Loc) (ls : Array Slot), f_X11_run_x135_7 a3 q6 v4 v5 v6 = some R → va_P G.1 vwCl [(oX11 mo mo_length mo_at mo_faultAt mo_parts mo_entries q6.2.1 q6.2.2.1 q6.2.2.2 mo_jumpMany mo_curveEnd mo_beds mo_all), (wI G (mo 2) 12 mo_laws), (wI G (mo 8) 6400 q6.1)] H → va_D A [(oX11 mo mo_length mo_at mo_faultAt mo_parts mo_entries q6.2.1 q6.2.2.1 q6.2.2.2 mo_jumpMany mo_curveEnd mo_beds mo_all), (wI G (mo 2) 12 mo_laws), (wI G (mo 8) 6400 q6.1)] → va_S A s.heap H locs → lv_has ls 9 [(0, .ref (mo 0)), (3, .int a3), (4, .int v4), (5, .int v5), (6, .int v6)] → Wc_X11_run l G mo mo_laws mo_length mo_at mo_faultAt mo_parts mo_entries mo_metAt mo_ringEarth mo_lead mo_ring mo_jumpMany mo_curveEnd mo_beds mo_all a1 a2 a3 R p e s m below meth c A H locs (F0 m 135 ls []) := by
          intro v4 v5 v6 H locs ls hf hP hD hS hl
          refine lv_iload_n hx hb dX11_run_135 rfl (lv_at hl 1 rfl) ?_
          refine lv_if_ne (tgt := 146) hx hb dX11_run_136 (by decide) (fun c8 => ?_) (fun c8 => ?_)
          · have hf := o_f c8 hf
            refine lv_iload_n hx hb dX11_run_146 rfl (lv_at hl 1 rfl) ?_
            refine lv_iconst (v := 1) hx hb dX11_run_147 (by decide) ?_
            refine lv_icmp_ne (tgt := 158) hx hb dX11_run_148 (by decide) (fun c9 => ?_) (fun c9 => ?_)
            · have hf := o_f c9 hf
              refine lv_iload_n hx hb dX11_run_158 rfl (lv_at hl 1 rfl) ?_
              refine lv_iconst (v := 2) hx hb dX11_run_159 (by decide) ?_
              refine lv_icmp_ne (tgt := 168) hx hb dX11_run_160 (by decide) (fun c10 => ?_) (fun c10 => ?_)
              · have hf := o_f c10 hf
                refine lv_iload_n hx hb dX11_run_168 rfl (lv_at hl 1 rfl) ?_
                refine lv_iconst (v := 3) hx hb dX11_run_169 (by decide) ?_
                refine lv_icmp_ne (tgt := 178) hx hb dX11_run_170 (by decide) (fun c11 => ?_) (fun c11 => ?_)
                · have hf := o_f c11 hf
                  refine lv_iload hx hb dX11_run_178 (lv_at hl 4 rfl) ?_
                  have h9 := Option.some.inj hf
                  subst h9
                  exact rw_iret C rfl hP hD hS dX11_run_180
                · have hf := o_t c11 hf
                  refine lv_iload hx hb dX11_run_173 (lv_at hl 3 rfl) ?_
                  refine lv_goto (tgt := 180) hx hb dX11_run_175 (by decide) ?_
                  have h9 := Option.some.inj hf
                  subst h9
                  exact rw_iret C rfl hP hD hS dX11_run_180
              · have hf := o_t c10 hf
                refine lv_iload hx hb dX11_run_163 (lv_at hl 2 rfl) ?_
                refine lv_goto (tgt := 180) hx hb dX11_run_165 (by decide) ?_
                have h9 := Option.some.inj hf
                subst h9
                exact rw_iret C rfl hP hD hS dX11_run_180
            · have hf := o_t c9 hf
              refine lv_aload_n hx hb dX11_run_151 rfl (lv_at hl 0 rfl) ?_
              refine va_get (D := G.1) (ci := 11) (v := .int q6.2.2.2) (C := RX11) (T := TX11) (N := 29) hx hb ht twX11 hown hK.1 hP 0 rfl rfl 15 (by decide) (ht _ kfl_X11_155) (fun _ h9 => h9) rfl dX11_run_152 ?_
              refine lv_goto (tgt := 180) hx hb dX11_run_155 (by decide) ?_
              have h9 := Option.some.inj hf
              subst h9
              exact rw_iret C rfl hP hD hS dX11_run_180
          · have hf := o_t c8 hf
            refine lv_aload_n hx hb dX11_run_139 rfl (lv_at hl 0 rfl) ?_
            refine va_get (D := G.1) (ci := 11) (v := .int q6.2.2.1) (C := RX11) (T := TX11) (N := 29) hx hb ht twX11 hown hK.1 hP 0 rfl rfl 14 (by decide) (ht _ kfl_X11_152) (fun _ h9 => h9) rfl dX11_run_140 ?_
            refine lv_goto (tgt := 180) hx hb dX11_run_143 (by decide) ?_
            have h9 := Option.some.inj hf
            subst h9
            exact rw_iret C rfl hP hD hS dX11_run_180
        obtain ⟨rL7, hL7, hk7⟩ := bd_s hf
        refine lp_W (P := fun st => ∀ (H : Heap) (locs : List Loc) (ls : Array Slot), va_P G.1 vwCl [(oX11 mo mo_length mo_at mo_faultAt mo_parts mo_entries q6.2.1 q6.2.2.1 q6.2.2.2 mo_jumpMany mo_curveEnd mo_beds mo_all), (wI G (mo 2) 12 mo_laws), (wI G (mo 8) 6400 q6.1)] H → va_D A [(oX11 mo mo_length mo_at mo_faultAt mo_parts mo_entries q6.2.1 q6.2.2.1 q6.2.2.2 mo_jumpMany mo_curveEnd mo_beds mo_all), (wI G (mo 2) 12 mo_laws), (wI G (mo 8) 6400 q6.1)] → va_S A s.heap H locs → lv_has ls 9 [(0, .ref (mo 0)), (3, .int a3), (4, .int st.1), (5, .int st.2.1), (6, .int st.2.2.1), (7, .int st.2.2.2.1), (8, .int st.2.2.2.2)] → Wc_X11_run l G mo mo_laws mo_length mo_at mo_faultAt mo_parts mo_entries mo_metAt mo_ringEarth mo_lead mo_ring mo_jumpMany mo_curveEnd mo_beds mo_all a1 a2 a3 R p e s m below meth c A H locs (F0 m 48 ls [])) ?_ FU ((0 : Int32), (99 : Int32), (0 : Int32), q6.2.1, (0 : Int32)) hL7 H locs ls hP hD hS (lv_sub hl [5, 8, 4, 3, 2, 1, 0] rfl)
        intro ⟨v4, v5, v6, v7, v8⟩ oc7 hf hI hE H locs ls hP hD hS hl
        have hP : va_P G.1 vwCl [(oX11 mo mo_length mo_at mo_faultAt mo_parts mo_entries q6.2.1 q6.2.2.1 q6.2.2.2 mo_jumpMany mo_curveEnd mo_beds mo_all), (wI G (mo 2) 12 mo_laws), (wI G (mo 8) 6400 q6.1)] H := hP
        have hD : va_D A [(oX11 mo mo_length mo_at mo_faultAt mo_parts mo_entries q6.2.1 q6.2.2.1 q6.2.2.2 mo_jumpMany mo_curveEnd mo_beds mo_all), (wI G (mo 2) 12 mo_laws), (wI G (mo 8) 6400 q6.1)] := hD
        have hl : lv_has ls 9 [(0, .ref (mo 0)), (3, .int a3), (4, .int v4), (5, .int v5), (6, .int v6), (7, .int v7), (8, .int v8)] := hl
        have hf : f_X11_run_b48 mo_laws q6 v4 v5 v6 v7 v8 = some oc7 := hf
        have hj119 : ∀ (v4 : Int32) (v5 : Int32) (v7 : Int32) (v8 : Int32) (k0 : Int32) (H : Heap) (locs : List Loc) (ls : Array Slot), f_X11_run_j119 mo_laws v4 v5 v7 v8 k0 = some oc7 → va_P G.1 vwCl [(oX11 mo mo_length mo_at mo_faultAt mo_parts mo_entries q6.2.1 q6.2.2.1 q6.2.2.2 mo_jumpMany mo_curveEnd mo_beds mo_all), (wI G (mo 2) 12 mo_laws), (wI G (mo 8) 6400 q6.1)] H → va_D A [(oX11 mo mo_length mo_at mo_faultAt mo_parts mo_entries q6.2.1 q6.2.2.1 q6.2.2.2 mo_jumpMany mo_curveEnd mo_beds mo_all), (wI G (mo 2) 12 mo_laws), (wI G (mo 8) 6400 q6.1)] → va_S A s.heap H locs → lv_has ls 9 [(0, .ref (mo 0)), (3, .int a3), (4, .int v4), (5, .int v5), (7, .int v7), (8, .int v8)] → Wc_X11_run l G mo mo_laws mo_length mo_at mo_faultAt mo_parts mo_entries mo_metAt mo_ringEarth mo_lead mo_ring mo_jumpMany mo_curveEnd mo_beds mo_all a1 a2 a3 R p e s m below meth c A H locs (F0 m 119 ls [.int k0]) := by
          intro v4 v5 v7 v8 k0 H locs ls hf hP hD hS hl
          refine lv_istore (lv' := [(6, .int k0), (0, .ref (mo 0)), (3, .int a3), (4, .int v4), (5, .int v5), (7, .int v7), (8, .int v8)]) hx hb dX11_run_119 hl (by decide) rfl (fun ls hl => ?_)
          refine lv_aload_n hx hb dX11_run_121 rfl (lv_at hl 1 rfl) ?_
          refine lv_iload hx hb dX11_run_122 (lv_at hl 5 rfl) ?_
          obtain ⟨q17, r17, hf⟩ := bd_s hf
          refine ro_V (n := 1) (As := [.int v7]) (rest := []) (c_X11_roundOf l G mo mo_laws mo_length mo_at mo_faultAt mo_parts mo_entries q6.2.1 q6.2.2.1 q6.2.2.2 mo_jumpMany mo_curveEnd mo_beds mo_all v7 q17 r17) C (hK.at hS hz) (hP.sub [0, 1] rfl) hl kcode_X11_roundOf kml_X11_128 kim_X11_roundOf ksel_X11_roundOf kini_X11 (by decide +kernel) ⟨⟨rfl, rfl⟩, Nat.le_of_ble_eq_true rfl, Nat.le_of_ble_eq_true rfl⟩ ⟨Nat.zero_le _, Nat.zero_le _⟩ rfl rfl rfl rfl rfl (Nat.le_of_ble_eq_true rfl) dX11_run_124 rfl ?_
          refine lv_istore (lv' := [(7, .int q17), (6, .int k0), (0, .ref (mo 0)), (3, .int a3), (4, .int v4), (5, .int v5), (8, .int v8)]) hx hb dX11_run_127 hl (by decide) rfl (fun ls hl => ?_)
          refine lv_iinc (v := (v8 + (1 : Int32))) (lv' := [(8, .int (v8 + (1 : Int32))), (7, .int q17), (6, .int k0), (0, .ref (mo 0)), (3, .int a3), (4, .int v4), (5, .int v5)]) hx hb dX11_run_129 hl (k := 6) rfl (by rfl) (by decide) rfl (fun ls hl => ?_)
          refine lv_goto (tgt := 48) hx hb dX11_run_132 (by decide) ?_
          cases hf
          exact hI _ rfl H locs ls hP hD hS (lv_sub hl [3, 4, 5, 6, 2, 1, 0] rfl)
        have hj97 : ∀ (v4 : Int32) (v6 : Int32) (v7 : Int32) (v8 : Int32) (k0 : Int32) (H : Heap) (locs : List Loc) (ls : Array Slot), f_X11_run_j97 mo_laws v4 v6 v7 v8 k0 = some oc7 → va_P G.1 vwCl [(oX11 mo mo_length mo_at mo_faultAt mo_parts mo_entries q6.2.1 q6.2.2.1 q6.2.2.2 mo_jumpMany mo_curveEnd mo_beds mo_all), (wI G (mo 2) 12 mo_laws), (wI G (mo 8) 6400 q6.1)] H → va_D A [(oX11 mo mo_length mo_at mo_faultAt mo_parts mo_entries q6.2.1 q6.2.2.1 q6.2.2.2 mo_jumpMany mo_curveEnd mo_beds mo_all), (wI G (mo 2) 12 mo_laws), (wI G (mo 8) 6400 q6.1)] → va_S A s.heap H locs → lv_has ls 9 [(0, .ref (mo 0)), (3, .int a3), (4, .int v4), (6, .int v6), (7, .int v7), (8, .int v8)] → Wc_X11_run l G mo mo_laws mo_length mo_at mo_faultAt mo_parts mo_entries mo_metAt mo_ringEarth mo_lead mo_ring mo_jumpMany mo_curveEnd mo_beds mo_all a1 a2 a3 R p e s m below meth c A H locs (F0 m 97 ls [.int k0]) := by
          intro v4 v6 v7 v8 k0 H locs ls hf hP hD hS hl
          refine lv_istore (lv' := [(5, .int k0), (0, .ref (mo 0)), (3, .int a3), (4, .int v4), (6, .int v6), (7, .int v7), (8, .int v8)]) hx hb dX11_run_97 hl (by decide) rfl (fun ls hl => ?_)
          refine lv_iload hx hb dX11_run_99 (lv_at hl 5 rfl) ?_
          refine lv_bipush (v := 100) hx hb dX11_run_101 (by decide) ?_
          obtain ⟨n18, hf⟩ := dz_s hf
          refine lv_irem hx hb dX11_run_103 n18 ?_
          refine lv_iload hx hb dX11_run_104 (lv_at hl 4 rfl) ?_
          refine lv_icmp_le (tgt := 117) hx hb dX11_run_106 (by decide) (fun c19 => ?_) (fun c19 => ?_)
          · have hf := o_t c19 hf
            refine lv_iload hx hb dX11_run_117 (lv_at hl 4 rfl) ?_
            exact hj119 v4 k0 v7 v8 v6 H locs ls hf hP hD hS (lv_sub hl [1, 2, 3, 0, 5, 6] rfl)
          · have hf := o_f c19 hf
            refine lv_iload hx hb dX11_run_109 (lv_at hl 5 rfl) ?_
            refine lv_bipush (v := 100) hx hb dX11_run_111 (by decide) ?_
            obtain ⟨n20, hf⟩ := dz_s hf
            refine lv_irem hx hb dX11_run_113 n20 ?_
            refine lv_goto (tgt := 119) hx hb dX11_run_114 (by decide) ?_
            exact hj119 v4 k0 v7 v8 (v7 - v7 / (100 : Int32) * (100 : Int32)) H locs ls hf hP hD hS (lv_sub hl [1, 2, 3, 0, 5, 6] rfl)
        have hj74 : ∀ (v5 : Int32) (v6 : Int32) (v7 : Int32) (v8 : Int32) (k0 : Int32) (k1 : Int32) (H : Heap) (locs : List Loc) (ls : Array Slot), f_X11_run_j74 mo_laws v5 v6 v7 v8 k0 k1 = some oc7 → va_P G.1 vwCl [(oX11 mo mo_length mo_at mo_faultAt mo_parts mo_entries q6.2.1 q6.2.2.1 q6.2.2.2 mo_jumpMany mo_curveEnd mo_beds mo_all), (wI G (mo 2) 12 mo_laws), (wI G (mo 8) 6400 q6.1)] H → va_D A [(oX11 mo mo_length mo_at mo_faultAt mo_parts mo_entries q6.2.1 q6.2.2.1 q6.2.2.2 mo_jumpMany mo_curveEnd mo_beds mo_all), (wI G (mo 2) 12 mo_laws), (wI G (mo 8) 6400 q6.1)] → va_S A s.heap H locs → lv_has ls 9 [(0, .ref (mo 0)), (3, .int a3), (5, .int v5), (6, .int v6), (7, .int v7), (8, .int v8)] → Wc_X11_run l G mo mo_laws mo_length mo_at mo_faultAt mo_parts mo_entries mo_metAt mo_ringEarth mo_lead mo_ring mo_jumpMany mo_curveEnd mo_beds mo_all a1 a2 a3 R p e s m below meth c A H locs (F0 m 74 ls [.int k1, .int k0]) := by
          intro v5 v6 v7 v8 k0 k1 H locs ls hf hP hD hS hl
          refine lv_iadd hx hb dX11_run_74 ?_
          refine lv_istore (lv' := [(4, .int (k0 + k1)), (0, .ref (mo 0)), (3, .int a3), (5, .int v5), (6, .int v6), (7, .int v7), (8, .int v8)]) hx hb dX11_run_75 hl (by decide) rfl (fun ls hl => ?_)
          refine lv_iload hx hb dX11_run_77 (lv_at hl 5 rfl) ?_
          refine lv_bipush (v := 100) hx hb dX11_run_79 (by decide) ?_
          obtain ⟨n21, hf⟩ := dz_s hf
          refine lv_irem hx hb dX11_run_81 n21 ?_
          refine lv_iload hx hb dX11_run_82 (lv_at hl 3 rfl) ?_
          refine lv_icmp_ge (tgt := 95) hx hb dX11_run_84 (by decide) (fun c22 => ?_) (fun c22 => ?_)
          · have hf := o_t c22 hf
            refine lv_iload hx hb dX11_run_95 (lv_at hl 3 rfl) ?_
            exact hj97 (k0 + k1) v6 v7 v8 v5 H locs ls hf hP hD hS (lv_sub hl [1, 2, 0, 4, 5, 6] rfl)
          · have hf := o_f c22 hf
            refine lv_iload hx hb dX11_run_87 (lv_at hl 5 rfl) ?_
            refine lv_bipush (v := 100) hx hb dX11_run_89 (by decide) ?_
            obtain ⟨n23, hf⟩ := dz_s hf
            refine lv_irem hx hb dX11_run_91 n23 ?_
            refine lv_goto (tgt := 97) hx hb dX11_run_92 (by decide) ?_
            exact hj97 (k0 + k1) v6 v7 v8 (v7 - v7 / (100 : Int32) * (100 : Int32)) H locs ls hf hP hD hS (lv_sub hl [1, 2, 0, 4, 5, 6] rfl)
        refine lv_iload hx hb dX11_run_48 (lv_at hl 6 rfl) ?_
        refine lv_aload_n hx hb dX11_run_50 rfl (lv_at hl 0 rfl) ?_
        refine va_get (D := G.1) (ci := 11) (v := .int q6.2.2.2) (C := RX11) (T := TX11) (N := 29) hx hb ht twX11 hown hK.1 hP 0 rfl rfl 15 (by decide) (ht _ kfl_X11_155) (fun _ h9 => h9) rfl dX11_run_51 ?_
        refine lv_icmp_ge (tgt := 135) hx hb dX11_run_54 (by decide) (fun c24 => ?_) (fun c24 => ?_)
        · have hf := o_t c24 hf
          cases hf
          have hf : f_X11_run_x135_7 a3 q6 v4 v5 v6 = some R := by have h9 := hk7; rw [← hE _ rfl] at h9; exact h9
          exact hx135_7 v4 v5 v6 H locs ls hf hP hD hS (lv_sub hl [0, 1, 2, 3, 4] rfl)
        · have hf := o_f c24 hf
          refine lv_iload hx hb dX11_run_57 (lv_at hl 2 rfl) ?_
          refine lv_iload hx hb dX11_run_59 (lv_at hl 5 rfl) ?_
          refine lv_bipush (v := 100) hx hb dX11_run_61 (by decide) ?_
          obtain ⟨n25, hf⟩ := dz_s hf
          refine lv_idiv hx hb dX11_run_63 n25 ?_
          refine lv_bipush (v := 63) hx hb dX11_run_64 (by decide) ?_
          refine lv_icmp_ne (tgt := 73) hx hb dX11_run_66 (by decide) (fun c26 => ?_) (fun c26 => ?_)
          · have hf := o_f c26 hf
            refine lv_iconst (v := 0) hx hb dX11_run_73 (by decide) ?_
            exact hj74 v5 v6 v7 v8 v4 (0 : Int32) H locs ls hf hP hD hS (lv_sub hl [0, 1, 3, 4, 5, 6] rfl)
          · have hf := o_t c26 hf
            refine lv_iconst (v := 1) hx hb dX11_run_69 (by decide) ?_
            refine lv_goto (tgt := 74) hx hb dX11_run_70 (by decide) ?_
            exact hj74 v5 v6 v7 v8 v4 (1 : Int32) H locs ls hf hP hD hS (lv_sub hl [0, 1, 3, 4, 5, 6] rfl)
      · have hf := o_t c5 hf
        refine lv_bipush (v := -2) hx hb dX11_run_20 (by decide) ?_
        have h9 := Option.some.inj hf
        subst h9
        exact rw_iret C rfl hP hD hS dX11_run_22
  rw [eH, el] at key
  exact key
abbrev Wc_X11_till (l : Launch) (G : TG) (mo : Nat → Nat) (mo_laws : Nat → Int32) (mo_length : Int32) (mo_at : Int32) (mo_faultAt : Int32) (mo_parts : Int32) (mo_entries : Int32) (mo_metAt : Nat → Int32) (mo_ringEarth : Int32) (mo_lead : Int32) (mo_ring : Int32) (mo_jumpMany : Int32) (mo_curveEnd : Int32) (mo_beds : Int32) (mo_all : Int64) (a1 : Int32) (a2 : Int32) (a3 : Int32) (R : Int32 × (Nat → Int32) × Int32 × Int32 × Int32) (p : Program) (e : Env) (s : State) (m : MethodId) (below : List Frame) (meth : Method) (c : Code) (A : Nat → Prop) (H : Heap) (locs : List Loc) (g : JFrame) : Prop := W p l e ({ frames := 5, cells := 0, slots := 0, locals := 120 }) s m ([.ref (mo 0), .int a1, .int a2, .int a3] : List Value).toArray below meth c H locs 0 0 (MQ below (rwQ G (some (.int R.1)) [(oX11 mo mo_length mo_at mo_faultAt mo_parts mo_entries R.2.2.1 R.2.2.2.1 R.2.2.2.2 mo_jumpMany mo_curveEnd mo_beds mo_all), (wI G (mo 2) 12 mo_laws), (wI G (mo 8) 6400 R.2.1)] A) ([.ref (mo 0), .int a1, .int a2, .int a3] : List Value).toArray s 0 0 A) g
set_option maxHeartbeats 4000000 in
set_option maxRecDepth 100000 in
theorem c_X11_till (l : Launch) (G : TG) (mo : Nat → Nat) (mo_laws : Nat → Int32) (mo_length : Int32) (mo_at : Int32) (mo_faultAt : Int32) (mo_parts : Int32) (mo_entries : Int32) (mo_metAt : Nat → Int32) (mo_ringEarth : Int32) (mo_lead : Int32) (mo_ring : Int32) (mo_jumpMany : Int32) (mo_curveEnd : Int32) (mo_beds : Int32) (mo_all : Int64) (a1 : Int32) (a2 : Int32) (a3 : Int32) (R : Int32 × (Nat → Int32) × Int32 × Int32 × Int32) (hf : f_X11_till mo_laws mo_metAt mo_ringEarth mo_lead mo_ring a1 a2 a3 = some R) : RW l yX11_till cX11_till 6 (some .int) ({ frames := 5, cells := 0, slots := 0, locals := 120 }) G [.ref (mo 0), .int a1, .int a2, .int a3] [(oX11 mo mo_length mo_at mo_faultAt mo_parts mo_entries mo_ringEarth mo_lead mo_ring mo_jumpMany mo_curveEnd mo_beds mo_all), (wI G (mo 2) 12 mo_laws), (wI G (mo 8) 6400 mo_metAt)] (some (.int R.1)) [(oX11 mo mo_length mo_at mo_faultAt mo_parts mo_entries R.2.2.1 R.2.2.2.1 R.2.2.2.2 mo_jumpMany mo_curveEnd mo_beds mo_all), (wI G (mo 2) 12 mo_laws), (wI G (mo 8) 6400 R.2.1)] := by
  refine RW.mk (by decide +kernel) (Nat.le_of_ble_eq_true rfl) ?_
  intro p e s m below meth c ls A C hP hD hA hz hK hl hS
  have hx := C.1
  have hb := C.2.1
  have hown : s.vm.findClass RX11 = some m.cls := C.2.2.2.2.2.1
  have ht := C.2.2.2.2.2.2
  have hl : lv_has ls 6 [(0, .ref (mo 0)), (1, .int a1), (2, .int a2), (3, .int a3)] := hl
  show Wc_X11_till l G mo mo_laws mo_length mo_at mo_faultAt mo_parts mo_entries mo_metAt mo_ringEarth mo_lead mo_ring mo_jumpMany mo_curveEnd mo_beds mo_all a1 a2 a3 R p e s m below meth c A s.heap [] (F0 m 0 ls [])
  obtain ⟨H, eH, hP, hS⟩ : ∃ H, H = s.heap ∧ va_P G.1 vwCl [(oX11 mo mo_length mo_at mo_faultAt mo_parts mo_entries mo_ringEarth mo_lead mo_ring mo_jumpMany mo_curveEnd mo_beds mo_all), (wI G (mo 2) 12 mo_laws), (wI G (mo 8) 6400 mo_metAt)] H ∧ va_S A s.heap H [] := ⟨_, rfl, hP, hS⟩
  obtain ⟨locs, el, hS⟩ : ∃ locs : List Loc, locs = [] ∧ va_S A s.heap H locs := ⟨_, rfl, hS⟩
  have key : Wc_X11_till l G mo mo_laws mo_length mo_at mo_faultAt mo_parts mo_entries mo_metAt mo_ringEarth mo_lead mo_ring mo_jumpMany mo_curveEnd mo_beds mo_all a1 a2 a3 R p e s m below meth c A H locs (F0 m 0 ls []) := by
    refine lv_iload_n hx hb dX11_till_0 rfl (lv_at hl 1 rfl) ?_
    refine lv_iload_n hx hb dX11_till_1 rfl (lv_at hl 2 rfl) ?_
    obtain ⟨q1, r1, hf⟩ := bd_s hf
    refine ro_S (n := 2) (As := [.int a1, .int a2]) (rest := []) (c_X11_isEarth l G a1 a2 q1 r1) C (hK.at hS hz) (hP.sub [] rfl) hl kcode_X11_isEarth kml_X11_124 kst_X11_isEarth kini_X11 (by decide +kernel) ⟨⟨rfl, rfl⟩, Nat.le_of_ble_eq_true rfl, Nat.le_of_ble_eq_true rfl⟩ ⟨Nat.zero_le _, Nat.zero_le _⟩ rfl rfl (Nat.le_of_ble_eq_true rfl) dX11_till_2 rfl ?_
    refine lv_if_ne (tgt := 11) hx hb dX11_till_5 (by decide) (fun c2 => ?_) (fun c2 => ?_)
    · have hf := o_f c2 hf
      refine lv_aload_n hx hb dX11_till_11 rfl (lv_at hl 0 rfl) ?_
      refine lv_iload_n hx hb dX11_till_12 rfl (lv_at hl 1 rfl) ?_
      refine lv_iload_n hx hb dX11_till_13 rfl (lv_at hl 2 rfl) ?_
      obtain ⟨q3, r3, hf⟩ := bd_s hf
      refine rw_V (n := 2) (As := [.int a1, .int a2]) (rest := []) (wr := []) (ws2 := [(oX11 mo mo_length mo_at mo_faultAt mo_parts mo_entries q3.2.1 q3.2.2.1 q3.2.2.2 mo_jumpMany mo_curveEnd mo_beds mo_all), (wI G (mo 2) 12 mo_laws), (wI G (mo 8) 6400 q3.1)]) (c_X11_layRun l G mo mo_laws mo_length mo_at mo_faultAt mo_parts mo_entries mo_metAt mo_ringEarth mo_lead mo_ring mo_jumpMany mo_curveEnd mo_beds mo_all a1 a2 q3 r3) C hK hP hD hS hA hz hl [0, 1, 2] [] [0, 1, 2] rfl rfl rfl rfl rfl (by decide) rfl rfl rfl kcode_X11_layRun kml_X11_160 kim_X11_layRun ksel_X11_layRun kini_X11 (by decide +kernel) ⟨⟨rfl, rfl⟩, Nat.le_of_ble_eq_true rfl, Nat.le_of_ble_eq_true rfl⟩ ⟨Nat.zero_le _, Nat.zero_le _⟩ rfl rfl rfl rfl rfl (Nat.le_of_ble_eq_true rfl) dX11_till_14 rfl (fun H locs hP hD hS => ?_)
      refine lv_bipush (v := 100) hx hb dX11_till_17 (by decide) ?_
      refine lv_iload_n hx hb dX11_till_19 rfl (lv_at hl 1 rfl) ?_
      refine lv_imul hx hb dX11_till_20 ?_
      refine lv_iload_n hx hb dX11_till_21 rfl (lv_at hl 2 rfl) ?_
      refine lv_iadd hx hb dX11_till_22 ?_
      refine lv_istore (lv' := [(4, .int (((100 : Int32) * a1) + a2)), (0, .ref (mo 0)), (1, .int a1), (2, .int a2), (3, .int a3)]) hx hb dX11_till_23 hl (by decide) rfl (fun ls hl => ?_)
      refine lv_iconst (v := 0) hx hb dX11_till_25 (by decide) ?_
      refine lv_istore (lv' := [(5, .int (0 : Int32)), (4, .int (((100 : Int32) * a1) + a2)), (0, .ref (mo 0)), (1, .int a1), (2, .int a2), (3, .int a3)]) hx hb dX11_till_26 hl (by decide) rfl (fun ls hl => ?_)
      have hx78_4 : ∀ (H : Heap) (locs : List Loc) (ls : Array Slot), f_X11_till_x78_4 q3 = some R → va_P G.1 vwCl [(oX11 mo mo_length mo_at mo_faultAt mo_parts mo_entries q3.2.1 q3.2.2.1 q3.2.2.2 mo_jumpMany mo_curveEnd mo_beds mo_all), (wI G (mo 2) 12 mo_laws), (wI G (mo 8) 6400 q3.1)] H → va_D A [(oX11 mo mo_length mo_at mo_faultAt mo_parts mo_entries q3.2.1 q3.2.2.1 q3.2.2.2 mo_jumpMany mo_curveEnd mo_beds mo_all), (wI G (mo 2) 12 mo_laws), (wI G (mo 8) 6400 q3.1)] → va_S A s.heap H locs → lv_has ls 6 [] → Wc_X11_till l G mo mo_laws mo_length mo_at mo_faultAt mo_parts mo_entries mo_metAt mo_ringEarth mo_lead mo_ring mo_jumpMany mo_curveEnd mo_beds mo_all a1 a2 a3 R p e s m below meth c A H locs (F0 m 78 ls []) := by
        intro H locs ls hf hP hD hS hl
        refine lv_bipush (v := -9) hx hb dX11_till_78 (by decide) ?_
        have h9 := Option.some.inj hf
        subst h9
        exact rw_iret C rfl hP hD hS dX11_till_80
      obtain ⟨rL4, hL4, hk4⟩ := bd_s hf
      refine lp_W (P := fun st => ∀ (H : Heap) (locs : List Loc) (ls : Array Slot), va_P G.1 vwCl [(oX11 mo mo_length mo_at mo_faultAt mo_parts mo_entries q3.2.1 q3.2.2.1 q3.2.2.2 mo_jumpMany mo_curveEnd mo_beds mo_all), (wI G (mo 2) 12 mo_laws), (wI G (mo 8) 6400 q3.1)] H → va_D A [(oX11 mo mo_length mo_at mo_faultAt mo_parts mo_entries q3.2.1 q3.2.2.1 q3.2.2.2 mo_jumpMany mo_curveEnd mo_beds mo_all), (wI G (mo 2) 12 mo_laws), (wI G (mo 8) 6400 q3.1)] → va_S A s.heap H locs → lv_has ls 6 [(0, .ref (mo 0)), (3, .int a3), (4, .int st.1), (5, .int st.2)] → Wc_X11_till l G mo mo_laws mo_length mo_at mo_faultAt mo_parts mo_entries mo_metAt mo_ringEarth mo_lead mo_ring mo_jumpMany mo_curveEnd mo_beds mo_all a1 a2 a3 R p e s m below meth c A H locs (F0 m 28 ls [])) ?_ FU ((((100 : Int32) * a1) + a2), (0 : Int32)) hL4 H locs ls hP hD hS (lv_sub hl [2, 5, 1, 0] rfl)
      intro ⟨v4, v5⟩ oc4 hf hI hE H locs ls hP hD hS hl
      have hP : va_P G.1 vwCl [(oX11 mo mo_length mo_at mo_faultAt mo_parts mo_entries q3.2.1 q3.2.2.1 q3.2.2.2 mo_jumpMany mo_curveEnd mo_beds mo_all), (wI G (mo 2) 12 mo_laws), (wI G (mo 8) 6400 q3.1)] H := hP
      have hD : va_D A [(oX11 mo mo_length mo_at mo_faultAt mo_parts mo_entries q3.2.1 q3.2.2.1 q3.2.2.2 mo_jumpMany mo_curveEnd mo_beds mo_all), (wI G (mo 2) 12 mo_laws), (wI G (mo 8) 6400 q3.1)] := hD
      have hl : lv_has ls 6 [(0, .ref (mo 0)), (3, .int a3), (4, .int v4), (5, .int v5)] := hl
      have hf : f_X11_till_b28 mo_laws a3 q3 v4 v5 = some oc4 := hf
      have hj57 : ∀ (v4 : Int32) (v5 : Int32) (k0 : Int32) (H : Heap) (locs : List Loc) (ls : Array Slot), f_X11_till_j57 mo_laws a3 q3 v4 v5 k0 = some oc4 → va_P G.1 vwCl [(oX11 mo mo_length mo_at mo_faultAt mo_parts mo_entries q3.2.1 q3.2.2.1 q3.2.2.2 mo_jumpMany mo_curveEnd mo_beds mo_all), (wI G (mo 2) 12 mo_laws), (wI G (mo 8) 6400 q3.1)] H → va_D A [(oX11 mo mo_length mo_at mo_faultAt mo_parts mo_entries q3.2.1 q3.2.2.1 q3.2.2.2 mo_jumpMany mo_curveEnd mo_beds mo_all), (wI G (mo 2) 12 mo_laws), (wI G (mo 8) 6400 q3.1)] → va_S A s.heap H locs → lv_has ls 6 [(0, .ref (mo 0)), (3, .int a3), (4, .int v4), (5, .int v5)] → Wc_X11_till l G mo mo_laws mo_length mo_at mo_faultAt mo_parts mo_entries mo_metAt mo_ringEarth mo_lead mo_ring mo_jumpMany mo_curveEnd mo_beds mo_all a1 a2 a3 R p e s m below meth c A H locs (F0 m 57 ls [.int k0]) := by
        intro v4 v5 k0 H locs ls hf hP hD hS hl
        refine lv_iload_n hx hb dX11_till_57 rfl (lv_at hl 1 rfl) ?_
        refine lv_icmp_ne (tgt := 64) hx hb dX11_till_58 (by decide) (fun c6 => ?_) (fun c6 => ?_)
        · have hf := o_f c6 hf
          refine lv_aload_n hx hb dX11_till_64 rfl (lv_at hl 0 rfl) ?_
          refine lv_iload hx hb dX11_till_65 (lv_at hl 2 rfl) ?_
          obtain ⟨q7, r7, hf⟩ := bd_s hf
          refine ro_V (n := 1) (As := [.int v4]) (rest := []) (c_X11_roundOf l G mo mo_laws mo_length mo_at mo_faultAt mo_parts mo_entries q3.2.1 q3.2.2.1 q3.2.2.2 mo_jumpMany mo_curveEnd mo_beds mo_all v4 q7 r7) C (hK.at hS hz) (hP.sub [0, 1] rfl) hl kcode_X11_roundOf kml_X11_128 kim_X11_roundOf ksel_X11_roundOf kini_X11 (by decide +kernel) ⟨⟨rfl, rfl⟩, Nat.le_of_ble_eq_true rfl, Nat.le_of_ble_eq_true rfl⟩ ⟨Nat.zero_le _, Nat.zero_le _⟩ rfl rfl rfl rfl rfl (Nat.le_of_ble_eq_true rfl) dX11_till_67 rfl ?_
          refine lv_istore (lv' := [(4, .int q7), (0, .ref (mo 0)), (3, .int a3), (5, .int v5)]) hx hb dX11_till_70 hl (by decide) rfl (fun ls hl => ?_)
          refine lv_iinc (v := (v5 + (1 : Int32))) (lv' := [(5, .int (v5 + (1 : Int32))), (4, .int q7), (0, .ref (mo 0)), (3, .int a3)]) hx hb dX11_till_72 hl (k := 3) rfl (by rfl) (by decide) rfl (fun ls hl => ?_)
          refine lv_goto (tgt := 28) hx hb dX11_till_75 (by decide) ?_
          cases hf
          exact hI _ rfl H locs ls hP hD hS (lv_sub hl [2, 3, 1, 0] rfl)
        · have hf := o_t c6 hf
          refine lv_iload hx hb dX11_till_61 (lv_at hl 3 rfl) ?_
          cases hf
          have hf : some (v5, q3.1, q3.2.1, q3.2.2.1, q3.2.2.2) = some R := by have h9 := hk4; rw [← hE _ rfl] at h9; exact h9
          have h9 := Option.some.inj hf
          subst h9
          exact rw_iret C rfl hP hD hS dX11_till_63
      refine lv_iload hx hb dX11_till_28 (lv_at hl 3 rfl) ?_
      refine lv_aload_n hx hb dX11_till_30 rfl (lv_at hl 0 rfl) ?_
      refine va_get (D := G.1) (ci := 11) (v := .int q3.2.2.1) (C := RX11) (T := TX11) (N := 29) hx hb ht twX11 hown hK.1 hP 0 rfl rfl 14 (by decide) (ht _ kfl_X11_152) (fun _ h9 => h9) rfl dX11_till_31 ?_
      refine lv_aload_n hx hb dX11_till_34 rfl (lv_at hl 0 rfl) ?_
      refine va_get (D := G.1) (ci := 11) (v := .int q3.2.2.2) (C := RX11) (T := TX11) (N := 29) hx hb ht twX11 hown hK.1 hP 0 rfl rfl 15 (by decide) (ht _ kfl_X11_155) (fun _ h9 => h9) rfl dX11_till_35 ?_
      refine lv_iadd hx hb dX11_till_38 ?_
      refine lv_icmp_ge (tgt := 78) hx hb dX11_till_39 (by decide) (fun c9 => ?_) (fun c9 => ?_)
      · have hf := o_t c9 hf
        cases hf
        have hf : f_X11_till_x78_4 q3 = some R := by have h9 := hk4; rw [← hE _ rfl] at h9; exact h9
        exact hx78_4 H locs ls hf hP hD hS (lv_sub hl [] rfl)
      · have hf := o_f c9 hf
        refine lv_iload hx hb dX11_till_42 (lv_at hl 2 rfl) ?_
        refine lv_bipush (v := 100) hx hb dX11_till_44 (by decide) ?_
        obtain ⟨n10, hf⟩ := dz_s hf
        refine lv_idiv hx hb dX11_till_46 n10 ?_
        refine lv_bipush (v := 63) hx hb dX11_till_47 (by decide) ?_
        refine lv_icmp_ne (tgt := 56) hx hb dX11_till_49 (by decide) (fun c11 => ?_) (fun c11 => ?_)
        · have hf := o_f c11 hf
          refine lv_iconst (v := 0) hx hb dX11_till_56 (by decide) ?_
          exact hj57 v4 v5 (0 : Int32) H locs ls hf hP hD hS (lv_sub hl [0, 1, 2, 3] rfl)
        · have hf := o_t c11 hf
          refine lv_iconst (v := 1) hx hb dX11_till_52 (by decide) ?_
          refine lv_goto (tgt := 57) hx hb dX11_till_53 (by decide) ?_
          exact hj57 v4 v5 (1 : Int32) H locs ls hf hP hD hS (lv_sub hl [0, 1, 2, 3] rfl)
    · have hf := o_t c2 hf
      refine lv_bipush (v := -2) hx hb dX11_till_8 (by decide) ?_
      have h9 := Option.some.inj hf
      subst h9
      exact rw_iret C rfl hP hD hS dX11_till_10
  rw [eH, el] at key
  exact key
abbrev Wc_X11_isRest (l : Launch) (G : TG) (mo : Nat → Nat) (mo_laws : Nat → Int32) (mo_length : Int32) (mo_at : Int32) (mo_faultAt : Int32) (mo_parts : Int32) (mo_entries : Int32) (mo_ringEarth : Int32) (mo_lead : Int32) (mo_ring : Int32) (mo_jumpMany : Int32) (mo_curveEnd : Int32) (mo_beds : Int32) (mo_all : Int64) (a1 : Int32) (a2 : Int32) (R : Int32) (p : Program) (e : Env) (s : State) (m : MethodId) (below : List Frame) (meth : Method) (c : Code) (H : Heap) (locs : List Loc) (g : JFrame) : Prop := W p l e ({ frames := 3, cells := 0, slots := 0, locals := 72 }) s m ([.ref (mo 0), .int a1, .int a2] : List Value).toArray below meth c H locs 0 0 (MQ below (roQ (some (.int R))) ([.ref (mo 0), .int a1, .int a2] : List Value).toArray s 0 0 (fun _ => False)) g
set_option maxHeartbeats 4000000 in
set_option maxRecDepth 100000 in
theorem c_X11_isRest (l : Launch) (G : TG) (mo : Nat → Nat) (mo_laws : Nat → Int32) (mo_length : Int32) (mo_at : Int32) (mo_faultAt : Int32) (mo_parts : Int32) (mo_entries : Int32) (mo_ringEarth : Int32) (mo_lead : Int32) (mo_ring : Int32) (mo_jumpMany : Int32) (mo_curveEnd : Int32) (mo_beds : Int32) (mo_all : Int64) (a1 : Int32) (a2 : Int32) (R : Int32) (hf : f_X11_isRest mo_laws a1 a2 = some R) : RO l yX11_isRest cX11_isRest 3 (some .boolean) ({ frames := 3, cells := 0, slots := 0, locals := 72 }) G [.ref (mo 0), .int a1, .int a2] [(oX11 mo mo_length mo_at mo_faultAt mo_parts mo_entries mo_ringEarth mo_lead mo_ring mo_jumpMany mo_curveEnd mo_beds mo_all), (wI G (mo 2) 12 mo_laws)] (some (.int R)) := by
  refine RO.mk (by decide +kernel) (Nat.le_of_ble_eq_true rfl) ?_
  intro p e s m below meth c ls C hP hK hl
  have hx := C.1
  have hb := C.2.1
  have hown : s.vm.findClass RX11 = some m.cls := C.2.2.2.2.2.1
  have ht := C.2.2.2.2.2.2
  have hl : lv_has ls 3 [(0, .ref (mo 0)), (1, .int a1), (2, .int a2)] := hl
  show Wc_X11_isRest l G mo mo_laws mo_length mo_at mo_faultAt mo_parts mo_entries mo_ringEarth mo_lead mo_ring mo_jumpMany mo_curveEnd mo_beds mo_all a1 a2 R p e s m below meth c s.heap [] (F0 m 0 ls [])
  refine lv_aload_n hx hb dX11_isRest_0 rfl (lv_at hl 0 rfl) ?_
  refine lv_iload_n hx hb dX11_isRest_1 rfl (lv_at hl 1 rfl) ?_
  refine lv_iload_n hx hb dX11_isRest_2 rfl (lv_at hl 2 rfl) ?_
  obtain ⟨q1, r1, hf⟩ := bd_s hf
  refine ro_V (n := 2) (As := [.int a1, .int a2]) (rest := []) (c_X11_iceThen l G mo mo_laws mo_length mo_at mo_faultAt mo_parts mo_entries mo_ringEarth mo_lead mo_ring mo_jumpMany mo_curveEnd mo_beds mo_all a1 a2 q1 r1) C hK (hP.sub [0, 1] rfl) hl kcode_X11_iceThen kml_X11_142 kim_X11_iceThen ksel_X11_iceThen kini_X11 (by decide +kernel) ⟨⟨rfl, rfl⟩, Nat.le_of_ble_eq_true rfl, Nat.le_of_ble_eq_true rfl⟩ ⟨Nat.zero_le _, Nat.zero_le _⟩ rfl rfl rfl rfl rfl (Nat.le_of_ble_eq_true rfl) dX11_isRest_3 rfl ?_
  refine lv_iload_n hx hb dX11_isRest_6 rfl (lv_at hl 1 rfl) ?_
  refine lv_icmp_ne (tgt := 14) hx hb dX11_isRest_7 (by decide) (fun c2 => ?_) (fun c2 => ?_)
  · have hf := o_f c2 hf
    refine lv_iconst (v := 0) hx hb dX11_isRest_14 (by decide) ?_
    have h9 := Option.some.inj hf
    subst h9
    exact ro_zret C (Or.inl rfl) rfl dX11_isRest_15
  · have hf := o_t c2 hf
    refine lv_iconst (v := 1) hx hb dX11_isRest_10 (by decide) ?_
    refine lv_goto (tgt := 15) hx hb dX11_isRest_11 (by decide) ?_
    have h9 := Option.some.inj hf
    subst h9
    exact ro_zret C (Or.inr rfl) rfl dX11_isRest_15
abbrev Wc_X11_rests (l : Launch) (G : TG) (mo : Nat → Nat) (mo_laws : Nat → Int32) (mo_length : Int32) (mo_at : Int32) (mo_faultAt : Int32) (mo_parts : Int32) (mo_entries : Int32) (mo_ringEarth : Int32) (mo_lead : Int32) (mo_ring : Int32) (mo_jumpMany : Int32) (mo_curveEnd : Int32) (mo_beds : Int32) (mo_all : Int64) (a1 : Int32) (R : Int32) (p : Program) (e : Env) (s : State) (m : MethodId) (below : List Frame) (meth : Method) (c : Code) (H : Heap) (locs : List Loc) (g : JFrame) : Prop := W p l e ({ frames := 4, cells := 0, slots := 0, locals := 94 }) s m ([.ref (mo 0), .int a1] : List Value).toArray below meth c H locs 0 0 (MQ below (roQ (some (.int R))) ([.ref (mo 0), .int a1] : List Value).toArray s 0 0 (fun _ => False)) g
set_option maxHeartbeats 4000000 in
set_option maxRecDepth 100000 in
theorem c_X11_rests (l : Launch) (G : TG) (mo : Nat → Nat) (mo_laws : Nat → Int32) (mo_length : Int32) (mo_at : Int32) (mo_faultAt : Int32) (mo_parts : Int32) (mo_entries : Int32) (mo_ringEarth : Int32) (mo_lead : Int32) (mo_ring : Int32) (mo_jumpMany : Int32) (mo_curveEnd : Int32) (mo_beds : Int32) (mo_all : Int64) (a1 : Int32) (R : Int32) (hf : f_X11_rests mo_laws a1 = some R) : RO l yX11_rests cX11_rests 4 (some .int) ({ frames := 4, cells := 0, slots := 0, locals := 94 }) G [.ref (mo 0), .int a1] [(oX11 mo mo_length mo_at mo_faultAt mo_parts mo_entries mo_ringEarth mo_lead mo_ring mo_jumpMany mo_curveEnd mo_beds mo_all), (wI G (mo 2) 12 mo_laws)] (some (.int R)) := by
  refine RO.mk (by decide +kernel) (Nat.le_of_ble_eq_true rfl) ?_
  intro p e s m below meth c ls C hP hK hl
  have hx := C.1
  have hb := C.2.1
  have hown : s.vm.findClass RX11 = some m.cls := C.2.2.2.2.2.1
  have ht := C.2.2.2.2.2.2
  have hl : lv_has ls 4 [(0, .ref (mo 0)), (1, .int a1)] := hl
  show Wc_X11_rests l G mo mo_laws mo_length mo_at mo_faultAt mo_parts mo_entries mo_ringEarth mo_lead mo_ring mo_jumpMany mo_curveEnd mo_beds mo_all a1 R p e s m below meth c s.heap [] (F0 m 0 ls [])
  refine lv_iload_n hx hb dX11_rests_0 rfl (lv_at hl 1 rfl) ?_
  refine lv_i2l (v := (a1.toInt64)) hx hb dX11_rests_1 rfl ?_
  refine lv_lconst (v := 0) hx hb dX11_rests_2 (by decide) ?_
  refine lv_ldc2 hx hb hown (ht _ kcL_X11_122) dX11_rests_3 ?_
  obtain ⟨q1, r1, hf⟩ := bd_s hf
  refine ro_S (n := 3) (As := [.long (a1.toInt64), .long (0 : Int64), .long (99 : Int64)]) (rest := []) (c_X11_in l G (a1.toInt64) (0 : Int64) (99 : Int64) q1 r1) C hK (hP.sub [] rfl) hl kcode_X11_in kml_X11_65 kst_X11_in kini_X11 (by decide +kernel) ⟨⟨rfl, rfl⟩, Nat.le_of_ble_eq_true rfl, Nat.le_of_ble_eq_true rfl⟩ ⟨Nat.zero_le _, Nat.zero_le _⟩ rfl rfl (Nat.le_of_ble_eq_true rfl) dX11_rests_6 rfl ?_
  refine lv_if_ne (tgt := 15) hx hb dX11_rests_9 (by decide) (fun c2 => ?_) (fun c2 => ?_)
  · have hf := o_f c2 hf
    refine lv_iconst (v := 0) hx hb dX11_rests_15 (by decide) ?_
    refine lv_istore_n (lv' := [(2, .int (0 : Int32)), (0, .ref (mo 0)), (1, .int a1)]) hx hb dX11_rests_16 rfl hl (by decide) rfl (fun ls hl => ?_)
    refine lv_iconst (v := 0) hx hb dX11_rests_17 (by decide) ?_
    refine lv_istore_n (lv' := [(3, .int (0 : Int32)), (2, .int (0 : Int32)), (0, .ref (mo 0)), (1, .int a1)]) hx hb dX11_rests_18 rfl hl (by decide) rfl (fun ls hl => ?_)
    have hx48_3 : ∀ (v2 : Int32) (ls : Array Slot), f_X11_rests_x48_3 v2 = some R → lv_has ls 4 [(2, .int v2)] → Wc_X11_rests l G mo mo_laws mo_length mo_at mo_faultAt mo_parts mo_entries mo_ringEarth mo_lead mo_ring mo_jumpMany mo_curveEnd mo_beds mo_all a1 R p e s m below meth c s.heap [] (F0 m 48 ls []) := by
      intro v2 ls hf hl
      refine lv_iload_n hx hb dX11_rests_48 rfl (lv_at hl 0 rfl) ?_
      have h9 := Option.some.inj hf
      subst h9
      exact ro_iret C rfl dX11_rests_49
    obtain ⟨rL3, hL3, hk3⟩ := bd_s hf
    refine lp_W (P := fun st => ∀ (ls : Array Slot), lv_has ls 4 [(0, .ref (mo 0)), (1, .int a1), (2, .int st.1), (3, .int st.2)] → Wc_X11_rests l G mo mo_laws mo_length mo_at mo_faultAt mo_parts mo_entries mo_ringEarth mo_lead mo_ring mo_jumpMany mo_curveEnd mo_beds mo_all a1 R p e s m below meth c s.heap [] (F0 m 19 ls [])) ?_ FU ((0 : Int32), (0 : Int32)) hL3 ls (lv_sub hl [2, 3, 1, 0] rfl)
    intro ⟨v2, v3⟩ oc3 hf hI hE ls hl
    have hl : lv_has ls 4 [(0, .ref (mo 0)), (1, .int a1), (2, .int v2), (3, .int v3)] := hl
    have hf : f_X11_rests_b19 mo_laws a1 v2 v3 = some oc3 := hf
    refine lv_iload_n hx hb dX11_rests_19 rfl (lv_at hl 3 rfl) ?_
    refine lv_bipush (v := 64) hx hb dX11_rests_20 (by decide) ?_
    refine lv_icmp_ge (tgt := 48) hx hb dX11_rests_22 (by decide) (fun c5 => ?_) (fun c5 => ?_)
    · have hf := o_t c5 hf
      cases hf
      have hf : f_X11_rests_x48_3 v2 = some R := by have h9 := hk3; rw [← hE _ rfl] at h9; exact h9
      exact hx48_3 v2 ls hf (lv_sub hl [2] rfl)
    · have hf := o_f c5 hf
      refine lv_iload_n hx hb dX11_rests_25 rfl (lv_at hl 2 rfl) ?_
      refine lv_aload_n hx hb dX11_rests_26 rfl (lv_at hl 0 rfl) ?_
      refine lv_iload_n hx hb dX11_rests_27 rfl (lv_at hl 3 rfl) ?_
      refine lv_iload_n hx hb dX11_rests_28 rfl (lv_at hl 1 rfl) ?_
      obtain ⟨q6, r6, hf⟩ := bd_s hf
      refine ro_V (n := 2) (As := [.int v3, .int a1]) (rest := [.int v2]) (c_X11_isRest l G mo mo_laws mo_length mo_at mo_faultAt mo_parts mo_entries mo_ringEarth mo_lead mo_ring mo_jumpMany mo_curveEnd mo_beds mo_all v3 a1 q6 r6) C hK (hP.sub [0, 1] rfl) hl kcode_X11_isRest kml_X11_164 kim_X11_isRest ksel_X11_isRest kini_X11 (by decide +kernel) ⟨⟨rfl, rfl⟩, Nat.le_of_ble_eq_true rfl, Nat.le_of_ble_eq_true rfl⟩ ⟨Nat.zero_le _, Nat.zero_le _⟩ rfl rfl rfl rfl rfl (Nat.le_of_ble_eq_true rfl) dX11_rests_29 rfl ?_
      refine lv_if_eq (tgt := 39) hx hb dX11_rests_32 (by decide) (fun c7 => ?_) (fun c7 => ?_)
      · have hf := o_t c7 hf
        refine lv_iconst (v := 0) hx hb dX11_rests_39 (by decide) ?_
        refine lv_iadd hx hb dX11_rests_40 ?_
        refine lv_istore_n (lv' := [(2, .int (v2 + (0 : Int32))), (0, .ref (mo 0)), (1, .int a1), (3, .int v3)]) hx hb dX11_rests_41 rfl hl (by decide) rfl (fun ls hl => ?_)
        refine lv_iinc (v := (v3 + (1 : Int32))) (lv' := [(3, .int (v3 + (1 : Int32))), (2, .int (v2 + (0 : Int32))), (0, .ref (mo 0)), (1, .int a1)]) hx hb dX11_rests_42 hl (k := 3) rfl (by rfl) (by decide) rfl (fun ls hl => ?_)
        refine lv_goto (tgt := 19) hx hb dX11_rests_45 (by decide) ?_
        cases hf
        exact hI _ rfl ls (lv_sub hl [2, 3, 1, 0] rfl)
      · have hf := o_f c7 hf
        refine lv_iconst (v := 1) hx hb dX11_rests_35 (by decide) ?_
        refine lv_goto (tgt := 40) hx hb dX11_rests_36 (by decide) ?_
        refine lv_iadd hx hb dX11_rests_40 ?_
        refine lv_istore_n (lv' := [(2, .int (v2 + (1 : Int32))), (0, .ref (mo 0)), (1, .int a1), (3, .int v3)]) hx hb dX11_rests_41 rfl hl (by decide) rfl (fun ls hl => ?_)
        refine lv_iinc (v := (v3 + (1 : Int32))) (lv' := [(3, .int (v3 + (1 : Int32))), (2, .int (v2 + (1 : Int32))), (0, .ref (mo 0)), (1, .int a1)]) hx hb dX11_rests_42 hl (k := 3) rfl (by rfl) (by decide) rfl (fun ls hl => ?_)
        refine lv_goto (tgt := 19) hx hb dX11_rests_45 (by decide) ?_
        cases hf
        exact hI _ rfl ls (lv_sub hl [2, 3, 1, 0] rfl)
  · have hf := o_t c2 hf
    refine lv_bipush (v := -2) hx hb dX11_rests_12 (by decide) ?_
    have h9 := Option.some.inj hf
    subst h9
    exact ro_iret C rfl dX11_rests_14
abbrev Wc_X11_rest (l : Launch) (G : TG) (mo : Nat → Nat) (mo_laws : Nat → Int32) (mo_length : Int32) (mo_at : Int32) (mo_faultAt : Int32) (mo_parts : Int32) (mo_entries : Int32) (mo_ringEarth : Int32) (mo_lead : Int32) (mo_ring : Int32) (mo_jumpMany : Int32) (mo_curveEnd : Int32) (mo_beds : Int32) (mo_all : Int64) (a1 : Int32) (a2 : Int32) (R : Int32) (p : Program) (e : Env) (s : State) (m : MethodId) (below : List Frame) (meth : Method) (c : Code) (H : Heap) (locs : List Loc) (g : JFrame) : Prop := W p l e ({ frames := 4, cells := 0, slots := 0, locals := 94 }) s m ([.ref (mo 0), .int a1, .int a2] : List Value).toArray below meth c H locs 0 0 (MQ below (roQ (some (.int R))) ([.ref (mo 0), .int a1, .int a2] : List Value).toArray s 0 0 (fun _ => False)) g
set_option maxHeartbeats 4000000 in
set_option maxRecDepth 100000 in
theorem c_X11_rest (l : Launch) (G : TG) (mo : Nat → Nat) (mo_laws : Nat → Int32) (mo_length : Int32) (mo_at : Int32) (mo_faultAt : Int32) (mo_parts : Int32) (mo_entries : Int32) (mo_ringEarth : Int32) (mo_lead : Int32) (mo_ring : Int32) (mo_jumpMany : Int32) (mo_curveEnd : Int32) (mo_beds : Int32) (mo_all : Int64) (a1 : Int32) (a2 : Int32) (R : Int32) (hf : f_X11_rest mo_laws a1 a2 = some R) : RO l yX11_rest cX11_rest 5 (some .int) ({ frames := 4, cells := 0, slots := 0, locals := 94 }) G [.ref (mo 0), .int a1, .int a2] [(oX11 mo mo_length mo_at mo_faultAt mo_parts mo_entries mo_ringEarth mo_lead mo_ring mo_jumpMany mo_curveEnd mo_beds mo_all), (wI G (mo 2) 12 mo_laws)] (some (.int R)) := by
  refine RO.mk (by decide +kernel) (Nat.le_of_ble_eq_true rfl) ?_
  intro p e s m below meth c ls C hP hK hl
  have hx := C.1
  have hb := C.2.1
  have hown : s.vm.findClass RX11 = some m.cls := C.2.2.2.2.2.1
  have ht := C.2.2.2.2.2.2
  have hl : lv_has ls 5 [(0, .ref (mo 0)), (1, .int a1), (2, .int a2)] := hl
  show Wc_X11_rest l G mo mo_laws mo_length mo_at mo_faultAt mo_parts mo_entries mo_ringEarth mo_lead mo_ring mo_jumpMany mo_curveEnd mo_beds mo_all a1 a2 R p e s m below meth c s.heap [] (F0 m 0 ls [])
  refine lv_iload_n hx hb dX11_rest_0 rfl (lv_at hl 1 rfl) ?_
  refine lv_i2l (v := (a1.toInt64)) hx hb dX11_rest_1 rfl ?_
  refine lv_lconst (v := 0) hx hb dX11_rest_2 (by decide) ?_
  refine lv_ldc2 hx hb hown (ht _ kcL_X11_122) dX11_rest_3 ?_
  obtain ⟨q1, r1, hf⟩ := bd_s hf
  refine ro_S (n := 3) (As := [.long (a1.toInt64), .long (0 : Int64), .long (99 : Int64)]) (rest := []) (c_X11_in l G (a1.toInt64) (0 : Int64) (99 : Int64) q1 r1) C hK (hP.sub [] rfl) hl kcode_X11_in kml_X11_65 kst_X11_in kini_X11 (by decide +kernel) ⟨⟨rfl, rfl⟩, Nat.le_of_ble_eq_true rfl, Nat.le_of_ble_eq_true rfl⟩ ⟨Nat.zero_le _, Nat.zero_le _⟩ rfl rfl (Nat.le_of_ble_eq_true rfl) dX11_rest_6 rfl ?_
  refine lv_if_ne (tgt := 15) hx hb dX11_rest_9 (by decide) (fun c2 => ?_) (fun c2 => ?_)
  · have hf := o_f c2 hf
    refine lv_iconst (v := 0) hx hb dX11_rest_15 (by decide) ?_
    refine lv_istore_n (lv' := [(3, .int (0 : Int32)), (0, .ref (mo 0)), (1, .int a1), (2, .int a2)]) hx hb dX11_rest_16 rfl hl (by decide) rfl (fun ls hl => ?_)
    refine lv_iconst (v := 0) hx hb dX11_rest_17 (by decide) ?_
    refine lv_istore (lv' := [(4, .int (0 : Int32)), (3, .int (0 : Int32)), (0, .ref (mo 0)), (1, .int a1), (2, .int a2)]) hx hb dX11_rest_18 hl (by decide) rfl (fun ls hl => ?_)
    have hx54_3 : ∀ (ls : Array Slot), f_X11_rest_x54_3 = some R → lv_has ls 5 [] → Wc_X11_rest l G mo mo_laws mo_length mo_at mo_faultAt mo_parts mo_entries mo_ringEarth mo_lead mo_ring mo_jumpMany mo_curveEnd mo_beds mo_all a1 a2 R p e s m below meth c s.heap [] (F0 m 54 ls []) := by
      intro ls hf hl
      refine lv_bipush (v := -9) hx hb dX11_rest_54 (by decide) ?_
      have h9 := Option.some.inj hf
      subst h9
      exact ro_iret C rfl dX11_rest_56
    obtain ⟨rL3, hL3, hk3⟩ := bd_s hf
    refine lp_W (P := fun st => ∀ (ls : Array Slot), lv_has ls 5 [(0, .ref (mo 0)), (1, .int a1), (2, .int a2), (3, .int st.1), (4, .int st.2)] → Wc_X11_rest l G mo mo_laws mo_length mo_at mo_faultAt mo_parts mo_entries mo_ringEarth mo_lead mo_ring mo_jumpMany mo_curveEnd mo_beds mo_all a1 a2 R p e s m below meth c s.heap [] (F0 m 20 ls [])) ?_ FU ((0 : Int32), (0 : Int32)) hL3 ls (lv_sub hl [2, 3, 4, 1, 0] rfl)
    intro ⟨v3, v4⟩ oc3 hf hI hE ls hl
    have hl : lv_has ls 5 [(0, .ref (mo 0)), (1, .int a1), (2, .int a2), (3, .int v3), (4, .int v4)] := hl
    have hf : f_X11_rest_b20 mo_laws a1 a2 v3 v4 = some oc3 := hf
    refine lv_iload hx hb dX11_rest_20 (lv_at hl 4 rfl) ?_
    refine lv_bipush (v := 64) hx hb dX11_rest_22 (by decide) ?_
    refine lv_icmp_ge (tgt := 54) hx hb dX11_rest_24 (by decide) (fun c5 => ?_) (fun c5 => ?_)
    · have hf := o_t c5 hf
      cases hf
      have hf : f_X11_rest_x54_3 = some R := by have h9 := hk3; rw [← hE _ rfl] at h9; exact h9
      exact hx54_3 ls hf (lv_sub hl [] rfl)
    · have hf := o_f c5 hf
      refine lv_aload_n hx hb dX11_rest_27 rfl (lv_at hl 0 rfl) ?_
      refine lv_iload hx hb dX11_rest_28 (lv_at hl 4 rfl) ?_
      refine lv_iload_n hx hb dX11_rest_30 rfl (lv_at hl 1 rfl) ?_
      obtain ⟨q6, r6, hf⟩ := bd_s hf
      refine ro_V (n := 2) (As := [.int v4, .int a1]) (rest := []) (c_X11_isRest l G mo mo_laws mo_length mo_at mo_faultAt mo_parts mo_entries mo_ringEarth mo_lead mo_ring mo_jumpMany mo_curveEnd mo_beds mo_all v4 a1 q6 r6) C hK (hP.sub [0, 1] rfl) hl kcode_X11_isRest kml_X11_164 kim_X11_isRest ksel_X11_isRest kini_X11 (by decide +kernel) ⟨⟨rfl, rfl⟩, Nat.le_of_ble_eq_true rfl, Nat.le_of_ble_eq_true rfl⟩ ⟨Nat.zero_le _, Nat.zero_le _⟩ rfl rfl rfl rfl rfl (Nat.le_of_ble_eq_true rfl) dX11_rest_31 rfl ?_
      refine lv_if_eq (tgt := 48) hx hb dX11_rest_34 (by decide) (fun c7 => ?_) (fun c7 => ?_)
      · have hf := o_t c7 hf
        refine lv_iinc (v := (v4 + (1 : Int32))) (lv' := [(4, .int (v4 + (1 : Int32))), (0, .ref (mo 0)), (1, .int a1), (2, .int a2), (3, .int v3)]) hx hb dX11_rest_48 hl (k := 4) rfl (by rfl) (by decide) rfl (fun ls hl => ?_)
        refine lv_goto (tgt := 20) hx hb dX11_rest_51 (by decide) ?_
        cases hf
        exact hI _ rfl ls (lv_sub hl [1, 2, 3, 4, 0] rfl)
      · have hf := o_f c7 hf
        refine lv_iload_n hx hb dX11_rest_37 rfl (lv_at hl 3 rfl) ?_
        refine lv_iload_n hx hb dX11_rest_38 rfl (lv_at hl 2 rfl) ?_
        refine lv_icmp_ne (tgt := 45) hx hb dX11_rest_39 (by decide) (fun c8 => ?_) (fun c8 => ?_)
        · have hf := o_f c8 hf
          refine lv_iinc (v := (v3 + (1 : Int32))) (lv' := [(3, .int (v3 + (1 : Int32))), (0, .ref (mo 0)), (1, .int a1), (2, .int a2), (4, .int v4)]) hx hb dX11_rest_45 hl (k := 3) rfl (by rfl) (by decide) rfl (fun ls hl => ?_)
          refine lv_iinc (v := (v4 + (1 : Int32))) (lv' := [(4, .int (v4 + (1 : Int32))), (3, .int (v3 + (1 : Int32))), (0, .ref (mo 0)), (1, .int a1), (2, .int a2)]) hx hb dX11_rest_48 hl (k := 4) rfl (by rfl) (by decide) rfl (fun ls hl => ?_)
          refine lv_goto (tgt := 20) hx hb dX11_rest_51 (by decide) ?_
          cases hf
          exact hI _ rfl ls (lv_sub hl [2, 3, 4, 1, 0] rfl)
        · have hf := o_t c8 hf
          refine lv_iload hx hb dX11_rest_42 (lv_at hl 4 rfl) ?_
          cases hf
          have hf : some v4 = some R := by have h9 := hk3; rw [← hE _ rfl] at h9; exact h9
          have h9 := Option.some.inj hf
          subst h9
          exact ro_iret C rfl dX11_rest_44
  · have hf := o_t c2 hf
    refine lv_bipush (v := -2) hx hb dX11_rest_12 (by decide) ?_
    have h9 := Option.some.inj hf
    subst h9
    exact ro_iret C rfl dX11_rest_14
abbrev Wc_X11_settleOf (l : Launch) (G : TG) (mo : Nat → Nat) (mo_laws : Nat → Int32) (mo_length : Int32) (mo_at : Int32) (mo_faultAt : Int32) (mo_parts : Int32) (mo_entries : Int32) (mo_ringEarth : Int32) (mo_lead : Int32) (mo_ring : Int32) (mo_jumpMany : Int32) (mo_curveEnd : Int32) (mo_beds : Int32) (mo_all : Int64) (a1 : Int32) (a2 : Int32) (R : Int32) (p : Program) (e : Env) (s : State) (m : MethodId) (below : List Frame) (meth : Method) (c : Code) (H : Heap) (locs : List Loc) (g : JFrame) : Prop := W p l e ({ frames := 4, cells := 0, slots := 0, locals := 94 }) s m ([.ref (mo 0), .int a1, .int a2] : List Value).toArray below meth c H locs 0 0 (MQ below (roQ (some (.int R))) ([.ref (mo 0), .int a1, .int a2] : List Value).toArray s 0 0 (fun _ => False)) g
set_option maxHeartbeats 4000000 in
set_option maxRecDepth 100000 in
theorem c_X11_settleOf (l : Launch) (G : TG) (mo : Nat → Nat) (mo_laws : Nat → Int32) (mo_length : Int32) (mo_at : Int32) (mo_faultAt : Int32) (mo_parts : Int32) (mo_entries : Int32) (mo_ringEarth : Int32) (mo_lead : Int32) (mo_ring : Int32) (mo_jumpMany : Int32) (mo_curveEnd : Int32) (mo_beds : Int32) (mo_all : Int64) (a1 : Int32) (a2 : Int32) (R : Int32) (hf : f_X11_settleOf mo_laws a1 a2 = some R) : RO l yX11_settleOf cX11_settleOf 5 (some .int) ({ frames := 4, cells := 0, slots := 0, locals := 94 }) G [.ref (mo 0), .int a1, .int a2] [(oX11 mo mo_length mo_at mo_faultAt mo_parts mo_entries mo_ringEarth mo_lead mo_ring mo_jumpMany mo_curveEnd mo_beds mo_all), (wI G (mo 2) 12 mo_laws)] (some (.int R)) := by
  refine RO.mk (by decide +kernel) (Nat.le_of_ble_eq_true rfl) ?_
  intro p e s m below meth c ls C hP hK hl
  have hx := C.1
  have hb := C.2.1
  have hown : s.vm.findClass RX11 = some m.cls := C.2.2.2.2.2.1
  have ht := C.2.2.2.2.2.2
  have hl : lv_has ls 5 [(0, .ref (mo 0)), (1, .int a1), (2, .int a2)] := hl
  show Wc_X11_settleOf l G mo mo_laws mo_length mo_at mo_faultAt mo_parts mo_entries mo_ringEarth mo_lead mo_ring mo_jumpMany mo_curveEnd mo_beds mo_all a1 a2 R p e s m below meth c s.heap [] (F0 m 0 ls [])
  refine lv_iload_n hx hb dX11_settleOf_0 rfl (lv_at hl 1 rfl) ?_
  refine lv_istore_n (lv' := [(3, .int a1), (0, .ref (mo 0)), (1, .int a1), (2, .int a2)]) hx hb dX11_settleOf_1 rfl hl (by decide) rfl (fun ls hl => ?_)
  refine lv_iconst (v := 0) hx hb dX11_settleOf_2 (by decide) ?_
  refine lv_istore (lv' := [(4, .int (0 : Int32)), (3, .int a1), (0, .ref (mo 0)), (1, .int a1), (2, .int a2)]) hx hb dX11_settleOf_3 hl (by decide) rfl (fun ls hl => ?_)
  have hx36_1 : ∀ (ls : Array Slot), f_X11_settleOf_x36_1 = some R → lv_has ls 5 [] → Wc_X11_settleOf l G mo mo_laws mo_length mo_at mo_faultAt mo_parts mo_entries mo_ringEarth mo_lead mo_ring mo_jumpMany mo_curveEnd mo_beds mo_all a1 a2 R p e s m below meth c s.heap [] (F0 m 36 ls []) := by
    intro ls hf hl
    refine lv_bipush (v := -9) hx hb dX11_settleOf_36 (by decide) ?_
    have h9 := Option.some.inj hf
    subst h9
    exact ro_iret C rfl dX11_settleOf_38
  obtain ⟨rL1, hL1, hk1⟩ := bd_s hf
  refine lp_W (P := fun st => ∀ (ls : Array Slot), lv_has ls 5 [(0, .ref (mo 0)), (2, .int a2), (3, .int st.1), (4, .int st.2)] → Wc_X11_settleOf l G mo mo_laws mo_length mo_at mo_faultAt mo_parts mo_entries mo_ringEarth mo_lead mo_ring mo_jumpMany mo_curveEnd mo_beds mo_all a1 a2 R p e s m below meth c s.heap [] (F0 m 5 ls [])) ?_ FU (a1, (0 : Int32)) hL1 ls (lv_sub hl [2, 4, 1, 0] rfl)
  intro ⟨v3, v4⟩ oc1 hf hI hE ls hl
  have hl : lv_has ls 5 [(0, .ref (mo 0)), (2, .int a2), (3, .int v3), (4, .int v4)] := hl
  have hf : f_X11_settleOf_b5 mo_laws a2 v3 v4 = some oc1 := hf
  refine lv_iload hx hb dX11_settleOf_5 (lv_at hl 3 rfl) ?_
  refine lv_bipush (v := 65) hx hb dX11_settleOf_7 (by decide) ?_
  refine lv_icmp_ge (tgt := 36) hx hb dX11_settleOf_9 (by decide) (fun c3 => ?_) (fun c3 => ?_)
  · have hf := o_t c3 hf
    cases hf
    have hf : f_X11_settleOf_x36_1 = some R := by have h9 := hk1; rw [← hE _ rfl] at h9; exact h9
    exact hx36_1 ls hf (lv_sub hl [] rfl)
  · have hf := o_f c3 hf
    refine lv_aload_n hx hb dX11_settleOf_12 rfl (lv_at hl 0 rfl) ?_
    refine lv_iload_n hx hb dX11_settleOf_13 rfl (lv_at hl 2 rfl) ?_
    refine lv_iload_n hx hb dX11_settleOf_14 rfl (lv_at hl 1 rfl) ?_
    obtain ⟨q4, r4, hf⟩ := bd_s hf
    refine ro_V (n := 2) (As := [.int v3, .int a2]) (rest := []) (c_X11_isRest l G mo mo_laws mo_length mo_at mo_faultAt mo_parts mo_entries mo_ringEarth mo_lead mo_ring mo_jumpMany mo_curveEnd mo_beds mo_all v3 a2 q4 r4) C hK (hP.sub [0, 1] rfl) hl kcode_X11_isRest kml_X11_164 kim_X11_isRest ksel_X11_isRest kini_X11 (by decide +kernel) ⟨⟨rfl, rfl⟩, Nat.le_of_ble_eq_true rfl, Nat.le_of_ble_eq_true rfl⟩ ⟨Nat.zero_le _, Nat.zero_le _⟩ rfl rfl rfl rfl rfl (Nat.le_of_ble_eq_true rfl) dX11_settleOf_15 rfl ?_
    refine lv_if_eq (tgt := 23) hx hb dX11_settleOf_18 (by decide) (fun c5 => ?_) (fun c5 => ?_)
    · have hf := o_t c5 hf
      refine lv_aload_n hx hb dX11_settleOf_23 rfl (lv_at hl 0 rfl) ?_
      refine lv_iload_n hx hb dX11_settleOf_24 rfl (lv_at hl 2 rfl) ?_
      refine lv_iload_n hx hb dX11_settleOf_25 rfl (lv_at hl 1 rfl) ?_
      obtain ⟨q6, r6, hf⟩ := bd_s hf
      refine ro_V (n := 2) (As := [.int v3, .int a2]) (rest := []) (c_X11_iceThen l G mo mo_laws mo_length mo_at mo_faultAt mo_parts mo_entries mo_ringEarth mo_lead mo_ring mo_jumpMany mo_curveEnd mo_beds mo_all v3 a2 q6 r6) C hK (hP.sub [0, 1] rfl) hl kcode_X11_iceThen kml_X11_142 kim_X11_iceThen ksel_X11_iceThen kini_X11 (by decide +kernel) ⟨⟨rfl, rfl⟩, Nat.le_of_ble_eq_true rfl, Nat.le_of_ble_eq_true rfl⟩ ⟨Nat.zero_le _, Nat.zero_le _⟩ rfl rfl rfl rfl rfl (Nat.le_of_ble_eq_true rfl) dX11_settleOf_26 rfl ?_
      refine lv_istore_n (lv' := [(3, .int q6), (0, .ref (mo 0)), (2, .int a2), (4, .int v4)]) hx hb dX11_settleOf_29 rfl hl (by decide) rfl (fun ls hl => ?_)
      refine lv_iinc (v := (v4 + (1 : Int32))) (lv' := [(4, .int (v4 + (1 : Int32))), (3, .int q6), (0, .ref (mo 0)), (2, .int a2)]) hx hb dX11_settleOf_30 hl (k := 3) rfl (by rfl) (by decide) rfl (fun ls hl => ?_)
      refine lv_goto (tgt := 5) hx hb dX11_settleOf_33 (by decide) ?_
      cases hf
      exact hI _ rfl ls (lv_sub hl [2, 3, 1, 0] rfl)
    · have hf := o_f c5 hf
      refine lv_iload_n hx hb dX11_settleOf_21 rfl (lv_at hl 2 rfl) ?_
      cases hf
      have hf : some v3 = some R := by have h9 := hk1; rw [← hE _ rfl] at h9; exact h9
      have h9 := Option.some.inj hf
      subst h9
      exact ro_iret C rfl dX11_settleOf_22
abbrev Wc_X11_settle (l : Launch) (G : TG) (mo : Nat → Nat) (mo_laws : Nat → Int32) (mo_length : Int32) (mo_at : Int32) (mo_faultAt : Int32) (mo_parts : Int32) (mo_entries : Int32) (mo_ringEarth : Int32) (mo_lead : Int32) (mo_ring : Int32) (mo_jumpMany : Int32) (mo_curveEnd : Int32) (mo_beds : Int32) (mo_all : Int64) (a1 : Int32) (a2 : Int32) (R : Int32) (p : Program) (e : Env) (s : State) (m : MethodId) (below : List Frame) (meth : Method) (c : Code) (H : Heap) (locs : List Loc) (g : JFrame) : Prop := W p l e ({ frames := 5, cells := 0, slots := 0, locals := 118 }) s m ([.ref (mo 0), .int a1, .int a2] : List Value).toArray below meth c H locs 0 0 (MQ below (roQ (some (.int R))) ([.ref (mo 0), .int a1, .int a2] : List Value).toArray s 0 0 (fun _ => False)) g
set_option maxHeartbeats 4000000 in
set_option maxRecDepth 100000 in
theorem c_X11_settle (l : Launch) (G : TG) (mo : Nat → Nat) (mo_laws : Nat → Int32) (mo_length : Int32) (mo_at : Int32) (mo_faultAt : Int32) (mo_parts : Int32) (mo_entries : Int32) (mo_ringEarth : Int32) (mo_lead : Int32) (mo_ring : Int32) (mo_jumpMany : Int32) (mo_curveEnd : Int32) (mo_beds : Int32) (mo_all : Int64) (a1 : Int32) (a2 : Int32) (R : Int32) (hf : f_X11_settle mo_laws a1 a2 = some R) : RO l yX11_settle cX11_settle 3 (some .int) ({ frames := 5, cells := 0, slots := 0, locals := 118 }) G [.ref (mo 0), .int a1, .int a2] [(oX11 mo mo_length mo_at mo_faultAt mo_parts mo_entries mo_ringEarth mo_lead mo_ring mo_jumpMany mo_curveEnd mo_beds mo_all), (wI G (mo 2) 12 mo_laws)] (some (.int R)) := by
  refine RO.mk (by decide +kernel) (Nat.le_of_ble_eq_true rfl) ?_
  intro p e s m below meth c ls C hP hK hl
  have hx := C.1
  have hb := C.2.1
  have hown : s.vm.findClass RX11 = some m.cls := C.2.2.2.2.2.1
  have ht := C.2.2.2.2.2.2
  have hl : lv_has ls 3 [(0, .ref (mo 0)), (1, .int a1), (2, .int a2)] := hl
  show Wc_X11_settle l G mo mo_laws mo_length mo_at mo_faultAt mo_parts mo_entries mo_ringEarth mo_lead mo_ring mo_jumpMany mo_curveEnd mo_beds mo_all a1 a2 R p e s m below meth c s.heap [] (F0 m 0 ls [])
  refine lv_iload_n hx hb dX11_settle_0 rfl (lv_at hl 1 rfl) ?_
  refine lv_iload_n hx hb dX11_settle_1 rfl (lv_at hl 2 rfl) ?_
  obtain ⟨q1, r1, hf⟩ := bd_s hf
  refine ro_S (n := 2) (As := [.int a1, .int a2]) (rest := []) (c_X11_isEarth l G a1 a2 q1 r1) C hK (hP.sub [] rfl) hl kcode_X11_isEarth kml_X11_124 kst_X11_isEarth kini_X11 (by decide +kernel) ⟨⟨rfl, rfl⟩, Nat.le_of_ble_eq_true rfl, Nat.le_of_ble_eq_true rfl⟩ ⟨Nat.zero_le _, Nat.zero_le _⟩ rfl rfl (Nat.le_of_ble_eq_true rfl) dX11_settle_2 rfl ?_
  refine lv_if_eq (tgt := 17) hx hb dX11_settle_5 (by decide) (fun c2 => ?_) (fun c2 => ?_)
  · have hf := o_t c2 hf
    refine lv_bipush (v := -2) hx hb dX11_settle_17 (by decide) ?_
    have h9 := Option.some.inj hf
    subst h9
    exact ro_iret C rfl dX11_settle_19
  · have hf := o_f c2 hf
    refine lv_aload_n hx hb dX11_settle_8 rfl (lv_at hl 0 rfl) ?_
    refine lv_iload_n hx hb dX11_settle_9 rfl (lv_at hl 1 rfl) ?_
    refine lv_iload_n hx hb dX11_settle_10 rfl (lv_at hl 2 rfl) ?_
    obtain ⟨q4, r4, hf⟩ := bd_s hf
    refine ro_V (n := 2) (As := [.int a1, .int a2]) (rest := []) (c_X11_settleOf l G mo mo_laws mo_length mo_at mo_faultAt mo_parts mo_entries mo_ringEarth mo_lead mo_ring mo_jumpMany mo_curveEnd mo_beds mo_all a1 a2 q4 r4) C hK (hP.sub [0, 1] rfl) hl kcode_X11_settleOf kml_X11_167 kim_X11_settleOf ksel_X11_settleOf kini_X11 (by decide +kernel) ⟨⟨rfl, rfl⟩, Nat.le_of_ble_eq_true rfl, Nat.le_of_ble_eq_true rfl⟩ ⟨Nat.zero_le _, Nat.zero_le _⟩ rfl rfl rfl rfl rfl (Nat.le_of_ble_eq_true rfl) dX11_settle_11 rfl ?_
    refine lv_goto (tgt := 19) hx hb dX11_settle_14 (by decide) ?_
    have h9 := Option.some.inj hf
    subst h9
    exact ro_iret C rfl dX11_settle_19
abbrev Wc_X11_layCurve (l : Launch) (G : TG) (mo : Nat → Nat) (mo_laws : Nat → Int32) (mo_length : Int32) (mo_at : Int32) (mo_faultAt : Int32) (mo_parts : Int32) (mo_entries : Int32) (mo_ringEarth : Int32) (mo_lead : Int32) (mo_ring : Int32) (mo_jumpAir : Nat → Int32) (mo_jumpMany : Int32) (mo_curveEnd : Int32) (mo_beds : Int32) (mo_all : Int64) (a1 : Int32) (a2 : Int32) (a3 : Int32) (R : (Nat → Int32) × Int32 × Int32) (p : Program) (e : Env) (s : State) (m : MethodId) (below : List Frame) (meth : Method) (c : Code) (A : Nat → Prop) (H : Heap) (locs : List Loc) (g : JFrame) : Prop := W p l e ({ frames := 5, cells := 0, slots := 0, locals := 118 }) s m ([.ref (mo 0), .int a1, .int a2, .int a3] : List Value).toArray below meth c H locs 0 0 (MQ below (rwQ G none [(oX11 mo mo_length mo_at mo_faultAt mo_parts mo_entries mo_ringEarth mo_lead mo_ring R.2.1 R.2.2 mo_beds mo_all), (wI G (mo 2) 12 mo_laws), (wI G (mo 9) 100 R.1)] A) ([.ref (mo 0), .int a1, .int a2, .int a3] : List Value).toArray s 0 0 A) g
set_option maxHeartbeats 4000000 in
set_option maxRecDepth 100000 in
theorem c_X11_layCurve (l : Launch) (G : TG) (mo : Nat → Nat) (mo_laws : Nat → Int32) (mo_length : Int32) (mo_at : Int32) (mo_faultAt : Int32) (mo_parts : Int32) (mo_entries : Int32) (mo_ringEarth : Int32) (mo_lead : Int32) (mo_ring : Int32) (mo_jumpAir : Nat → Int32) (mo_jumpMany : Int32) (mo_curveEnd : Int32) (mo_beds : Int32) (mo_all : Int64) (a1 : Int32) (a2 : Int32) (a3 : Int32) (R : (Nat → Int32) × Int32 × Int32) (hf : f_X11_layCurve mo_laws mo_jumpAir a1 a2 a3 = some R) : RW l yX11_layCurve cX11_layCurve 9 none ({ frames := 5, cells := 0, slots := 0, locals := 118 }) G [.ref (mo 0), .int a1, .int a2, .int a3] [(oX11 mo mo_length mo_at mo_faultAt mo_parts mo_entries mo_ringEarth mo_lead mo_ring mo_jumpMany mo_curveEnd mo_beds mo_all), (wI G (mo 2) 12 mo_laws), (wI G (mo 9) 100 mo_jumpAir)] none [(oX11 mo mo_length mo_at mo_faultAt mo_parts mo_entries mo_ringEarth mo_lead mo_ring R.2.1 R.2.2 mo_beds mo_all), (wI G (mo 2) 12 mo_laws), (wI G (mo 9) 100 R.1)] := by
  refine RW.mk (by decide +kernel) (Nat.le_of_ble_eq_true rfl) ?_
  intro p e s m below meth c ls A C hP hD hA hz hK hl hS
  have hx := C.1
  have hb := C.2.1
  have hown : s.vm.findClass RX11 = some m.cls := C.2.2.2.2.2.1
  have ht := C.2.2.2.2.2.2
  have hl : lv_has ls 9 [(0, .ref (mo 0)), (1, .int a1), (2, .int a2), (3, .int a3)] := hl
  show Wc_X11_layCurve l G mo mo_laws mo_length mo_at mo_faultAt mo_parts mo_entries mo_ringEarth mo_lead mo_ring mo_jumpAir mo_jumpMany mo_curveEnd mo_beds mo_all a1 a2 a3 R p e s m below meth c A s.heap [] (F0 m 0 ls [])
  obtain ⟨H, eH, hP, hS⟩ : ∃ H, H = s.heap ∧ va_P G.1 vwCl [(oX11 mo mo_length mo_at mo_faultAt mo_parts mo_entries mo_ringEarth mo_lead mo_ring mo_jumpMany mo_curveEnd mo_beds mo_all), (wI G (mo 2) 12 mo_laws), (wI G (mo 9) 100 mo_jumpAir)] H ∧ va_S A s.heap H [] := ⟨_, rfl, hP, hS⟩
  obtain ⟨locs, el, hS⟩ : ∃ locs : List Loc, locs = [] ∧ va_S A s.heap H locs := ⟨_, rfl, hS⟩
  have key : Wc_X11_layCurve l G mo mo_laws mo_length mo_at mo_faultAt mo_parts mo_entries mo_ringEarth mo_lead mo_ring mo_jumpAir mo_jumpMany mo_curveEnd mo_beds mo_all a1 a2 a3 R p e s m below meth c A H locs (F0 m 0 ls []) := by
    have hj20 : ∀ (k0 : Int32) (mo_jumpAir : Nat → Int32) (mo_jumpMany : Int32) (mo_curveEnd : Int32) (H : Heap) (locs : List Loc) (ls : Array Slot), f_X11_layCurve_j20 mo_laws a2 a3 k0 mo_jumpAir mo_jumpMany mo_curveEnd = some R → va_P G.1 vwCl [(oX11 mo mo_length mo_at mo_faultAt mo_parts mo_entries mo_ringEarth mo_lead mo_ring mo_jumpMany mo_curveEnd mo_beds mo_all), (wI G (mo 2) 12 mo_laws), (wI G (mo 9) 100 mo_jumpAir)] H → va_D A [(oX11 mo mo_length mo_at mo_faultAt mo_parts mo_entries mo_ringEarth mo_lead mo_ring mo_jumpMany mo_curveEnd mo_beds mo_all), (wI G (mo 2) 12 mo_laws), (wI G (mo 9) 100 mo_jumpAir)] → va_S A s.heap H locs → lv_has ls 9 [(0, .ref (mo 0)), (2, .int a2), (3, .int a3)] → Wc_X11_layCurve l G mo mo_laws mo_length mo_at mo_faultAt mo_parts mo_entries mo_ringEarth mo_lead mo_ring mo_jumpAir mo_jumpMany mo_curveEnd mo_beds mo_all a1 a2 a3 R p e s m below meth c A H locs (F0 m 20 ls [.int k0]) := by
      intro k0 mo_jumpAir mo_jumpMany mo_curveEnd H locs ls hf hP hD hS hl
      refine lv_istore (lv' := [(4, .int k0), (0, .ref (mo 0)), (2, .int a2), (3, .int a3)]) hx hb dX11_layCurve_20 hl (by decide) rfl (fun ls hl => ?_)
      refine lv_iconst (v := 1) hx hb dX11_layCurve_22 (by decide) ?_
      refine lv_istore (lv' := [(5, .int (1 : Int32)), (4, .int k0), (0, .ref (mo 0)), (2, .int a2), (3, .int a3)]) hx hb dX11_layCurve_23 hl (by decide) rfl (fun ls hl => ?_)
      refine lv_iload_n hx hb dX11_layCurve_25 rfl (lv_at hl 3 rfl) ?_
      refine lv_istore (lv' := [(6, .int a2), (5, .int (1 : Int32)), (4, .int k0), (0, .ref (mo 0)), (2, .int a2), (3, .int a3)]) hx hb dX11_layCurve_26 hl (by decide) rfl (fun ls hl => ?_)
      have hx136_1 : ∀ (mo_jumpAir : Nat → Int32) (mo_jumpMany : Int32) (mo_curveEnd : Int32) (H : Heap) (locs : List Loc) (ls : Array Slot), f_X11_layCurve_x136_1 mo_jumpAir mo_jumpMany mo_curveEnd = some R → va_P G.1 vwCl [(oX11 mo mo_length mo_at mo_faultAt mo_parts mo_entries mo_ringEarth mo_lead mo_ring mo_jumpMany mo_curveEnd mo_beds mo_all), (wI G (mo 2) 12 mo_laws), (wI G (mo 9) 100 mo_jumpAir)] H → va_D A [(oX11 mo mo_length mo_at mo_faultAt mo_parts mo_entries mo_ringEarth mo_lead mo_ring mo_jumpMany mo_curveEnd mo_beds mo_all), (wI G (mo 2) 12 mo_laws), (wI G (mo 9) 100 mo_jumpAir)] → va_S A s.heap H locs → lv_has ls 9 [] → Wc_X11_layCurve l G mo mo_laws mo_length mo_at mo_faultAt mo_parts mo_entries mo_ringEarth mo_lead mo_ring mo_jumpAir mo_jumpMany mo_curveEnd mo_beds mo_all a1 a2 a3 R p e s m below meth c A H locs (F0 m 136 ls []) := by
        intro mo_jumpAir mo_jumpMany mo_curveEnd H locs ls hf hP hD hS hl
        have h9 := Option.some.inj hf
        subst h9
        exact rw_vret C hP hD hS dX11_layCurve_136
      obtain ⟨rL1, hL1, hk1⟩ := bd_s hf
      refine lp_W (P := fun st => ∀ (H : Heap) (locs : List Loc) (ls : Array Slot), va_P G.1 vwCl [(oX11 mo mo_length mo_at mo_faultAt mo_parts mo_entries mo_ringEarth mo_lead mo_ring st.2.2.2.1 st.2.2.2.2 mo_beds mo_all), (wI G (mo 2) 12 mo_laws), (wI G (mo 9) 100 st.2.2.1)] H → va_D A [(oX11 mo mo_length mo_at mo_faultAt mo_parts mo_entries mo_ringEarth mo_lead mo_ring st.2.2.2.1 st.2.2.2.2 mo_beds mo_all), (wI G (mo 2) 12 mo_laws), (wI G (mo 9) 100 st.2.2.1)] → va_S A s.heap H locs → lv_has ls 9 [(0, .ref (mo 0)), (3, .int a3), (4, .int k0), (5, .int st.1), (6, .int st.2.1)] → Wc_X11_layCurve l G mo mo_laws mo_length mo_at mo_faultAt mo_parts mo_entries mo_ringEarth mo_lead mo_ring mo_jumpAir mo_jumpMany mo_curveEnd mo_beds mo_all a1 a2 a3 R p e s m below meth c A H locs (F0 m 28 ls [])) ?_ FU ((1 : Int32), a2, mo_jumpAir, mo_jumpMany, mo_curveEnd) hL1 H locs ls hP hD hS (lv_sub hl [3, 5, 2, 1, 0] rfl)
      intro ⟨v5, v6, mo_jumpAir, mo_jumpMany, mo_curveEnd⟩ oc1 hf hI hE H locs ls hP hD hS hl
      have hP : va_P G.1 vwCl [(oX11 mo mo_length mo_at mo_faultAt mo_parts mo_entries mo_ringEarth mo_lead mo_ring mo_jumpMany mo_curveEnd mo_beds mo_all), (wI G (mo 2) 12 mo_laws), (wI G (mo 9) 100 mo_jumpAir)] H := hP
      have hD : va_D A [(oX11 mo mo_length mo_at mo_faultAt mo_parts mo_entries mo_ringEarth mo_lead mo_ring mo_jumpMany mo_curveEnd mo_beds mo_all), (wI G (mo 2) 12 mo_laws), (wI G (mo 9) 100 mo_jumpAir)] := hD
      have hl : lv_has ls 9 [(0, .ref (mo 0)), (3, .int a3), (4, .int k0), (5, .int v5), (6, .int v6)] := hl
      have hf : f_X11_layCurve_b28 mo_laws a3 k0 v5 v6 mo_jumpAir mo_jumpMany mo_curveEnd = some oc1 := hf
      have hj107 : ∀ (v6 : Int32) (v7 : Int32) (mo_jumpAir : Nat → Int32) (mo_jumpMany : Int32) (mo_curveEnd : Int32) (H : Heap) (locs : List Loc) (ls : Array Slot), f_X11_layCurve_j107 a3 k0 v6 v7 mo_jumpAir mo_jumpMany = some oc1 → va_P G.1 vwCl [(oX11 mo mo_length mo_at mo_faultAt mo_parts mo_entries mo_ringEarth mo_lead mo_ring mo_jumpMany mo_curveEnd mo_beds mo_all), (wI G (mo 2) 12 mo_laws), (wI G (mo 9) 100 mo_jumpAir)] H → va_D A [(oX11 mo mo_length mo_at mo_faultAt mo_parts mo_entries mo_ringEarth mo_lead mo_ring mo_jumpMany mo_curveEnd mo_beds mo_all), (wI G (mo 2) 12 mo_laws), (wI G (mo 9) 100 mo_jumpAir)] → va_S A s.heap H locs → lv_has ls 9 [(0, .ref (mo 0)), (3, .int a3), (4, .int k0), (6, .int v6), (7, .int v7)] → Wc_X11_layCurve l G mo mo_laws mo_length mo_at mo_faultAt mo_parts mo_entries mo_ringEarth mo_lead mo_ring mo_jumpAir mo_jumpMany mo_curveEnd mo_beds mo_all a1 a2 a3 R p e s m below meth c A H locs (F0 m 107 ls []) := by
        intro v6 v7 mo_jumpAir mo_jumpMany mo_curveEnd H locs ls hf hP hD hS hl
        refine lv_aload_n hx hb dX11_layCurve_107 rfl (lv_at hl 0 rfl) ?_
        refine lv_iload hx hb dX11_layCurve_108 (lv_at hl 4 rfl) ?_
        refine va_put (D := G.1) (ci := 11) (v := .int v7) (ty := .int) (C := RX11) (T := TX11) (N := 29) hx hb ht twX11 tyX11 tyX11_ok nmX11 hown hK.1 hP hD hS 0 rfl rfl 18 (by decide) (ht _ kfl_X11_173) (fun _ h9 => h9) rfl (by decide +kernel) rfl rfl (Nat.le_of_ble_eq_true rfl) dX11_layCurve_110 (fun H locs hP hD hS => ?_)
        have hP : va_P G.1 vwCl [(oX11 mo mo_length mo_at mo_faultAt mo_parts mo_entries mo_ringEarth mo_lead mo_ring mo_jumpMany v7 mo_beds mo_all), (wI G (mo 2) 12 mo_laws), (wI G (mo 9) 100 mo_jumpAir)] H := hP
        have hD : va_D A [(oX11 mo mo_length mo_at mo_faultAt mo_parts mo_entries mo_ringEarth mo_lead mo_ring mo_jumpMany v7 mo_beds mo_all), (wI G (mo 2) 12 mo_laws), (wI G (mo 9) 100 mo_jumpAir)] := hD
        refine lv_iload hx hb dX11_layCurve_113 (lv_at hl 3 rfl) ?_
        refine lv_iload_n hx hb dX11_layCurve_115 rfl (lv_at hl 1 rfl) ?_
        refine lv_icmp_eq (tgt := 123) hx hb dX11_layCurve_116 (by decide) (fun c3 => ?_) (fun c3 => ?_)
        · have hf := o_t c3 hf
          refine lv_iconst (v := 0) hx hb dX11_layCurve_123 (by decide) ?_
          refine lv_istore (lv' := [(5, .int (0 : Int32)), (0, .ref (mo 0)), (3, .int a3), (4, .int k0), (6, .int v6), (7, .int v7)]) hx hb dX11_layCurve_124 hl (by decide) rfl (fun ls hl => ?_)
          refine lv_iload hx hb dX11_layCurve_126 (lv_at hl 4 rfl) ?_
          refine lv_iload hx hb dX11_layCurve_128 (lv_at hl 3 rfl) ?_
          refine lv_iadd hx hb dX11_layCurve_130 ?_
          refine lv_istore (lv' := [(6, .int (v6 + k0)), (5, .int (0 : Int32)), (0, .ref (mo 0)), (3, .int a3), (4, .int k0), (7, .int v7)]) hx hb dX11_layCurve_131 hl (by decide) rfl (fun ls hl => ?_)
          refine lv_goto (tgt := 28) hx hb dX11_layCurve_133 (by decide) ?_
          cases hf
          exact hI _ rfl H locs ls hP hD hS (lv_sub hl [2, 3, 4, 1, 0] rfl)
        · have hf := o_f c3 hf
          refine lv_iconst (v := 1) hx hb dX11_layCurve_119 (by decide) ?_
          refine lv_goto (tgt := 124) hx hb dX11_layCurve_120 (by decide) ?_
          refine lv_istore (lv' := [(5, .int (1 : Int32)), (0, .ref (mo 0)), (3, .int a3), (4, .int k0), (6, .int v6), (7, .int v7)]) hx hb dX11_layCurve_124 hl (by decide) rfl (fun ls hl => ?_)
          refine lv_iload hx hb dX11_layCurve_126 (lv_at hl 4 rfl) ?_
          refine lv_iload hx hb dX11_layCurve_128 (lv_at hl 3 rfl) ?_
          refine lv_iadd hx hb dX11_layCurve_130 ?_
          refine lv_istore (lv' := [(6, .int (v6 + k0)), (5, .int (1 : Int32)), (0, .ref (mo 0)), (3, .int a3), (4, .int k0), (7, .int v7)]) hx hb dX11_layCurve_131 hl (by decide) rfl (fun ls hl => ?_)
          refine lv_goto (tgt := 28) hx hb dX11_layCurve_133 (by decide) ?_
          cases hf
          exact hI _ rfl H locs ls hP hD hS (lv_sub hl [2, 3, 4, 1, 0] rfl)
      have hj86 : ∀ (v6 : Int32) (v7 : Int32) (mo_jumpAir : Nat → Int32) (mo_jumpMany : Int32) (mo_curveEnd : Int32) (H : Heap) (locs : List Loc) (ls : Array Slot), f_X11_layCurve_j86 a3 k0 v6 v7 mo_jumpAir mo_jumpMany = some oc1 → va_P G.1 vwCl [(oX11 mo mo_length mo_at mo_faultAt mo_parts mo_entries mo_ringEarth mo_lead mo_ring mo_jumpMany mo_curveEnd mo_beds mo_all), (wI G (mo 2) 12 mo_laws), (wI G (mo 9) 100 mo_jumpAir)] H → va_D A [(oX11 mo mo_length mo_at mo_faultAt mo_parts mo_entries mo_ringEarth mo_lead mo_ring mo_jumpMany mo_curveEnd mo_beds mo_all), (wI G (mo 2) 12 mo_laws), (wI G (mo 9) 100 mo_jumpAir)] → va_S A s.heap H locs → lv_has ls 9 [(0, .ref (mo 0)), (3, .int a3), (4, .int k0), (6, .int v6), (7, .int v7)] → Wc_X11_layCurve l G mo mo_laws mo_length mo_at mo_faultAt mo_parts mo_entries mo_ringEarth mo_lead mo_ring mo_jumpAir mo_jumpMany mo_curveEnd mo_beds mo_all a1 a2 a3 R p e s m below meth c A H locs (F0 m 86 ls []) := by
        intro v6 v7 mo_jumpAir mo_jumpMany mo_curveEnd H locs ls hf hP hD hS hl
        refine lv_aload_n hx hb dX11_layCurve_86 rfl (lv_at hl 0 rfl) ?_
        refine va_get (D := G.1) (ci := 11) (v := .ref (mo 9)) (C := RX11) (T := TX11) (N := 29) hx hb ht twX11 hown hK.1 hP 0 rfl rfl 16 (by decide) (ht _ kfl_X11_34) (fun _ h9 => h9) rfl dX11_layCurve_87 ?_
        refine lv_aload_n hx hb dX11_layCurve_90 rfl (lv_at hl 0 rfl) ?_
        refine va_get (D := G.1) (ci := 11) (v := .int mo_jumpMany) (C := RX11) (T := TX11) (N := 29) hx hb ht twX11 hown hK.1 hP 0 rfl rfl 17 (by decide) (ht _ kfl_X11_170) (fun _ h9 => h9) rfl dX11_layCurve_91 ?_
        refine lv_iload hx hb dX11_layCurve_94 (lv_at hl 3 rfl) ?_
        obtain ⟨g4, hf⟩ := gd_s hf
        refine va_iast hx hb hK.1 hP hD hS 2 0 rfl rfl g4 dX11_layCurve_96 (fun H locs hP hD hS => ?_)
        have hP : va_P G.1 vwCl [(oX11 mo mo_length mo_at mo_faultAt mo_parts mo_entries mo_ringEarth mo_lead mo_ring mo_jumpMany mo_curveEnd mo_beds mo_all), (wI G (mo 2) 12 mo_laws), (wI G (mo 9) 100 (upd mo_jumpAir mo_jumpMany.toNatClampNeg v6))] H := hP
        have hD : va_D A [(oX11 mo mo_length mo_at mo_faultAt mo_parts mo_entries mo_ringEarth mo_lead mo_ring mo_jumpMany mo_curveEnd mo_beds mo_all), (wI G (mo 2) 12 mo_laws), (wI G (mo 9) 100 (upd mo_jumpAir mo_jumpMany.toNatClampNeg v6))] := hD
        refine lv_aload_n hx hb dX11_layCurve_97 rfl (lv_at hl 0 rfl) ?_
        refine lv_dup hx hb dX11_layCurve_98 rfl ?_
        refine va_get (D := G.1) (ci := 11) (v := .int mo_jumpMany) (C := RX11) (T := TX11) (N := 29) hx hb ht twX11 hown hK.1 hP 0 rfl rfl 17 (by decide) (ht _ kfl_X11_170) (fun _ h9 => h9) rfl dX11_layCurve_99 ?_
        refine lv_iconst (v := 1) hx hb dX11_layCurve_102 (by decide) ?_
        refine lv_iadd hx hb dX11_layCurve_103 ?_
        refine va_put (D := G.1) (ci := 11) (v := .int (mo_jumpMany + (1 : Int32))) (ty := .int) (C := RX11) (T := TX11) (N := 29) hx hb ht twX11 tyX11 tyX11_ok nmX11 hown hK.1 hP hD hS 0 rfl rfl 17 (by decide) (ht _ kfl_X11_170) (fun _ h9 => h9) rfl (by decide +kernel) rfl rfl (Nat.le_of_ble_eq_true rfl) dX11_layCurve_104 (fun H locs hP hD hS => ?_)
        have hP : va_P G.1 vwCl [(oX11 mo mo_length mo_at mo_faultAt mo_parts mo_entries mo_ringEarth mo_lead mo_ring (mo_jumpMany + (1 : Int32)) mo_curveEnd mo_beds mo_all), (wI G (mo 2) 12 mo_laws), (wI G (mo 9) 100 (upd mo_jumpAir mo_jumpMany.toNatClampNeg v6))] H := hP
        have hD : va_D A [(oX11 mo mo_length mo_at mo_faultAt mo_parts mo_entries mo_ringEarth mo_lead mo_ring (mo_jumpMany + (1 : Int32)) mo_curveEnd mo_beds mo_all), (wI G (mo 2) 12 mo_laws), (wI G (mo 9) 100 (upd mo_jumpAir mo_jumpMany.toNatClampNeg v6))] := hD
        exact hj107 v6 v7 (upd mo_jumpAir mo_jumpMany.toNatClampNeg v6) (mo_jumpMany + (1 : Int32)) mo_curveEnd H locs ls hf hP hD hS (lv_sub hl [0, 1, 2, 3, 4] rfl)
      refine lv_iload hx hb dX11_layCurve_28 (lv_at hl 3 rfl) ?_
      refine lv_if_eq (tgt := 136) hx hb dX11_layCurve_30 (by decide) (fun c5 => ?_) (fun c5 => ?_)
      · have hf := o_t c5 hf
        cases hf
        have hf : f_X11_layCurve_x136_1 mo_jumpAir mo_jumpMany mo_curveEnd = some R := by have h9 := hk1; rw [← hE _ rfl] at h9; exact h9
        exact hx136_1 mo_jumpAir mo_jumpMany mo_curveEnd H locs ls hf hP hD hS (lv_sub hl [] rfl)
      · have hf := o_f c5 hf
        refine lv_aload_n hx hb dX11_layCurve_33 rfl (lv_at hl 0 rfl) ?_
        refine lv_aload_n hx hb dX11_layCurve_34 rfl (lv_at hl 0 rfl) ?_
        refine va_get (D := G.1) (ci := 11) (v := .int mo_curveEnd) (C := RX11) (T := TX11) (N := 29) hx hb ht twX11 hown hK.1 hP 0 rfl rfl 18 (by decide) (ht _ kfl_X11_173) (fun _ h9 => h9) rfl dX11_layCurve_35 ?_
        refine lv_iload hx hb dX11_layCurve_38 (lv_at hl 4 rfl) ?_
        obtain ⟨q6, r6, hf⟩ := bd_s hf
        refine ro_V (n := 2) (As := [.int mo_curveEnd, .int v6]) (rest := []) (c_X11_settleOf l G mo mo_laws mo_length mo_at mo_faultAt mo_parts mo_entries mo_ringEarth mo_lead mo_ring mo_jumpMany mo_curveEnd mo_beds mo_all mo_curveEnd v6 q6 r6) C (hK.at hS hz) (hP.sub [0, 1] rfl) hl kcode_X11_settleOf kml_X11_167 kim_X11_settleOf ksel_X11_settleOf kini_X11 (by decide +kernel) ⟨⟨rfl, rfl⟩, Nat.le_of_ble_eq_true rfl, Nat.le_of_ble_eq_true rfl⟩ ⟨Nat.zero_le _, Nat.zero_le _⟩ rfl rfl rfl rfl rfl (Nat.le_of_ble_eq_true rfl) dX11_layCurve_40 rfl ?_
        refine lv_istore (lv' := [(7, .int q6), (0, .ref (mo 0)), (3, .int a3), (4, .int k0), (5, .int v5), (6, .int v6)]) hx hb dX11_layCurve_43 hl (by decide) rfl (fun ls hl => ?_)
        refine lv_iload hx hb dX11_layCurve_45 (lv_at hl 0 rfl) ?_
        refine lv_bipush (v := -9) hx hb dX11_layCurve_47 (by decide) ?_
        refine lv_icmp_ne (tgt := 59) hx hb dX11_layCurve_49 (by decide) (fun c7 => ?_) (fun c7 => ?_)
        · have hf := o_f c7 hf
          refine lv_iload hx hb dX11_layCurve_59 (lv_at hl 0 rfl) ?_
          obtain ⟨q8, r8, hf⟩ := bd_s hf
          refine ro_S (n := 1) (As := [.int q6]) (rest := []) (c_X11_ones l G q6 q8 r8) C (hK.at hS hz) (hP.sub [] rfl) hl kcode_X11_ones kml_X11_139 kst_X11_ones kini_X11 (by decide +kernel) ⟨⟨rfl, rfl⟩, Nat.le_of_ble_eq_true rfl, Nat.le_of_ble_eq_true rfl⟩ ⟨Nat.zero_le _, Nat.zero_le _⟩ rfl rfl (Nat.le_of_ble_eq_true rfl) dX11_layCurve_61 rfl ?_
          refine lv_aload_n hx hb dX11_layCurve_64 rfl (lv_at hl 1 rfl) ?_
          refine va_get (D := G.1) (ci := 11) (v := .int mo_curveEnd) (C := RX11) (T := TX11) (N := 29) hx hb ht twX11 hown hK.1 hP 0 rfl rfl 18 (by decide) (ht _ kfl_X11_173) (fun _ h9 => h9) rfl dX11_layCurve_65 ?_
          obtain ⟨q9, r9, hf⟩ := bd_s hf
          refine ro_S (n := 1) (As := [.int mo_curveEnd]) (rest := [.int q8]) (c_X11_ones l G mo_curveEnd q9 r9) C (hK.at hS hz) (hP.sub [] rfl) hl kcode_X11_ones kml_X11_139 kst_X11_ones kini_X11 (by decide +kernel) ⟨⟨rfl, rfl⟩, Nat.le_of_ble_eq_true rfl, Nat.le_of_ble_eq_true rfl⟩ ⟨Nat.zero_le _, Nat.zero_le _⟩ rfl rfl (Nat.le_of_ble_eq_true rfl) dX11_layCurve_68 rfl ?_
          refine lv_isub hx hb dX11_layCurve_71 ?_
          refine lv_istore (lv' := [(8, .int (q8 - q9)), (7, .int q6), (0, .ref (mo 0)), (3, .int a3), (4, .int k0), (5, .int v5), (6, .int v6)]) hx hb dX11_layCurve_72 hl (by decide) rfl (fun ls hl => ?_)
          refine lv_iload hx hb dX11_layCurve_74 (lv_at hl 0 rfl) ?_
          refine lv_iconst (v := 1) hx hb dX11_layCurve_76 (by decide) ?_
          refine lv_icmp_gt (tgt := 86) hx hb dX11_layCurve_77 (by decide) (fun c10 => ?_) (fun c10 => ?_)
          · have hf := o_t c10 hf
            exact hj86 v6 q6 mo_jumpAir mo_jumpMany mo_curveEnd H locs ls hf hP hD hS (lv_sub hl [2, 3, 4, 6, 1] rfl)
          · have hf := o_f c10 hf
            refine lv_iload hx hb dX11_layCurve_80 (lv_at hl 0 rfl) ?_
            refine lv_iconst (v := -1) hx hb dX11_layCurve_82 (by decide) ?_
            refine lv_icmp_ge (tgt := 107) hx hb dX11_layCurve_83 (by decide) (fun c11 => ?_) (fun c11 => ?_)
            · have hf := o_t c11 hf
              exact hj107 v6 q6 mo_jumpAir mo_jumpMany mo_curveEnd H locs ls hf hP hD hS (lv_sub hl [2, 3, 4, 6, 1] rfl)
            · have hf := o_f c11 hf
              exact hj86 v6 q6 mo_jumpAir mo_jumpMany mo_curveEnd H locs ls hf hP hD hS (lv_sub hl [2, 3, 4, 6, 1] rfl)
        · have hf := o_t c7 hf
          refine lv_aload_n hx hb dX11_layCurve_52 rfl (lv_at hl 1 rfl) ?_
          refine lv_bipush (v := -9) hx hb dX11_layCurve_53 (by decide) ?_
          refine va_put (D := G.1) (ci := 11) (v := .int (-9 : Int32)) (ty := .int) (C := RX11) (T := TX11) (N := 29) hx hb ht twX11 tyX11 tyX11_ok nmX11 hown hK.1 hP hD hS 0 rfl rfl 18 (by decide) (ht _ kfl_X11_173) (fun _ h9 => h9) rfl (by decide +kernel) rfl rfl (Nat.le_of_ble_eq_true rfl) dX11_layCurve_55 (fun H locs hP hD hS => ?_)
          have hP : va_P G.1 vwCl [(oX11 mo mo_length mo_at mo_faultAt mo_parts mo_entries mo_ringEarth mo_lead mo_ring mo_jumpMany (-9 : Int32) mo_beds mo_all), (wI G (mo 2) 12 mo_laws), (wI G (mo 9) 100 mo_jumpAir)] H := hP
          have hD : va_D A [(oX11 mo mo_length mo_at mo_faultAt mo_parts mo_entries mo_ringEarth mo_lead mo_ring mo_jumpMany (-9 : Int32) mo_beds mo_all), (wI G (mo 2) 12 mo_laws), (wI G (mo 9) 100 mo_jumpAir)] := hD
          cases hf
          have hf : some (mo_jumpAir, mo_jumpMany, (-9 : Int32)) = some R := by have h9 := hk1; rw [← hE _ rfl] at h9; exact h9
          have h9 := Option.some.inj hf
          subst h9
          exact rw_vret C hP hD hS dX11_layCurve_58
    refine lv_aload_n hx hb dX11_layCurve_0 rfl (lv_at hl 0 rfl) ?_
    refine lv_iconst (v := 0) hx hb dX11_layCurve_1 (by decide) ?_
    refine va_put (D := G.1) (ci := 11) (v := .int (0 : Int32)) (ty := .int) (C := RX11) (T := TX11) (N := 29) hx hb ht twX11 tyX11 tyX11_ok nmX11 hown hK.1 hP hD hS 0 rfl rfl 17 (by decide) (ht _ kfl_X11_170) (fun _ h9 => h9) rfl (by decide +kernel) rfl rfl (Nat.le_of_ble_eq_true rfl) dX11_layCurve_2 (fun H locs hP hD hS => ?_)
    have hP : va_P G.1 vwCl [(oX11 mo mo_length mo_at mo_faultAt mo_parts mo_entries mo_ringEarth mo_lead mo_ring (0 : Int32) mo_curveEnd mo_beds mo_all), (wI G (mo 2) 12 mo_laws), (wI G (mo 9) 100 mo_jumpAir)] H := hP
    have hD : va_D A [(oX11 mo mo_length mo_at mo_faultAt mo_parts mo_entries mo_ringEarth mo_lead mo_ring (0 : Int32) mo_curveEnd mo_beds mo_all), (wI G (mo 2) 12 mo_laws), (wI G (mo 9) 100 mo_jumpAir)] := hD
    refine lv_aload_n hx hb dX11_layCurve_5 rfl (lv_at hl 0 rfl) ?_
    refine lv_iload_n hx hb dX11_layCurve_6 rfl (lv_at hl 1 rfl) ?_
    refine va_put (D := G.1) (ci := 11) (v := .int a1) (ty := .int) (C := RX11) (T := TX11) (N := 29) hx hb ht twX11 tyX11 tyX11_ok nmX11 hown hK.1 hP hD hS 0 rfl rfl 18 (by decide) (ht _ kfl_X11_173) (fun _ h9 => h9) rfl (by decide +kernel) rfl rfl (Nat.le_of_ble_eq_true rfl) dX11_layCurve_7 (fun H locs hP hD hS => ?_)
    have hP : va_P G.1 vwCl [(oX11 mo mo_length mo_at mo_faultAt mo_parts mo_entries mo_ringEarth mo_lead mo_ring (0 : Int32) a1 mo_beds mo_all), (wI G (mo 2) 12 mo_laws), (wI G (mo 9) 100 mo_jumpAir)] H := hP
    have hD : va_D A [(oX11 mo mo_length mo_at mo_faultAt mo_parts mo_entries mo_ringEarth mo_lead mo_ring (0 : Int32) a1 mo_beds mo_all), (wI G (mo 2) 12 mo_laws), (wI G (mo 9) 100 mo_jumpAir)] := hD
    refine lv_iload_n hx hb dX11_layCurve_10 rfl (lv_at hl 3 rfl) ?_
    refine lv_iload_n hx hb dX11_layCurve_11 rfl (lv_at hl 2 rfl) ?_
    refine lv_icmp_ge (tgt := 19) hx hb dX11_layCurve_12 (by decide) (fun c13 => ?_) (fun c13 => ?_)
    · have hf := o_t c13 hf
      refine lv_iconst (v := 1) hx hb dX11_layCurve_19 (by decide) ?_
      exact hj20 (1 : Int32) mo_jumpAir (0 : Int32) a1 H locs ls hf hP hD hS (lv_sub hl [0, 2, 3] rfl)
    · have hf := o_f c13 hf
      refine lv_iconst (v := -1) hx hb dX11_layCurve_15 (by decide) ?_
      refine lv_goto (tgt := 20) hx hb dX11_layCurve_16 (by decide) ?_
      exact hj20 (-1 : Int32) mo_jumpAir (0 : Int32) a1 H locs ls hf hP hD hS (lv_sub hl [0, 2, 3] rfl)
  rw [eH, el] at key
  exact key
abbrev Wc_X11_jumps (l : Launch) (G : TG) (mo : Nat → Nat) (mo_laws : Nat → Int32) (mo_length : Int32) (mo_at : Int32) (mo_faultAt : Int32) (mo_parts : Int32) (mo_entries : Int32) (mo_ringEarth : Int32) (mo_lead : Int32) (mo_ring : Int32) (mo_jumpAir : Nat → Int32) (mo_jumpMany : Int32) (mo_curveEnd : Int32) (mo_beds : Int32) (mo_all : Int64) (a1 : Int32) (a2 : Int32) (a3 : Int32) (R : Int32 × (Nat → Int32) × Int32 × Int32) (p : Program) (e : Env) (s : State) (m : MethodId) (below : List Frame) (meth : Method) (c : Code) (A : Nat → Prop) (H : Heap) (locs : List Loc) (g : JFrame) : Prop := W p l e ({ frames := 6, cells := 0, slots := 0, locals := 146 }) s m ([.ref (mo 0), .int a1, .int a2, .int a3] : List Value).toArray below meth c H locs 0 0 (MQ below (rwQ G (some (.int R.1)) [(oX11 mo mo_length mo_at mo_faultAt mo_parts mo_entries mo_ringEarth mo_lead mo_ring R.2.2.1 R.2.2.2 mo_beds mo_all), (wI G (mo 2) 12 mo_laws), (wI G (mo 9) 100 R.2.1)] A) ([.ref (mo 0), .int a1, .int a2, .int a3] : List Value).toArray s 0 0 A) g
set_option maxHeartbeats 4000000 in
set_option maxRecDepth 100000 in
theorem c_X11_jumps (l : Launch) (G : TG) (mo : Nat → Nat) (mo_laws : Nat → Int32) (mo_length : Int32) (mo_at : Int32) (mo_faultAt : Int32) (mo_parts : Int32) (mo_entries : Int32) (mo_ringEarth : Int32) (mo_lead : Int32) (mo_ring : Int32) (mo_jumpAir : Nat → Int32) (mo_jumpMany : Int32) (mo_curveEnd : Int32) (mo_beds : Int32) (mo_all : Int64) (a1 : Int32) (a2 : Int32) (a3 : Int32) (R : Int32 × (Nat → Int32) × Int32 × Int32) (hf : f_X11_jumps mo_laws mo_jumpAir mo_jumpMany mo_curveEnd a1 a2 a3 = some R) : RW l yX11_jumps cX11_jumps 4 (some .int) ({ frames := 6, cells := 0, slots := 0, locals := 146 }) G [.ref (mo 0), .int a1, .int a2, .int a3] [(oX11 mo mo_length mo_at mo_faultAt mo_parts mo_entries mo_ringEarth mo_lead mo_ring mo_jumpMany mo_curveEnd mo_beds mo_all), (wI G (mo 2) 12 mo_laws), (wI G (mo 9) 100 mo_jumpAir)] (some (.int R.1)) [(oX11 mo mo_length mo_at mo_faultAt mo_parts mo_entries mo_ringEarth mo_lead mo_ring R.2.2.1 R.2.2.2 mo_beds mo_all), (wI G (mo 2) 12 mo_laws), (wI G (mo 9) 100 R.2.1)] := by
  refine RW.mk (by decide +kernel) (Nat.le_of_ble_eq_true rfl) ?_
  intro p e s m below meth c ls A C hP hD hA hz hK hl hS
  have hx := C.1
  have hb := C.2.1
  have hown : s.vm.findClass RX11 = some m.cls := C.2.2.2.2.2.1
  have ht := C.2.2.2.2.2.2
  have hl : lv_has ls 4 [(0, .ref (mo 0)), (1, .int a1), (2, .int a2), (3, .int a3)] := hl
  show Wc_X11_jumps l G mo mo_laws mo_length mo_at mo_faultAt mo_parts mo_entries mo_ringEarth mo_lead mo_ring mo_jumpAir mo_jumpMany mo_curveEnd mo_beds mo_all a1 a2 a3 R p e s m below meth c A s.heap [] (F0 m 0 ls [])
  obtain ⟨H, eH, hP, hS⟩ : ∃ H, H = s.heap ∧ va_P G.1 vwCl [(oX11 mo mo_length mo_at mo_faultAt mo_parts mo_entries mo_ringEarth mo_lead mo_ring mo_jumpMany mo_curveEnd mo_beds mo_all), (wI G (mo 2) 12 mo_laws), (wI G (mo 9) 100 mo_jumpAir)] H ∧ va_S A s.heap H [] := ⟨_, rfl, hP, hS⟩
  obtain ⟨locs, el, hS⟩ : ∃ locs : List Loc, locs = [] ∧ va_S A s.heap H locs := ⟨_, rfl, hS⟩
  have key : Wc_X11_jumps l G mo mo_laws mo_length mo_at mo_faultAt mo_parts mo_entries mo_ringEarth mo_lead mo_ring mo_jumpAir mo_jumpMany mo_curveEnd mo_beds mo_all a1 a2 a3 R p e s m below meth c A H locs (F0 m 0 ls []) := by
    refine lv_iload_n hx hb dX11_jumps_0 rfl (lv_at hl 1 rfl) ?_
    refine lv_iload_n hx hb dX11_jumps_1 rfl (lv_at hl 2 rfl) ?_
    obtain ⟨q1, r1, hf⟩ := bd_s hf
    refine ro_S (n := 2) (As := [.int a1, .int a2]) (rest := []) (c_X11_isEarth l G a1 a2 q1 r1) C (hK.at hS hz) (hP.sub [] rfl) hl kcode_X11_isEarth kml_X11_124 kst_X11_isEarth kini_X11 (by decide +kernel) ⟨⟨rfl, rfl⟩, Nat.le_of_ble_eq_true rfl, Nat.le_of_ble_eq_true rfl⟩ ⟨Nat.zero_le _, Nat.zero_le _⟩ rfl rfl (Nat.le_of_ble_eq_true rfl) dX11_jumps_2 rfl ?_
    refine lv_if_eq (tgt := 20) hx hb dX11_jumps_5 (by decide) (fun c2 => ?_) (fun c2 => ?_)
    · have hf := o_t c2 hf
      refine lv_bipush (v := -2) hx hb dX11_jumps_20 (by decide) ?_
      have h9 := Option.some.inj hf
      subst h9
      exact rw_iret C rfl hP hD hS dX11_jumps_22
    · have hf := o_f c2 hf
      refine lv_iload_n hx hb dX11_jumps_8 rfl (lv_at hl 3 rfl) ?_
      refine lv_i2l (v := (a3.toInt64)) hx hb dX11_jumps_9 rfl ?_
      refine lv_lconst (v := 0) hx hb dX11_jumps_10 (by decide) ?_
      refine lv_ldc2 hx hb hown (ht _ kcL_X11_122) dX11_jumps_11 ?_
      obtain ⟨q4, r4, hf⟩ := bd_s hf
      refine ro_S (n := 3) (As := [.long (a3.toInt64), .long (0 : Int64), .long (99 : Int64)]) (rest := []) (c_X11_in l G (a3.toInt64) (0 : Int64) (99 : Int64) q4 r4) C (hK.at hS hz) (hP.sub [] rfl) hl kcode_X11_in kml_X11_65 kst_X11_in kini_X11 (by decide +kernel) ⟨⟨rfl, rfl⟩, Nat.le_of_ble_eq_true rfl, Nat.le_of_ble_eq_true rfl⟩ ⟨Nat.zero_le _, Nat.zero_le _⟩ rfl rfl (Nat.le_of_ble_eq_true rfl) dX11_jumps_14 rfl ?_
      refine lv_if_ne (tgt := 23) hx hb dX11_jumps_17 (by decide) (fun c5 => ?_) (fun c5 => ?_)
      · have hf := o_f c5 hf
        refine lv_aload_n hx hb dX11_jumps_23 rfl (lv_at hl 0 rfl) ?_
        refine lv_iload_n hx hb dX11_jumps_24 rfl (lv_at hl 1 rfl) ?_
        refine lv_iload_n hx hb dX11_jumps_25 rfl (lv_at hl 2 rfl) ?_
        refine lv_iload_n hx hb dX11_jumps_26 rfl (lv_at hl 3 rfl) ?_
        obtain ⟨q6, r6, hf⟩ := bd_s hf
        refine rw_V (n := 3) (As := [.int a1, .int a2, .int a3]) (rest := []) (wr := []) (ws2 := [(oX11 mo mo_length mo_at mo_faultAt mo_parts mo_entries mo_ringEarth mo_lead mo_ring q6.2.1 q6.2.2 mo_beds mo_all), (wI G (mo 2) 12 mo_laws), (wI G (mo 9) 100 q6.1)]) (c_X11_layCurve l G mo mo_laws mo_length mo_at mo_faultAt mo_parts mo_entries mo_ringEarth mo_lead mo_ring mo_jumpAir mo_jumpMany mo_curveEnd mo_beds mo_all a1 a2 a3 q6 r6) C hK hP hD hS hA hz hl [0, 1, 2] [] [0, 1, 2] rfl rfl rfl rfl rfl (by decide) rfl rfl rfl kcode_X11_layCurve kml_X11_176 kim_X11_layCurve ksel_X11_layCurve kini_X11 (by decide +kernel) ⟨⟨rfl, rfl⟩, Nat.le_of_ble_eq_true rfl, Nat.le_of_ble_eq_true rfl⟩ ⟨Nat.zero_le _, Nat.zero_le _⟩ rfl rfl rfl rfl rfl (Nat.le_of_ble_eq_true rfl) dX11_jumps_27 rfl (fun H locs hP hD hS => ?_)
        refine lv_aload_n hx hb dX11_jumps_30 rfl (lv_at hl 0 rfl) ?_
        refine va_get (D := G.1) (ci := 11) (v := .int q6.2.1) (C := RX11) (T := TX11) (N := 29) hx hb ht twX11 hown hK.1 hP 0 rfl rfl 17 (by decide) (ht _ kfl_X11_170) (fun _ h9 => h9) rfl dX11_jumps_31 ?_
        have h9 := Option.some.inj hf
        subst h9
        exact rw_iret C rfl hP hD hS dX11_jumps_34
      · have hf := o_t c5 hf
        refine lv_bipush (v := -2) hx hb dX11_jumps_20 (by decide) ?_
        have h9 := Option.some.inj hf
        subst h9
        exact rw_iret C rfl hP hD hS dX11_jumps_22
  rw [eH, el] at key
  exact key
abbrev Wc_X11_jump (l : Launch) (G : TG) (mo : Nat → Nat) (mo_laws : Nat → Int32) (mo_length : Int32) (mo_at : Int32) (mo_faultAt : Int32) (mo_parts : Int32) (mo_entries : Int32) (mo_ringEarth : Int32) (mo_lead : Int32) (mo_ring : Int32) (mo_jumpAir : Nat → Int32) (mo_jumpMany : Int32) (mo_curveEnd : Int32) (mo_beds : Int32) (mo_all : Int64) (a1 : Int32) (a2 : Int32) (a3 : Int32) (a4 : Int32) (R : Int32 × (Nat → Int32) × Int32 × Int32) (p : Program) (e : Env) (s : State) (m : MethodId) (below : List Frame) (meth : Method) (c : Code) (A : Nat → Prop) (H : Heap) (locs : List Loc) (g : JFrame) : Prop := W p l e ({ frames := 6, cells := 0, slots := 0, locals := 146 }) s m ([.ref (mo 0), .int a1, .int a2, .int a3, .int a4] : List Value).toArray below meth c H locs 0 0 (MQ below (rwQ G (some (.int R.1)) [(oX11 mo mo_length mo_at mo_faultAt mo_parts mo_entries mo_ringEarth mo_lead mo_ring R.2.2.1 R.2.2.2 mo_beds mo_all), (wI G (mo 2) 12 mo_laws), (wI G (mo 9) 100 R.2.1)] A) ([.ref (mo 0), .int a1, .int a2, .int a3, .int a4] : List Value).toArray s 0 0 A) g
set_option maxHeartbeats 4000000 in
set_option maxRecDepth 100000 in
theorem c_X11_jump (l : Launch) (G : TG) (mo : Nat → Nat) (mo_laws : Nat → Int32) (mo_length : Int32) (mo_at : Int32) (mo_faultAt : Int32) (mo_parts : Int32) (mo_entries : Int32) (mo_ringEarth : Int32) (mo_lead : Int32) (mo_ring : Int32) (mo_jumpAir : Nat → Int32) (mo_jumpMany : Int32) (mo_curveEnd : Int32) (mo_beds : Int32) (mo_all : Int64) (a1 : Int32) (a2 : Int32) (a3 : Int32) (a4 : Int32) (R : Int32 × (Nat → Int32) × Int32 × Int32) (hf : f_X11_jump mo_laws mo_jumpAir mo_jumpMany mo_curveEnd a1 a2 a3 a4 = some R) : RW l yX11_jump cX11_jump 5 (some .int) ({ frames := 6, cells := 0, slots := 0, locals := 146 }) G [.ref (mo 0), .int a1, .int a2, .int a3, .int a4] [(oX11 mo mo_length mo_at mo_faultAt mo_parts mo_entries mo_ringEarth mo_lead mo_ring mo_jumpMany mo_curveEnd mo_beds mo_all), (wI G (mo 2) 12 mo_laws), (wI G (mo 9) 100 mo_jumpAir)] (some (.int R.1)) [(oX11 mo mo_length mo_at mo_faultAt mo_parts mo_entries mo_ringEarth mo_lead mo_ring R.2.2.1 R.2.2.2 mo_beds mo_all), (wI G (mo 2) 12 mo_laws), (wI G (mo 9) 100 R.2.1)] := by
  refine RW.mk (by decide +kernel) (Nat.le_of_ble_eq_true rfl) ?_
  intro p e s m below meth c ls A C hP hD hA hz hK hl hS
  have hx := C.1
  have hb := C.2.1
  have hown : s.vm.findClass RX11 = some m.cls := C.2.2.2.2.2.1
  have ht := C.2.2.2.2.2.2
  have hl : lv_has ls 5 [(0, .ref (mo 0)), (1, .int a1), (2, .int a2), (3, .int a3), (4, .int a4)] := hl
  show Wc_X11_jump l G mo mo_laws mo_length mo_at mo_faultAt mo_parts mo_entries mo_ringEarth mo_lead mo_ring mo_jumpAir mo_jumpMany mo_curveEnd mo_beds mo_all a1 a2 a3 a4 R p e s m below meth c A s.heap [] (F0 m 0 ls [])
  obtain ⟨H, eH, hP, hS⟩ : ∃ H, H = s.heap ∧ va_P G.1 vwCl [(oX11 mo mo_length mo_at mo_faultAt mo_parts mo_entries mo_ringEarth mo_lead mo_ring mo_jumpMany mo_curveEnd mo_beds mo_all), (wI G (mo 2) 12 mo_laws), (wI G (mo 9) 100 mo_jumpAir)] H ∧ va_S A s.heap H [] := ⟨_, rfl, hP, hS⟩
  obtain ⟨locs, el, hS⟩ : ∃ locs : List Loc, locs = [] ∧ va_S A s.heap H locs := ⟨_, rfl, hS⟩
  have key : Wc_X11_jump l G mo mo_laws mo_length mo_at mo_faultAt mo_parts mo_entries mo_ringEarth mo_lead mo_ring mo_jumpAir mo_jumpMany mo_curveEnd mo_beds mo_all a1 a2 a3 a4 R p e s m below meth c A H locs (F0 m 0 ls []) := by
    refine lv_iload_n hx hb dX11_jump_0 rfl (lv_at hl 1 rfl) ?_
    refine lv_iload_n hx hb dX11_jump_1 rfl (lv_at hl 2 rfl) ?_
    obtain ⟨q1, r1, hf⟩ := bd_s hf
    refine ro_S (n := 2) (As := [.int a1, .int a2]) (rest := []) (c_X11_isEarth l G a1 a2 q1 r1) C (hK.at hS hz) (hP.sub [] rfl) hl kcode_X11_isEarth kml_X11_124 kst_X11_isEarth kini_X11 (by decide +kernel) ⟨⟨rfl, rfl⟩, Nat.le_of_ble_eq_true rfl, Nat.le_of_ble_eq_true rfl⟩ ⟨Nat.zero_le _, Nat.zero_le _⟩ rfl rfl (Nat.le_of_ble_eq_true rfl) dX11_jump_2 rfl ?_
    refine lv_if_eq (tgt := 20) hx hb dX11_jump_5 (by decide) (fun c2 => ?_) (fun c2 => ?_)
    · have hf := o_t c2 hf
      refine lv_bipush (v := -2) hx hb dX11_jump_20 (by decide) ?_
      have h9 := Option.some.inj hf
      subst h9
      exact rw_iret C rfl hP hD hS dX11_jump_22
    · have hf := o_f c2 hf
      refine lv_iload_n hx hb dX11_jump_8 rfl (lv_at hl 3 rfl) ?_
      refine lv_i2l (v := (a3.toInt64)) hx hb dX11_jump_9 rfl ?_
      refine lv_lconst (v := 0) hx hb dX11_jump_10 (by decide) ?_
      refine lv_ldc2 hx hb hown (ht _ kcL_X11_122) dX11_jump_11 ?_
      obtain ⟨q4, r4, hf⟩ := bd_s hf
      refine ro_S (n := 3) (As := [.long (a3.toInt64), .long (0 : Int64), .long (99 : Int64)]) (rest := []) (c_X11_in l G (a3.toInt64) (0 : Int64) (99 : Int64) q4 r4) C (hK.at hS hz) (hP.sub [] rfl) hl kcode_X11_in kml_X11_65 kst_X11_in kini_X11 (by decide +kernel) ⟨⟨rfl, rfl⟩, Nat.le_of_ble_eq_true rfl, Nat.le_of_ble_eq_true rfl⟩ ⟨Nat.zero_le _, Nat.zero_le _⟩ rfl rfl (Nat.le_of_ble_eq_true rfl) dX11_jump_14 rfl ?_
      refine lv_if_ne (tgt := 23) hx hb dX11_jump_17 (by decide) (fun c5 => ?_) (fun c5 => ?_)
      · have hf := o_f c5 hf
        refine lv_aload_n hx hb dX11_jump_23 rfl (lv_at hl 0 rfl) ?_
        refine lv_iload_n hx hb dX11_jump_24 rfl (lv_at hl 1 rfl) ?_
        refine lv_iload_n hx hb dX11_jump_25 rfl (lv_at hl 2 rfl) ?_
        refine lv_iload_n hx hb dX11_jump_26 rfl (lv_at hl 3 rfl) ?_
        obtain ⟨q6, r6, hf⟩ := bd_s hf
        refine rw_V (n := 3) (As := [.int a1, .int a2, .int a3]) (rest := []) (wr := []) (ws2 := [(oX11 mo mo_length mo_at mo_faultAt mo_parts mo_entries mo_ringEarth mo_lead mo_ring q6.2.1 q6.2.2 mo_beds mo_all), (wI G (mo 2) 12 mo_laws), (wI G (mo 9) 100 q6.1)]) (c_X11_layCurve l G mo mo_laws mo_length mo_at mo_faultAt mo_parts mo_entries mo_ringEarth mo_lead mo_ring mo_jumpAir mo_jumpMany mo_curveEnd mo_beds mo_all a1 a2 a3 q6 r6) C hK hP hD hS hA hz hl [0, 1, 2] [] [0, 1, 2] rfl rfl rfl rfl rfl (by decide) rfl rfl rfl kcode_X11_layCurve kml_X11_176 kim_X11_layCurve ksel_X11_layCurve kini_X11 (by decide +kernel) ⟨⟨rfl, rfl⟩, Nat.le_of_ble_eq_true rfl, Nat.le_of_ble_eq_true rfl⟩ ⟨Nat.zero_le _, Nat.zero_le _⟩ rfl rfl rfl rfl rfl (Nat.le_of_ble_eq_true rfl) dX11_jump_27 rfl (fun H locs hP hD hS => ?_)
        refine lv_iload hx hb dX11_jump_30 (lv_at hl 4 rfl) ?_
        refine lv_i2l (v := (a4.toInt64)) hx hb dX11_jump_32 rfl ?_
        refine lv_lconst (v := 0) hx hb dX11_jump_33 (by decide) ?_
        refine lv_aload_n hx hb dX11_jump_34 rfl (lv_at hl 0 rfl) ?_
        refine va_get (D := G.1) (ci := 11) (v := .int q6.2.1) (C := RX11) (T := TX11) (N := 29) hx hb ht twX11 hown hK.1 hP 0 rfl rfl 17 (by decide) (ht _ kfl_X11_170) (fun _ h9 => h9) rfl dX11_jump_35 ?_
        refine lv_iconst (v := 1) hx hb dX11_jump_38 (by decide) ?_
        refine lv_isub hx hb dX11_jump_39 ?_
        refine lv_i2l (v := ((q6.2.1 - (1 : Int32)).toInt64)) hx hb dX11_jump_40 rfl ?_
        obtain ⟨q7, r7, hf⟩ := bd_s hf
        refine ro_S (n := 3) (As := [.long (a4.toInt64), .long (0 : Int64), .long ((q6.2.1 - (1 : Int32)).toInt64)]) (rest := []) (c_X11_in l G (a4.toInt64) (0 : Int64) ((q6.2.1 - (1 : Int32)).toInt64) q7 r7) C (hK.at hS hz) (hP.sub [] rfl) hl kcode_X11_in kml_X11_65 kst_X11_in kini_X11 (by decide +kernel) ⟨⟨rfl, rfl⟩, Nat.le_of_ble_eq_true rfl, Nat.le_of_ble_eq_true rfl⟩ ⟨Nat.zero_le _, Nat.zero_le _⟩ rfl rfl (Nat.le_of_ble_eq_true rfl) dX11_jump_41 rfl ?_
        refine lv_if_eq (tgt := 57) hx hb dX11_jump_44 (by decide) (fun c8 => ?_) (fun c8 => ?_)
        · have hf := o_t c8 hf
          refine lv_bipush (v := -9) hx hb dX11_jump_57 (by decide) ?_
          have h9 := Option.some.inj hf
          subst h9
          exact rw_iret C rfl hP hD hS dX11_jump_59
        · have hf := o_f c8 hf
          refine lv_aload_n hx hb dX11_jump_47 rfl (lv_at hl 0 rfl) ?_
          refine va_get (D := G.1) (ci := 11) (v := .ref (mo 9)) (C := RX11) (T := TX11) (N := 29) hx hb ht twX11 hown hK.1 hP 0 rfl rfl 16 (by decide) (ht _ kfl_X11_34) (fun _ h9 => h9) rfl dX11_jump_48 ?_
          refine lv_iload hx hb dX11_jump_51 (lv_at hl 4 rfl) ?_
          obtain ⟨g10, hf⟩ := gd_s hf
          refine va_iald hx hb hK.1 hP 2 0 rfl rfl g10 dX11_jump_53 ?_
          refine lv_goto (tgt := 59) hx hb dX11_jump_54 (by decide) ?_
          have h9 := Option.some.inj hf
          subst h9
          exact rw_iret C rfl hP hD hS dX11_jump_59
      · have hf := o_t c5 hf
        refine lv_bipush (v := -2) hx hb dX11_jump_20 (by decide) ?_
        have h9 := Option.some.inj hf
        subst h9
        exact rw_iret C rfl hP hD hS dX11_jump_22
  rw [eH, el] at key
  exact key
abbrev Wc_X11_curve (l : Launch) (G : TG) (mo : Nat → Nat) (mo_laws : Nat → Int32) (mo_length : Int32) (mo_at : Int32) (mo_faultAt : Int32) (mo_parts : Int32) (mo_entries : Int32) (mo_ringEarth : Int32) (mo_lead : Int32) (mo_ring : Int32) (mo_jumpAir : Nat → Int32) (mo_jumpMany : Int32) (mo_curveEnd : Int32) (mo_beds : Int32) (mo_all : Int64) (a1 : Int32) (a2 : Int32) (a3 : Int32) (R : Int32 × (Nat → Int32) × Int32 × Int32) (p : Program) (e : Env) (s : State) (m : MethodId) (below : List Frame) (meth : Method) (c : Code) (A : Nat → Prop) (H : Heap) (locs : List Loc) (g : JFrame) : Prop := W p l e ({ frames := 6, cells := 0, slots := 0, locals := 146 }) s m ([.ref (mo 0), .int a1, .int a2, .int a3] : List Value).toArray below meth c H locs 0 0 (MQ below (rwQ G (some (.int R.1)) [(oX11 mo mo_length mo_at mo_faultAt mo_parts mo_entries mo_ringEarth mo_lead mo_ring R.2.2.1 R.2.2.2 mo_beds mo_all), (wI G (mo 2) 12 mo_laws), (wI G (mo 9) 100 R.2.1)] A) ([.ref (mo 0), .int a1, .int a2, .int a3] : List Value).toArray s 0 0 A) g
set_option maxHeartbeats 4000000 in
set_option maxRecDepth 100000 in
theorem c_X11_curve (l : Launch) (G : TG) (mo : Nat → Nat) (mo_laws : Nat → Int32) (mo_length : Int32) (mo_at : Int32) (mo_faultAt : Int32) (mo_parts : Int32) (mo_entries : Int32) (mo_ringEarth : Int32) (mo_lead : Int32) (mo_ring : Int32) (mo_jumpAir : Nat → Int32) (mo_jumpMany : Int32) (mo_curveEnd : Int32) (mo_beds : Int32) (mo_all : Int64) (a1 : Int32) (a2 : Int32) (a3 : Int32) (R : Int32 × (Nat → Int32) × Int32 × Int32) (hf : f_X11_curve mo_laws mo_jumpAir mo_jumpMany mo_curveEnd a1 a2 a3 = some R) : RW l yX11_curve cX11_curve 4 (some .int) ({ frames := 6, cells := 0, slots := 0, locals := 146 }) G [.ref (mo 0), .int a1, .int a2, .int a3] [(oX11 mo mo_length mo_at mo_faultAt mo_parts mo_entries mo_ringEarth mo_lead mo_ring mo_jumpMany mo_curveEnd mo_beds mo_all), (wI G (mo 2) 12 mo_laws), (wI G (mo 9) 100 mo_jumpAir)] (some (.int R.1)) [(oX11 mo mo_length mo_at mo_faultAt mo_parts mo_entries mo_ringEarth mo_lead mo_ring R.2.2.1 R.2.2.2 mo_beds mo_all), (wI G (mo 2) 12 mo_laws), (wI G (mo 9) 100 R.2.1)] := by
  refine RW.mk (by decide +kernel) (Nat.le_of_ble_eq_true rfl) ?_
  intro p e s m below meth c ls A C hP hD hA hz hK hl hS
  have hx := C.1
  have hb := C.2.1
  have hown : s.vm.findClass RX11 = some m.cls := C.2.2.2.2.2.1
  have ht := C.2.2.2.2.2.2
  have hl : lv_has ls 4 [(0, .ref (mo 0)), (1, .int a1), (2, .int a2), (3, .int a3)] := hl
  show Wc_X11_curve l G mo mo_laws mo_length mo_at mo_faultAt mo_parts mo_entries mo_ringEarth mo_lead mo_ring mo_jumpAir mo_jumpMany mo_curveEnd mo_beds mo_all a1 a2 a3 R p e s m below meth c A s.heap [] (F0 m 0 ls [])
  obtain ⟨H, eH, hP, hS⟩ : ∃ H, H = s.heap ∧ va_P G.1 vwCl [(oX11 mo mo_length mo_at mo_faultAt mo_parts mo_entries mo_ringEarth mo_lead mo_ring mo_jumpMany mo_curveEnd mo_beds mo_all), (wI G (mo 2) 12 mo_laws), (wI G (mo 9) 100 mo_jumpAir)] H ∧ va_S A s.heap H [] := ⟨_, rfl, hP, hS⟩
  obtain ⟨locs, el, hS⟩ : ∃ locs : List Loc, locs = [] ∧ va_S A s.heap H locs := ⟨_, rfl, hS⟩
  have key : Wc_X11_curve l G mo mo_laws mo_length mo_at mo_faultAt mo_parts mo_entries mo_ringEarth mo_lead mo_ring mo_jumpAir mo_jumpMany mo_curveEnd mo_beds mo_all a1 a2 a3 R p e s m below meth c A H locs (F0 m 0 ls []) := by
    refine lv_iload_n hx hb dX11_curve_0 rfl (lv_at hl 1 rfl) ?_
    refine lv_iload_n hx hb dX11_curve_1 rfl (lv_at hl 2 rfl) ?_
    obtain ⟨q1, r1, hf⟩ := bd_s hf
    refine ro_S (n := 2) (As := [.int a1, .int a2]) (rest := []) (c_X11_isEarth l G a1 a2 q1 r1) C (hK.at hS hz) (hP.sub [] rfl) hl kcode_X11_isEarth kml_X11_124 kst_X11_isEarth kini_X11 (by decide +kernel) ⟨⟨rfl, rfl⟩, Nat.le_of_ble_eq_true rfl, Nat.le_of_ble_eq_true rfl⟩ ⟨Nat.zero_le _, Nat.zero_le _⟩ rfl rfl (Nat.le_of_ble_eq_true rfl) dX11_curve_2 rfl ?_
    refine lv_if_eq (tgt := 20) hx hb dX11_curve_5 (by decide) (fun c2 => ?_) (fun c2 => ?_)
    · have hf := o_t c2 hf
      refine lv_bipush (v := -2) hx hb dX11_curve_20 (by decide) ?_
      have h9 := Option.some.inj hf
      subst h9
      exact rw_iret C rfl hP hD hS dX11_curve_22
    · have hf := o_f c2 hf
      refine lv_iload_n hx hb dX11_curve_8 rfl (lv_at hl 3 rfl) ?_
      refine lv_i2l (v := (a3.toInt64)) hx hb dX11_curve_9 rfl ?_
      refine lv_lconst (v := 0) hx hb dX11_curve_10 (by decide) ?_
      refine lv_ldc2 hx hb hown (ht _ kcL_X11_122) dX11_curve_11 ?_
      obtain ⟨q4, r4, hf⟩ := bd_s hf
      refine ro_S (n := 3) (As := [.long (a3.toInt64), .long (0 : Int64), .long (99 : Int64)]) (rest := []) (c_X11_in l G (a3.toInt64) (0 : Int64) (99 : Int64) q4 r4) C (hK.at hS hz) (hP.sub [] rfl) hl kcode_X11_in kml_X11_65 kst_X11_in kini_X11 (by decide +kernel) ⟨⟨rfl, rfl⟩, Nat.le_of_ble_eq_true rfl, Nat.le_of_ble_eq_true rfl⟩ ⟨Nat.zero_le _, Nat.zero_le _⟩ rfl rfl (Nat.le_of_ble_eq_true rfl) dX11_curve_14 rfl ?_
      refine lv_if_ne (tgt := 23) hx hb dX11_curve_17 (by decide) (fun c5 => ?_) (fun c5 => ?_)
      · have hf := o_f c5 hf
        refine lv_aload_n hx hb dX11_curve_23 rfl (lv_at hl 0 rfl) ?_
        refine lv_iload_n hx hb dX11_curve_24 rfl (lv_at hl 1 rfl) ?_
        refine lv_iload_n hx hb dX11_curve_25 rfl (lv_at hl 2 rfl) ?_
        refine lv_iload_n hx hb dX11_curve_26 rfl (lv_at hl 3 rfl) ?_
        obtain ⟨q6, r6, hf⟩ := bd_s hf
        refine rw_V (n := 3) (As := [.int a1, .int a2, .int a3]) (rest := []) (wr := []) (ws2 := [(oX11 mo mo_length mo_at mo_faultAt mo_parts mo_entries mo_ringEarth mo_lead mo_ring q6.2.1 q6.2.2 mo_beds mo_all), (wI G (mo 2) 12 mo_laws), (wI G (mo 9) 100 q6.1)]) (c_X11_layCurve l G mo mo_laws mo_length mo_at mo_faultAt mo_parts mo_entries mo_ringEarth mo_lead mo_ring mo_jumpAir mo_jumpMany mo_curveEnd mo_beds mo_all a1 a2 a3 q6 r6) C hK hP hD hS hA hz hl [0, 1, 2] [] [0, 1, 2] rfl rfl rfl rfl rfl (by decide) rfl rfl rfl kcode_X11_layCurve kml_X11_176 kim_X11_layCurve ksel_X11_layCurve kini_X11 (by decide +kernel) ⟨⟨rfl, rfl⟩, Nat.le_of_ble_eq_true rfl, Nat.le_of_ble_eq_true rfl⟩ ⟨Nat.zero_le _, Nat.zero_le _⟩ rfl rfl rfl rfl rfl (Nat.le_of_ble_eq_true rfl) dX11_curve_27 rfl (fun H locs hP hD hS => ?_)
        refine lv_aload_n hx hb dX11_curve_30 rfl (lv_at hl 0 rfl) ?_
        refine va_get (D := G.1) (ci := 11) (v := .int q6.2.2) (C := RX11) (T := TX11) (N := 29) hx hb ht twX11 hown hK.1 hP 0 rfl rfl 18 (by decide) (ht _ kfl_X11_173) (fun _ h9 => h9) rfl dX11_curve_31 ?_
        have h9 := Option.some.inj hf
        subst h9
        exact rw_iret C rfl hP hD hS dX11_curve_34
      · have hf := o_t c5 hf
        refine lv_bipush (v := -2) hx hb dX11_curve_20 (by decide) ?_
        have h9 := Option.some.inj hf
        subst h9
        exact rw_iret C rfl hP hD hS dX11_curve_22
  rw [eH, el] at key
  exact key
abbrev Wc_X11_least (l : Launch) (G : TG) (mo : Nat → Nat) (mo_laws : Nat → Int32) (mo_length : Int32) (mo_at : Int32) (mo_faultAt : Int32) (mo_parts : Int32) (mo_entries : Int32) (mo_ringEarth : Int32) (mo_lead : Int32) (mo_ring : Int32) (mo_jumpMany : Int32) (mo_curveEnd : Int32) (mo_beds : Int32) (mo_all : Int64) (a1 : Int32) (R : Int32) (p : Program) (e : Env) (s : State) (m : MethodId) (below : List Frame) (meth : Method) (c : Code) (H : Heap) (locs : List Loc) (g : JFrame) : Prop := W p l e ({ frames := 4, cells := 0, slots := 0, locals := 94 }) s m ([.ref (mo 0), .int a1] : List Value).toArray below meth c H locs 0 0 (MQ below (roQ (some (.int R))) ([.ref (mo 0), .int a1] : List Value).toArray s 0 0 (fun _ => False)) g
set_option maxHeartbeats 4000000 in
set_option maxRecDepth 100000 in
theorem c_X11_least (l : Launch) (G : TG) (mo : Nat → Nat) (mo_laws : Nat → Int32) (mo_length : Int32) (mo_at : Int32) (mo_faultAt : Int32) (mo_parts : Int32) (mo_entries : Int32) (mo_ringEarth : Int32) (mo_lead : Int32) (mo_ring : Int32) (mo_jumpMany : Int32) (mo_curveEnd : Int32) (mo_beds : Int32) (mo_all : Int64) (a1 : Int32) (R : Int32) (hf : f_X11_least mo_laws a1 = some R) : RO l yX11_least cX11_least 3 (some .int) ({ frames := 4, cells := 0, slots := 0, locals := 94 }) G [.ref (mo 0), .int a1] [(oX11 mo mo_length mo_at mo_faultAt mo_parts mo_entries mo_ringEarth mo_lead mo_ring mo_jumpMany mo_curveEnd mo_beds mo_all), (wI G (mo 2) 12 mo_laws)] (some (.int R)) := by
  refine RO.mk (by decide +kernel) (Nat.le_of_ble_eq_true rfl) ?_
  intro p e s m below meth c ls C hP hK hl
  have hx := C.1
  have hb := C.2.1
  have hown : s.vm.findClass RX11 = some m.cls := C.2.2.2.2.2.1
  have ht := C.2.2.2.2.2.2
  have hl : lv_has ls 3 [(0, .ref (mo 0)), (1, .int a1)] := hl
  show Wc_X11_least l G mo mo_laws mo_length mo_at mo_faultAt mo_parts mo_entries mo_ringEarth mo_lead mo_ring mo_jumpMany mo_curveEnd mo_beds mo_all a1 R p e s m below meth c s.heap [] (F0 m 0 ls [])
  refine lv_iconst (v := 0) hx hb dX11_least_0 (by decide) ?_
  refine lv_istore_n (lv' := [(2, .int (0 : Int32)), (0, .ref (mo 0)), (1, .int a1)]) hx hb dX11_least_1 rfl hl (by decide) rfl (fun ls hl => ?_)
  have hx43_1 : ∀ (ls : Array Slot), f_X11_least_x43_1 = some R → lv_has ls 3 [] → Wc_X11_least l G mo mo_laws mo_length mo_at mo_faultAt mo_parts mo_entries mo_ringEarth mo_lead mo_ring mo_jumpMany mo_curveEnd mo_beds mo_all a1 R p e s m below meth c s.heap [] (F0 m 43 ls []) := by
    intro ls hf hl
    refine lv_bipush (v := -9) hx hb dX11_least_43 (by decide) ?_
    have h9 := Option.some.inj hf
    subst h9
    exact ro_iret C rfl dX11_least_45
  obtain ⟨rL1, hL1, hk1⟩ := bd_s hf
  refine lp_W (P := fun st => ∀ (ls : Array Slot), lv_has ls 3 [(0, .ref (mo 0)), (1, .int a1), (2, .int st)] → Wc_X11_least l G mo mo_laws mo_length mo_at mo_faultAt mo_parts mo_entries mo_ringEarth mo_lead mo_ring mo_jumpMany mo_curveEnd mo_beds mo_all a1 R p e s m below meth c s.heap [] (F0 m 2 ls [])) ?_ FU (0 : Int32) hL1 ls (lv_sub hl [1, 2, 0] rfl)
  intro v2 oc1 hf hI hE ls hl
  have hl : lv_has ls 3 [(0, .ref (mo 0)), (1, .int a1), (2, .int v2)] := hl
  have hf : f_X11_least_b2 mo_laws a1 v2 = some oc1 := hf
  refine lv_iload_n hx hb dX11_least_2 rfl (lv_at hl 2 rfl) ?_
  refine lv_bipush (v := 100) hx hb dX11_least_3 (by decide) ?_
  refine lv_icmp_ge (tgt := 43) hx hb dX11_least_5 (by decide) (fun c3 => ?_) (fun c3 => ?_)
  · have hf := o_t c3 hf
    cases hf
    have hf : f_X11_least_x43_1 = some R := by have h9 := hk1; rw [← hE _ rfl] at h9; exact h9
    exact hx43_1 ls hf (lv_sub hl [] rfl)
  · have hf := o_f c3 hf
    refine lv_iload_n hx hb dX11_least_8 rfl (lv_at hl 1 rfl) ?_
    refine lv_if_eq (tgt := 25) hx hb dX11_least_9 (by decide) (fun c4 => ?_) (fun c4 => ?_)
    · have hf := o_t c4 hf
      refine lv_aload_n hx hb dX11_least_25 rfl (lv_at hl 0 rfl) ?_
      refine lv_bipush (v := 63) hx hb dX11_least_26 (by decide) ?_
      refine lv_iload_n hx hb dX11_least_28 rfl (lv_at hl 2 rfl) ?_
      obtain ⟨q5, r5, hf⟩ := bd_s hf
      refine ro_V (n := 2) (As := [.int (63 : Int32), .int v2]) (rest := []) (c_X11_isRest l G mo mo_laws mo_length mo_at mo_faultAt mo_parts mo_entries mo_ringEarth mo_lead mo_ring mo_jumpMany mo_curveEnd mo_beds mo_all (63 : Int32) v2 q5 r5) C hK (hP.sub [0, 1] rfl) hl kcode_X11_isRest kml_X11_164 kim_X11_isRest ksel_X11_isRest kini_X11 (by decide +kernel) ⟨⟨rfl, rfl⟩, Nat.le_of_ble_eq_true rfl, Nat.le_of_ble_eq_true rfl⟩ ⟨Nat.zero_le _, Nat.zero_le _⟩ rfl rfl rfl rfl rfl (Nat.le_of_ble_eq_true rfl) dX11_least_29 rfl ?_
      refine lv_if_ne (tgt := 37) hx hb dX11_least_32 (by decide) (fun c6 => ?_) (fun c6 => ?_)
      · have hf := o_f c6 hf
        refine lv_iinc (v := (v2 + (1 : Int32))) (lv' := [(2, .int (v2 + (1 : Int32))), (0, .ref (mo 0)), (1, .int a1)]) hx hb dX11_least_37 hl (k := 2) rfl (by rfl) (by decide) rfl (fun ls hl => ?_)
        refine lv_goto (tgt := 2) hx hb dX11_least_40 (by decide) ?_
        cases hf
        exact hI _ rfl ls (lv_sub hl [1, 2, 0] rfl)
      · have hf := o_t c6 hf
        refine lv_iload_n hx hb dX11_least_35 rfl (lv_at hl 2 rfl) ?_
        cases hf
        have hf : some v2 = some R := by have h9 := hk1; rw [← hE _ rfl] at h9; exact h9
        have h9 := Option.some.inj hf
        subst h9
        exact ro_iret C rfl dX11_least_36
    · have hf := o_f c4 hf
      refine lv_aload_n hx hb dX11_least_12 rfl (lv_at hl 0 rfl) ?_
      refine lv_bipush (v := 62) hx hb dX11_least_13 (by decide) ?_
      refine lv_iload_n hx hb dX11_least_15 rfl (lv_at hl 2 rfl) ?_
      obtain ⟨q8, r8, hf⟩ := bd_s hf
      refine ro_V (n := 2) (As := [.int (62 : Int32), .int v2]) (rest := []) (c_X11_isRest l G mo mo_laws mo_length mo_at mo_faultAt mo_parts mo_entries mo_ringEarth mo_lead mo_ring mo_jumpMany mo_curveEnd mo_beds mo_all (62 : Int32) v2 q8 r8) C hK (hP.sub [0, 1] rfl) hl kcode_X11_isRest kml_X11_164 kim_X11_isRest ksel_X11_isRest kini_X11 (by decide +kernel) ⟨⟨rfl, rfl⟩, Nat.le_of_ble_eq_true rfl, Nat.le_of_ble_eq_true rfl⟩ ⟨Nat.zero_le _, Nat.zero_le _⟩ rfl rfl rfl rfl rfl (Nat.le_of_ble_eq_true rfl) dX11_least_16 rfl ?_
      refine lv_if_eq (tgt := 37) hx hb dX11_least_19 (by decide) (fun c9 => ?_) (fun c9 => ?_)
      · have hf := o_t c9 hf
        refine lv_iinc (v := (v2 + (1 : Int32))) (lv' := [(2, .int (v2 + (1 : Int32))), (0, .ref (mo 0)), (1, .int a1)]) hx hb dX11_least_37 hl (k := 2) rfl (by rfl) (by decide) rfl (fun ls hl => ?_)
        refine lv_goto (tgt := 2) hx hb dX11_least_40 (by decide) ?_
        cases hf
        exact hI _ rfl ls (lv_sub hl [1, 2, 0] rfl)
      · have hf := o_f c9 hf
        refine lv_goto (tgt := 35) hx hb dX11_least_22 (by decide) ?_
        refine lv_iload_n hx hb dX11_least_35 rfl (lv_at hl 2 rfl) ?_
        cases hf
        have hf : some v2 = some R := by have h9 := hk1; rw [← hE _ rfl] at h9; exact h9
        have h9 := Option.some.inj hf
        subst h9
        exact ro_iret C rfl dX11_least_36
abbrev Wc_X11_isBed (l : Launch) (G : TG) (mo : Nat → Nat) (mo_length : Int32) (mo_at : Int32) (mo_faultAt : Int32) (mo_parts : Int32) (mo_entries : Int32) (mo_ringEarth : Int32) (mo_lead : Int32) (mo_ring : Int32) (mo_jumpMany : Int32) (mo_curveEnd : Int32) (mo_beds : Int32) (mo_all : Int64) (a1 : Int32) (R : Int32) (p : Program) (e : Env) (s : State) (m : MethodId) (below : List Frame) (meth : Method) (c : Code) (H : Heap) (locs : List Loc) (g : JFrame) : Prop := W p l e ({ frames := 1, cells := 0, slots := 0, locals := 25 }) s m ([.ref (mo 0), .int a1] : List Value).toArray below meth c H locs 0 0 (MQ below (roQ (some (.int R))) ([.ref (mo 0), .int a1] : List Value).toArray s 0 0 (fun _ => False)) g
set_option maxHeartbeats 4000000 in
set_option maxRecDepth 100000 in
theorem c_X11_isBed (l : Launch) (G : TG) (mo : Nat → Nat) (mo_length : Int32) (mo_at : Int32) (mo_faultAt : Int32) (mo_parts : Int32) (mo_entries : Int32) (mo_ringEarth : Int32) (mo_lead : Int32) (mo_ring : Int32) (mo_jumpMany : Int32) (mo_curveEnd : Int32) (mo_beds : Int32) (mo_all : Int64) (a1 : Int32) (R : Int32) (hf : f_X11_isBed mo_beds a1 = some R) : RO l yX11_isBed cX11_isBed 2 (some .boolean) ({ frames := 1, cells := 0, slots := 0, locals := 25 }) G [.ref (mo 0), .int a1] [(oX11 mo mo_length mo_at mo_faultAt mo_parts mo_entries mo_ringEarth mo_lead mo_ring mo_jumpMany mo_curveEnd mo_beds mo_all)] (some (.int R)) := by
  refine RO.mk (by decide +kernel) (Nat.le_of_ble_eq_true rfl) ?_
  intro p e s m below meth c ls C hP hK hl
  have hx := C.1
  have hb := C.2.1
  have hown : s.vm.findClass RX11 = some m.cls := C.2.2.2.2.2.1
  have ht := C.2.2.2.2.2.2
  have hl : lv_has ls 2 [(0, .ref (mo 0)), (1, .int a1)] := hl
  show Wc_X11_isBed l G mo mo_length mo_at mo_faultAt mo_parts mo_entries mo_ringEarth mo_lead mo_ring mo_jumpMany mo_curveEnd mo_beds mo_all a1 R p e s m below meth c s.heap [] (F0 m 0 ls [])
  refine lv_iload_n hx hb dX11_isBed_0 rfl (lv_at hl 1 rfl) ?_
  refine lv_i2l (v := (a1.toInt64)) hx hb dX11_isBed_1 rfl ?_
  refine lv_lconst (v := 0) hx hb dX11_isBed_2 (by decide) ?_
  refine lv_aload_n hx hb dX11_isBed_3 rfl (lv_at hl 0 rfl) ?_
  refine va_get (D := G.1) (ci := 11) (v := .int mo_beds) (C := RX11) (T := TX11) (N := 29) hx hb ht twX11 hown hK.1 hP 0 rfl rfl 19 (by decide) (ht _ kfl_X11_180) (fun _ h9 => h9) rfl dX11_isBed_4 ?_
  refine lv_iconst (v := 1) hx hb dX11_isBed_7 (by decide) ?_
  refine lv_isub hx hb dX11_isBed_8 ?_
  refine lv_i2l (v := ((mo_beds - (1 : Int32)).toInt64)) hx hb dX11_isBed_9 rfl ?_
  obtain ⟨q1, r1, hf⟩ := bd_s hf
  refine ro_S (n := 3) (As := [.long (a1.toInt64), .long (0 : Int64), .long ((mo_beds - (1 : Int32)).toInt64)]) (rest := []) (c_X11_in l G (a1.toInt64) (0 : Int64) ((mo_beds - (1 : Int32)).toInt64) q1 r1) C hK (hP.sub [] rfl) hl kcode_X11_in kml_X11_65 kst_X11_in kini_X11 (by decide +kernel) ⟨⟨rfl, rfl⟩, Nat.le_of_ble_eq_true rfl, Nat.le_of_ble_eq_true rfl⟩ ⟨Nat.zero_le _, Nat.zero_le _⟩ rfl rfl (Nat.le_of_ble_eq_true rfl) dX11_isBed_10 rfl ?_
  obtain ⟨z2, hf⟩ := zb_s hf
  have h9 := Option.some.inj hf
  subst h9
  exact ro_zret C z2 rfl dX11_isBed_13
abbrev Wc_X11_bed (l : Launch) (G : TG) (mo : Nat → Nat) (mo_length : Int32) (mo_at : Int32) (mo_faultAt : Int32) (mo_parts : Int32) (mo_entries : Int32) (mo_ringEarth : Int32) (mo_lead : Int32) (mo_ring : Int32) (mo_jumpMany : Int32) (mo_curveEnd : Int32) (mo_beds : Int32) (mo_bed : Nat → Int32) (mo_all : Int64) (a1 : Int32) (a2 : Int32) (a3 : Int32) (a4 : Int32) (a5 : Int32) (a6 : Int32) (R : Int32 × Int32 × (Nat → Int32)) (p : Program) (e : Env) (s : State) (m : MethodId) (below : List Frame) (meth : Method) (c : Code) (A : Nat → Prop) (H : Heap) (locs : List Loc) (g : JFrame) : Prop := W p l e ({ frames := 1, cells := 0, slots := 0, locals := 25 }) s m ([.ref (mo 0), .int a1, .int a2, .int a3, .int a4, .int a5, .int a6] : List Value).toArray below meth c H locs 0 0 (MQ below (rwQ G (some (.int R.1)) [(oX11 mo mo_length mo_at mo_faultAt mo_parts mo_entries mo_ringEarth mo_lead mo_ring mo_jumpMany mo_curveEnd R.2.1 mo_all), (wI G (mo 10) 48 R.2.2)] A) ([.ref (mo 0), .int a1, .int a2, .int a3, .int a4, .int a5, .int a6] : List Value).toArray s 0 0 A) g
set_option maxHeartbeats 4000000 in
set_option maxRecDepth 100000 in
theorem c_X11_bed (l : Launch) (G : TG) (mo : Nat → Nat) (mo_length : Int32) (mo_at : Int32) (mo_faultAt : Int32) (mo_parts : Int32) (mo_entries : Int32) (mo_ringEarth : Int32) (mo_lead : Int32) (mo_ring : Int32) (mo_jumpMany : Int32) (mo_curveEnd : Int32) (mo_beds : Int32) (mo_bed : Nat → Int32) (mo_all : Int64) (a1 : Int32) (a2 : Int32) (a3 : Int32) (a4 : Int32) (a5 : Int32) (a6 : Int32) (R : Int32 × Int32 × (Nat → Int32)) (hf : f_X11_bed mo_beds mo_bed a1 a2 a3 a4 a5 a6 = some R) : RW l yX11_bed cX11_bed 8 (some .int) ({ frames := 1, cells := 0, slots := 0, locals := 25 }) G [.ref (mo 0), .int a1, .int a2, .int a3, .int a4, .int a5, .int a6] [(oX11 mo mo_length mo_at mo_faultAt mo_parts mo_entries mo_ringEarth mo_lead mo_ring mo_jumpMany mo_curveEnd mo_beds mo_all), (wI G (mo 10) 48 mo_bed)] (some (.int R.1)) [(oX11 mo mo_length mo_at mo_faultAt mo_parts mo_entries mo_ringEarth mo_lead mo_ring mo_jumpMany mo_curveEnd R.2.1 mo_all), (wI G (mo 10) 48 R.2.2)] := by
  refine RW.mk (by decide +kernel) (Nat.le_of_ble_eq_true rfl) ?_
  intro p e s m below meth c ls A C hP hD hA hz hK hl hS
  have hx := C.1
  have hb := C.2.1
  have hown : s.vm.findClass RX11 = some m.cls := C.2.2.2.2.2.1
  have ht := C.2.2.2.2.2.2
  have hl : lv_has ls 8 [(0, .ref (mo 0)), (1, .int a1), (2, .int a2), (3, .int a3), (4, .int a4), (5, .int a5), (6, .int a6)] := hl
  show Wc_X11_bed l G mo mo_length mo_at mo_faultAt mo_parts mo_entries mo_ringEarth mo_lead mo_ring mo_jumpMany mo_curveEnd mo_beds mo_bed mo_all a1 a2 a3 a4 a5 a6 R p e s m below meth c A s.heap [] (F0 m 0 ls [])
  obtain ⟨H, eH, hP, hS⟩ : ∃ H, H = s.heap ∧ va_P G.1 vwCl [(oX11 mo mo_length mo_at mo_faultAt mo_parts mo_entries mo_ringEarth mo_lead mo_ring mo_jumpMany mo_curveEnd mo_beds mo_all), (wI G (mo 10) 48 mo_bed)] H ∧ va_S A s.heap H [] := ⟨_, rfl, hP, hS⟩
  obtain ⟨locs, el, hS⟩ : ∃ locs : List Loc, locs = [] ∧ va_S A s.heap H locs := ⟨_, rfl, hS⟩
  have key : Wc_X11_bed l G mo mo_length mo_at mo_faultAt mo_parts mo_entries mo_ringEarth mo_lead mo_ring mo_jumpMany mo_curveEnd mo_beds mo_bed mo_all a1 a2 a3 a4 a5 a6 R p e s m below meth c A H locs (F0 m 0 ls []) := by
    refine lv_iload_n hx hb dX11_bed_0 rfl (lv_at hl 1 rfl) ?_
    refine lv_i2l (v := (a1.toInt64)) hx hb dX11_bed_1 rfl ?_
    refine lv_lconst (v := 0) hx hb dX11_bed_2 (by decide) ?_
    refine lv_ldc2 hx hb hown (ht _ kcL_X11_115) dX11_bed_3 ?_
    obtain ⟨q1, r1, hf⟩ := bd_s hf
    refine ro_S (n := 3) (As := [.long (a1.toInt64), .long (0 : Int64), .long (3 : Int64)]) (rest := []) (c_X11_in l G (a1.toInt64) (0 : Int64) (3 : Int64) q1 r1) C (hK.at hS hz) (hP.sub [] rfl) hl kcode_X11_in kml_X11_65 kst_X11_in kini_X11 (by decide +kernel) ⟨⟨rfl, rfl⟩, Nat.le_of_ble_eq_true rfl, Nat.le_of_ble_eq_true rfl⟩ ⟨Nat.zero_le _, Nat.zero_le _⟩ rfl rfl (Nat.le_of_ble_eq_true rfl) dX11_bed_6 rfl ?_
    refine lv_if_eq (tgt := 25) hx hb dX11_bed_9 (by decide) (fun c2 => ?_) (fun c2 => ?_)
    · have hf := o_t c2 hf
      refine lv_iconst (v := -1) hx hb dX11_bed_25 (by decide) ?_
      have h9 := Option.some.inj hf
      subst h9
      exact rw_iret C rfl hP hD hS dX11_bed_26
    · have hf := o_f c2 hf
      refine lv_iload hx hb dX11_bed_12 (lv_at hl 5 rfl) ?_
      refine lv_i2l (v := (a5.toInt64)) hx hb dX11_bed_14 rfl ?_
      refine lv_lconst (v := 0) hx hb dX11_bed_15 (by decide) ?_
      refine lv_ldc2 hx hb hown (ht _ kcL_X11_145) dX11_bed_16 ?_
      obtain ⟨q4, r4, hf⟩ := bd_s hf
      refine ro_S (n := 3) (As := [.long (a5.toInt64), .long (0 : Int64), .long (5 : Int64)]) (rest := []) (c_X11_in l G (a5.toInt64) (0 : Int64) (5 : Int64) q4 r4) C (hK.at hS hz) (hP.sub [] rfl) hl kcode_X11_in kml_X11_65 kst_X11_in kini_X11 (by decide +kernel) ⟨⟨rfl, rfl⟩, Nat.le_of_ble_eq_true rfl, Nat.le_of_ble_eq_true rfl⟩ ⟨Nat.zero_le _, Nat.zero_le _⟩ rfl rfl (Nat.le_of_ble_eq_true rfl) dX11_bed_19 rfl ?_
      refine lv_if_ne (tgt := 27) hx hb dX11_bed_22 (by decide) (fun c5 => ?_) (fun c5 => ?_)
      · have hf := o_f c5 hf
        refine lv_iload_n hx hb dX11_bed_27 rfl (lv_at hl 2 rfl) ?_
        refine lv_i2l (v := (a2.toInt64)) hx hb dX11_bed_28 rfl ?_
        refine lv_lconst (v := 0) hx hb dX11_bed_29 (by decide) ?_
        refine lv_ldc2 hx hb hown (ht _ kcL_X11_183) dX11_bed_30 ?_
        obtain ⟨q6, r6, hf⟩ := bd_s hf
        refine ro_S (n := 3) (As := [.long (a2.toInt64), .long (0 : Int64), .long (15 : Int64)]) (rest := []) (c_X11_in l G (a2.toInt64) (0 : Int64) (15 : Int64) q6 r6) C (hK.at hS hz) (hP.sub [] rfl) hl kcode_X11_in kml_X11_65 kst_X11_in kini_X11 (by decide +kernel) ⟨⟨rfl, rfl⟩, Nat.le_of_ble_eq_true rfl, Nat.le_of_ble_eq_true rfl⟩ ⟨Nat.zero_le _, Nat.zero_le _⟩ rfl rfl (Nat.le_of_ble_eq_true rfl) dX11_bed_33 rfl ?_
        refine lv_if_eq (tgt := 78) hx hb dX11_bed_36 (by decide) (fun c7 => ?_) (fun c7 => ?_)
        · have hf := o_t c7 hf
          refine lv_bipush (v := -2) hx hb dX11_bed_78 (by decide) ?_
          have h9 := Option.some.inj hf
          subst h9
          exact rw_iret C rfl hP hD hS dX11_bed_80
        · have hf := o_f c7 hf
          refine lv_iload_n hx hb dX11_bed_39 rfl (lv_at hl 3 rfl) ?_
          refine lv_i2l (v := (a3.toInt64)) hx hb dX11_bed_40 rfl ?_
          refine lv_lconst (v := 0) hx hb dX11_bed_41 (by decide) ?_
          refine lv_ldc2 hx hb hown (ht _ kcL_X11_122) dX11_bed_42 ?_
          obtain ⟨q9, r9, hf⟩ := bd_s hf
          refine ro_S (n := 3) (As := [.long (a3.toInt64), .long (0 : Int64), .long (99 : Int64)]) (rest := []) (c_X11_in l G (a3.toInt64) (0 : Int64) (99 : Int64) q9 r9) C (hK.at hS hz) (hP.sub [] rfl) hl kcode_X11_in kml_X11_65 kst_X11_in kini_X11 (by decide +kernel) ⟨⟨rfl, rfl⟩, Nat.le_of_ble_eq_true rfl, Nat.le_of_ble_eq_true rfl⟩ ⟨Nat.zero_le _, Nat.zero_le _⟩ rfl rfl (Nat.le_of_ble_eq_true rfl) dX11_bed_45 rfl ?_
          refine lv_if_eq (tgt := 78) hx hb dX11_bed_48 (by decide) (fun c10 => ?_) (fun c10 => ?_)
          · have hf := o_t c10 hf
            refine lv_bipush (v := -2) hx hb dX11_bed_78 (by decide) ?_
            have h9 := Option.some.inj hf
            subst h9
            exact rw_iret C rfl hP hD hS dX11_bed_80
          · have hf := o_f c10 hf
            refine lv_iload hx hb dX11_bed_51 (lv_at hl 4 rfl) ?_
            refine lv_i2l (v := (a4.toInt64)) hx hb dX11_bed_53 rfl ?_
            refine lv_iload_n hx hb dX11_bed_54 rfl (lv_at hl 3 rfl) ?_
            refine lv_i2l (v := (a3.toInt64)) hx hb dX11_bed_55 rfl ?_
            refine lv_ldc2 hx hb hown (ht _ kcL_X11_122) dX11_bed_56 ?_
            obtain ⟨q12, r12, hf⟩ := bd_s hf
            refine ro_S (n := 3) (As := [.long (a4.toInt64), .long (a3.toInt64), .long (99 : Int64)]) (rest := []) (c_X11_in l G (a4.toInt64) (a3.toInt64) (99 : Int64) q12 r12) C (hK.at hS hz) (hP.sub [] rfl) hl kcode_X11_in kml_X11_65 kst_X11_in kini_X11 (by decide +kernel) ⟨⟨rfl, rfl⟩, Nat.le_of_ble_eq_true rfl, Nat.le_of_ble_eq_true rfl⟩ ⟨Nat.zero_le _, Nat.zero_le _⟩ rfl rfl (Nat.le_of_ble_eq_true rfl) dX11_bed_59 rfl ?_
            refine lv_if_eq (tgt := 78) hx hb dX11_bed_62 (by decide) (fun c13 => ?_) (fun c13 => ?_)
            · have hf := o_t c13 hf
              refine lv_bipush (v := -2) hx hb dX11_bed_78 (by decide) ?_
              have h9 := Option.some.inj hf
              subst h9
              exact rw_iret C rfl hP hD hS dX11_bed_80
            · have hf := o_f c13 hf
              refine lv_iload hx hb dX11_bed_65 (lv_at hl 6 rfl) ?_
              refine lv_i2l (v := (a6.toInt64)) hx hb dX11_bed_67 rfl ?_
              refine lv_lconst (v := 0) hx hb dX11_bed_68 (by decide) ?_
              refine lv_ldc2 hx hb hown (ht _ kcL_X11_185) dX11_bed_69 ?_
              obtain ⟨q15, r15, hf⟩ := bd_s hf
              refine ro_S (n := 3) (As := [.long (a6.toInt64), .long (0 : Int64), .long (10 : Int64)]) (rest := []) (c_X11_in l G (a6.toInt64) (0 : Int64) (10 : Int64) q15 r15) C (hK.at hS hz) (hP.sub [] rfl) hl kcode_X11_in kml_X11_65 kst_X11_in kini_X11 (by decide +kernel) ⟨⟨rfl, rfl⟩, Nat.le_of_ble_eq_true rfl, Nat.le_of_ble_eq_true rfl⟩ ⟨Nat.zero_le _, Nat.zero_le _⟩ rfl rfl (Nat.le_of_ble_eq_true rfl) dX11_bed_72 rfl ?_
              refine lv_if_ne (tgt := 81) hx hb dX11_bed_75 (by decide) (fun c16 => ?_) (fun c16 => ?_)
              · have hf := o_f c16 hf
                refine lv_aload_n hx hb dX11_bed_81 rfl (lv_at hl 0 rfl) ?_
                refine va_get (D := G.1) (ci := 11) (v := .int mo_beds) (C := RX11) (T := TX11) (N := 29) hx hb ht twX11 hown hK.1 hP 0 rfl rfl 19 (by decide) (ht _ kfl_X11_180) (fun _ h9 => h9) rfl dX11_bed_82 ?_
                refine lv_bipush (v := 8) hx hb dX11_bed_85 (by decide) ?_
                refine lv_icmp_ne (tgt := 93) hx hb dX11_bed_87 (by decide) (fun c17 => ?_) (fun c17 => ?_)
                · have hf := o_f c17 hf
                  refine lv_bipush (v := 6) hx hb dX11_bed_93 (by decide) ?_
                  refine lv_aload_n hx hb dX11_bed_95 rfl (lv_at hl 0 rfl) ?_
                  refine va_get (D := G.1) (ci := 11) (v := .int mo_beds) (C := RX11) (T := TX11) (N := 29) hx hb ht twX11 hown hK.1 hP 0 rfl rfl 19 (by decide) (ht _ kfl_X11_180) (fun _ h9 => h9) rfl dX11_bed_96 ?_
                  refine lv_imul hx hb dX11_bed_99 ?_
                  refine lv_istore (lv' := [(7, .int ((6 : Int32) * mo_beds)), (0, .ref (mo 0)), (1, .int a1), (2, .int a2), (3, .int a3), (4, .int a4), (5, .int a5), (6, .int a6)]) hx hb dX11_bed_100 hl (by decide) rfl (fun ls hl => ?_)
                  refine lv_aload_n hx hb dX11_bed_102 rfl (lv_at hl 1 rfl) ?_
                  refine va_get (D := G.1) (ci := 11) (v := .ref (mo 10)) (C := RX11) (T := TX11) (N := 29) hx hb ht twX11 hown hK.1 hP 0 rfl rfl 20 (by decide) (ht _ kfl_X11_37) (fun _ h9 => h9) rfl dX11_bed_103 ?_
                  refine lv_iload hx hb dX11_bed_106 (lv_at hl 0 rfl) ?_
                  refine lv_iload_n hx hb dX11_bed_108 rfl (lv_at hl 2 rfl) ?_
                  obtain ⟨g18, hf⟩ := gd_s hf
                  refine va_iast hx hb hK.1 hP hD hS 1 0 rfl rfl g18 dX11_bed_109 (fun H locs hP hD hS => ?_)
                  have hP : va_P G.1 vwCl [(oX11 mo mo_length mo_at mo_faultAt mo_parts mo_entries mo_ringEarth mo_lead mo_ring mo_jumpMany mo_curveEnd mo_beds mo_all), (wI G (mo 10) 48 (upd mo_bed ((6 : Int32) * mo_beds).toNatClampNeg a1))] H := hP
                  have hD : va_D A [(oX11 mo mo_length mo_at mo_faultAt mo_parts mo_entries mo_ringEarth mo_lead mo_ring mo_jumpMany mo_curveEnd mo_beds mo_all), (wI G (mo 10) 48 (upd mo_bed ((6 : Int32) * mo_beds).toNatClampNeg a1))] := hD
                  refine lv_aload_n hx hb dX11_bed_110 rfl (lv_at hl 1 rfl) ?_
                  refine va_get (D := G.1) (ci := 11) (v := .ref (mo 10)) (C := RX11) (T := TX11) (N := 29) hx hb ht twX11 hown hK.1 hP 0 rfl rfl 20 (by decide) (ht _ kfl_X11_37) (fun _ h9 => h9) rfl dX11_bed_111 ?_
                  refine lv_iload hx hb dX11_bed_114 (lv_at hl 0 rfl) ?_
                  refine lv_iconst (v := 1) hx hb dX11_bed_116 (by decide) ?_
                  refine lv_iadd hx hb dX11_bed_117 ?_
                  refine lv_iload_n hx hb dX11_bed_118 rfl (lv_at hl 3 rfl) ?_
                  obtain ⟨g19, hf⟩ := gd_s hf
                  refine va_iast hx hb hK.1 hP hD hS 1 0 rfl rfl g19 dX11_bed_119 (fun H locs hP hD hS => ?_)
                  have hP : va_P G.1 vwCl [(oX11 mo mo_length mo_at mo_faultAt mo_parts mo_entries mo_ringEarth mo_lead mo_ring mo_jumpMany mo_curveEnd mo_beds mo_all), (wI G (mo 10) 48 (upd (upd mo_bed ((6 : Int32) * mo_beds).toNatClampNeg a1) (((6 : Int32) * mo_beds) + (1 : Int32)).toNatClampNeg a2))] H := hP
                  have hD : va_D A [(oX11 mo mo_length mo_at mo_faultAt mo_parts mo_entries mo_ringEarth mo_lead mo_ring mo_jumpMany mo_curveEnd mo_beds mo_all), (wI G (mo 10) 48 (upd (upd mo_bed ((6 : Int32) * mo_beds).toNatClampNeg a1) (((6 : Int32) * mo_beds) + (1 : Int32)).toNatClampNeg a2))] := hD
                  refine lv_aload_n hx hb dX11_bed_120 rfl (lv_at hl 1 rfl) ?_
                  refine va_get (D := G.1) (ci := 11) (v := .ref (mo 10)) (C := RX11) (T := TX11) (N := 29) hx hb ht twX11 hown hK.1 hP 0 rfl rfl 20 (by decide) (ht _ kfl_X11_37) (fun _ h9 => h9) rfl dX11_bed_121 ?_
                  refine lv_iload hx hb dX11_bed_124 (lv_at hl 0 rfl) ?_
                  refine lv_iconst (v := 2) hx hb dX11_bed_126 (by decide) ?_
                  refine lv_iadd hx hb dX11_bed_127 ?_
                  refine lv_iload_n hx hb dX11_bed_128 rfl (lv_at hl 4 rfl) ?_
                  obtain ⟨g20, hf⟩ := gd_s hf
                  refine va_iast hx hb hK.1 hP hD hS 1 0 rfl rfl g20 dX11_bed_129 (fun H locs hP hD hS => ?_)
                  have hP : va_P G.1 vwCl [(oX11 mo mo_length mo_at mo_faultAt mo_parts mo_entries mo_ringEarth mo_lead mo_ring mo_jumpMany mo_curveEnd mo_beds mo_all), (wI G (mo 10) 48 (upd (upd (upd mo_bed ((6 : Int32) * mo_beds).toNatClampNeg a1) (((6 : Int32) * mo_beds) + (1 : Int32)).toNatClampNeg a2) (((6 : Int32) * mo_beds) + (2 : Int32)).toNatClampNeg a3))] H := hP
                  have hD : va_D A [(oX11 mo mo_length mo_at mo_faultAt mo_parts mo_entries mo_ringEarth mo_lead mo_ring mo_jumpMany mo_curveEnd mo_beds mo_all), (wI G (mo 10) 48 (upd (upd (upd mo_bed ((6 : Int32) * mo_beds).toNatClampNeg a1) (((6 : Int32) * mo_beds) + (1 : Int32)).toNatClampNeg a2) (((6 : Int32) * mo_beds) + (2 : Int32)).toNatClampNeg a3))] := hD
                  refine lv_aload_n hx hb dX11_bed_130 rfl (lv_at hl 1 rfl) ?_
                  refine va_get (D := G.1) (ci := 11) (v := .ref (mo 10)) (C := RX11) (T := TX11) (N := 29) hx hb ht twX11 hown hK.1 hP 0 rfl rfl 20 (by decide) (ht _ kfl_X11_37) (fun _ h9 => h9) rfl dX11_bed_131 ?_
                  refine lv_iload hx hb dX11_bed_134 (lv_at hl 0 rfl) ?_
                  refine lv_iconst (v := 3) hx hb dX11_bed_136 (by decide) ?_
                  refine lv_iadd hx hb dX11_bed_137 ?_
                  refine lv_iload hx hb dX11_bed_138 (lv_at hl 5 rfl) ?_
                  obtain ⟨g21, hf⟩ := gd_s hf
                  refine va_iast hx hb hK.1 hP hD hS 1 0 rfl rfl g21 dX11_bed_140 (fun H locs hP hD hS => ?_)
                  have hP : va_P G.1 vwCl [(oX11 mo mo_length mo_at mo_faultAt mo_parts mo_entries mo_ringEarth mo_lead mo_ring mo_jumpMany mo_curveEnd mo_beds mo_all), (wI G (mo 10) 48 (upd (upd (upd (upd mo_bed ((6 : Int32) * mo_beds).toNatClampNeg a1) (((6 : Int32) * mo_beds) + (1 : Int32)).toNatClampNeg a2) (((6 : Int32) * mo_beds) + (2 : Int32)).toNatClampNeg a3) (((6 : Int32) * mo_beds) + (3 : Int32)).toNatClampNeg a4))] H := hP
                  have hD : va_D A [(oX11 mo mo_length mo_at mo_faultAt mo_parts mo_entries mo_ringEarth mo_lead mo_ring mo_jumpMany mo_curveEnd mo_beds mo_all), (wI G (mo 10) 48 (upd (upd (upd (upd mo_bed ((6 : Int32) * mo_beds).toNatClampNeg a1) (((6 : Int32) * mo_beds) + (1 : Int32)).toNatClampNeg a2) (((6 : Int32) * mo_beds) + (2 : Int32)).toNatClampNeg a3) (((6 : Int32) * mo_beds) + (3 : Int32)).toNatClampNeg a4))] := hD
                  refine lv_aload_n hx hb dX11_bed_141 rfl (lv_at hl 1 rfl) ?_
                  refine va_get (D := G.1) (ci := 11) (v := .ref (mo 10)) (C := RX11) (T := TX11) (N := 29) hx hb ht twX11 hown hK.1 hP 0 rfl rfl 20 (by decide) (ht _ kfl_X11_37) (fun _ h9 => h9) rfl dX11_bed_142 ?_
                  refine lv_iload hx hb dX11_bed_145 (lv_at hl 0 rfl) ?_
                  refine lv_iconst (v := 4) hx hb dX11_bed_147 (by decide) ?_
                  refine lv_iadd hx hb dX11_bed_148 ?_
                  refine lv_iload hx hb dX11_bed_149 (lv_at hl 6 rfl) ?_
                  obtain ⟨g22, hf⟩ := gd_s hf
                  refine va_iast hx hb hK.1 hP hD hS 1 0 rfl rfl g22 dX11_bed_151 (fun H locs hP hD hS => ?_)
                  have hP : va_P G.1 vwCl [(oX11 mo mo_length mo_at mo_faultAt mo_parts mo_entries mo_ringEarth mo_lead mo_ring mo_jumpMany mo_curveEnd mo_beds mo_all), (wI G (mo 10) 48 (upd (upd (upd (upd (upd mo_bed ((6 : Int32) * mo_beds).toNatClampNeg a1) (((6 : Int32) * mo_beds) + (1 : Int32)).toNatClampNeg a2) (((6 : Int32) * mo_beds) + (2 : Int32)).toNatClampNeg a3) (((6 : Int32) * mo_beds) + (3 : Int32)).toNatClampNeg a4) (((6 : Int32) * mo_beds) + (4 : Int32)).toNatClampNeg a5))] H := hP
                  have hD : va_D A [(oX11 mo mo_length mo_at mo_faultAt mo_parts mo_entries mo_ringEarth mo_lead mo_ring mo_jumpMany mo_curveEnd mo_beds mo_all), (wI G (mo 10) 48 (upd (upd (upd (upd (upd mo_bed ((6 : Int32) * mo_beds).toNatClampNeg a1) (((6 : Int32) * mo_beds) + (1 : Int32)).toNatClampNeg a2) (((6 : Int32) * mo_beds) + (2 : Int32)).toNatClampNeg a3) (((6 : Int32) * mo_beds) + (3 : Int32)).toNatClampNeg a4) (((6 : Int32) * mo_beds) + (4 : Int32)).toNatClampNeg a5))] := hD
                  refine lv_aload_n hx hb dX11_bed_152 rfl (lv_at hl 1 rfl) ?_
                  refine va_get (D := G.1) (ci := 11) (v := .ref (mo 10)) (C := RX11) (T := TX11) (N := 29) hx hb ht twX11 hown hK.1 hP 0 rfl rfl 20 (by decide) (ht _ kfl_X11_37) (fun _ h9 => h9) rfl dX11_bed_153 ?_
                  refine lv_iload hx hb dX11_bed_156 (lv_at hl 0 rfl) ?_
                  refine lv_iconst (v := 5) hx hb dX11_bed_158 (by decide) ?_
                  refine lv_iadd hx hb dX11_bed_159 ?_
                  refine lv_iload hx hb dX11_bed_160 (lv_at hl 7 rfl) ?_
                  obtain ⟨g23, hf⟩ := gd_s hf
                  refine va_iast hx hb hK.1 hP hD hS 1 0 rfl rfl g23 dX11_bed_162 (fun H locs hP hD hS => ?_)
                  have hP : va_P G.1 vwCl [(oX11 mo mo_length mo_at mo_faultAt mo_parts mo_entries mo_ringEarth mo_lead mo_ring mo_jumpMany mo_curveEnd mo_beds mo_all), (wI G (mo 10) 48 (upd (upd (upd (upd (upd (upd mo_bed ((6 : Int32) * mo_beds).toNatClampNeg a1) (((6 : Int32) * mo_beds) + (1 : Int32)).toNatClampNeg a2) (((6 : Int32) * mo_beds) + (2 : Int32)).toNatClampNeg a3) (((6 : Int32) * mo_beds) + (3 : Int32)).toNatClampNeg a4) (((6 : Int32) * mo_beds) + (4 : Int32)).toNatClampNeg a5) (((6 : Int32) * mo_beds) + (5 : Int32)).toNatClampNeg a6))] H := hP
                  have hD : va_D A [(oX11 mo mo_length mo_at mo_faultAt mo_parts mo_entries mo_ringEarth mo_lead mo_ring mo_jumpMany mo_curveEnd mo_beds mo_all), (wI G (mo 10) 48 (upd (upd (upd (upd (upd (upd mo_bed ((6 : Int32) * mo_beds).toNatClampNeg a1) (((6 : Int32) * mo_beds) + (1 : Int32)).toNatClampNeg a2) (((6 : Int32) * mo_beds) + (2 : Int32)).toNatClampNeg a3) (((6 : Int32) * mo_beds) + (3 : Int32)).toNatClampNeg a4) (((6 : Int32) * mo_beds) + (4 : Int32)).toNatClampNeg a5) (((6 : Int32) * mo_beds) + (5 : Int32)).toNatClampNeg a6))] := hD
                  refine lv_aload_n hx hb dX11_bed_163 rfl (lv_at hl 1 rfl) ?_
                  refine lv_dup hx hb dX11_bed_164 rfl ?_
                  refine va_get (D := G.1) (ci := 11) (v := .int mo_beds) (C := RX11) (T := TX11) (N := 29) hx hb ht twX11 hown hK.1 hP 0 rfl rfl 19 (by decide) (ht _ kfl_X11_180) (fun _ h9 => h9) rfl dX11_bed_165 ?_
                  refine lv_iconst (v := 1) hx hb dX11_bed_168 (by decide) ?_
                  refine lv_iadd hx hb dX11_bed_169 ?_
                  refine va_put (D := G.1) (ci := 11) (v := .int (mo_beds + (1 : Int32))) (ty := .int) (C := RX11) (T := TX11) (N := 29) hx hb ht twX11 tyX11 tyX11_ok nmX11 hown hK.1 hP hD hS 0 rfl rfl 19 (by decide) (ht _ kfl_X11_180) (fun _ h9 => h9) rfl (by decide +kernel) rfl rfl (Nat.le_of_ble_eq_true rfl) dX11_bed_170 (fun H locs hP hD hS => ?_)
                  have hP : va_P G.1 vwCl [(oX11 mo mo_length mo_at mo_faultAt mo_parts mo_entries mo_ringEarth mo_lead mo_ring mo_jumpMany mo_curveEnd (mo_beds + (1 : Int32)) mo_all), (wI G (mo 10) 48 (upd (upd (upd (upd (upd (upd mo_bed ((6 : Int32) * mo_beds).toNatClampNeg a1) (((6 : Int32) * mo_beds) + (1 : Int32)).toNatClampNeg a2) (((6 : Int32) * mo_beds) + (2 : Int32)).toNatClampNeg a3) (((6 : Int32) * mo_beds) + (3 : Int32)).toNatClampNeg a4) (((6 : Int32) * mo_beds) + (4 : Int32)).toNatClampNeg a5) (((6 : Int32) * mo_beds) + (5 : Int32)).toNatClampNeg a6))] H := hP
                  have hD : va_D A [(oX11 mo mo_length mo_at mo_faultAt mo_parts mo_entries mo_ringEarth mo_lead mo_ring mo_jumpMany mo_curveEnd (mo_beds + (1 : Int32)) mo_all), (wI G (mo 10) 48 (upd (upd (upd (upd (upd (upd mo_bed ((6 : Int32) * mo_beds).toNatClampNeg a1) (((6 : Int32) * mo_beds) + (1 : Int32)).toNatClampNeg a2) (((6 : Int32) * mo_beds) + (2 : Int32)).toNatClampNeg a3) (((6 : Int32) * mo_beds) + (3 : Int32)).toNatClampNeg a4) (((6 : Int32) * mo_beds) + (4 : Int32)).toNatClampNeg a5) (((6 : Int32) * mo_beds) + (5 : Int32)).toNatClampNeg a6))] := hD
                  refine lv_aload_n hx hb dX11_bed_173 rfl (lv_at hl 1 rfl) ?_
                  refine va_get (D := G.1) (ci := 11) (v := .int (mo_beds + (1 : Int32))) (C := RX11) (T := TX11) (N := 29) hx hb ht twX11 hown hK.1 hP 0 rfl rfl 19 (by decide) (ht _ kfl_X11_180) (fun _ h9 => h9) rfl dX11_bed_174 ?_
                  refine lv_iconst (v := 1) hx hb dX11_bed_177 (by decide) ?_
                  refine lv_isub hx hb dX11_bed_178 ?_
                  have h9 := Option.some.inj hf
                  subst h9
                  exact rw_iret C rfl hP hD hS dX11_bed_179
                · have hf := o_t c17 hf
                  refine lv_bipush (v := -4) hx hb dX11_bed_90 (by decide) ?_
                  have h9 := Option.some.inj hf
                  subst h9
                  exact rw_iret C rfl hP hD hS dX11_bed_92
              · have hf := o_t c16 hf
                refine lv_bipush (v := -2) hx hb dX11_bed_78 (by decide) ?_
                have h9 := Option.some.inj hf
                subst h9
                exact rw_iret C rfl hP hD hS dX11_bed_80
      · have hf := o_t c5 hf
        refine lv_iconst (v := -1) hx hb dX11_bed_25 (by decide) ?_
        have h9 := Option.some.inj hf
        subst h9
        exact rw_iret C rfl hP hD hS dX11_bed_26
  rw [eH, el] at key
  exact key
abbrev Wc_X11_forget (l : Launch) (G : TG) (mo : Nat → Nat) (mo_length : Int32) (mo_at : Int32) (mo_faultAt : Int32) (mo_parts : Int32) (mo_entries : Int32) (mo_ringEarth : Int32) (mo_lead : Int32) (mo_ring : Int32) (mo_jumpMany : Int32) (mo_curveEnd : Int32) (mo_beds : Int32) (mo_all : Int64) (R : Int32 × Int32) (p : Program) (e : Env) (s : State) (m : MethodId) (below : List Frame) (meth : Method) (c : Code) (A : Nat → Prop) (H : Heap) (locs : List Loc) (g : JFrame) : Prop := W p l e ({ frames := 0, cells := 0, slots := 0, locals := 0 }) s m ([.ref (mo 0)] : List Value).toArray below meth c H locs 0 0 (MQ below (rwQ G (some (.int R.1)) [(oX11 mo mo_length mo_at mo_faultAt mo_parts mo_entries mo_ringEarth mo_lead mo_ring mo_jumpMany mo_curveEnd R.2 mo_all)] A) ([.ref (mo 0)] : List Value).toArray s 0 0 A) g
set_option maxHeartbeats 4000000 in
set_option maxRecDepth 100000 in
theorem c_X11_forget (l : Launch) (G : TG) (mo : Nat → Nat) (mo_length : Int32) (mo_at : Int32) (mo_faultAt : Int32) (mo_parts : Int32) (mo_entries : Int32) (mo_ringEarth : Int32) (mo_lead : Int32) (mo_ring : Int32) (mo_jumpMany : Int32) (mo_curveEnd : Int32) (mo_beds : Int32) (mo_all : Int64) (R : Int32 × Int32) (hf : f_X11_forget mo_beds = some R) : RW l yX11_forget cX11_forget 1 (some .int) ({ frames := 0, cells := 0, slots := 0, locals := 0 }) G [.ref (mo 0)] [(oX11 mo mo_length mo_at mo_faultAt mo_parts mo_entries mo_ringEarth mo_lead mo_ring mo_jumpMany mo_curveEnd mo_beds mo_all)] (some (.int R.1)) [(oX11 mo mo_length mo_at mo_faultAt mo_parts mo_entries mo_ringEarth mo_lead mo_ring mo_jumpMany mo_curveEnd R.2 mo_all)] := by
  refine RW.mk (by decide +kernel) (Nat.le_of_ble_eq_true rfl) ?_
  intro p e s m below meth c ls A C hP hD hA hz hK hl hS
  have hx := C.1
  have hb := C.2.1
  have hown : s.vm.findClass RX11 = some m.cls := C.2.2.2.2.2.1
  have ht := C.2.2.2.2.2.2
  have hl : lv_has ls 1 [(0, .ref (mo 0))] := hl
  show Wc_X11_forget l G mo mo_length mo_at mo_faultAt mo_parts mo_entries mo_ringEarth mo_lead mo_ring mo_jumpMany mo_curveEnd mo_beds mo_all R p e s m below meth c A s.heap [] (F0 m 0 ls [])
  obtain ⟨H, eH, hP, hS⟩ : ∃ H, H = s.heap ∧ va_P G.1 vwCl [(oX11 mo mo_length mo_at mo_faultAt mo_parts mo_entries mo_ringEarth mo_lead mo_ring mo_jumpMany mo_curveEnd mo_beds mo_all)] H ∧ va_S A s.heap H [] := ⟨_, rfl, hP, hS⟩
  obtain ⟨locs, el, hS⟩ : ∃ locs : List Loc, locs = [] ∧ va_S A s.heap H locs := ⟨_, rfl, hS⟩
  have key : Wc_X11_forget l G mo mo_length mo_at mo_faultAt mo_parts mo_entries mo_ringEarth mo_lead mo_ring mo_jumpMany mo_curveEnd mo_beds mo_all R p e s m below meth c A H locs (F0 m 0 ls []) := by
    refine lv_aload_n hx hb dX11_forget_0 rfl (lv_at hl 0 rfl) ?_
    refine va_get (D := G.1) (ci := 11) (v := .int mo_beds) (C := RX11) (T := TX11) (N := 29) hx hb ht twX11 hown hK.1 hP 0 rfl rfl 19 (by decide) (ht _ kfl_X11_180) (fun _ h9 => h9) rfl dX11_forget_1 ?_
    refine lv_if_ne (tgt := 10) hx hb dX11_forget_4 (by decide) (fun c1 => ?_) (fun c1 => ?_)
    · have hf := o_f c1 hf
      refine lv_aload_n hx hb dX11_forget_10 rfl (lv_at hl 0 rfl) ?_
      refine lv_dup hx hb dX11_forget_11 rfl ?_
      refine va_get (D := G.1) (ci := 11) (v := .int mo_beds) (C := RX11) (T := TX11) (N := 29) hx hb ht twX11 hown hK.1 hP 0 rfl rfl 19 (by decide) (ht _ kfl_X11_180) (fun _ h9 => h9) rfl dX11_forget_12 ?_
      refine lv_iconst (v := 1) hx hb dX11_forget_15 (by decide) ?_
      refine lv_isub hx hb dX11_forget_16 ?_
      refine va_put (D := G.1) (ci := 11) (v := .int (mo_beds - (1 : Int32))) (ty := .int) (C := RX11) (T := TX11) (N := 29) hx hb ht twX11 tyX11 tyX11_ok nmX11 hown hK.1 hP hD hS 0 rfl rfl 19 (by decide) (ht _ kfl_X11_180) (fun _ h9 => h9) rfl (by decide +kernel) rfl rfl (Nat.le_of_ble_eq_true rfl) dX11_forget_17 (fun H locs hP hD hS => ?_)
      have hP : va_P G.1 vwCl [(oX11 mo mo_length mo_at mo_faultAt mo_parts mo_entries mo_ringEarth mo_lead mo_ring mo_jumpMany mo_curveEnd (mo_beds - (1 : Int32)) mo_all)] H := hP
      have hD : va_D A [(oX11 mo mo_length mo_at mo_faultAt mo_parts mo_entries mo_ringEarth mo_lead mo_ring mo_jumpMany mo_curveEnd (mo_beds - (1 : Int32)) mo_all)] := hD
      refine lv_aload_n hx hb dX11_forget_20 rfl (lv_at hl 0 rfl) ?_
      refine va_get (D := G.1) (ci := 11) (v := .int (mo_beds - (1 : Int32))) (C := RX11) (T := TX11) (N := 29) hx hb ht twX11 hown hK.1 hP 0 rfl rfl 19 (by decide) (ht _ kfl_X11_180) (fun _ h9 => h9) rfl dX11_forget_21 ?_
      have h9 := Option.some.inj hf
      subst h9
      exact rw_iret C rfl hP hD hS dX11_forget_24
    · have hf := o_t c1 hf
      refine lv_bipush (v := -3) hx hb dX11_forget_7 (by decide) ?_
      have h9 := Option.some.inj hf
      subst h9
      exact rw_iret C rfl hP hD hS dX11_forget_9
  rw [eH, el] at key
  exact key
abbrev Wc_X11_slide (l : Launch) (G : TG) (mo : Nat → Nat) (mo_length : Int32) (mo_at : Int32) (mo_faultAt : Int32) (mo_parts : Int32) (mo_entries : Int32) (mo_ringEarth : Int32) (mo_lead : Int32) (mo_ring : Int32) (mo_jumpMany : Int32) (mo_curveEnd : Int32) (mo_beds : Int32) (mo_bed : Nat → Int32) (mo_all : Int64) (a1 : Int32) (R : Int32) (p : Program) (e : Env) (s : State) (m : MethodId) (below : List Frame) (meth : Method) (c : Code) (H : Heap) (locs : List Loc) (g : JFrame) : Prop := W p l e ({ frames := 0, cells := 0, slots := 0, locals := 0 }) s m ([.ref (mo 0), .int a1] : List Value).toArray below meth c H locs 0 0 (MQ below (roQ (some (.int R))) ([.ref (mo 0), .int a1] : List Value).toArray s 0 0 (fun _ => False)) g
set_option maxHeartbeats 4000000 in
set_option maxRecDepth 100000 in
theorem c_X11_slide (l : Launch) (G : TG) (mo : Nat → Nat) (mo_length : Int32) (mo_at : Int32) (mo_faultAt : Int32) (mo_parts : Int32) (mo_entries : Int32) (mo_ringEarth : Int32) (mo_lead : Int32) (mo_ring : Int32) (mo_jumpMany : Int32) (mo_curveEnd : Int32) (mo_beds : Int32) (mo_bed : Nat → Int32) (mo_all : Int64) (a1 : Int32) (R : Int32) (hf : f_X11_slide mo_bed a1 = some R) : RO l yX11_slide cX11_slide 3 (some .int) ({ frames := 0, cells := 0, slots := 0, locals := 0 }) G [.ref (mo 0), .int a1] [(oX11 mo mo_length mo_at mo_faultAt mo_parts mo_entries mo_ringEarth mo_lead mo_ring mo_jumpMany mo_curveEnd mo_beds mo_all), (wI G (mo 10) 48 mo_bed)] (some (.int R)) := by
  refine RO.mk (by decide +kernel) (Nat.le_of_ble_eq_true rfl) ?_
  intro p e s m below meth c ls C hP hK hl
  have hx := C.1
  have hb := C.2.1
  have hown : s.vm.findClass RX11 = some m.cls := C.2.2.2.2.2.1
  have ht := C.2.2.2.2.2.2
  have hl : lv_has ls 3 [(0, .ref (mo 0)), (1, .int a1)] := hl
  show Wc_X11_slide l G mo mo_length mo_at mo_faultAt mo_parts mo_entries mo_ringEarth mo_lead mo_ring mo_jumpMany mo_curveEnd mo_beds mo_bed mo_all a1 R p e s m below meth c s.heap [] (F0 m 0 ls [])
  have hj37 : ∀ (v2 : Int32) (k0 : Int32) (k1 : Int32) (ls : Array Slot), f_X11_slide_j37 v2 k0 k1 = some R → lv_has ls 3 [(2, .int v2)] → Wc_X11_slide l G mo mo_length mo_at mo_faultAt mo_parts mo_entries mo_ringEarth mo_lead mo_ring mo_jumpMany mo_curveEnd mo_beds mo_bed mo_all a1 R p e s m below meth c s.heap [] (F0 m 37 ls [.int k1, .int k0]) := by
    intro v2 k0 k1 ls hf hl
    refine lv_isub hx hb dX11_slide_37 ?_
    refine lv_iload_n hx hb dX11_slide_38 rfl (lv_at hl 0 rfl) ?_
    refine lv_iconst (v := 4) hx hb dX11_slide_39 (by decide) ?_
    refine lv_iand hx hb dX11_slide_40 ?_
    refine lv_if_le (tgt := 48) hx hb dX11_slide_41 (by decide) (fun c1 => ?_) (fun c1 => ?_)
    · have hf := o_t c1 hf
      refine lv_iconst (v := 0) hx hb dX11_slide_48 (by decide) ?_
      refine lv_isub hx hb dX11_slide_49 ?_
      have h9 := Option.some.inj hf
      subst h9
      exact ro_iret C rfl dX11_slide_50
    · have hf := o_f c1 hf
      refine lv_iconst (v := 1) hx hb dX11_slide_44 (by decide) ?_
      refine lv_goto (tgt := 49) hx hb dX11_slide_45 (by decide) ?_
      refine lv_isub hx hb dX11_slide_49 ?_
      have h9 := Option.some.inj hf
      subst h9
      exact ro_iret C rfl dX11_slide_50
  have hj25 : ∀ (v2 : Int32) (k0 : Int32) (k1 : Int32) (ls : Array Slot), f_X11_slide_j25 v2 k0 k1 = some R → lv_has ls 3 [(2, .int v2)] → Wc_X11_slide l G mo mo_length mo_at mo_faultAt mo_parts mo_entries mo_ringEarth mo_lead mo_ring mo_jumpMany mo_curveEnd mo_beds mo_bed mo_all a1 R p e s m below meth c s.heap [] (F0 m 25 ls [.int k1, .int k0]) := by
    intro v2 k0 k1 ls hf hl
    refine lv_iadd hx hb dX11_slide_25 ?_
    refine lv_iload_n hx hb dX11_slide_26 rfl (lv_at hl 0 rfl) ?_
    refine lv_iconst (v := 2) hx hb dX11_slide_27 (by decide) ?_
    refine lv_iand hx hb dX11_slide_28 ?_
    refine lv_if_le (tgt := 36) hx hb dX11_slide_29 (by decide) (fun c4 => ?_) (fun c4 => ?_)
    · have hf := o_t c4 hf
      refine lv_iconst (v := 0) hx hb dX11_slide_36 (by decide) ?_
      exact hj37 v2 (k0 + k1) (0 : Int32) ls hf (lv_sub hl [0] rfl)
    · have hf := o_f c4 hf
      refine lv_iconst (v := 1) hx hb dX11_slide_32 (by decide) ?_
      refine lv_goto (tgt := 37) hx hb dX11_slide_33 (by decide) ?_
      exact hj37 v2 (k0 + k1) (1 : Int32) ls hf (lv_sub hl [0] rfl)
  refine lv_aload_n hx hb dX11_slide_0 rfl (lv_at hl 0 rfl) ?_
  refine va_get (D := G.1) (ci := 11) (v := .ref (mo 10)) (C := RX11) (T := TX11) (N := 29) hx hb ht twX11 hown hK.1 hP 0 rfl rfl 20 (by decide) (ht _ kfl_X11_37) (fun _ h9 => h9) rfl dX11_slide_1 ?_
  refine lv_bipush (v := 6) hx hb dX11_slide_4 (by decide) ?_
  refine lv_iload_n hx hb dX11_slide_6 rfl (lv_at hl 1 rfl) ?_
  refine lv_imul hx hb dX11_slide_7 ?_
  refine lv_iconst (v := 1) hx hb dX11_slide_8 (by decide) ?_
  refine lv_iadd hx hb dX11_slide_9 ?_
  obtain ⟨g5, hf⟩ := gd_s hf
  refine va_iald hx hb hK.1 hP 1 0 rfl rfl g5 dX11_slide_10 ?_
  obtain ⟨u6, e6, hf⟩ := bd_s hf
  refine lv_re (Option.some.inj e6).symm ?_
  refine lv_istore_n (lv' := [(2, .int u6), (0, .ref (mo 0)), (1, .int a1)]) hx hb dX11_slide_11 rfl hl (by decide) rfl (fun ls hl => ?_)
  refine lv_iconst (v := 2) hx hb dX11_slide_12 (by decide) ?_
  refine lv_iload_n hx hb dX11_slide_13 rfl (lv_at hl 0 rfl) ?_
  refine lv_bipush (v := 8) hx hb dX11_slide_14 (by decide) ?_
  refine lv_iand hx hb dX11_slide_16 ?_
  refine lv_if_le (tgt := 24) hx hb dX11_slide_17 (by decide) (fun c7 => ?_) (fun c7 => ?_)
  · have hf := o_t c7 hf
    refine lv_iconst (v := 0) hx hb dX11_slide_24 (by decide) ?_
    exact hj25 u6 (2 : Int32) (0 : Int32) ls hf (lv_sub hl [0] rfl)
  · have hf := o_f c7 hf
    refine lv_iconst (v := 4) hx hb dX11_slide_20 (by decide) ?_
    refine lv_goto (tgt := 25) hx hb dX11_slide_21 (by decide) ?_
    exact hj25 u6 (2 : Int32) (4 : Int32) ls hf (lv_sub hl [0] rfl)
abbrev Wc_X11_isIcy (l : Launch) (G : TG) (mo : Nat → Nat) (mo_length : Int32) (mo_at : Int32) (mo_faultAt : Int32) (mo_parts : Int32) (mo_entries : Int32) (mo_ringEarth : Int32) (mo_lead : Int32) (mo_ring : Int32) (mo_jumpMany : Int32) (mo_curveEnd : Int32) (mo_beds : Int32) (mo_bed : Nat → Int32) (mo_all : Int64) (a1 : Int32) (R : Int32) (p : Program) (e : Env) (s : State) (m : MethodId) (below : List Frame) (meth : Method) (c : Code) (H : Heap) (locs : List Loc) (g : JFrame) : Prop := W p l e ({ frames := 0, cells := 0, slots := 0, locals := 0 }) s m ([.ref (mo 0), .int a1] : List Value).toArray below meth c H locs 0 0 (MQ below (roQ (some (.int R))) ([.ref (mo 0), .int a1] : List Value).toArray s 0 0 (fun _ => False)) g
set_option maxHeartbeats 4000000 in
set_option maxRecDepth 100000 in
theorem c_X11_isIcy (l : Launch) (G : TG) (mo : Nat → Nat) (mo_length : Int32) (mo_at : Int32) (mo_faultAt : Int32) (mo_parts : Int32) (mo_entries : Int32) (mo_ringEarth : Int32) (mo_lead : Int32) (mo_ring : Int32) (mo_jumpMany : Int32) (mo_curveEnd : Int32) (mo_beds : Int32) (mo_bed : Nat → Int32) (mo_all : Int64) (a1 : Int32) (R : Int32) (hf : f_X11_isIcy mo_bed a1 = some R) : RO l yX11_isIcy cX11_isIcy 2 (some .boolean) ({ frames := 0, cells := 0, slots := 0, locals := 0 }) G [.ref (mo 0), .int a1] [(oX11 mo mo_length mo_at mo_faultAt mo_parts mo_entries mo_ringEarth mo_lead mo_ring mo_jumpMany mo_curveEnd mo_beds mo_all), (wI G (mo 10) 48 mo_bed)] (some (.int R)) := by
  refine RO.mk (by decide +kernel) (Nat.le_of_ble_eq_true rfl) ?_
  intro p e s m below meth c ls C hP hK hl
  have hx := C.1
  have hb := C.2.1
  have hown : s.vm.findClass RX11 = some m.cls := C.2.2.2.2.2.1
  have ht := C.2.2.2.2.2.2
  have hl : lv_has ls 2 [(0, .ref (mo 0)), (1, .int a1)] := hl
  show Wc_X11_isIcy l G mo mo_length mo_at mo_faultAt mo_parts mo_entries mo_ringEarth mo_lead mo_ring mo_jumpMany mo_curveEnd mo_beds mo_bed mo_all a1 R p e s m below meth c s.heap [] (F0 m 0 ls [])
  refine lv_aload_n hx hb dX11_isIcy_0 rfl (lv_at hl 0 rfl) ?_
  refine va_get (D := G.1) (ci := 11) (v := .ref (mo 10)) (C := RX11) (T := TX11) (N := 29) hx hb ht twX11 hown hK.1 hP 0 rfl rfl 20 (by decide) (ht _ kfl_X11_37) (fun _ h9 => h9) rfl dX11_isIcy_1 ?_
  refine lv_bipush (v := 6) hx hb dX11_isIcy_4 (by decide) ?_
  refine lv_iload_n hx hb dX11_isIcy_6 rfl (lv_at hl 1 rfl) ?_
  refine lv_imul hx hb dX11_isIcy_7 ?_
  refine lv_iconst (v := 1) hx hb dX11_isIcy_8 (by decide) ?_
  refine lv_iadd hx hb dX11_isIcy_9 ?_
  obtain ⟨g1, hf⟩ := gd_s hf
  refine va_iald hx hb hK.1 hP 1 0 rfl rfl g1 dX11_isIcy_10 ?_
  refine lv_iconst (v := 3) hx hb dX11_isIcy_11 (by decide) ?_
  refine lv_iand hx hb dX11_isIcy_12 ?_
  refine lv_if_le (tgt := 20) hx hb dX11_isIcy_13 (by decide) (fun c2 => ?_) (fun c2 => ?_)
  · have hf := o_t c2 hf
    refine lv_iconst (v := 0) hx hb dX11_isIcy_20 (by decide) ?_
    have h9 := Option.some.inj hf
    subst h9
    exact ro_zret C (Or.inl rfl) rfl dX11_isIcy_21
  · have hf := o_f c2 hf
    refine lv_iconst (v := 1) hx hb dX11_isIcy_16 (by decide) ?_
    refine lv_goto (tgt := 21) hx hb dX11_isIcy_17 (by decide) ?_
    have h9 := Option.some.inj hf
    subst h9
    exact ro_zret C (Or.inr rfl) rfl dX11_isIcy_21
abbrev Wc_X11_about (l : Launch) (G : TG) (mo : Nat → Nat) (mo_length : Int32) (mo_at : Int32) (mo_faultAt : Int32) (mo_parts : Int32) (mo_entries : Int32) (mo_ringEarth : Int32) (mo_lead : Int32) (mo_ring : Int32) (mo_jumpMany : Int32) (mo_curveEnd : Int32) (mo_beds : Int32) (mo_bed : Nat → Int32) (mo_all : Int64) (a1 : Int32) (a2 : Int32) (R : Int32) (p : Program) (e : Env) (s : State) (m : MethodId) (below : List Frame) (meth : Method) (c : Code) (H : Heap) (locs : List Loc) (g : JFrame) : Prop := W p l e ({ frames := 2, cells := 0, slots := 0, locals := 46 }) s m ([.ref (mo 0), .int a1, .int a2] : List Value).toArray below meth c H locs 0 0 (MQ below (roQ (some (.int R))) ([.ref (mo 0), .int a1, .int a2] : List Value).toArray s 0 0 (fun _ => False)) g
set_option maxHeartbeats 4000000 in
set_option maxRecDepth 100000 in
theorem c_X11_about (l : Launch) (G : TG) (mo : Nat → Nat) (mo_length : Int32) (mo_at : Int32) (mo_faultAt : Int32) (mo_parts : Int32) (mo_entries : Int32) (mo_ringEarth : Int32) (mo_lead : Int32) (mo_ring : Int32) (mo_jumpMany : Int32) (mo_curveEnd : Int32) (mo_beds : Int32) (mo_bed : Nat → Int32) (mo_all : Int64) (a1 : Int32) (a2 : Int32) (R : Int32) (hf : f_X11_about mo_beds mo_bed a1 a2 = some R) : RO l yX11_about cX11_about 3 (some .int) ({ frames := 2, cells := 0, slots := 0, locals := 46 }) G [.ref (mo 0), .int a1, .int a2] [(oX11 mo mo_length mo_at mo_faultAt mo_parts mo_entries mo_ringEarth mo_lead mo_ring mo_jumpMany mo_curveEnd mo_beds mo_all), (wI G (mo 10) 48 mo_bed)] (some (.int R)) := by
  refine RO.mk (by decide +kernel) (Nat.le_of_ble_eq_true rfl) ?_
  intro p e s m below meth c ls C hP hK hl
  have hx := C.1
  have hb := C.2.1
  have hown : s.vm.findClass RX11 = some m.cls := C.2.2.2.2.2.1
  have ht := C.2.2.2.2.2.2
  have hl : lv_has ls 3 [(0, .ref (mo 0)), (1, .int a1), (2, .int a2)] := hl
  show Wc_X11_about l G mo mo_length mo_at mo_faultAt mo_parts mo_entries mo_ringEarth mo_lead mo_ring mo_jumpMany mo_curveEnd mo_beds mo_bed mo_all a1 a2 R p e s m below meth c s.heap [] (F0 m 0 ls [])
  refine lv_aload_n hx hb dX11_about_0 rfl (lv_at hl 0 rfl) ?_
  refine lv_iload_n hx hb dX11_about_1 rfl (lv_at hl 1 rfl) ?_
  obtain ⟨q1, r1, hf⟩ := bd_s hf
  refine ro_V (n := 1) (As := [.int a1]) (rest := []) (c_X11_isBed l G mo mo_length mo_at mo_faultAt mo_parts mo_entries mo_ringEarth mo_lead mo_ring mo_jumpMany mo_curveEnd mo_beds mo_all a1 q1 r1) C hK (hP.sub [0] rfl) hl kcode_X11_isBed kml_X11_187 kim_X11_isBed ksel_X11_isBed kini_X11 (by decide +kernel) ⟨⟨rfl, rfl⟩, Nat.le_of_ble_eq_true rfl, Nat.le_of_ble_eq_true rfl⟩ ⟨Nat.zero_le _, Nat.zero_le _⟩ rfl rfl rfl rfl rfl (Nat.le_of_ble_eq_true rfl) dX11_about_2 rfl ?_
  refine lv_if_ne (tgt := 10) hx hb dX11_about_5 (by decide) (fun c2 => ?_) (fun c2 => ?_)
  · have hf := o_f c2 hf
    refine lv_iload_n hx hb dX11_about_10 rfl (lv_at hl 2 rfl) ?_
    refine lv_i2l (v := (a2.toInt64)) hx hb dX11_about_11 rfl ?_
    refine lv_lconst (v := 0) hx hb dX11_about_12 (by decide) ?_
    refine lv_ldc2 hx hb hown (ht _ kcL_X11_190) dX11_about_13 ?_
    obtain ⟨q3, r3, hf⟩ := bd_s hf
    refine ro_S (n := 3) (As := [.long (a2.toInt64), .long (0 : Int64), .long (7 : Int64)]) (rest := []) (c_X11_in l G (a2.toInt64) (0 : Int64) (7 : Int64) q3 r3) C hK (hP.sub [] rfl) hl kcode_X11_in kml_X11_65 kst_X11_in kini_X11 (by decide +kernel) ⟨⟨rfl, rfl⟩, Nat.le_of_ble_eq_true rfl, Nat.le_of_ble_eq_true rfl⟩ ⟨Nat.zero_le _, Nat.zero_le _⟩ rfl rfl (Nat.le_of_ble_eq_true rfl) dX11_about_16 rfl ?_
    refine lv_if_ne (tgt := 25) hx hb dX11_about_19 (by decide) (fun c4 => ?_) (fun c4 => ?_)
    · have hf := o_f c4 hf
      refine lv_iload_n hx hb dX11_about_25 rfl (lv_at hl 2 rfl) ?_
      refine lv_bipush (v := 6) hx hb dX11_about_26 (by decide) ?_
      refine lv_icmp_ge (tgt := 45) hx hb dX11_about_28 (by decide) (fun c5 => ?_) (fun c5 => ?_)
      · have hf := o_t c5 hf
        refine lv_iload_n hx hb dX11_about_45 rfl (lv_at hl 2 rfl) ?_
        refine lv_bipush (v := 6) hx hb dX11_about_46 (by decide) ?_
        refine lv_icmp_ne (tgt := 59) hx hb dX11_about_48 (by decide) (fun c6 => ?_) (fun c6 => ?_)
        · have hf := o_f c6 hf
          refine lv_aload_n hx hb dX11_about_59 rfl (lv_at hl 0 rfl) ?_
          refine lv_iload_n hx hb dX11_about_60 rfl (lv_at hl 1 rfl) ?_
          obtain ⟨q7, r7, hf⟩ := bd_s hf
          refine ro_V (n := 1) (As := [.int a1]) (rest := []) (c_X11_isIcy l G mo mo_length mo_at mo_faultAt mo_parts mo_entries mo_ringEarth mo_lead mo_ring mo_jumpMany mo_curveEnd mo_beds mo_bed mo_all a1 q7 r7) C hK (hP.sub [0, 1] rfl) hl kcode_X11_isIcy kml_X11_195 kim_X11_isIcy ksel_X11_isIcy kini_X11 (by decide +kernel) ⟨⟨rfl, rfl⟩, Nat.le_of_ble_eq_true rfl, Nat.le_of_ble_eq_true rfl⟩ ⟨Nat.zero_le _, Nat.zero_le _⟩ rfl rfl rfl rfl rfl (Nat.le_of_ble_eq_true rfl) dX11_about_61 rfl ?_
          refine lv_if_eq (tgt := 71) hx hb dX11_about_64 (by decide) (fun c8 => ?_) (fun c8 => ?_)
          · have hf := o_t c8 hf
            refine lv_iconst (v := 0) hx hb dX11_about_71 (by decide) ?_
            have h9 := Option.some.inj hf
            subst h9
            exact ro_iret C rfl dX11_about_72
          · have hf := o_f c8 hf
            refine lv_iconst (v := 1) hx hb dX11_about_67 (by decide) ?_
            refine lv_goto (tgt := 72) hx hb dX11_about_68 (by decide) ?_
            have h9 := Option.some.inj hf
            subst h9
            exact ro_iret C rfl dX11_about_72
        · have hf := o_t c6 hf
          refine lv_aload_n hx hb dX11_about_51 rfl (lv_at hl 0 rfl) ?_
          refine lv_iload_n hx hb dX11_about_52 rfl (lv_at hl 1 rfl) ?_
          obtain ⟨q11, r11, hf⟩ := bd_s hf
          refine ro_V (n := 1) (As := [.int a1]) (rest := []) (c_X11_slide l G mo mo_length mo_at mo_faultAt mo_parts mo_entries mo_ringEarth mo_lead mo_ring mo_jumpMany mo_curveEnd mo_beds mo_bed mo_all a1 q11 r11) C hK (hP.sub [0, 1] rfl) hl kcode_X11_slide kml_X11_192 kim_X11_slide ksel_X11_slide kini_X11 (by decide +kernel) ⟨⟨rfl, rfl⟩, Nat.le_of_ble_eq_true rfl, Nat.le_of_ble_eq_true rfl⟩ ⟨Nat.zero_le _, Nat.zero_le _⟩ rfl rfl rfl rfl rfl (Nat.le_of_ble_eq_true rfl) dX11_about_53 rfl ?_
          refine lv_goto (tgt := 72) hx hb dX11_about_56 (by decide) ?_
          have h9 := Option.some.inj hf
          subst h9
          exact ro_iret C rfl dX11_about_72
      · have hf := o_f c5 hf
        refine lv_aload_n hx hb dX11_about_31 rfl (lv_at hl 0 rfl) ?_
        refine va_get (D := G.1) (ci := 11) (v := .ref (mo 10)) (C := RX11) (T := TX11) (N := 29) hx hb ht twX11 hown hK.1 hP 0 rfl rfl 20 (by decide) (ht _ kfl_X11_37) (fun _ h9 => h9) rfl dX11_about_32 ?_
        refine lv_bipush (v := 6) hx hb dX11_about_35 (by decide) ?_
        refine lv_iload_n hx hb dX11_about_37 rfl (lv_at hl 1 rfl) ?_
        refine lv_imul hx hb dX11_about_38 ?_
        refine lv_iload_n hx hb dX11_about_39 rfl (lv_at hl 2 rfl) ?_
        refine lv_iadd hx hb dX11_about_40 ?_
        obtain ⟨g13, hf⟩ := gd_s hf
        refine va_iald hx hb hK.1 hP 1 0 rfl rfl g13 dX11_about_41 ?_
        refine lv_goto (tgt := 72) hx hb dX11_about_42 (by decide) ?_
        have h9 := Option.some.inj hf
        subst h9
        exact ro_iret C rfl dX11_about_72
    · have hf := o_t c4 hf
      refine lv_bipush (v := -2) hx hb dX11_about_22 (by decide) ?_
      have h9 := Option.some.inj hf
      subst h9
      exact ro_iret C rfl dX11_about_24
  · have hf := o_t c2 hf
    refine lv_iconst (v := -1) hx hb dX11_about_8 (by decide) ?_
    have h9 := Option.some.inj hf
    subst h9
    exact ro_iret C rfl dX11_about_9
abbrev Wc_X11_rounds (l : Launch) (G : TG) (mo : Nat → Nat) (mo_length : Int32) (mo_at : Int32) (mo_faultAt : Int32) (mo_parts : Int32) (mo_entries : Int32) (mo_stories : Nat → Int32) (mo_ringEarth : Int32) (mo_lead : Int32) (mo_ring : Int32) (mo_jumpMany : Int32) (mo_curveEnd : Int32) (mo_beds : Int32) (mo_bed : Nat → Int32) (mo_all : Int64) (a1 : Int32) (a2 : Int32) (a3 : Int32) (R : Int32) (p : Program) (e : Env) (s : State) (m : MethodId) (below : List Frame) (meth : Method) (c : Code) (H : Heap) (locs : List Loc) (g : JFrame) : Prop := W p l e ({ frames := 0, cells := 0, slots := 0, locals := 0 }) s m ([.ref (mo 0), .int a1, .int a2, .int a3] : List Value).toArray below meth c H locs 0 0 (MQ below (roQ (some (.int R))) ([.ref (mo 0), .int a1, .int a2, .int a3] : List Value).toArray s 0 0 (fun _ => False)) g
set_option maxHeartbeats 4000000 in
set_option maxRecDepth 100000 in
theorem c_X11_rounds (l : Launch) (G : TG) (mo : Nat → Nat) (mo_length : Int32) (mo_at : Int32) (mo_faultAt : Int32) (mo_parts : Int32) (mo_entries : Int32) (mo_stories : Nat → Int32) (mo_ringEarth : Int32) (mo_lead : Int32) (mo_ring : Int32) (mo_jumpMany : Int32) (mo_curveEnd : Int32) (mo_beds : Int32) (mo_bed : Nat → Int32) (mo_all : Int64) (a1 : Int32) (a2 : Int32) (a3 : Int32) (R : Int32) (hf : f_X11_rounds mo_stories mo_bed a1 a2 a3 = some R) : RO l yX11_rounds cX11_rounds 7 (some .int) ({ frames := 0, cells := 0, slots := 0, locals := 0 }) G [.ref (mo 0), .int a1, .int a2, .int a3] [(oX11 mo mo_length mo_at mo_faultAt mo_parts mo_entries mo_ringEarth mo_lead mo_ring mo_jumpMany mo_curveEnd mo_beds mo_all), (wI G (mo 6) 400 mo_stories), (wI G (mo 10) 48 mo_bed)] (some (.int R)) := by
  refine RO.mk (by decide +kernel) (Nat.le_of_ble_eq_true rfl) ?_
  intro p e s m below meth c ls C hP hK hl
  have hx := C.1
  have hb := C.2.1
  have hown : s.vm.findClass RX11 = some m.cls := C.2.2.2.2.2.1
  have ht := C.2.2.2.2.2.2
  have hl : lv_has ls 7 [(0, .ref (mo 0)), (1, .int a1), (2, .int a2), (3, .int a3)] := hl
  show Wc_X11_rounds l G mo mo_length mo_at mo_faultAt mo_parts mo_entries mo_stories mo_ringEarth mo_lead mo_ring mo_jumpMany mo_curveEnd mo_beds mo_bed mo_all a1 a2 a3 R p e s m below meth c s.heap [] (F0 m 0 ls [])
  refine lv_iconst (v := 0) hx hb dX11_rounds_0 (by decide) ?_
  refine lv_istore (lv' := [(4, .int (0 : Int32)), (0, .ref (mo 0)), (1, .int a1), (2, .int a2), (3, .int a3)]) hx hb dX11_rounds_1 hl (by decide) rfl (fun ls hl => ?_)
  refine lv_aload_n hx hb dX11_rounds_3 rfl (lv_at hl 1 rfl) ?_
  refine va_get (D := G.1) (ci := 11) (v := .ref (mo 10)) (C := RX11) (T := TX11) (N := 29) hx hb ht twX11 hown hK.1 hP 0 rfl rfl 20 (by decide) (ht _ kfl_X11_37) (fun _ h9 => h9) rfl dX11_rounds_4 ?_
  refine lv_bipush (v := 6) hx hb dX11_rounds_7 (by decide) ?_
  refine lv_iload_n hx hb dX11_rounds_9 rfl (lv_at hl 3 rfl) ?_
  refine lv_imul hx hb dX11_rounds_10 ?_
  refine lv_iconst (v := 2) hx hb dX11_rounds_11 (by decide) ?_
  refine lv_iadd hx hb dX11_rounds_12 ?_
  obtain ⟨g1, hf⟩ := gd_s hf
  refine va_iald hx hb hK.1 hP 2 0 rfl rfl g1 dX11_rounds_13 ?_
  obtain ⟨u2, e2, hf⟩ := bd_s hf
  refine lv_re (Option.some.inj e2).symm ?_
  refine lv_istore (lv' := [(5, .int u2), (4, .int (0 : Int32)), (0, .ref (mo 0)), (1, .int a1), (2, .int a2), (3, .int a3)]) hx hb dX11_rounds_14 hl (by decide) rfl (fun ls hl => ?_)
  have hx82_3 : ∀ (v4 : Int32) (ls : Array Slot), f_X11_rounds_x82_3 v4 = some R → lv_has ls 7 [(4, .int v4)] → Wc_X11_rounds l G mo mo_length mo_at mo_faultAt mo_parts mo_entries mo_stories mo_ringEarth mo_lead mo_ring mo_jumpMany mo_curveEnd mo_beds mo_bed mo_all a1 a2 a3 R p e s m below meth c s.heap [] (F0 m 82 ls []) := by
    intro v4 ls hf hl
    refine lv_iload hx hb dX11_rounds_82 (lv_at hl 0 rfl) ?_
    have h9 := Option.some.inj hf
    subst h9
    exact ro_iret C rfl dX11_rounds_84
  obtain ⟨rL3, hL3, hk3⟩ := bd_s hf
  refine lp_W (P := fun st => ∀ (ls : Array Slot), lv_has ls 7 [(0, .ref (mo 0)), (1, .int a1), (2, .int a2), (3, .int a3), (4, .int st.1), (5, .int st.2)] → Wc_X11_rounds l G mo mo_length mo_at mo_faultAt mo_parts mo_entries mo_stories mo_ringEarth mo_lead mo_ring mo_jumpMany mo_curveEnd mo_beds mo_bed mo_all a1 a2 a3 R p e s m below meth c s.heap [] (F0 m 16 ls [])) ?_ FU ((0 : Int32), u2) hL3 ls (lv_sub hl [2, 3, 4, 5, 1, 0] rfl)
  intro ⟨v4, v5⟩ oc3 hf hI hE ls hl
  have hl : lv_has ls 7 [(0, .ref (mo 0)), (1, .int a1), (2, .int a2), (3, .int a3), (4, .int v4), (5, .int v5)] := hl
  have hf : f_X11_rounds_b16 mo_stories mo_bed a1 a2 a3 v4 v5 = some oc3 := hf
  refine lv_iload hx hb dX11_rounds_16 (lv_at hl 5 rfl) ?_
  refine lv_aload_n hx hb dX11_rounds_18 rfl (lv_at hl 0 rfl) ?_
  refine va_get (D := G.1) (ci := 11) (v := .ref (mo 10)) (C := RX11) (T := TX11) (N := 29) hx hb ht twX11 hown hK.1 hP 0 rfl rfl 20 (by decide) (ht _ kfl_X11_37) (fun _ h9 => h9) rfl dX11_rounds_19 ?_
  refine lv_bipush (v := 6) hx hb dX11_rounds_22 (by decide) ?_
  refine lv_iload_n hx hb dX11_rounds_24 rfl (lv_at hl 2 rfl) ?_
  refine lv_imul hx hb dX11_rounds_25 ?_
  refine lv_iconst (v := 3) hx hb dX11_rounds_26 (by decide) ?_
  refine lv_iadd hx hb dX11_rounds_27 ?_
  obtain ⟨g5, hf⟩ := gd_s hf
  refine va_iald hx hb hK.1 hP 2 0 rfl rfl g5 dX11_rounds_28 ?_
  refine lv_icmp_gt (tgt := 82) hx hb dX11_rounds_29 (by decide) (fun c6 => ?_) (fun c6 => ?_)
  · have hf := o_t c6 hf
    cases hf
    have hf : f_X11_rounds_x82_3 v4 = some R := by have h9 := hk3; rw [← hE _ rfl] at h9; exact h9
    exact hx82_3 v4 ls hf (lv_sub hl [4] rfl)
  · have hf := o_f c6 hf
    refine lv_aload_n hx hb dX11_rounds_32 rfl (lv_at hl 0 rfl) ?_
    refine va_get (D := G.1) (ci := 11) (v := .ref (mo 6)) (C := RX11) (T := TX11) (N := 29) hx hb ht twX11 hown hK.1 hP 0 rfl rfl 10 (by decide) (ht _ kfl_X11_25) (fun _ h9 => h9) rfl dX11_rounds_33 ?_
    refine lv_bipush (v := 100) hx hb dX11_rounds_36 (by decide) ?_
    refine lv_iload_n hx hb dX11_rounds_38 rfl (lv_at hl 1 rfl) ?_
    refine lv_imul hx hb dX11_rounds_39 ?_
    refine lv_iload hx hb dX11_rounds_40 (lv_at hl 5 rfl) ?_
    refine lv_iadd hx hb dX11_rounds_42 ?_
    obtain ⟨g7, hf⟩ := gd_s hf
    refine va_iald hx hb hK.1 hP 1 0 rfl rfl g7 dX11_rounds_43 ?_
    obtain ⟨u8, e8, hf⟩ := bd_s hf
    refine lv_re (Option.some.inj e8).symm ?_
    refine lv_istore (lv' := [(6, .int u8), (0, .ref (mo 0)), (1, .int a1), (2, .int a2), (3, .int a3), (4, .int v4), (5, .int v5)]) hx hb dX11_rounds_44 hl (by decide) rfl (fun ls hl => ?_)
    refine lv_iload hx hb dX11_rounds_46 (lv_at hl 5 rfl) ?_
    refine lv_iload_n hx hb dX11_rounds_48 rfl (lv_at hl 4 rfl) ?_
    refine lv_bipush (v := 6) hx hb dX11_rounds_49 (by decide) ?_
    refine lv_icmp_ne (tgt := 67) hx hb dX11_rounds_51 (by decide) (fun c9 => ?_) (fun c9 => ?_)
    · have hf := o_f c9 hf
      refine lv_iload hx hb dX11_rounds_67 (lv_at hl 0 rfl) ?_
      refine lv_iload_n hx hb dX11_rounds_69 rfl (lv_at hl 4 rfl) ?_
      refine lv_ishr hx hb dX11_rounds_70 ?_
      refine lv_iconst (v := 1) hx hb dX11_rounds_71 (by decide) ?_
      refine lv_iand hx hb dX11_rounds_72 ?_
      refine lv_iadd hx hb dX11_rounds_73 ?_
      obtain ⟨u10, e10, hf⟩ := bd_s hf
      refine lv_re (Option.some.inj e10).symm ?_
      refine lv_istore (lv' := [(4, .int u10), (6, .int u8), (0, .ref (mo 0)), (1, .int a1), (2, .int a2), (3, .int a3), (5, .int v5)]) hx hb dX11_rounds_74 hl (by decide) rfl (fun ls hl => ?_)
      refine lv_iinc (v := (v5 + (1 : Int32))) (lv' := [(5, .int (v5 + (1 : Int32))), (4, .int u10), (6, .int u8), (0, .ref (mo 0)), (1, .int a1), (2, .int a2), (3, .int a3)]) hx hb dX11_rounds_76 hl (k := 6) rfl (by rfl) (by decide) rfl (fun ls hl => ?_)
      refine lv_goto (tgt := 16) hx hb dX11_rounds_79 (by decide) ?_
      cases hf
      exact hI _ rfl ls (lv_sub hl [3, 4, 5, 6, 1, 0] rfl)
    · have hf := o_t c9 hf
      refine lv_iload hx hb dX11_rounds_54 (lv_at hl 0 rfl) ?_
      refine lv_if_le (tgt := 63) hx hb dX11_rounds_56 (by decide) (fun c11 => ?_) (fun c11 => ?_)
      · have hf := o_t c11 hf
        refine lv_iconst (v := 0) hx hb dX11_rounds_63 (by decide) ?_
        refine lv_goto (tgt := 73) hx hb dX11_rounds_64 (by decide) ?_
        refine lv_iadd hx hb dX11_rounds_73 ?_
        refine lv_istore (lv' := [(4, .int (v4 + (0 : Int32))), (6, .int u8), (0, .ref (mo 0)), (1, .int a1), (2, .int a2), (3, .int a3), (5, .int v5)]) hx hb dX11_rounds_74 hl (by decide) rfl (fun ls hl => ?_)
        refine lv_iinc (v := (v5 + (1 : Int32))) (lv' := [(5, .int (v5 + (1 : Int32))), (4, .int (v4 + (0 : Int32))), (6, .int u8), (0, .ref (mo 0)), (1, .int a1), (2, .int a2), (3, .int a3)]) hx hb dX11_rounds_76 hl (k := 6) rfl (by rfl) (by decide) rfl (fun ls hl => ?_)
        refine lv_goto (tgt := 16) hx hb dX11_rounds_79 (by decide) ?_
        cases hf
        exact hI _ rfl ls (lv_sub hl [3, 4, 5, 6, 1, 0] rfl)
      · have hf := o_f c11 hf
        refine lv_iconst (v := 1) hx hb dX11_rounds_59 (by decide) ?_
        refine lv_goto (tgt := 73) hx hb dX11_rounds_60 (by decide) ?_
        refine lv_iadd hx hb dX11_rounds_73 ?_
        refine lv_istore (lv' := [(4, .int (v4 + (1 : Int32))), (6, .int u8), (0, .ref (mo 0)), (1, .int a1), (2, .int a2), (3, .int a3), (5, .int v5)]) hx hb dX11_rounds_74 hl (by decide) rfl (fun ls hl => ?_)
        refine lv_iinc (v := (v5 + (1 : Int32))) (lv' := [(5, .int (v5 + (1 : Int32))), (4, .int (v4 + (1 : Int32))), (6, .int u8), (0, .ref (mo 0)), (1, .int a1), (2, .int a2), (3, .int a3)]) hx hb dX11_rounds_76 hl (k := 6) rfl (by rfl) (by decide) rfl (fun ls hl => ?_)
        refine lv_goto (tgt := 16) hx hb dX11_rounds_79 (by decide) ?_
        cases hf
        exact hI _ rfl ls (lv_sub hl [3, 4, 5, 6, 1, 0] rfl)
abbrev Wc_X11_explains (l : Launch) (G : TG) (mo : Nat → Nat) (mo_length : Int32) (mo_at : Int32) (mo_faultAt : Int32) (mo_parts : Int32) (mo_entries : Int32) (mo_stories : Nat → Int32) (mo_ringEarth : Int32) (mo_lead : Int32) (mo_ring : Int32) (mo_jumpMany : Int32) (mo_curveEnd : Int32) (mo_beds : Int32) (mo_bed : Nat → Int32) (mo_all : Int64) (a1 : Int32) (a2 : Int32) (R : Int32) (p : Program) (e : Env) (s : State) (m : MethodId) (below : List Frame) (meth : Method) (c : Code) (H : Heap) (locs : List Loc) (g : JFrame) : Prop := W p l e ({ frames := 2, cells := 0, slots := 0, locals := 46 }) s m ([.ref (mo 0), .int a1, .int a2] : List Value).toArray below meth c H locs 0 0 (MQ below (roQ (some (.int R))) ([.ref (mo 0), .int a1, .int a2] : List Value).toArray s 0 0 (fun _ => False)) g
set_option maxHeartbeats 4000000 in
set_option maxRecDepth 100000 in
theorem c_X11_explains (l : Launch) (G : TG) (mo : Nat → Nat) (mo_length : Int32) (mo_at : Int32) (mo_faultAt : Int32) (mo_parts : Int32) (mo_entries : Int32) (mo_stories : Nat → Int32) (mo_ringEarth : Int32) (mo_lead : Int32) (mo_ring : Int32) (mo_jumpMany : Int32) (mo_curveEnd : Int32) (mo_beds : Int32) (mo_bed : Nat → Int32) (mo_all : Int64) (a1 : Int32) (a2 : Int32) (R : Int32) (hf : f_X11_explains mo_stories mo_beds mo_bed a1 a2 = some R) : RO l yX11_explains cX11_explains 3 (some .int) ({ frames := 2, cells := 0, slots := 0, locals := 46 }) G [.ref (mo 0), .int a1, .int a2] [(oX11 mo mo_length mo_at mo_faultAt mo_parts mo_entries mo_ringEarth mo_lead mo_ring mo_jumpMany mo_curveEnd mo_beds mo_all), (wI G (mo 6) 400 mo_stories), (wI G (mo 10) 48 mo_bed)] (some (.int R)) := by
  refine RO.mk (by decide +kernel) (Nat.le_of_ble_eq_true rfl) ?_
  intro p e s m below meth c ls C hP hK hl
  have hx := C.1
  have hb := C.2.1
  have hown : s.vm.findClass RX11 = some m.cls := C.2.2.2.2.2.1
  have ht := C.2.2.2.2.2.2
  have hl : lv_has ls 3 [(0, .ref (mo 0)), (1, .int a1), (2, .int a2)] := hl
  show Wc_X11_explains l G mo mo_length mo_at mo_faultAt mo_parts mo_entries mo_stories mo_ringEarth mo_lead mo_ring mo_jumpMany mo_curveEnd mo_beds mo_bed mo_all a1 a2 R p e s m below meth c s.heap [] (F0 m 0 ls [])
  refine lv_iload_n hx hb dX11_explains_0 rfl (lv_at hl 1 rfl) ?_
  obtain ⟨q1, r1, hf⟩ := bd_s hf
  refine ro_S (n := 1) (As := [.int a1]) (rest := []) (c_X11_isStory l G a1 q1 r1) C hK (hP.sub [] rfl) hl kcode_X11_isStory kml_X11_117 kst_X11_isStory kini_X11 (by decide +kernel) ⟨⟨rfl, rfl⟩, Nat.le_of_ble_eq_true rfl, Nat.le_of_ble_eq_true rfl⟩ ⟨Nat.zero_le _, Nat.zero_le _⟩ rfl rfl (Nat.le_of_ble_eq_true rfl) dX11_explains_1 rfl ?_
  refine lv_if_eq (tgt := 15) hx hb dX11_explains_4 (by decide) (fun c2 => ?_) (fun c2 => ?_)
  · have hf := o_t c2 hf
    refine lv_iconst (v := -1) hx hb dX11_explains_15 (by decide) ?_
    have h9 := Option.some.inj hf
    subst h9
    exact ro_iret C rfl dX11_explains_16
  · have hf := o_f c2 hf
    refine lv_aload_n hx hb dX11_explains_7 rfl (lv_at hl 0 rfl) ?_
    refine lv_iload_n hx hb dX11_explains_8 rfl (lv_at hl 2 rfl) ?_
    obtain ⟨q4, r4, hf⟩ := bd_s hf
    refine ro_V (n := 1) (As := [.int a2]) (rest := []) (c_X11_isBed l G mo mo_length mo_at mo_faultAt mo_parts mo_entries mo_ringEarth mo_lead mo_ring mo_jumpMany mo_curveEnd mo_beds mo_all a2 q4 r4) C hK (hP.sub [0] rfl) hl kcode_X11_isBed kml_X11_187 kim_X11_isBed ksel_X11_isBed kini_X11 (by decide +kernel) ⟨⟨rfl, rfl⟩, Nat.le_of_ble_eq_true rfl, Nat.le_of_ble_eq_true rfl⟩ ⟨Nat.zero_le _, Nat.zero_le _⟩ rfl rfl rfl rfl rfl (Nat.le_of_ble_eq_true rfl) dX11_explains_9 rfl ?_
    refine lv_if_ne (tgt := 17) hx hb dX11_explains_12 (by decide) (fun c5 => ?_) (fun c5 => ?_)
    · have hf := o_f c5 hf
      refine lv_aload_n hx hb dX11_explains_17 rfl (lv_at hl 0 rfl) ?_
      refine lv_iload_n hx hb dX11_explains_18 rfl (lv_at hl 2 rfl) ?_
      obtain ⟨q6, r6, hf⟩ := bd_s hf
      refine ro_V (n := 1) (As := [.int a2]) (rest := []) (c_X11_isIcy l G mo mo_length mo_at mo_faultAt mo_parts mo_entries mo_ringEarth mo_lead mo_ring mo_jumpMany mo_curveEnd mo_beds mo_bed mo_all a2 q6 r6) C hK (hP.sub [0, 2] rfl) hl kcode_X11_isIcy kml_X11_195 kim_X11_isIcy ksel_X11_isIcy kini_X11 (by decide +kernel) ⟨⟨rfl, rfl⟩, Nat.le_of_ble_eq_true rfl, Nat.le_of_ble_eq_true rfl⟩ ⟨Nat.zero_le _, Nat.zero_le _⟩ rfl rfl rfl rfl rfl (Nat.le_of_ble_eq_true rfl) dX11_explains_19 rfl ?_
      refine lv_if_ne (tgt := 28) hx hb dX11_explains_22 (by decide) (fun c7 => ?_) (fun c7 => ?_)
      · have hf := o_f c7 hf
        refine lv_aload_n hx hb dX11_explains_28 rfl (lv_at hl 0 rfl) ?_
        refine lv_iload_n hx hb dX11_explains_29 rfl (lv_at hl 1 rfl) ?_
        refine lv_iload_n hx hb dX11_explains_30 rfl (lv_at hl 2 rfl) ?_
        refine lv_aload_n hx hb dX11_explains_31 rfl (lv_at hl 0 rfl) ?_
        refine va_get (D := G.1) (ci := 11) (v := .ref (mo 10)) (C := RX11) (T := TX11) (N := 29) hx hb ht twX11 hown hK.1 hP 0 rfl rfl 20 (by decide) (ht _ kfl_X11_37) (fun _ h9 => h9) rfl dX11_explains_32 ?_
        refine lv_bipush (v := 6) hx hb dX11_explains_35 (by decide) ?_
        refine lv_iload_n hx hb dX11_explains_37 rfl (lv_at hl 2 rfl) ?_
        refine lv_imul hx hb dX11_explains_38 ?_
        refine lv_iconst (v := 4) hx hb dX11_explains_39 (by decide) ?_
        refine lv_iadd hx hb dX11_explains_40 ?_
        obtain ⟨g8, hf⟩ := gd_s hf
        refine va_iald hx hb hK.1 hP 2 0 rfl rfl g8 dX11_explains_41 ?_
        obtain ⟨q9, r9, hf⟩ := bd_s hf
        refine ro_V (n := 3) (As := [.int a1, .int a2, .int (mo_bed (((6 : Int32) * a2) + (4 : Int32)).toNatClampNeg)]) (rest := []) (c_X11_rounds l G mo mo_length mo_at mo_faultAt mo_parts mo_entries mo_stories mo_ringEarth mo_lead mo_ring mo_jumpMany mo_curveEnd mo_beds mo_bed mo_all a1 a2 (mo_bed (((6 : Int32) * a2) + (4 : Int32)).toNatClampNeg) q9 r9) C hK (hP.sub [0, 1, 2] rfl) hl kcode_X11_rounds kml_X11_198 kim_X11_rounds ksel_X11_rounds kini_X11 (by decide +kernel) ⟨⟨rfl, rfl⟩, Nat.le_of_ble_eq_true rfl, Nat.le_of_ble_eq_true rfl⟩ ⟨Nat.zero_le _, Nat.zero_le _⟩ rfl rfl rfl rfl rfl (Nat.le_of_ble_eq_true rfl) dX11_explains_42 rfl ?_
        refine lv_if_le (tgt := 52) hx hb dX11_explains_45 (by decide) (fun c10 => ?_) (fun c10 => ?_)
        · have hf := o_t c10 hf
          refine lv_aload_n hx hb dX11_explains_52 rfl (lv_at hl 0 rfl) ?_
          refine lv_iload_n hx hb dX11_explains_53 rfl (lv_at hl 1 rfl) ?_
          refine lv_iload_n hx hb dX11_explains_54 rfl (lv_at hl 2 rfl) ?_
          refine lv_bipush (v := 6) hx hb dX11_explains_55 (by decide) ?_
          obtain ⟨q11, r11, hf⟩ := bd_s hf
          refine ro_V (n := 3) (As := [.int a1, .int a2, .int (6 : Int32)]) (rest := []) (c_X11_rounds l G mo mo_length mo_at mo_faultAt mo_parts mo_entries mo_stories mo_ringEarth mo_lead mo_ring mo_jumpMany mo_curveEnd mo_beds mo_bed mo_all a1 a2 (6 : Int32) q11 r11) C hK (hP.sub [0, 1, 2] rfl) hl kcode_X11_rounds kml_X11_198 kim_X11_rounds ksel_X11_rounds kini_X11 (by decide +kernel) ⟨⟨rfl, rfl⟩, Nat.le_of_ble_eq_true rfl, Nat.le_of_ble_eq_true rfl⟩ ⟨Nat.zero_le _, Nat.zero_le _⟩ rfl rfl rfl rfl rfl (Nat.le_of_ble_eq_true rfl) dX11_explains_57 rfl ?_
          refine lv_if_le (tgt := 67) hx hb dX11_explains_60 (by decide) (fun c12 => ?_) (fun c12 => ?_)
          · have hf := o_t c12 hf
            refine lv_iconst (v := 0) hx hb dX11_explains_67 (by decide) ?_
            have h9 := Option.some.inj hf
            subst h9
            exact ro_iret C rfl dX11_explains_68
          · have hf := o_f c12 hf
            refine lv_iconst (v := 1) hx hb dX11_explains_63 (by decide) ?_
            refine lv_goto (tgt := 68) hx hb dX11_explains_64 (by decide) ?_
            have h9 := Option.some.inj hf
            subst h9
            exact ro_iret C rfl dX11_explains_68
        · have hf := o_f c10 hf
          refine lv_iconst (v := 2) hx hb dX11_explains_48 (by decide) ?_
          refine lv_goto (tgt := 68) hx hb dX11_explains_49 (by decide) ?_
          have h9 := Option.some.inj hf
          subst h9
          exact ro_iret C rfl dX11_explains_68
      · have hf := o_t c7 hf
        refine lv_bipush (v := -3) hx hb dX11_explains_25 (by decide) ?_
        have h9 := Option.some.inj hf
        subst h9
        exact ro_iret C rfl dX11_explains_27
    · have hf := o_t c5 hf
      refine lv_iconst (v := -1) hx hb dX11_explains_15 (by decide) ?_
      have h9 := Option.some.inj hf
      subst h9
      exact ro_iret C rfl dX11_explains_16
abbrev Wc_X11_chanceOf (l : Launch) (G : TG) (mo : Nat → Nat) (mo_length : Int32) (mo_at : Int32) (mo_faultAt : Int32) (mo_parts : Int32) (mo_entries : Int32) (mo_stories : Nat → Int32) (mo_ringEarth : Int32) (mo_lead : Int32) (mo_ring : Int32) (mo_jumpMany : Int32) (mo_curveEnd : Int32) (mo_beds : Int32) (mo_bed : Nat → Int32) (mo_all : Int64) (a1 : Int32) (a2 : Int32) (R : Int32) (p : Program) (e : Env) (s : State) (m : MethodId) (below : List Frame) (meth : Method) (c : Code) (H : Heap) (locs : List Loc) (g : JFrame) : Prop := W p l e ({ frames := 1, cells := 0, slots := 0, locals := 26 }) s m ([.ref (mo 0), .int a1, .int a2] : List Value).toArray below meth c H locs 0 0 (MQ below (roQ (some (.int R))) ([.ref (mo 0), .int a1, .int a2] : List Value).toArray s 0 0 (fun _ => False)) g
set_option maxHeartbeats 4000000 in
set_option maxRecDepth 100000 in
theorem c_X11_chanceOf (l : Launch) (G : TG) (mo : Nat → Nat) (mo_length : Int32) (mo_at : Int32) (mo_faultAt : Int32) (mo_parts : Int32) (mo_entries : Int32) (mo_stories : Nat → Int32) (mo_ringEarth : Int32) (mo_lead : Int32) (mo_ring : Int32) (mo_jumpMany : Int32) (mo_curveEnd : Int32) (mo_beds : Int32) (mo_bed : Nat → Int32) (mo_all : Int64) (a1 : Int32) (a2 : Int32) (R : Int32) (hf : f_X11_chanceOf mo_stories mo_bed a1 a2 = some R) : RO l yX11_chanceOf cX11_chanceOf 6 (some .int) ({ frames := 1, cells := 0, slots := 0, locals := 26 }) G [.ref (mo 0), .int a1, .int a2] [(oX11 mo mo_length mo_at mo_faultAt mo_parts mo_entries mo_ringEarth mo_lead mo_ring mo_jumpMany mo_curveEnd mo_beds mo_all), (wI G (mo 6) 400 mo_stories), (wI G (mo 10) 48 mo_bed)] (some (.int R)) := by
  refine RO.mk (by decide +kernel) (Nat.le_of_ble_eq_true rfl) ?_
  intro p e s m below meth c ls C hP hK hl
  have hx := C.1
  have hb := C.2.1
  have hown : s.vm.findClass RX11 = some m.cls := C.2.2.2.2.2.1
  have ht := C.2.2.2.2.2.2
  have hl : lv_has ls 6 [(0, .ref (mo 0)), (1, .int a1), (2, .int a2)] := hl
  show Wc_X11_chanceOf l G mo mo_length mo_at mo_faultAt mo_parts mo_entries mo_stories mo_ringEarth mo_lead mo_ring mo_jumpMany mo_curveEnd mo_beds mo_bed mo_all a1 a2 R p e s m below meth c s.heap [] (F0 m 0 ls [])
  have hj114 : ∀ (v3 : Int32) (k0 : Int32) (k1 : Int32) (ls : Array Slot), f_X11_chanceOf_j114 mo_stories mo_bed a1 a2 v3 k0 k1 = some R → lv_has ls 6 [(0, .ref (mo 0)), (1, .int a1), (2, .int a2), (3, .int v3)] → Wc_X11_chanceOf l G mo mo_length mo_at mo_faultAt mo_parts mo_entries mo_stories mo_ringEarth mo_lead mo_ring mo_jumpMany mo_curveEnd mo_beds mo_bed mo_all a1 a2 R p e s m below meth c s.heap [] (F0 m 114 ls [.int k1, .int k0]) := by
    intro v3 k0 k1 ls hf hl
    refine lv_imul hx hb dX11_chanceOf_114 ?_
    refine lv_bipush (v := 10) hx hb dX11_chanceOf_115 (by decide) ?_
    refine lv_iload_n hx hb dX11_chanceOf_117 rfl (lv_at hl 3 rfl) ?_
    refine lv_isub hx hb dX11_chanceOf_118 ?_
    refine lv_aload_n hx hb dX11_chanceOf_119 rfl (lv_at hl 0 rfl) ?_
    refine lv_iload_n hx hb dX11_chanceOf_120 rfl (lv_at hl 1 rfl) ?_
    refine lv_iload_n hx hb dX11_chanceOf_121 rfl (lv_at hl 2 rfl) ?_
    refine lv_bipush (v := 6) hx hb dX11_chanceOf_122 (by decide) ?_
    obtain ⟨q1, r1, hf⟩ := bd_s hf
    refine ro_V (n := 3) (As := [.int a1, .int a2, .int (6 : Int32)]) (rest := [.int ((10 : Int32) - v3), .int (k0 * k1)]) (c_X11_rounds l G mo mo_length mo_at mo_faultAt mo_parts mo_entries mo_stories mo_ringEarth mo_lead mo_ring mo_jumpMany mo_curveEnd mo_beds mo_bed mo_all a1 a2 (6 : Int32) q1 r1) C hK (hP.sub [0, 1, 2] rfl) hl kcode_X11_rounds kml_X11_198 kim_X11_rounds ksel_X11_rounds kini_X11 (by decide +kernel) ⟨⟨rfl, rfl⟩, Nat.le_of_ble_eq_true rfl, Nat.le_of_ble_eq_true rfl⟩ ⟨Nat.zero_le _, Nat.zero_le _⟩ rfl rfl rfl rfl rfl (Nat.le_of_ble_eq_true rfl) dX11_chanceOf_124 rfl ?_
    refine lv_if_le (tgt := 135) hx hb dX11_chanceOf_127 (by decide) (fun c2 => ?_) (fun c2 => ?_)
    · have hf := o_t c2 hf
      refine lv_aload_n hx hb dX11_chanceOf_135 rfl (lv_at hl 0 rfl) ?_
      refine lv_iload_n hx hb dX11_chanceOf_136 rfl (lv_at hl 2 rfl) ?_
      obtain ⟨q3, r3, hf⟩ := bd_s hf
      refine ro_V (n := 1) (As := [.int a2]) (rest := [.int ((10 : Int32) - v3), .int (k0 * k1)]) (c_X11_slide l G mo mo_length mo_at mo_faultAt mo_parts mo_entries mo_ringEarth mo_lead mo_ring mo_jumpMany mo_curveEnd mo_beds mo_bed mo_all a2 q3 r3) C hK (hP.sub [0, 2] rfl) hl kcode_X11_slide kml_X11_192 kim_X11_slide ksel_X11_slide kini_X11 (by decide +kernel) ⟨⟨rfl, rfl⟩, Nat.le_of_ble_eq_true rfl, Nat.le_of_ble_eq_true rfl⟩ ⟨Nat.zero_le _, Nat.zero_le _⟩ rfl rfl rfl rfl rfl (Nat.le_of_ble_eq_true rfl) dX11_chanceOf_137 rfl ?_
      refine lv_imul hx hb dX11_chanceOf_140 ?_
      refine lv_iadd hx hb dX11_chanceOf_141 ?_
      have h9 := Option.some.inj hf
      subst h9
      exact ro_iret C rfl dX11_chanceOf_142
    · have hf := o_f c2 hf
      refine lv_bipush (v := 10) hx hb dX11_chanceOf_130 (by decide) ?_
      refine lv_goto (tgt := 140) hx hb dX11_chanceOf_132 (by decide) ?_
      refine lv_imul hx hb dX11_chanceOf_140 ?_
      refine lv_iadd hx hb dX11_chanceOf_141 ?_
      have h9 := Option.some.inj hf
      subst h9
      exact ro_iret C rfl dX11_chanceOf_142
  have hj88 : ∀ (v3 : Int32) (k0 : Int32) (k1 : Int32) (ls : Array Slot), f_X11_chanceOf_j88 v3 k0 k1 = some R → lv_has ls 6 [(3, .int v3)] → Wc_X11_chanceOf l G mo mo_length mo_at mo_faultAt mo_parts mo_entries mo_stories mo_ringEarth mo_lead mo_ring mo_jumpMany mo_curveEnd mo_beds mo_bed mo_all a1 a2 R p e s m below meth c s.heap [] (F0 m 88 ls [.int k1, .int k0]) := by
    intro v3 k0 k1 ls hf hl
    refine lv_imul hx hb dX11_chanceOf_88 ?_
    refine lv_bipush (v := 10) hx hb dX11_chanceOf_89 (by decide) ?_
    refine lv_iload_n hx hb dX11_chanceOf_91 rfl (lv_at hl 0 rfl) ?_
    refine lv_isub hx hb dX11_chanceOf_92 ?_
    refine lv_bipush (v := 10) hx hb dX11_chanceOf_93 (by decide) ?_
    refine lv_imul hx hb dX11_chanceOf_95 ?_
    refine lv_iadd hx hb dX11_chanceOf_96 ?_
    have h9 := Option.some.inj hf
    subst h9
    exact ro_iret C rfl dX11_chanceOf_97
  have hj74 : ∀ (v3 : Int32) (k0 : Int32) (ls : Array Slot), f_X11_chanceOf_j74 v3 k0 = some R → lv_has ls 6 [(3, .int v3)] → Wc_X11_chanceOf l G mo mo_length mo_at mo_faultAt mo_parts mo_entries mo_stories mo_ringEarth mo_lead mo_ring mo_jumpMany mo_curveEnd mo_beds mo_bed mo_all a1 a2 R p e s m below meth c s.heap [] (F0 m 74 ls [.int k0]) := by
    intro v3 k0 ls hf hl
    refine lv_istore (lv' := [(5, .int k0), (3, .int v3)]) hx hb dX11_chanceOf_74 hl (by decide) rfl (fun ls hl => ?_)
    refine lv_iload_n hx hb dX11_chanceOf_76 rfl (lv_at hl 1 rfl) ?_
    refine lv_iload hx hb dX11_chanceOf_77 (lv_at hl 0 rfl) ?_
    refine lv_if_eq (tgt := 86) hx hb dX11_chanceOf_79 (by decide) (fun c7 => ?_) (fun c7 => ?_)
    · have hf := o_t c7 hf
      refine lv_bipush (v := 10) hx hb dX11_chanceOf_86 (by decide) ?_
      exact hj88 v3 v3 (10 : Int32) ls hf (lv_sub hl [1] rfl)
    · have hf := o_f c7 hf
      refine lv_iconst (v := 5) hx hb dX11_chanceOf_82 (by decide) ?_
      refine lv_goto (tgt := 88) hx hb dX11_chanceOf_83 (by decide) ?_
      exact hj88 v3 v3 (5 : Int32) ls hf (lv_sub hl [1] rfl)
  refine lv_aload_n hx hb dX11_chanceOf_0 rfl (lv_at hl 0 rfl) ?_
  refine va_get (D := G.1) (ci := 11) (v := .ref (mo 10)) (C := RX11) (T := TX11) (N := 29) hx hb ht twX11 hown hK.1 hP 0 rfl rfl 20 (by decide) (ht _ kfl_X11_37) (fun _ h9 => h9) rfl dX11_chanceOf_1 ?_
  refine lv_bipush (v := 6) hx hb dX11_chanceOf_4 (by decide) ?_
  refine lv_iload_n hx hb dX11_chanceOf_6 rfl (lv_at hl 2 rfl) ?_
  refine lv_imul hx hb dX11_chanceOf_7 ?_
  refine lv_iconst (v := 5) hx hb dX11_chanceOf_8 (by decide) ?_
  refine lv_iadd hx hb dX11_chanceOf_9 ?_
  obtain ⟨g8, hf⟩ := gd_s hf
  refine va_iald hx hb hK.1 hP 2 0 rfl rfl g8 dX11_chanceOf_10 ?_
  obtain ⟨u9, e9, hf⟩ := bd_s hf
  refine lv_re (Option.some.inj e9).symm ?_
  refine lv_istore_n (lv' := [(3, .int u9), (0, .ref (mo 0)), (1, .int a1), (2, .int a2)]) hx hb dX11_chanceOf_11 rfl hl (by decide) rfl (fun ls hl => ?_)
  refine lv_aload_n hx hb dX11_chanceOf_12 rfl (lv_at hl 1 rfl) ?_
  refine lv_iload_n hx hb dX11_chanceOf_13 rfl (lv_at hl 2 rfl) ?_
  refine lv_iload_n hx hb dX11_chanceOf_14 rfl (lv_at hl 3 rfl) ?_
  refine lv_aload_n hx hb dX11_chanceOf_15 rfl (lv_at hl 1 rfl) ?_
  refine va_get (D := G.1) (ci := 11) (v := .ref (mo 10)) (C := RX11) (T := TX11) (N := 29) hx hb ht twX11 hown hK.1 hP 0 rfl rfl 20 (by decide) (ht _ kfl_X11_37) (fun _ h9 => h9) rfl dX11_chanceOf_16 ?_
  refine lv_bipush (v := 6) hx hb dX11_chanceOf_19 (by decide) ?_
  refine lv_iload_n hx hb dX11_chanceOf_21 rfl (lv_at hl 3 rfl) ?_
  refine lv_imul hx hb dX11_chanceOf_22 ?_
  refine lv_iconst (v := 4) hx hb dX11_chanceOf_23 (by decide) ?_
  refine lv_iadd hx hb dX11_chanceOf_24 ?_
  obtain ⟨g10, hf⟩ := gd_s hf
  refine va_iald hx hb hK.1 hP 2 0 rfl rfl g10 dX11_chanceOf_25 ?_
  obtain ⟨q11, r11, hf⟩ := bd_s hf
  refine ro_V (n := 3) (As := [.int a1, .int a2, .int (mo_bed (((6 : Int32) * a2) + (4 : Int32)).toNatClampNeg)]) (rest := []) (c_X11_rounds l G mo mo_length mo_at mo_faultAt mo_parts mo_entries mo_stories mo_ringEarth mo_lead mo_ring mo_jumpMany mo_curveEnd mo_beds mo_bed mo_all a1 a2 (mo_bed (((6 : Int32) * a2) + (4 : Int32)).toNatClampNeg) q11 r11) C hK (hP.sub [0, 1, 2] rfl) hl kcode_X11_rounds kml_X11_198 kim_X11_rounds ksel_X11_rounds kini_X11 (by decide +kernel) ⟨⟨rfl, rfl⟩, Nat.le_of_ble_eq_true rfl, Nat.le_of_ble_eq_true rfl⟩ ⟨Nat.zero_le _, Nat.zero_le _⟩ rfl rfl rfl rfl rfl (Nat.le_of_ble_eq_true rfl) dX11_chanceOf_26 rfl ?_
  refine lv_istore (lv' := [(4, .int q11), (3, .int u9), (0, .ref (mo 0)), (1, .int a1), (2, .int a2)]) hx hb dX11_chanceOf_29 hl (by decide) rfl (fun ls hl => ?_)
  refine lv_aload_n hx hb dX11_chanceOf_31 rfl (lv_at hl 2 rfl) ?_
  refine lv_iload_n hx hb dX11_chanceOf_32 rfl (lv_at hl 4 rfl) ?_
  obtain ⟨q12, r12, hf⟩ := bd_s hf
  refine ro_V (n := 1) (As := [.int a2]) (rest := []) (c_X11_isIcy l G mo mo_length mo_at mo_faultAt mo_parts mo_entries mo_ringEarth mo_lead mo_ring mo_jumpMany mo_curveEnd mo_beds mo_bed mo_all a2 q12 r12) C hK (hP.sub [0, 2] rfl) hl kcode_X11_isIcy kml_X11_195 kim_X11_isIcy ksel_X11_isIcy kini_X11 (by decide +kernel) ⟨⟨rfl, rfl⟩, Nat.le_of_ble_eq_true rfl, Nat.le_of_ble_eq_true rfl⟩ ⟨Nat.zero_le _, Nat.zero_le _⟩ rfl rfl rfl rfl rfl (Nat.le_of_ble_eq_true rfl) dX11_chanceOf_33 rfl ?_
  refine lv_if_ne (tgt := 98) hx hb dX11_chanceOf_36 (by decide) (fun c13 => ?_) (fun c13 => ?_)
  · have hf := o_f c13 hf
    refine lv_iload_n hx hb dX11_chanceOf_98 rfl (lv_at hl 1 rfl) ?_
    refine lv_iload hx hb dX11_chanceOf_99 (lv_at hl 0 rfl) ?_
    refine lv_if_le (tgt := 109) hx hb dX11_chanceOf_101 (by decide) (fun c14 => ?_) (fun c14 => ?_)
    · have hf := o_t c14 hf
      refine lv_aload_n hx hb dX11_chanceOf_109 rfl (lv_at hl 2 rfl) ?_
      refine lv_iload_n hx hb dX11_chanceOf_110 rfl (lv_at hl 4 rfl) ?_
      obtain ⟨q15, r15, hf⟩ := bd_s hf
      refine ro_V (n := 1) (As := [.int a2]) (rest := [.int u9]) (c_X11_slide l G mo mo_length mo_at mo_faultAt mo_parts mo_entries mo_ringEarth mo_lead mo_ring mo_jumpMany mo_curveEnd mo_beds mo_bed mo_all a2 q15 r15) C hK (hP.sub [0, 2] rfl) hl kcode_X11_slide kml_X11_192 kim_X11_slide ksel_X11_slide kini_X11 (by decide +kernel) ⟨⟨rfl, rfl⟩, Nat.le_of_ble_eq_true rfl, Nat.le_of_ble_eq_true rfl⟩ ⟨Nat.zero_le _, Nat.zero_le _⟩ rfl rfl rfl rfl rfl (Nat.le_of_ble_eq_true rfl) dX11_chanceOf_111 rfl ?_
      exact hj114 u9 u9 q15 ls hf (lv_sub hl [2, 3, 4, 1] rfl)
    · have hf := o_f c14 hf
      refine lv_bipush (v := 10) hx hb dX11_chanceOf_104 (by decide) ?_
      refine lv_goto (tgt := 114) hx hb dX11_chanceOf_106 (by decide) ?_
      exact hj114 u9 u9 (10 : Int32) ls hf (lv_sub hl [2, 3, 4, 1] rfl)
  · have hf := o_t c13 hf
    refine lv_iload hx hb dX11_chanceOf_39 (lv_at hl 0 rfl) ?_
    refine lv_aload_n hx hb dX11_chanceOf_41 rfl (lv_at hl 2 rfl) ?_
    refine va_get (D := G.1) (ci := 11) (v := .ref (mo 10)) (C := RX11) (T := TX11) (N := 29) hx hb ht twX11 hown hK.1 hP 0 rfl rfl 20 (by decide) (ht _ kfl_X11_37) (fun _ h9 => h9) rfl dX11_chanceOf_42 ?_
    refine lv_bipush (v := 6) hx hb dX11_chanceOf_45 (by decide) ?_
    refine lv_iload_n hx hb dX11_chanceOf_47 rfl (lv_at hl 4 rfl) ?_
    refine lv_imul hx hb dX11_chanceOf_48 ?_
    refine lv_iconst (v := 3) hx hb dX11_chanceOf_49 (by decide) ?_
    refine lv_iadd hx hb dX11_chanceOf_50 ?_
    obtain ⟨g16, hf⟩ := gd_s hf
    refine va_iald hx hb hK.1 hP 2 0 rfl rfl g16 dX11_chanceOf_51 ?_
    refine lv_aload_n hx hb dX11_chanceOf_52 rfl (lv_at hl 2 rfl) ?_
    refine va_get (D := G.1) (ci := 11) (v := .ref (mo 10)) (C := RX11) (T := TX11) (N := 29) hx hb ht twX11 hown hK.1 hP 0 rfl rfl 20 (by decide) (ht _ kfl_X11_37) (fun _ h9 => h9) rfl dX11_chanceOf_53 ?_
    refine lv_bipush (v := 6) hx hb dX11_chanceOf_56 (by decide) ?_
    refine lv_iload_n hx hb dX11_chanceOf_58 rfl (lv_at hl 4 rfl) ?_
    refine lv_imul hx hb dX11_chanceOf_59 ?_
    refine lv_iconst (v := 2) hx hb dX11_chanceOf_60 (by decide) ?_
    refine lv_iadd hx hb dX11_chanceOf_61 ?_
    obtain ⟨g17, hf⟩ := gd_s hf
    refine va_iald hx hb hK.1 hP 2 0 rfl rfl g17 dX11_chanceOf_62 ?_
    refine lv_isub hx hb dX11_chanceOf_63 ?_
    refine lv_iconst (v := 1) hx hb dX11_chanceOf_64 (by decide) ?_
    refine lv_iadd hx hb dX11_chanceOf_65 ?_
    refine lv_icmp_ne (tgt := 73) hx hb dX11_chanceOf_66 (by decide) (fun c18 => ?_) (fun c18 => ?_)
    · have hf := o_f c18 hf
      refine lv_iconst (v := 0) hx hb dX11_chanceOf_73 (by decide) ?_
      exact hj74 u9 (0 : Int32) ls hf (lv_sub hl [1] rfl)
    · have hf := o_t c18 hf
      refine lv_iconst (v := 1) hx hb dX11_chanceOf_69 (by decide) ?_
      refine lv_goto (tgt := 74) hx hb dX11_chanceOf_70 (by decide) ?_
      exact hj74 u9 (1 : Int32) ls hf (lv_sub hl [1] rfl)
abbrev Wc_X11_told (l : Launch) (G : TG) (a0 : Int64) (a2 : Int64) (a4 : Int32) (R : Int64) (p : Program) (e : Env) (s : State) (m : MethodId) (below : List Frame) (meth : Method) (c : Code) (H : Heap) (locs : List Loc) (g : JFrame) : Prop := W p l e ({ frames := 0, cells := 0, slots := 0, locals := 0 }) s m ([.long a0, .long a2, .int a4] : List Value).toArray below meth c H locs 0 0 (MQ below (roQ (some (.long R))) ([.long a0, .long a2, .int a4] : List Value).toArray s 0 0 (fun _ => False)) g
set_option maxHeartbeats 4000000 in
set_option maxRecDepth 100000 in
theorem c_X11_told (l : Launch) (G : TG) (a0 : Int64) (a2 : Int64) (a4 : Int32) (R : Int64) (hf : f_X11_told a0 a2 a4 = some R) : RO l yX11_told cX11_told 11 (some .long) ({ frames := 0, cells := 0, slots := 0, locals := 0 }) G [.long a0, .long a2, .int a4] [] (some (.long R)) := by
  refine RO.mk (by decide +kernel) (Nat.le_of_ble_eq_true rfl) ?_
  intro p e s m below meth c ls C hP hK hl
  have hx := C.1
  have hb := C.2.1
  have hown : s.vm.findClass RX11 = some m.cls := C.2.2.2.2.2.1
  have ht := C.2.2.2.2.2.2
  have hl : lv_has ls 11 [(0, .long a0), (2, .long a2), (4, .int a4)] := hl
  show Wc_X11_told l G a0 a2 a4 R p e s m below meth c s.heap [] (F0 m 0 ls [])
  refine lv_lload_n hx hb dX11_told_0 rfl (lv_at hl 0 rfl) ?_
  refine lv_lstore (lv' := [(5, .long a0), (0, .long a0), (2, .long a2), (4, .int a4)]) hx hb dX11_told_1 hl (by decide) rfl (fun ls hl => ?_)
  refine lv_lload_n hx hb dX11_told_3 rfl (lv_at hl 2 rfl) ?_
  refine lv_lstore (lv' := [(7, .long a2), (5, .long a0), (0, .long a0), (2, .long a2), (4, .int a4)]) hx hb dX11_told_4 hl (by decide) rfl (fun ls hl => ?_)
  have hx31_1 : ∀ (v5 : Int64) (ls : Array Slot), f_X11_told_x31_1 a0 a2 a4 v5 = some R → lv_has ls 11 [(0, .long a0), (2, .long a2), (4, .int a4), (5, .long v5)] → Wc_X11_told l G a0 a2 a4 R p e s m below meth c s.heap [] (F0 m 31 ls []) := by
    intro v5 ls hf hl
    refine lv_iload hx hb dX11_told_31 (lv_at hl 2 rfl) ?_
    refine lv_if_eq (tgt := 43) hx hb dX11_told_33 (by decide) (fun c2 => ?_) (fun c2 => ?_)
    · have hf := o_t c2 hf
      refine lv_lload_n hx hb dX11_told_43 rfl (lv_at hl 1 rfl) ?_
      refine lv_lload hx hb dX11_told_44 (lv_at hl 3 rfl) ?_
      obtain ⟨n3, hf⟩ := dzL_s hf
      refine lv_ldiv hx hb dX11_told_46 n3 ?_
      have h9 := Option.some.inj hf
      subst h9
      exact ro_lret C rfl dX11_told_47
    · have hf := o_f c2 hf
      refine lv_lload_n hx hb dX11_told_36 rfl (lv_at hl 0 rfl) ?_
      refine lv_lload hx hb dX11_told_37 (lv_at hl 3 rfl) ?_
      obtain ⟨n5, hf⟩ := dzL_s hf
      refine lv_ldiv hx hb dX11_told_39 n5 ?_
      refine lv_goto (tgt := 47) hx hb dX11_told_40 (by decide) ?_
      have h9 := Option.some.inj hf
      subst h9
      exact ro_lret C rfl dX11_told_47
  obtain ⟨rL1, hL1, hk1⟩ := bd_s hf
  refine lp_W (P := fun st => ∀ (ls : Array Slot), lv_has ls 11 [(0, .long a0), (2, .long a2), (4, .int a4), (5, .long st.1), (7, .long st.2)] → Wc_X11_told l G a0 a2 a4 R p e s m below meth c s.heap [] (F0 m 6 ls [])) ?_ FU (a0, a2) hL1 ls (lv_sub hl [2, 3, 4, 1, 0] rfl)
  intro ⟨v5, v7⟩ oc1 hf hI hE ls hl
  have hl : lv_has ls 11 [(0, .long a0), (2, .long a2), (4, .int a4), (5, .long v5), (7, .long v7)] := hl
  have hf : f_X11_told_b6 v5 v7 = some oc1 := hf
  refine lv_lload hx hb dX11_told_6 (lv_at hl 4 rfl) ?_
  refine lv_lconst (v := 0) hx hb dX11_told_8 (by decide) ?_
  refine W.lcmp hx hb dX11_told_9 ?_
  refine lv_if_eq (tgt := 31) hx hb dX11_told_10 (by decide) (fun c7 => ?_) (fun c7 => ?_)
  · have hf := o_t c7 hf
    cases hf
    have hf : f_X11_told_x31_1 a0 a2 a4 v5 = some R := by have h9 := hk1; rw [← hE _ rfl] at h9; exact h9
    exact hx31_1 v5 ls hf (lv_sub hl [0, 1, 2, 3] rfl)
  · have hf := o_f c7 hf
    refine lv_lload hx hb dX11_told_13 (lv_at hl 3 rfl) ?_
    refine lv_lload hx hb dX11_told_15 (lv_at hl 4 rfl) ?_
    obtain ⟨n8, hf⟩ := dzL_s hf
    refine lv_lrem hx hb dX11_told_17 n8 ?_
    refine lv_lstore (lv' := [(9, .long (v5 - v5 / v7 * v7)), (0, .long a0), (2, .long a2), (4, .int a4), (5, .long v5), (7, .long v7)]) hx hb dX11_told_18 hl (by decide) rfl (fun ls hl => ?_)
    refine lv_lload hx hb dX11_told_20 (lv_at hl 5 rfl) ?_
    refine lv_lstore (lv' := [(5, .long v7), (9, .long (v5 - v5 / v7 * v7)), (0, .long a0), (2, .long a2), (4, .int a4), (7, .long v7)]) hx hb dX11_told_22 hl (by decide) rfl (fun ls hl => ?_)
    refine lv_lload hx hb dX11_told_24 (lv_at hl 1 rfl) ?_
    refine lv_lstore (lv' := [(7, .long (v5 - v5 / v7 * v7)), (5, .long v7), (9, .long (v5 - v5 / v7 * v7)), (0, .long a0), (2, .long a2), (4, .int a4)]) hx hb dX11_told_26 hl (by decide) rfl (fun ls hl => ?_)
    refine lv_goto (tgt := 6) hx hb dX11_told_28 (by decide) ?_
    cases hf
    exact hI _ rfl ls (lv_sub hl [3, 4, 5, 1, 0] rfl)
abbrev Wc_X11_chance (l : Launch) (G : TG) (mo : Nat → Nat) (mo_length : Int32) (mo_at : Int32) (mo_faultAt : Int32) (mo_parts : Int32) (mo_entries : Int32) (mo_stories : Nat → Int32) (mo_ringEarth : Int32) (mo_lead : Int32) (mo_ring : Int32) (mo_jumpMany : Int32) (mo_curveEnd : Int32) (mo_beds : Int32) (mo_bed : Nat → Int32) (mo_all : Int64) (a1 : Int32) (a2 : Int32) (a3 : Int32) (R : Int64) (p : Program) (e : Env) (s : State) (m : MethodId) (below : List Frame) (meth : Method) (c : Code) (H : Heap) (locs : List Loc) (g : JFrame) : Prop := W p l e ({ frames := 2, cells := 0, slots := 0, locals := 51 }) s m ([.ref (mo 0), .int a1, .int a2, .int a3] : List Value).toArray below meth c H locs 0 0 (MQ below (roQ (some (.long R))) ([.ref (mo 0), .int a1, .int a2, .int a3] : List Value).toArray s 0 0 (fun _ => False)) g
set_option maxHeartbeats 4000000 in
set_option maxRecDepth 100000 in
theorem c_X11_chance (l : Launch) (G : TG) (mo : Nat → Nat) (mo_length : Int32) (mo_at : Int32) (mo_faultAt : Int32) (mo_parts : Int32) (mo_entries : Int32) (mo_stories : Nat → Int32) (mo_ringEarth : Int32) (mo_lead : Int32) (mo_ring : Int32) (mo_jumpMany : Int32) (mo_curveEnd : Int32) (mo_beds : Int32) (mo_bed : Nat → Int32) (mo_all : Int64) (a1 : Int32) (a2 : Int32) (a3 : Int32) (R : Int64) (hf : f_X11_chance mo_stories mo_beds mo_bed a1 a2 a3 = some R) : RO l yX11_chance cX11_chance 4 (some .long) ({ frames := 2, cells := 0, slots := 0, locals := 51 }) G [.ref (mo 0), .int a1, .int a2, .int a3] [(oX11 mo mo_length mo_at mo_faultAt mo_parts mo_entries mo_ringEarth mo_lead mo_ring mo_jumpMany mo_curveEnd mo_beds mo_all), (wI G (mo 6) 400 mo_stories), (wI G (mo 10) 48 mo_bed)] (some (.long R)) := by
  refine RO.mk (by decide +kernel) (Nat.le_of_ble_eq_true rfl) ?_
  intro p e s m below meth c ls C hP hK hl
  have hx := C.1
  have hb := C.2.1
  have hown : s.vm.findClass RX11 = some m.cls := C.2.2.2.2.2.1
  have ht := C.2.2.2.2.2.2
  have hl : lv_has ls 4 [(0, .ref (mo 0)), (1, .int a1), (2, .int a2), (3, .int a3)] := hl
  show Wc_X11_chance l G mo mo_length mo_at mo_faultAt mo_parts mo_entries mo_stories mo_ringEarth mo_lead mo_ring mo_jumpMany mo_curveEnd mo_beds mo_bed mo_all a1 a2 a3 R p e s m below meth c s.heap [] (F0 m 0 ls [])
  have hj32 : ∀ (ls : Array Slot), f_X11_chance_j32 = some R → lv_has ls 4 [] → Wc_X11_chance l G mo mo_length mo_at mo_faultAt mo_parts mo_entries mo_stories mo_ringEarth mo_lead mo_ring mo_jumpMany mo_curveEnd mo_beds mo_bed mo_all a1 a2 a3 R p e s m below meth c s.heap [] (F0 m 32 ls []) := by
    intro ls hf hl
    refine lv_ldc2 hx hb hown (ht _ kcL_X11_210) dX11_chance_32 ?_
    have h9 := Option.some.inj hf
    subst h9
    exact ro_lret C rfl dX11_chance_35
  refine lv_iload_n hx hb dX11_chance_0 rfl (lv_at hl 1 rfl) ?_
  obtain ⟨q2, r2, hf⟩ := bd_s hf
  refine ro_S (n := 1) (As := [.int a1]) (rest := []) (c_X11_isStory l G a1 q2 r2) C hK (hP.sub [] rfl) hl kcode_X11_isStory kml_X11_117 kst_X11_isStory kini_X11 (by decide +kernel) ⟨⟨rfl, rfl⟩, Nat.le_of_ble_eq_true rfl, Nat.le_of_ble_eq_true rfl⟩ ⟨Nat.zero_le _, Nat.zero_le _⟩ rfl rfl (Nat.le_of_ble_eq_true rfl) dX11_chance_1 rfl ?_
  refine lv_if_eq (tgt := 32) hx hb dX11_chance_4 (by decide) (fun c3 => ?_) (fun c3 => ?_)
  · have hf := o_t c3 hf
    exact hj32 ls hf (lv_sub hl [] rfl)
  · have hf := o_f c3 hf
    refine lv_aload_n hx hb dX11_chance_7 rfl (lv_at hl 0 rfl) ?_
    refine lv_iload_n hx hb dX11_chance_8 rfl (lv_at hl 2 rfl) ?_
    obtain ⟨q4, r4, hf⟩ := bd_s hf
    refine ro_V (n := 1) (As := [.int a2]) (rest := []) (c_X11_isBed l G mo mo_length mo_at mo_faultAt mo_parts mo_entries mo_ringEarth mo_lead mo_ring mo_jumpMany mo_curveEnd mo_beds mo_all a2 q4 r4) C hK (hP.sub [0] rfl) hl kcode_X11_isBed kml_X11_187 kim_X11_isBed ksel_X11_isBed kini_X11 (by decide +kernel) ⟨⟨rfl, rfl⟩, Nat.le_of_ble_eq_true rfl, Nat.le_of_ble_eq_true rfl⟩ ⟨Nat.zero_le _, Nat.zero_le _⟩ rfl rfl rfl rfl rfl (Nat.le_of_ble_eq_true rfl) dX11_chance_9 rfl ?_
    refine lv_if_eq (tgt := 32) hx hb dX11_chance_12 (by decide) (fun c5 => ?_) (fun c5 => ?_)
    · have hf := o_t c5 hf
      exact hj32 ls hf (lv_sub hl [] rfl)
    · have hf := o_f c5 hf
      refine lv_aload_n hx hb dX11_chance_15 rfl (lv_at hl 0 rfl) ?_
      refine lv_iload_n hx hb dX11_chance_16 rfl (lv_at hl 1 rfl) ?_
      refine lv_iload_n hx hb dX11_chance_17 rfl (lv_at hl 2 rfl) ?_
      obtain ⟨q6, r6, hf⟩ := bd_s hf
      refine ro_V (n := 2) (As := [.int a1, .int a2]) (rest := []) (c_X11_chanceOf l G mo mo_length mo_at mo_faultAt mo_parts mo_entries mo_stories mo_ringEarth mo_lead mo_ring mo_jumpMany mo_curveEnd mo_beds mo_bed mo_all a1 a2 q6 r6) C hK (hP.sub [0, 1, 2] rfl) hl kcode_X11_chanceOf kml_X11_201 kim_X11_chanceOf ksel_X11_chanceOf kini_X11 (by decide +kernel) ⟨⟨rfl, rfl⟩, Nat.le_of_ble_eq_true rfl, Nat.le_of_ble_eq_true rfl⟩ ⟨Nat.zero_le _, Nat.zero_le _⟩ rfl rfl rfl rfl rfl (Nat.le_of_ble_eq_true rfl) dX11_chance_18 rfl ?_
      refine lv_i2l (v := (q6.toInt64)) hx hb dX11_chance_21 rfl ?_
      refine lv_ldc2 hx hb hown (ht _ kcL_X11_204) dX11_chance_22 ?_
      refine lv_iload_n hx hb dX11_chance_25 rfl (lv_at hl 3 rfl) ?_
      obtain ⟨q7, r7, hf⟩ := bd_s hf
      refine ro_S (n := 3) (As := [.long (q6.toInt64), .long (100 : Int64), .int a3]) (rest := []) (c_X11_told l G (q6.toInt64) (100 : Int64) a3 q7 r7) C hK (hP.sub [] rfl) hl kcode_X11_told kml_X11_206 kst_X11_told kini_X11 (by decide +kernel) ⟨⟨rfl, rfl⟩, Nat.le_of_ble_eq_true rfl, Nat.le_of_ble_eq_true rfl⟩ ⟨Nat.zero_le _, Nat.zero_le _⟩ rfl rfl (Nat.le_of_ble_eq_true rfl) dX11_chance_26 rfl ?_
      refine lv_goto (tgt := 35) hx hb dX11_chance_29 (by decide) ?_
      have h9 := Option.some.inj hf
      subst h9
      exact ro_lret C rfl dX11_chance_35
abbrev Wc_X11_weight (l : Launch) (G : TG) (mo : Nat → Nat) (mo_length : Int32) (mo_at : Int32) (mo_faultAt : Int32) (mo_parts : Int32) (mo_entries : Int32) (mo_weights : Nat → Int32) (mo_ringEarth : Int32) (mo_lead : Int32) (mo_ring : Int32) (mo_jumpMany : Int32) (mo_curveEnd : Int32) (mo_beds : Int32) (mo_all : Int64) (a1 : Int32) (a2 : Int32) (R : Int32 × (Nat → Int32)) (p : Program) (e : Env) (s : State) (m : MethodId) (below : List Frame) (meth : Method) (c : Code) (A : Nat → Prop) (H : Heap) (locs : List Loc) (g : JFrame) : Prop := W p l e ({ frames := 2, cells := 0, slots := 0, locals := 45 }) s m ([.ref (mo 0), .int a1, .int a2] : List Value).toArray below meth c H locs 0 0 (MQ below (rwQ G (some (.int R.1)) [(oX11 mo mo_length mo_at mo_faultAt mo_parts mo_entries mo_ringEarth mo_lead mo_ring mo_jumpMany mo_curveEnd mo_beds mo_all), (wI G (mo 7) 4 R.2)] A) ([.ref (mo 0), .int a1, .int a2] : List Value).toArray s 0 0 A) g
set_option maxHeartbeats 4000000 in
set_option maxRecDepth 100000 in
theorem c_X11_weight (l : Launch) (G : TG) (mo : Nat → Nat) (mo_length : Int32) (mo_at : Int32) (mo_faultAt : Int32) (mo_parts : Int32) (mo_entries : Int32) (mo_weights : Nat → Int32) (mo_ringEarth : Int32) (mo_lead : Int32) (mo_ring : Int32) (mo_jumpMany : Int32) (mo_curveEnd : Int32) (mo_beds : Int32) (mo_all : Int64) (a1 : Int32) (a2 : Int32) (R : Int32 × (Nat → Int32)) (hf : f_X11_weight mo_weights a1 a2 = some R) : RW l yX11_weight cX11_weight 4 (some .int) ({ frames := 2, cells := 0, slots := 0, locals := 45 }) G [.ref (mo 0), .int a1, .int a2] [(oX11 mo mo_length mo_at mo_faultAt mo_parts mo_entries mo_ringEarth mo_lead mo_ring mo_jumpMany mo_curveEnd mo_beds mo_all), (wI G (mo 7) 4 mo_weights)] (some (.int R.1)) [(oX11 mo mo_length mo_at mo_faultAt mo_parts mo_entries mo_ringEarth mo_lead mo_ring mo_jumpMany mo_curveEnd mo_beds mo_all), (wI G (mo 7) 4 R.2)] := by
  refine RW.mk (by decide +kernel) (Nat.le_of_ble_eq_true rfl) ?_
  intro p e s m below meth c ls A C hP hD hA hz hK hl hS
  have hx := C.1
  have hb := C.2.1
  have hown : s.vm.findClass RX11 = some m.cls := C.2.2.2.2.2.1
  have ht := C.2.2.2.2.2.2
  have hl : lv_has ls 4 [(0, .ref (mo 0)), (1, .int a1), (2, .int a2)] := hl
  show Wc_X11_weight l G mo mo_length mo_at mo_faultAt mo_parts mo_entries mo_weights mo_ringEarth mo_lead mo_ring mo_jumpMany mo_curveEnd mo_beds mo_all a1 a2 R p e s m below meth c A s.heap [] (F0 m 0 ls [])
  obtain ⟨H, eH, hP, hS⟩ : ∃ H, H = s.heap ∧ va_P G.1 vwCl [(oX11 mo mo_length mo_at mo_faultAt mo_parts mo_entries mo_ringEarth mo_lead mo_ring mo_jumpMany mo_curveEnd mo_beds mo_all), (wI G (mo 7) 4 mo_weights)] H ∧ va_S A s.heap H [] := ⟨_, rfl, hP, hS⟩
  obtain ⟨locs, el, hS⟩ : ∃ locs : List Loc, locs = [] ∧ va_S A s.heap H locs := ⟨_, rfl, hS⟩
  have key : Wc_X11_weight l G mo mo_length mo_at mo_faultAt mo_parts mo_entries mo_weights mo_ringEarth mo_lead mo_ring mo_jumpMany mo_curveEnd mo_beds mo_all a1 a2 R p e s m below meth c A H locs (F0 m 0 ls []) := by
    refine lv_iload_n hx hb dX11_weight_0 rfl (lv_at hl 1 rfl) ?_
    obtain ⟨q1, r1, hf⟩ := bd_s hf
    refine ro_S (n := 1) (As := [.int a1]) (rest := []) (c_X11_isStory l G a1 q1 r1) C (hK.at hS hz) (hP.sub [] rfl) hl kcode_X11_isStory kml_X11_117 kst_X11_isStory kini_X11 (by decide +kernel) ⟨⟨rfl, rfl⟩, Nat.le_of_ble_eq_true rfl, Nat.le_of_ble_eq_true rfl⟩ ⟨Nat.zero_le _, Nat.zero_le _⟩ rfl rfl (Nat.le_of_ble_eq_true rfl) dX11_weight_1 rfl ?_
    refine lv_if_ne (tgt := 9) hx hb dX11_weight_4 (by decide) (fun c2 => ?_) (fun c2 => ?_)
    · have hf := o_f c2 hf
      refine lv_iload_n hx hb dX11_weight_9 rfl (lv_at hl 2 rfl) ?_
      refine lv_i2l (v := (a2.toInt64)) hx hb dX11_weight_10 rfl ?_
      refine lv_lconst (v := 0) hx hb dX11_weight_11 (by decide) ?_
      refine lv_ldc2 hx hb hown (ht _ kcL_X11_81) dX11_weight_12 ?_
      obtain ⟨q3, r3, hf⟩ := bd_s hf
      refine ro_S (n := 3) (As := [.long (a2.toInt64), .long (0 : Int64), .long (9 : Int64)]) (rest := []) (c_X11_in l G (a2.toInt64) (0 : Int64) (9 : Int64) q3 r3) C (hK.at hS hz) (hP.sub [] rfl) hl kcode_X11_in kml_X11_65 kst_X11_in kini_X11 (by decide +kernel) ⟨⟨rfl, rfl⟩, Nat.le_of_ble_eq_true rfl, Nat.le_of_ble_eq_true rfl⟩ ⟨Nat.zero_le _, Nat.zero_le _⟩ rfl rfl (Nat.le_of_ble_eq_true rfl) dX11_weight_15 rfl ?_
      refine lv_if_ne (tgt := 24) hx hb dX11_weight_18 (by decide) (fun c4 => ?_) (fun c4 => ?_)
      · have hf := o_f c4 hf
        refine lv_aload_n hx hb dX11_weight_24 rfl (lv_at hl 0 rfl) ?_
        refine va_get (D := G.1) (ci := 11) (v := .ref (mo 7)) (C := RX11) (T := TX11) (N := 29) hx hb ht twX11 hown hK.1 hP 0 rfl rfl 11 (by decide) (ht _ kfl_X11_28) (fun _ h9 => h9) rfl dX11_weight_25 ?_
        refine lv_iload_n hx hb dX11_weight_28 rfl (lv_at hl 1 rfl) ?_
        obtain ⟨g5, hf⟩ := gd_s hf
        refine va_iald hx hb hK.1 hP 1 0 rfl rfl g5 dX11_weight_29 ?_
        refine lv_istore_n (lv' := [(3, .int (mo_weights a1.toNatClampNeg)), (0, .ref (mo 0)), (1, .int a1), (2, .int a2)]) hx hb dX11_weight_30 rfl hl (by decide) rfl (fun ls hl => ?_)
        refine lv_aload_n hx hb dX11_weight_31 rfl (lv_at hl 1 rfl) ?_
        refine va_get (D := G.1) (ci := 11) (v := .ref (mo 7)) (C := RX11) (T := TX11) (N := 29) hx hb ht twX11 hown hK.1 hP 0 rfl rfl 11 (by decide) (ht _ kfl_X11_28) (fun _ h9 => h9) rfl dX11_weight_32 ?_
        refine lv_iload_n hx hb dX11_weight_35 rfl (lv_at hl 2 rfl) ?_
        refine lv_iload_n hx hb dX11_weight_36 rfl (lv_at hl 3 rfl) ?_
        obtain ⟨g6, hf⟩ := gd_s hf
        refine va_iast hx hb hK.1 hP hD hS 1 0 rfl rfl g6 dX11_weight_37 (fun H locs hP hD hS => ?_)
        have hP : va_P G.1 vwCl [(oX11 mo mo_length mo_at mo_faultAt mo_parts mo_entries mo_ringEarth mo_lead mo_ring mo_jumpMany mo_curveEnd mo_beds mo_all), (wI G (mo 7) 4 (upd mo_weights a1.toNatClampNeg a2))] H := hP
        have hD : va_D A [(oX11 mo mo_length mo_at mo_faultAt mo_parts mo_entries mo_ringEarth mo_lead mo_ring mo_jumpMany mo_curveEnd mo_beds mo_all), (wI G (mo 7) 4 (upd mo_weights a1.toNatClampNeg a2))] := hD
        refine lv_iload_n hx hb dX11_weight_38 rfl (lv_at hl 0 rfl) ?_
        have h9 := Option.some.inj hf
        subst h9
        exact rw_iret C rfl hP hD hS dX11_weight_39
      · have hf := o_t c4 hf
        refine lv_bipush (v := -2) hx hb dX11_weight_21 (by decide) ?_
        have h9 := Option.some.inj hf
        subst h9
        exact rw_iret C rfl hP hD hS dX11_weight_23
    · have hf := o_t c2 hf
      refine lv_iconst (v := -1) hx hb dX11_weight_7 (by decide) ?_
      have h9 := Option.some.inj hf
      subst h9
      exact rw_iret C rfl hP hD hS dX11_weight_8
  rw [eH, el] at key
  exact key
abbrev Wc_X11_layLots (l : Launch) (G : TG) (mo : Nat → Nat) (mo_length : Int32) (mo_at : Int32) (mo_faultAt : Int32) (mo_parts : Int32) (mo_entries : Int32) (mo_stories : Nat → Int32) (mo_weights : Nat → Int32) (mo_ringEarth : Int32) (mo_lead : Int32) (mo_ring : Int32) (mo_jumpMany : Int32) (mo_curveEnd : Int32) (mo_beds : Int32) (mo_bed : Nat → Int32) (mo_lots : Nat → Int64) (mo_all : Int64) (a1 : Int32) (R : (Nat → Int64) × Int64) (p : Program) (e : Env) (s : State) (m : MethodId) (below : List Frame) (meth : Method) (c : Code) (A : Nat → Prop) (H : Heap) (locs : List Loc) (g : JFrame) : Prop := W p l e ({ frames := 2, cells := 0, slots := 0, locals := 51 }) s m ([.ref (mo 0), .int a1] : List Value).toArray below meth c H locs 0 0 (MQ below (rwQ G none [(oX11 mo mo_length mo_at mo_faultAt mo_parts mo_entries mo_ringEarth mo_lead mo_ring mo_jumpMany mo_curveEnd mo_beds R.2), (wI G (mo 6) 400 mo_stories), (wI G (mo 7) 4 mo_weights), (wI G (mo 10) 48 mo_bed), (wJ G (mo 11) 4 R.1)] A) ([.ref (mo 0), .int a1] : List Value).toArray s 0 0 A) g
set_option maxHeartbeats 4000000 in
set_option maxRecDepth 100000 in
theorem c_X11_layLots (l : Launch) (G : TG) (mo : Nat → Nat) (mo_length : Int32) (mo_at : Int32) (mo_faultAt : Int32) (mo_parts : Int32) (mo_entries : Int32) (mo_stories : Nat → Int32) (mo_weights : Nat → Int32) (mo_ringEarth : Int32) (mo_lead : Int32) (mo_ring : Int32) (mo_jumpMany : Int32) (mo_curveEnd : Int32) (mo_beds : Int32) (mo_bed : Nat → Int32) (mo_lots : Nat → Int64) (mo_all : Int64) (a1 : Int32) (R : (Nat → Int64) × Int64) (hf : f_X11_layLots mo_stories mo_weights mo_beds mo_bed mo_lots a1 = some R) : RW l yX11_layLots cX11_layLots 4 none ({ frames := 2, cells := 0, slots := 0, locals := 51 }) G [.ref (mo 0), .int a1] [(oX11 mo mo_length mo_at mo_faultAt mo_parts mo_entries mo_ringEarth mo_lead mo_ring mo_jumpMany mo_curveEnd mo_beds mo_all), (wI G (mo 6) 400 mo_stories), (wI G (mo 7) 4 mo_weights), (wI G (mo 10) 48 mo_bed), (wJ G (mo 11) 4 mo_lots)] none [(oX11 mo mo_length mo_at mo_faultAt mo_parts mo_entries mo_ringEarth mo_lead mo_ring mo_jumpMany mo_curveEnd mo_beds R.2), (wI G (mo 6) 400 mo_stories), (wI G (mo 7) 4 mo_weights), (wI G (mo 10) 48 mo_bed), (wJ G (mo 11) 4 R.1)] := by
  refine RW.mk (by decide +kernel) (Nat.le_of_ble_eq_true rfl) ?_
  intro p e s m below meth c ls A C hP hD hA hz hK hl hS
  have hx := C.1
  have hb := C.2.1
  have hown : s.vm.findClass RX11 = some m.cls := C.2.2.2.2.2.1
  have ht := C.2.2.2.2.2.2
  have hl : lv_has ls 4 [(0, .ref (mo 0)), (1, .int a1)] := hl
  show Wc_X11_layLots l G mo mo_length mo_at mo_faultAt mo_parts mo_entries mo_stories mo_weights mo_ringEarth mo_lead mo_ring mo_jumpMany mo_curveEnd mo_beds mo_bed mo_lots mo_all a1 R p e s m below meth c A s.heap [] (F0 m 0 ls [])
  obtain ⟨H, eH, hP, hS⟩ : ∃ H, H = s.heap ∧ va_P G.1 vwCl [(oX11 mo mo_length mo_at mo_faultAt mo_parts mo_entries mo_ringEarth mo_lead mo_ring mo_jumpMany mo_curveEnd mo_beds mo_all), (wI G (mo 6) 400 mo_stories), (wI G (mo 7) 4 mo_weights), (wI G (mo 10) 48 mo_bed), (wJ G (mo 11) 4 mo_lots)] H ∧ va_S A s.heap H [] := ⟨_, rfl, hP, hS⟩
  obtain ⟨locs, el, hS⟩ : ∃ locs : List Loc, locs = [] ∧ va_S A s.heap H locs := ⟨_, rfl, hS⟩
  have key : Wc_X11_layLots l G mo mo_length mo_at mo_faultAt mo_parts mo_entries mo_stories mo_weights mo_ringEarth mo_lead mo_ring mo_jumpMany mo_curveEnd mo_beds mo_bed mo_lots mo_all a1 R p e s m below meth c A H locs (F0 m 0 ls []) := by
    refine lv_aload_n hx hb dX11_layLots_0 rfl (lv_at hl 0 rfl) ?_
    refine lv_lconst (v := 0) hx hb dX11_layLots_1 (by decide) ?_
    refine va_put (D := G.1) (ci := 11) (v := .long (0 : Int64)) (ty := .long) (C := RX11) (T := TX11) (N := 29) hx hb ht twX11 tyX11 tyX11_ok nmX11 hown hK.1 hP hD hS 0 rfl rfl 22 (by decide) (ht _ kfl_X11_212) (fun _ h9 => h9) rfl (by decide +kernel) rfl rfl (Nat.le_of_ble_eq_true rfl) dX11_layLots_2 (fun H locs hP hD hS => ?_)
    have hP : va_P G.1 vwCl [(oX11 mo mo_length mo_at mo_faultAt mo_parts mo_entries mo_ringEarth mo_lead mo_ring mo_jumpMany mo_curveEnd mo_beds (0 : Int64)), (wI G (mo 6) 400 mo_stories), (wI G (mo 7) 4 mo_weights), (wI G (mo 10) 48 mo_bed), (wJ G (mo 11) 4 mo_lots)] H := hP
    have hD : va_D A [(oX11 mo mo_length mo_at mo_faultAt mo_parts mo_entries mo_ringEarth mo_lead mo_ring mo_jumpMany mo_curveEnd mo_beds (0 : Int64)), (wI G (mo 6) 400 mo_stories), (wI G (mo 7) 4 mo_weights), (wI G (mo 10) 48 mo_bed), (wJ G (mo 11) 4 mo_lots)] := hD
    refine lv_iconst (v := 0) hx hb dX11_layLots_5 (by decide) ?_
    refine lv_istore_n (lv' := [(2, .int (0 : Int32)), (0, .ref (mo 0)), (1, .int a1)]) hx hb dX11_layLots_6 rfl hl (by decide) rfl (fun ls hl => ?_)
    have hx87_1 : ∀ (mo_lots : Nat → Int64) (mo_all : Int64) (H : Heap) (locs : List Loc) (ls : Array Slot), f_X11_layLots_x87_1 mo_lots mo_all = some R → va_P G.1 vwCl [(oX11 mo mo_length mo_at mo_faultAt mo_parts mo_entries mo_ringEarth mo_lead mo_ring mo_jumpMany mo_curveEnd mo_beds mo_all), (wI G (mo 6) 400 mo_stories), (wI G (mo 7) 4 mo_weights), (wI G (mo 10) 48 mo_bed), (wJ G (mo 11) 4 mo_lots)] H → va_D A [(oX11 mo mo_length mo_at mo_faultAt mo_parts mo_entries mo_ringEarth mo_lead mo_ring mo_jumpMany mo_curveEnd mo_beds mo_all), (wI G (mo 6) 400 mo_stories), (wI G (mo 7) 4 mo_weights), (wI G (mo 10) 48 mo_bed), (wJ G (mo 11) 4 mo_lots)] → va_S A s.heap H locs → lv_has ls 4 [] → Wc_X11_layLots l G mo mo_length mo_at mo_faultAt mo_parts mo_entries mo_stories mo_weights mo_ringEarth mo_lead mo_ring mo_jumpMany mo_curveEnd mo_beds mo_bed mo_lots mo_all a1 R p e s m below meth c A H locs (F0 m 87 ls []) := by
      intro mo_lots mo_all H locs ls hf hP hD hS hl
      have h9 := Option.some.inj hf
      subst h9
      exact rw_vret C hP hD hS dX11_layLots_87
    obtain ⟨rL1, hL1, hk1⟩ := bd_s hf
    refine lp_W (P := fun st => ∀ (H : Heap) (locs : List Loc) (ls : Array Slot), va_P G.1 vwCl [(oX11 mo mo_length mo_at mo_faultAt mo_parts mo_entries mo_ringEarth mo_lead mo_ring mo_jumpMany mo_curveEnd mo_beds st.2.2), (wI G (mo 6) 400 mo_stories), (wI G (mo 7) 4 mo_weights), (wI G (mo 10) 48 mo_bed), (wJ G (mo 11) 4 st.2.1)] H → va_D A [(oX11 mo mo_length mo_at mo_faultAt mo_parts mo_entries mo_ringEarth mo_lead mo_ring mo_jumpMany mo_curveEnd mo_beds st.2.2), (wI G (mo 6) 400 mo_stories), (wI G (mo 7) 4 mo_weights), (wI G (mo 10) 48 mo_bed), (wJ G (mo 11) 4 st.2.1)] → va_S A s.heap H locs → lv_has ls 4 [(0, .ref (mo 0)), (1, .int a1), (2, .int st.1)] → Wc_X11_layLots l G mo mo_length mo_at mo_faultAt mo_parts mo_entries mo_stories mo_weights mo_ringEarth mo_lead mo_ring mo_jumpMany mo_curveEnd mo_beds mo_bed mo_lots mo_all a1 R p e s m below meth c A H locs (F0 m 7 ls [])) ?_ FU ((0 : Int32), mo_lots, (0 : Int64)) hL1 H locs ls hP hD hS (lv_sub hl [1, 2, 0] rfl)
    intro ⟨v2, mo_lots, mo_all⟩ oc1 hf hI hE H locs ls hP hD hS hl
    have hP : va_P G.1 vwCl [(oX11 mo mo_length mo_at mo_faultAt mo_parts mo_entries mo_ringEarth mo_lead mo_ring mo_jumpMany mo_curveEnd mo_beds mo_all), (wI G (mo 6) 400 mo_stories), (wI G (mo 7) 4 mo_weights), (wI G (mo 10) 48 mo_bed), (wJ G (mo 11) 4 mo_lots)] H := hP
    have hD : va_D A [(oX11 mo mo_length mo_at mo_faultAt mo_parts mo_entries mo_ringEarth mo_lead mo_ring mo_jumpMany mo_curveEnd mo_beds mo_all), (wI G (mo 6) 400 mo_stories), (wI G (mo 7) 4 mo_weights), (wI G (mo 10) 48 mo_bed), (wJ G (mo 11) 4 mo_lots)] := hD
    have hl : lv_has ls 4 [(0, .ref (mo 0)), (1, .int a1), (2, .int v2)] := hl
    have hf : f_X11_layLots_b7 mo_stories mo_weights mo_beds mo_bed a1 v2 mo_lots mo_all = some oc1 := hf
    refine lv_iload_n hx hb dX11_layLots_7 rfl (lv_at hl 2 rfl) ?_
    refine lv_iconst (v := 4) hx hb dX11_layLots_8 (by decide) ?_
    refine lv_icmp_ge (tgt := 87) hx hb dX11_layLots_9 (by decide) (fun c3 => ?_) (fun c3 => ?_)
    · have hf := o_t c3 hf
      cases hf
      have hf : f_X11_layLots_x87_1 mo_lots mo_all = some R := by have h9 := hk1; rw [← hE _ rfl] at h9; exact h9
      exact hx87_1 mo_lots mo_all H locs ls hf hP hD hS (lv_sub hl [] rfl)
    · have hf := o_f c3 hf
      refine lv_aload_n hx hb dX11_layLots_12 rfl (lv_at hl 0 rfl) ?_
      refine va_get (D := G.1) (ci := 11) (v := .ref (mo 11)) (C := RX11) (T := TX11) (N := 29) hx hb ht twX11 hown hK.1 hP 0 rfl rfl 21 (by decide) (ht _ kfl_X11_40) (fun _ h9 => h9) rfl dX11_layLots_13 ?_
      refine lv_iload_n hx hb dX11_layLots_16 rfl (lv_at hl 2 rfl) ?_
      refine lv_aload_n hx hb dX11_layLots_17 rfl (lv_at hl 0 rfl) ?_
      refine va_get (D := G.1) (ci := 11) (v := .ref (mo 7)) (C := RX11) (T := TX11) (N := 29) hx hb ht twX11 hown hK.1 hP 0 rfl rfl 11 (by decide) (ht _ kfl_X11_28) (fun _ h9 => h9) rfl dX11_layLots_18 ?_
      refine lv_iload_n hx hb dX11_layLots_21 rfl (lv_at hl 2 rfl) ?_
      obtain ⟨g4, hf⟩ := gd_s hf
      refine va_iald hx hb hK.1 hP 2 0 rfl rfl g4 dX11_layLots_22 ?_
      refine lv_i2l (v := ((mo_weights v2.toNatClampNeg).toInt64)) hx hb dX11_layLots_23 rfl ?_
      obtain ⟨g5, hf⟩ := gd_s hf
      refine va_last hx hb hK.1 hP hD hS 4 1 rfl rfl g5 dX11_layLots_24 (fun H locs hP hD hS => ?_)
      have hP : va_P G.1 vwCl [(oX11 mo mo_length mo_at mo_faultAt mo_parts mo_entries mo_ringEarth mo_lead mo_ring mo_jumpMany mo_curveEnd mo_beds mo_all), (wI G (mo 6) 400 mo_stories), (wI G (mo 7) 4 mo_weights), (wI G (mo 10) 48 mo_bed), (wJ G (mo 11) 4 (vp_updL mo_lots v2.toNatClampNeg ((mo_weights v2.toNatClampNeg).toInt64)))] H := hP
      have hD : va_D A [(oX11 mo mo_length mo_at mo_faultAt mo_parts mo_entries mo_ringEarth mo_lead mo_ring mo_jumpMany mo_curveEnd mo_beds mo_all), (wI G (mo 6) 400 mo_stories), (wI G (mo 7) 4 mo_weights), (wI G (mo 10) 48 mo_bed), (wJ G (mo 11) 4 (vp_updL mo_lots v2.toNatClampNeg ((mo_weights v2.toNatClampNeg).toInt64)))] := hD
      refine lv_iconst (v := 0) hx hb dX11_layLots_25 (by decide) ?_
      refine lv_istore_n (lv' := [(3, .int (0 : Int32)), (0, .ref (mo 0)), (1, .int a1), (2, .int v2)]) hx hb dX11_layLots_26 rfl hl (by decide) rfl (fun ls hl => ?_)
      have hx66_6 : ∀ (mo_lots : Nat → Int64) (H : Heap) (locs : List Loc) (ls : Array Slot), f_X11_layLots_x66_6 v2 mo_all mo_lots = some oc1 → va_P G.1 vwCl [(oX11 mo mo_length mo_at mo_faultAt mo_parts mo_entries mo_ringEarth mo_lead mo_ring mo_jumpMany mo_curveEnd mo_beds mo_all), (wI G (mo 6) 400 mo_stories), (wI G (mo 7) 4 mo_weights), (wI G (mo 10) 48 mo_bed), (wJ G (mo 11) 4 mo_lots)] H → va_D A [(oX11 mo mo_length mo_at mo_faultAt mo_parts mo_entries mo_ringEarth mo_lead mo_ring mo_jumpMany mo_curveEnd mo_beds mo_all), (wI G (mo 6) 400 mo_stories), (wI G (mo 7) 4 mo_weights), (wI G (mo 10) 48 mo_bed), (wJ G (mo 11) 4 mo_lots)] → va_S A s.heap H locs → lv_has ls 4 [(0, .ref (mo 0)), (1, .int a1), (2, .int v2)] → Wc_X11_layLots l G mo mo_length mo_at mo_faultAt mo_parts mo_entries mo_stories mo_weights mo_ringEarth mo_lead mo_ring mo_jumpMany mo_curveEnd mo_beds mo_bed mo_lots mo_all a1 R p e s m below meth c A H locs (F0 m 66 ls []) := by
        intro mo_lots H locs ls hf hP hD hS hl
        refine lv_aload_n hx hb dX11_layLots_66 rfl (lv_at hl 0 rfl) ?_
        refine lv_dup hx hb dX11_layLots_67 rfl ?_
        refine va_get (D := G.1) (ci := 11) (v := .long mo_all) (C := RX11) (T := TX11) (N := 29) hx hb ht twX11 hown hK.1 hP 0 rfl rfl 22 (by decide) (ht _ kfl_X11_212) (fun _ h9 => h9) rfl dX11_layLots_68 ?_
        refine lv_aload_n hx hb dX11_layLots_71 rfl (lv_at hl 0 rfl) ?_
        refine va_get (D := G.1) (ci := 11) (v := .ref (mo 11)) (C := RX11) (T := TX11) (N := 29) hx hb ht twX11 hown hK.1 hP 0 rfl rfl 21 (by decide) (ht _ kfl_X11_40) (fun _ h9 => h9) rfl dX11_layLots_72 ?_
        refine lv_iload_n hx hb dX11_layLots_75 rfl (lv_at hl 2 rfl) ?_
        obtain ⟨g7, hf⟩ := gd_s hf
        refine va_lald hx hb hK.1 hP 4 1 rfl rfl g7 dX11_layLots_76 ?_
        refine lv_ladd hx hb dX11_layLots_77 ?_
        refine va_put (D := G.1) (ci := 11) (v := .long (mo_all + (mo_lots v2.toNatClampNeg))) (ty := .long) (C := RX11) (T := TX11) (N := 29) hx hb ht twX11 tyX11 tyX11_ok nmX11 hown hK.1 hP hD hS 0 rfl rfl 22 (by decide) (ht _ kfl_X11_212) (fun _ h9 => h9) rfl (by decide +kernel) rfl rfl (Nat.le_of_ble_eq_true rfl) dX11_layLots_78 (fun H locs hP hD hS => ?_)
        have hP : va_P G.1 vwCl [(oX11 mo mo_length mo_at mo_faultAt mo_parts mo_entries mo_ringEarth mo_lead mo_ring mo_jumpMany mo_curveEnd mo_beds (mo_all + (mo_lots v2.toNatClampNeg))), (wI G (mo 6) 400 mo_stories), (wI G (mo 7) 4 mo_weights), (wI G (mo 10) 48 mo_bed), (wJ G (mo 11) 4 mo_lots)] H := hP
        have hD : va_D A [(oX11 mo mo_length mo_at mo_faultAt mo_parts mo_entries mo_ringEarth mo_lead mo_ring mo_jumpMany mo_curveEnd mo_beds (mo_all + (mo_lots v2.toNatClampNeg))), (wI G (mo 6) 400 mo_stories), (wI G (mo 7) 4 mo_weights), (wI G (mo 10) 48 mo_bed), (wJ G (mo 11) 4 mo_lots)] := hD
        refine lv_iinc (v := (v2 + (1 : Int32))) (lv' := [(2, .int (v2 + (1 : Int32))), (0, .ref (mo 0)), (1, .int a1)]) hx hb dX11_layLots_81 hl (k := 2) rfl (by rfl) (by decide) rfl (fun ls hl => ?_)
        refine lv_goto (tgt := 7) hx hb dX11_layLots_84 (by decide) ?_
        cases hf
        exact hI _ rfl H locs ls hP hD hS (lv_sub hl [1, 2, 0] rfl)
      obtain ⟨rL6, hL6, hk6⟩ := bd_s hf
      refine lp_W (P := fun st => ∀ (H : Heap) (locs : List Loc) (ls : Array Slot), va_P G.1 vwCl [(oX11 mo mo_length mo_at mo_faultAt mo_parts mo_entries mo_ringEarth mo_lead mo_ring mo_jumpMany mo_curveEnd mo_beds mo_all), (wI G (mo 6) 400 mo_stories), (wI G (mo 7) 4 mo_weights), (wI G (mo 10) 48 mo_bed), (wJ G (mo 11) 4 st.2)] H → va_D A [(oX11 mo mo_length mo_at mo_faultAt mo_parts mo_entries mo_ringEarth mo_lead mo_ring mo_jumpMany mo_curveEnd mo_beds mo_all), (wI G (mo 6) 400 mo_stories), (wI G (mo 7) 4 mo_weights), (wI G (mo 10) 48 mo_bed), (wJ G (mo 11) 4 st.2)] → va_S A s.heap H locs → lv_has ls 4 [(0, .ref (mo 0)), (1, .int a1), (2, .int v2), (3, .int st.1)] → Wc_X11_layLots l G mo mo_length mo_at mo_faultAt mo_parts mo_entries mo_stories mo_weights mo_ringEarth mo_lead mo_ring mo_jumpMany mo_curveEnd mo_beds mo_bed mo_lots mo_all a1 R p e s m below meth c A H locs (F0 m 27 ls [])) ?_ FU ((0 : Int32), (vp_updL mo_lots v2.toNatClampNeg ((mo_weights v2.toNatClampNeg).toInt64))) hL6 H locs ls hP hD hS (lv_sub hl [1, 2, 3, 0] rfl)
      intro ⟨v3, mo_lots⟩ oc6 hf hI hE H locs ls hP hD hS hl
      have hP : va_P G.1 vwCl [(oX11 mo mo_length mo_at mo_faultAt mo_parts mo_entries mo_ringEarth mo_lead mo_ring mo_jumpMany mo_curveEnd mo_beds mo_all), (wI G (mo 6) 400 mo_stories), (wI G (mo 7) 4 mo_weights), (wI G (mo 10) 48 mo_bed), (wJ G (mo 11) 4 mo_lots)] H := hP
      have hD : va_D A [(oX11 mo mo_length mo_at mo_faultAt mo_parts mo_entries mo_ringEarth mo_lead mo_ring mo_jumpMany mo_curveEnd mo_beds mo_all), (wI G (mo 6) 400 mo_stories), (wI G (mo 7) 4 mo_weights), (wI G (mo 10) 48 mo_bed), (wJ G (mo 11) 4 mo_lots)] := hD
      have hl : lv_has ls 4 [(0, .ref (mo 0)), (1, .int a1), (2, .int v2), (3, .int v3)] := hl
      have hf : f_X11_layLots_b27 mo_stories mo_beds mo_bed a1 v2 v3 mo_lots = some oc6 := hf
      have hj58 : ∀ (v3 : Int32) (k1 : Int32) (k2 : Int64) (k3 : Int64) (mo_lots : Nat → Int64) (H : Heap) (locs : List Loc) (ls : Array Slot), f_X11_layLots_j58 v3 k1 k2 k3 mo_lots = some oc6 → va_P G.1 vwCl [(oX11 mo mo_length mo_at mo_faultAt mo_parts mo_entries mo_ringEarth mo_lead mo_ring mo_jumpMany mo_curveEnd mo_beds mo_all), (wI G (mo 6) 400 mo_stories), (wI G (mo 7) 4 mo_weights), (wI G (mo 10) 48 mo_bed), (wJ G (mo 11) 4 mo_lots)] H → va_D A [(oX11 mo mo_length mo_at mo_faultAt mo_parts mo_entries mo_ringEarth mo_lead mo_ring mo_jumpMany mo_curveEnd mo_beds mo_all), (wI G (mo 6) 400 mo_stories), (wI G (mo 7) 4 mo_weights), (wI G (mo 10) 48 mo_bed), (wJ G (mo 11) 4 mo_lots)] → va_S A s.heap H locs → lv_has ls 4 [(0, .ref (mo 0)), (1, .int a1), (2, .int v2), (3, .int v3)] → Wc_X11_layLots l G mo mo_length mo_at mo_faultAt mo_parts mo_entries mo_stories mo_weights mo_ringEarth mo_lead mo_ring mo_jumpMany mo_curveEnd mo_beds mo_bed mo_lots mo_all a1 R p e s m below meth c A H locs (F0 m 58 ls [.long k3, .long k2, .int k1, .ref (mo 11)]) := by
        intro v3 k1 k2 k3 mo_lots H locs ls hf hP hD hS hl
        refine lv_lmul hx hb dX11_layLots_58 ?_
        obtain ⟨g8, hf⟩ := gd_s hf
        refine va_last hx hb hK.1 hP hD hS 4 1 rfl rfl g8 dX11_layLots_59 (fun H locs hP hD hS => ?_)
        have hP : va_P G.1 vwCl [(oX11 mo mo_length mo_at mo_faultAt mo_parts mo_entries mo_ringEarth mo_lead mo_ring mo_jumpMany mo_curveEnd mo_beds mo_all), (wI G (mo 6) 400 mo_stories), (wI G (mo 7) 4 mo_weights), (wI G (mo 10) 48 mo_bed), (wJ G (mo 11) 4 (vp_updL mo_lots k1.toNatClampNeg (k2 * k3)))] H := hP
        have hD : va_D A [(oX11 mo mo_length mo_at mo_faultAt mo_parts mo_entries mo_ringEarth mo_lead mo_ring mo_jumpMany mo_curveEnd mo_beds mo_all), (wI G (mo 6) 400 mo_stories), (wI G (mo 7) 4 mo_weights), (wI G (mo 10) 48 mo_bed), (wJ G (mo 11) 4 (vp_updL mo_lots k1.toNatClampNeg (k2 * k3)))] := hD
        refine lv_iinc (v := (v3 + (1 : Int32))) (lv' := [(3, .int (v3 + (1 : Int32))), (0, .ref (mo 0)), (1, .int a1), (2, .int v2)]) hx hb dX11_layLots_60 hl (k := 3) rfl (by rfl) (by decide) rfl (fun ls hl => ?_)
        refine lv_goto (tgt := 27) hx hb dX11_layLots_63 (by decide) ?_
        cases hf
        exact hI _ rfl H locs ls hP hD hS (lv_sub hl [1, 2, 3, 0] rfl)
      refine lv_iload_n hx hb dX11_layLots_27 rfl (lv_at hl 3 rfl) ?_
      refine lv_aload_n hx hb dX11_layLots_28 rfl (lv_at hl 0 rfl) ?_
      refine va_get (D := G.1) (ci := 11) (v := .int mo_beds) (C := RX11) (T := TX11) (N := 29) hx hb ht twX11 hown hK.1 hP 0 rfl rfl 19 (by decide) (ht _ kfl_X11_180) (fun _ h9 => h9) rfl dX11_layLots_29 ?_
      refine lv_icmp_ge (tgt := 66) hx hb dX11_layLots_32 (by decide) (fun c9 => ?_) (fun c9 => ?_)
      · have hf := o_t c9 hf
        cases hf
        have hf : f_X11_layLots_x66_6 v2 mo_all mo_lots = some oc1 := by have h9 := hk6; rw [← hE _ rfl] at h9; exact h9
        exact hx66_6 mo_lots H locs ls hf hP hD hS (lv_sub hl [0, 1, 2] rfl)
      · have hf := o_f c9 hf
        refine lv_aload_n hx hb dX11_layLots_35 rfl (lv_at hl 0 rfl) ?_
        refine va_get (D := G.1) (ci := 11) (v := .ref (mo 11)) (C := RX11) (T := TX11) (N := 29) hx hb ht twX11 hown hK.1 hP 0 rfl rfl 21 (by decide) (ht _ kfl_X11_40) (fun _ h9 => h9) rfl dX11_layLots_36 ?_
        refine lv_iload_n hx hb dX11_layLots_39 rfl (lv_at hl 2 rfl) ?_
        refine lv_dup2_11 hx hb dX11_layLots_40 rfl rfl ?_
        obtain ⟨g10, hf⟩ := gd_s hf
        refine va_lald hx hb hK.1 hP 4 1 rfl rfl g10 dX11_layLots_41 ?_
        refine lv_iload_n hx hb dX11_layLots_42 rfl (lv_at hl 3 rfl) ?_
        refine lv_iload_n hx hb dX11_layLots_43 rfl (lv_at hl 1 rfl) ?_
        refine lv_icmp_ne (tgt := 51) hx hb dX11_layLots_44 (by decide) (fun c11 => ?_) (fun c11 => ?_)
        · have hf := o_f c11 hf
          refine lv_aload_n hx hb dX11_layLots_51 rfl (lv_at hl 0 rfl) ?_
          refine lv_iload_n hx hb dX11_layLots_52 rfl (lv_at hl 2 rfl) ?_
          refine lv_iload_n hx hb dX11_layLots_53 rfl (lv_at hl 3 rfl) ?_
          obtain ⟨q12, r12, hf⟩ := bd_s hf
          refine ro_V (n := 2) (As := [.int v2, .int v3]) (rest := [.long (mo_lots v2.toNatClampNeg), .int v2, .ref (mo 11)]) (c_X11_chanceOf l G mo mo_length mo_at mo_faultAt mo_parts mo_entries mo_stories mo_ringEarth mo_lead mo_ring mo_jumpMany mo_curveEnd mo_beds mo_bed mo_all v2 v3 q12 r12) C (hK.at hS hz) (hP.sub [0, 1, 3] rfl) hl kcode_X11_chanceOf kml_X11_201 kim_X11_chanceOf ksel_X11_chanceOf kini_X11 (by decide +kernel) ⟨⟨rfl, rfl⟩, Nat.le_of_ble_eq_true rfl, Nat.le_of_ble_eq_true rfl⟩ ⟨Nat.zero_le _, Nat.zero_le _⟩ rfl rfl rfl rfl rfl (Nat.le_of_ble_eq_true rfl) dX11_layLots_54 rfl ?_
          refine lv_i2l (v := (q12.toInt64)) hx hb dX11_layLots_57 rfl ?_
          exact hj58 v3 v2 (mo_lots v2.toNatClampNeg) (q12.toInt64) mo_lots H locs ls hf hP hD hS (lv_sub hl [0, 1, 2, 3] rfl)
        · have hf := o_t c11 hf
          refine lv_lconst (v := 1) hx hb dX11_layLots_47 (by decide) ?_
          refine lv_goto (tgt := 58) hx hb dX11_layLots_48 (by decide) ?_
          exact hj58 v3 v2 (mo_lots v2.toNatClampNeg) (1 : Int64) mo_lots H locs ls hf hP hD hS (lv_sub hl [0, 1, 2, 3] rfl)
  rw [eH, el] at key
  exact key
abbrev Wc_X11_odds (l : Launch) (G : TG) (mo : Nat → Nat) (mo_length : Int32) (mo_at : Int32) (mo_faultAt : Int32) (mo_parts : Int32) (mo_entries : Int32) (mo_stories : Nat → Int32) (mo_weights : Nat → Int32) (mo_ringEarth : Int32) (mo_lead : Int32) (mo_ring : Int32) (mo_jumpMany : Int32) (mo_curveEnd : Int32) (mo_beds : Int32) (mo_bed : Nat → Int32) (mo_lots : Nat → Int64) (mo_all : Int64) (a1 : Int32) (a2 : Int32) (R : Int64 × (Nat → Int64) × Int64) (p : Program) (e : Env) (s : State) (m : MethodId) (below : List Frame) (meth : Method) (c : Code) (A : Nat → Prop) (H : Heap) (locs : List Loc) (g : JFrame) : Prop := W p l e ({ frames := 3, cells := 0, slots := 0, locals := 74 }) s m ([.ref (mo 0), .int a1, .int a2] : List Value).toArray below meth c H locs 0 0 (MQ below (rwQ G (some (.long R.1)) [(oX11 mo mo_length mo_at mo_faultAt mo_parts mo_entries mo_ringEarth mo_lead mo_ring mo_jumpMany mo_curveEnd mo_beds R.2.2), (wI G (mo 6) 400 mo_stories), (wI G (mo 7) 4 mo_weights), (wI G (mo 10) 48 mo_bed), (wJ G (mo 11) 4 R.2.1)] A) ([.ref (mo 0), .int a1, .int a2] : List Value).toArray s 0 0 A) g
set_option maxHeartbeats 4000000 in
set_option maxRecDepth 100000 in
theorem c_X11_odds (l : Launch) (G : TG) (mo : Nat → Nat) (mo_length : Int32) (mo_at : Int32) (mo_faultAt : Int32) (mo_parts : Int32) (mo_entries : Int32) (mo_stories : Nat → Int32) (mo_weights : Nat → Int32) (mo_ringEarth : Int32) (mo_lead : Int32) (mo_ring : Int32) (mo_jumpMany : Int32) (mo_curveEnd : Int32) (mo_beds : Int32) (mo_bed : Nat → Int32) (mo_lots : Nat → Int64) (mo_all : Int64) (a1 : Int32) (a2 : Int32) (R : Int64 × (Nat → Int64) × Int64) (hf : f_X11_odds mo_stories mo_weights mo_beds mo_bed mo_lots mo_all a1 a2 = some R) : RW l yX11_odds cX11_odds 3 (some .long) ({ frames := 3, cells := 0, slots := 0, locals := 74 }) G [.ref (mo 0), .int a1, .int a2] [(oX11 mo mo_length mo_at mo_faultAt mo_parts mo_entries mo_ringEarth mo_lead mo_ring mo_jumpMany mo_curveEnd mo_beds mo_all), (wI G (mo 6) 400 mo_stories), (wI G (mo 7) 4 mo_weights), (wI G (mo 10) 48 mo_bed), (wJ G (mo 11) 4 mo_lots)] (some (.long R.1)) [(oX11 mo mo_length mo_at mo_faultAt mo_parts mo_entries mo_ringEarth mo_lead mo_ring mo_jumpMany mo_curveEnd mo_beds R.2.2), (wI G (mo 6) 400 mo_stories), (wI G (mo 7) 4 mo_weights), (wI G (mo 10) 48 mo_bed), (wJ G (mo 11) 4 R.2.1)] := by
  refine RW.mk (by decide +kernel) (Nat.le_of_ble_eq_true rfl) ?_
  intro p e s m below meth c ls A C hP hD hA hz hK hl hS
  have hx := C.1
  have hb := C.2.1
  have hown : s.vm.findClass RX11 = some m.cls := C.2.2.2.2.2.1
  have ht := C.2.2.2.2.2.2
  have hl : lv_has ls 3 [(0, .ref (mo 0)), (1, .int a1), (2, .int a2)] := hl
  show Wc_X11_odds l G mo mo_length mo_at mo_faultAt mo_parts mo_entries mo_stories mo_weights mo_ringEarth mo_lead mo_ring mo_jumpMany mo_curveEnd mo_beds mo_bed mo_lots mo_all a1 a2 R p e s m below meth c A s.heap [] (F0 m 0 ls [])
  obtain ⟨H, eH, hP, hS⟩ : ∃ H, H = s.heap ∧ va_P G.1 vwCl [(oX11 mo mo_length mo_at mo_faultAt mo_parts mo_entries mo_ringEarth mo_lead mo_ring mo_jumpMany mo_curveEnd mo_beds mo_all), (wI G (mo 6) 400 mo_stories), (wI G (mo 7) 4 mo_weights), (wI G (mo 10) 48 mo_bed), (wJ G (mo 11) 4 mo_lots)] H ∧ va_S A s.heap H [] := ⟨_, rfl, hP, hS⟩
  obtain ⟨locs, el, hS⟩ : ∃ locs : List Loc, locs = [] ∧ va_S A s.heap H locs := ⟨_, rfl, hS⟩
  have key : Wc_X11_odds l G mo mo_length mo_at mo_faultAt mo_parts mo_entries mo_stories mo_weights mo_ringEarth mo_lead mo_ring mo_jumpMany mo_curveEnd mo_beds mo_bed mo_lots mo_all a1 a2 R p e s m below meth c A H locs (F0 m 0 ls []) := by
    refine lv_iload_n hx hb dX11_odds_0 rfl (lv_at hl 1 rfl) ?_
    obtain ⟨q1, r1, hf⟩ := bd_s hf
    refine ro_S (n := 1) (As := [.int a1]) (rest := []) (c_X11_isStory l G a1 q1 r1) C (hK.at hS hz) (hP.sub [] rfl) hl kcode_X11_isStory kml_X11_117 kst_X11_isStory kini_X11 (by decide +kernel) ⟨⟨rfl, rfl⟩, Nat.le_of_ble_eq_true rfl, Nat.le_of_ble_eq_true rfl⟩ ⟨Nat.zero_le _, Nat.zero_le _⟩ rfl rfl (Nat.le_of_ble_eq_true rfl) dX11_odds_1 rfl ?_
    refine lv_if_ne (tgt := 11) hx hb dX11_odds_4 (by decide) (fun c2 => ?_) (fun c2 => ?_)
    · have hf := o_f c2 hf
      refine lv_aload_n hx hb dX11_odds_11 rfl (lv_at hl 0 rfl) ?_
      refine lv_iconst (v := -1) hx hb dX11_odds_12 (by decide) ?_
      obtain ⟨q3, r3, hf⟩ := bd_s hf
      refine rw_V (n := 1) (As := [.int (-1 : Int32)]) (rest := []) (wr := []) (ws2 := [(oX11 mo mo_length mo_at mo_faultAt mo_parts mo_entries mo_ringEarth mo_lead mo_ring mo_jumpMany mo_curveEnd mo_beds q3.2), (wI G (mo 6) 400 mo_stories), (wI G (mo 7) 4 mo_weights), (wI G (mo 10) 48 mo_bed), (wJ G (mo 11) 4 q3.1)]) (c_X11_layLots l G mo mo_length mo_at mo_faultAt mo_parts mo_entries mo_stories mo_weights mo_ringEarth mo_lead mo_ring mo_jumpMany mo_curveEnd mo_beds mo_bed mo_lots mo_all (-1 : Int32) q3 r3) C hK hP hD hS hA hz hl [0, 1, 2, 3, 4] [] [0, 1, 2, 3, 4] rfl rfl rfl rfl rfl (by decide) rfl rfl rfl kcode_X11_layLots kml_X11_216 kim_X11_layLots ksel_X11_layLots kini_X11 (by decide +kernel) ⟨⟨rfl, rfl⟩, Nat.le_of_ble_eq_true rfl, Nat.le_of_ble_eq_true rfl⟩ ⟨Nat.zero_le _, Nat.zero_le _⟩ rfl rfl rfl rfl rfl (Nat.le_of_ble_eq_true rfl) dX11_odds_13 rfl (fun H locs hP hD hS => ?_)
      refine lv_aload_n hx hb dX11_odds_16 rfl (lv_at hl 0 rfl) ?_
      refine va_get (D := G.1) (ci := 11) (v := .long q3.2) (C := RX11) (T := TX11) (N := 29) hx hb ht twX11 hown hK.1 hP 0 rfl rfl 22 (by decide) (ht _ kfl_X11_212) (fun _ h9 => h9) rfl dX11_odds_17 ?_
      refine lv_lconst (v := 0) hx hb dX11_odds_20 (by decide) ?_
      refine W.lcmp hx hb dX11_odds_21 ?_
      refine lv_if_ne (tgt := 31) hx hb dX11_odds_22 (by decide) (fun c4 => ?_) (fun c4 => ?_)
      · have hf := o_f c4 hf
        refine lv_aload_n hx hb dX11_odds_31 rfl (lv_at hl 0 rfl) ?_
        refine va_get (D := G.1) (ci := 11) (v := .ref (mo 11)) (C := RX11) (T := TX11) (N := 29) hx hb ht twX11 hown hK.1 hP 0 rfl rfl 21 (by decide) (ht _ kfl_X11_40) (fun _ h9 => h9) rfl dX11_odds_32 ?_
        refine lv_iload_n hx hb dX11_odds_35 rfl (lv_at hl 1 rfl) ?_
        obtain ⟨g5, hf⟩ := gd_s hf
        refine va_lald hx hb hK.1 hP 4 1 rfl rfl g5 dX11_odds_36 ?_
        refine lv_aload_n hx hb dX11_odds_37 rfl (lv_at hl 0 rfl) ?_
        refine va_get (D := G.1) (ci := 11) (v := .long q3.2) (C := RX11) (T := TX11) (N := 29) hx hb ht twX11 hown hK.1 hP 0 rfl rfl 22 (by decide) (ht _ kfl_X11_212) (fun _ h9 => h9) rfl dX11_odds_38 ?_
        refine lv_iload_n hx hb dX11_odds_41 rfl (lv_at hl 2 rfl) ?_
        obtain ⟨q6, r6, hf⟩ := bd_s hf
        refine ro_S (n := 3) (As := [.long (q3.1 a1.toNatClampNeg), .long q3.2, .int a2]) (rest := []) (c_X11_told l G (q3.1 a1.toNatClampNeg) q3.2 a2 q6 r6) C (hK.at hS hz) (hP.sub [] rfl) hl kcode_X11_told kml_X11_206 kst_X11_told kini_X11 (by decide +kernel) ⟨⟨rfl, rfl⟩, Nat.le_of_ble_eq_true rfl, Nat.le_of_ble_eq_true rfl⟩ ⟨Nat.zero_le _, Nat.zero_le _⟩ rfl rfl (Nat.le_of_ble_eq_true rfl) dX11_odds_42 rfl ?_
        have h9 := Option.some.inj hf
        subst h9
        exact rw_lret C rfl hP hD hS dX11_odds_45
      · have hf := o_t c4 hf
        refine lv_ldc2 hx hb hown (ht _ kcL_X11_220) dX11_odds_25 ?_
        refine lv_goto (tgt := 45) hx hb dX11_odds_28 (by decide) ?_
        have h9 := Option.some.inj hf
        subst h9
        exact rw_lret C rfl hP hD hS dX11_odds_45
    · have hf := o_t c2 hf
      refine lv_ldc2 hx hb hown (ht _ kcL_X11_210) dX11_odds_7 ?_
      have h9 := Option.some.inj hf
      subst h9
      exact rw_lret C rfl hP hD hS dX11_odds_10
  rw [eH, el] at key
  exact key
abbrev Wc_X11_bestOf (l : Launch) (G : TG) (mo : Nat → Nat) (mo_length : Int32) (mo_at : Int32) (mo_faultAt : Int32) (mo_parts : Int32) (mo_entries : Int32) (mo_ringEarth : Int32) (mo_lead : Int32) (mo_ring : Int32) (mo_jumpMany : Int32) (mo_curveEnd : Int32) (mo_beds : Int32) (mo_lots : Nat → Int64) (mo_all : Int64) (R : Int32) (p : Program) (e : Env) (s : State) (m : MethodId) (below : List Frame) (meth : Method) (c : Code) (H : Heap) (locs : List Loc) (g : JFrame) : Prop := W p l e ({ frames := 0, cells := 0, slots := 0, locals := 0 }) s m ([.ref (mo 0)] : List Value).toArray below meth c H locs 0 0 (MQ below (roQ (some (.int R))) ([.ref (mo 0)] : List Value).toArray s 0 0 (fun _ => False)) g
set_option maxHeartbeats 4000000 in
set_option maxRecDepth 100000 in
theorem c_X11_bestOf (l : Launch) (G : TG) (mo : Nat → Nat) (mo_length : Int32) (mo_at : Int32) (mo_faultAt : Int32) (mo_parts : Int32) (mo_entries : Int32) (mo_ringEarth : Int32) (mo_lead : Int32) (mo_ring : Int32) (mo_jumpMany : Int32) (mo_curveEnd : Int32) (mo_beds : Int32) (mo_lots : Nat → Int64) (mo_all : Int64) (R : Int32) (hf : f_X11_bestOf mo_lots = some R) : RO l yX11_bestOf cX11_bestOf 3 (some .int) ({ frames := 0, cells := 0, slots := 0, locals := 0 }) G [.ref (mo 0)] [(oX11 mo mo_length mo_at mo_faultAt mo_parts mo_entries mo_ringEarth mo_lead mo_ring mo_jumpMany mo_curveEnd mo_beds mo_all), (wJ G (mo 11) 4 mo_lots)] (some (.int R)) := by
  refine RO.mk (by decide +kernel) (Nat.le_of_ble_eq_true rfl) ?_
  intro p e s m below meth c ls C hP hK hl
  have hx := C.1
  have hb := C.2.1
  have hown : s.vm.findClass RX11 = some m.cls := C.2.2.2.2.2.1
  have ht := C.2.2.2.2.2.2
  have hl : lv_has ls 3 [(0, .ref (mo 0))] := hl
  show Wc_X11_bestOf l G mo mo_length mo_at mo_faultAt mo_parts mo_entries mo_ringEarth mo_lead mo_ring mo_jumpMany mo_curveEnd mo_beds mo_lots mo_all R p e s m below meth c s.heap [] (F0 m 0 ls [])
  refine lv_iconst (v := 0) hx hb dX11_bestOf_0 (by decide) ?_
  refine lv_istore_n (lv' := [(1, .int (0 : Int32)), (0, .ref (mo 0))]) hx hb dX11_bestOf_1 rfl hl (by decide) rfl (fun ls hl => ?_)
  refine lv_iconst (v := 1) hx hb dX11_bestOf_2 (by decide) ?_
  refine lv_istore_n (lv' := [(2, .int (1 : Int32)), (1, .int (0 : Int32)), (0, .ref (mo 0))]) hx hb dX11_bestOf_3 rfl hl (by decide) rfl (fun ls hl => ?_)
  have hx37_1 : ∀ (v1 : Int32) (ls : Array Slot), f_X11_bestOf_x37_1 v1 = some R → lv_has ls 3 [(1, .int v1)] → Wc_X11_bestOf l G mo mo_length mo_at mo_faultAt mo_parts mo_entries mo_ringEarth mo_lead mo_ring mo_jumpMany mo_curveEnd mo_beds mo_lots mo_all R p e s m below meth c s.heap [] (F0 m 37 ls []) := by
    intro v1 ls hf hl
    refine lv_iload_n hx hb dX11_bestOf_37 rfl (lv_at hl 0 rfl) ?_
    have h9 := Option.some.inj hf
    subst h9
    exact ro_iret C rfl dX11_bestOf_38
  obtain ⟨rL1, hL1, hk1⟩ := bd_s hf
  refine lp_W (P := fun st => ∀ (ls : Array Slot), lv_has ls 3 [(0, .ref (mo 0)), (1, .int st.1), (2, .int st.2)] → Wc_X11_bestOf l G mo mo_length mo_at mo_faultAt mo_parts mo_entries mo_ringEarth mo_lead mo_ring mo_jumpMany mo_curveEnd mo_beds mo_lots mo_all R p e s m below meth c s.heap [] (F0 m 4 ls [])) ?_ FU ((0 : Int32), (1 : Int32)) hL1 ls (lv_sub hl [2, 1, 0] rfl)
  intro ⟨v1, v2⟩ oc1 hf hI hE ls hl
  have hl : lv_has ls 3 [(0, .ref (mo 0)), (1, .int v1), (2, .int v2)] := hl
  have hf : f_X11_bestOf_b4 mo_lots v1 v2 = some oc1 := hf
  refine lv_iload_n hx hb dX11_bestOf_4 rfl (lv_at hl 2 rfl) ?_
  refine lv_iconst (v := 4) hx hb dX11_bestOf_5 (by decide) ?_
  refine lv_icmp_ge (tgt := 37) hx hb dX11_bestOf_6 (by decide) (fun c3 => ?_) (fun c3 => ?_)
  · have hf := o_t c3 hf
    cases hf
    have hf : f_X11_bestOf_x37_1 v1 = some R := by have h9 := hk1; rw [← hE _ rfl] at h9; exact h9
    exact hx37_1 v1 ls hf (lv_sub hl [1] rfl)
  · have hf := o_f c3 hf
    refine lv_aload_n hx hb dX11_bestOf_9 rfl (lv_at hl 0 rfl) ?_
    refine va_get (D := G.1) (ci := 11) (v := .ref (mo 11)) (C := RX11) (T := TX11) (N := 29) hx hb ht twX11 hown hK.1 hP 0 rfl rfl 21 (by decide) (ht _ kfl_X11_40) (fun _ h9 => h9) rfl dX11_bestOf_10 ?_
    refine lv_iload_n hx hb dX11_bestOf_13 rfl (lv_at hl 2 rfl) ?_
    obtain ⟨g4, hf⟩ := gd_s hf
    refine va_lald hx hb hK.1 hP 1 1 rfl rfl g4 dX11_bestOf_14 ?_
    refine lv_aload_n hx hb dX11_bestOf_15 rfl (lv_at hl 0 rfl) ?_
    refine va_get (D := G.1) (ci := 11) (v := .ref (mo 11)) (C := RX11) (T := TX11) (N := 29) hx hb ht twX11 hown hK.1 hP 0 rfl rfl 21 (by decide) (ht _ kfl_X11_40) (fun _ h9 => h9) rfl dX11_bestOf_16 ?_
    refine lv_iload_n hx hb dX11_bestOf_19 rfl (lv_at hl 1 rfl) ?_
    obtain ⟨g5, hf⟩ := gd_s hf
    refine va_lald hx hb hK.1 hP 1 1 rfl rfl g5 dX11_bestOf_20 ?_
    refine W.lcmp hx hb dX11_bestOf_21 ?_
    refine lv_if_le (tgt := 29) hx hb dX11_bestOf_22 (by decide) (fun c6 => ?_) (fun c6 => ?_)
    · have hf := o_t c6 hf
      refine lv_iload_n hx hb dX11_bestOf_29 rfl (lv_at hl 1 rfl) ?_
      refine lv_istore_n (lv' := [(1, .int v1), (0, .ref (mo 0)), (2, .int v2)]) hx hb dX11_bestOf_30 rfl hl (by decide) rfl (fun ls hl => ?_)
      refine lv_iinc (v := (v2 + (1 : Int32))) (lv' := [(2, .int (v2 + (1 : Int32))), (1, .int v1), (0, .ref (mo 0))]) hx hb dX11_bestOf_31 hl (k := 2) rfl (by rfl) (by decide) rfl (fun ls hl => ?_)
      refine lv_goto (tgt := 4) hx hb dX11_bestOf_34 (by decide) ?_
      cases hf
      exact hI _ rfl ls (lv_sub hl [2, 1, 0] rfl)
    · have hf := o_f c6 hf
      refine lv_iload_n hx hb dX11_bestOf_25 rfl (lv_at hl 2 rfl) ?_
      refine lv_goto (tgt := 30) hx hb dX11_bestOf_26 (by decide) ?_
      refine lv_istore_n (lv' := [(1, .int v2), (0, .ref (mo 0)), (2, .int v2)]) hx hb dX11_bestOf_30 rfl hl (by decide) rfl (fun ls hl => ?_)
      refine lv_iinc (v := (v2 + (1 : Int32))) (lv' := [(2, .int (v2 + (1 : Int32))), (1, .int v2), (0, .ref (mo 0))]) hx hb dX11_bestOf_31 hl (k := 2) rfl (by rfl) (by decide) rfl (fun ls hl => ?_)
      refine lv_goto (tgt := 4) hx hb dX11_bestOf_34 (by decide) ?_
      cases hf
      exact hI _ rfl ls (lv_sub hl [2, 1, 0] rfl)
abbrev Wc_X11_best (l : Launch) (G : TG) (mo : Nat → Nat) (mo_length : Int32) (mo_at : Int32) (mo_faultAt : Int32) (mo_parts : Int32) (mo_entries : Int32) (mo_stories : Nat → Int32) (mo_weights : Nat → Int32) (mo_ringEarth : Int32) (mo_lead : Int32) (mo_ring : Int32) (mo_jumpMany : Int32) (mo_curveEnd : Int32) (mo_beds : Int32) (mo_bed : Nat → Int32) (mo_lots : Nat → Int64) (mo_all : Int64) (R : Int32 × (Nat → Int64) × Int64) (p : Program) (e : Env) (s : State) (m : MethodId) (below : List Frame) (meth : Method) (c : Code) (A : Nat → Prop) (H : Heap) (locs : List Loc) (g : JFrame) : Prop := W p l e ({ frames := 3, cells := 0, slots := 0, locals := 74 }) s m ([.ref (mo 0)] : List Value).toArray below meth c H locs 0 0 (MQ below (rwQ G (some (.int R.1)) [(oX11 mo mo_length mo_at mo_faultAt mo_parts mo_entries mo_ringEarth mo_lead mo_ring mo_jumpMany mo_curveEnd mo_beds R.2.2), (wI G (mo 6) 400 mo_stories), (wI G (mo 7) 4 mo_weights), (wI G (mo 10) 48 mo_bed), (wJ G (mo 11) 4 R.2.1)] A) ([.ref (mo 0)] : List Value).toArray s 0 0 A) g
set_option maxHeartbeats 4000000 in
set_option maxRecDepth 100000 in
theorem c_X11_best (l : Launch) (G : TG) (mo : Nat → Nat) (mo_length : Int32) (mo_at : Int32) (mo_faultAt : Int32) (mo_parts : Int32) (mo_entries : Int32) (mo_stories : Nat → Int32) (mo_weights : Nat → Int32) (mo_ringEarth : Int32) (mo_lead : Int32) (mo_ring : Int32) (mo_jumpMany : Int32) (mo_curveEnd : Int32) (mo_beds : Int32) (mo_bed : Nat → Int32) (mo_lots : Nat → Int64) (mo_all : Int64) (R : Int32 × (Nat → Int64) × Int64) (hf : f_X11_best mo_stories mo_weights mo_beds mo_bed mo_lots = some R) : RW l yX11_best cX11_best 1 (some .int) ({ frames := 3, cells := 0, slots := 0, locals := 74 }) G [.ref (mo 0)] [(oX11 mo mo_length mo_at mo_faultAt mo_parts mo_entries mo_ringEarth mo_lead mo_ring mo_jumpMany mo_curveEnd mo_beds mo_all), (wI G (mo 6) 400 mo_stories), (wI G (mo 7) 4 mo_weights), (wI G (mo 10) 48 mo_bed), (wJ G (mo 11) 4 mo_lots)] (some (.int R.1)) [(oX11 mo mo_length mo_at mo_faultAt mo_parts mo_entries mo_ringEarth mo_lead mo_ring mo_jumpMany mo_curveEnd mo_beds R.2.2), (wI G (mo 6) 400 mo_stories), (wI G (mo 7) 4 mo_weights), (wI G (mo 10) 48 mo_bed), (wJ G (mo 11) 4 R.2.1)] := by
  refine RW.mk (by decide +kernel) (Nat.le_of_ble_eq_true rfl) ?_
  intro p e s m below meth c ls A C hP hD hA hz hK hl hS
  have hx := C.1
  have hb := C.2.1
  have hown : s.vm.findClass RX11 = some m.cls := C.2.2.2.2.2.1
  have ht := C.2.2.2.2.2.2
  have hl : lv_has ls 1 [(0, .ref (mo 0))] := hl
  show Wc_X11_best l G mo mo_length mo_at mo_faultAt mo_parts mo_entries mo_stories mo_weights mo_ringEarth mo_lead mo_ring mo_jumpMany mo_curveEnd mo_beds mo_bed mo_lots mo_all R p e s m below meth c A s.heap [] (F0 m 0 ls [])
  obtain ⟨H, eH, hP, hS⟩ : ∃ H, H = s.heap ∧ va_P G.1 vwCl [(oX11 mo mo_length mo_at mo_faultAt mo_parts mo_entries mo_ringEarth mo_lead mo_ring mo_jumpMany mo_curveEnd mo_beds mo_all), (wI G (mo 6) 400 mo_stories), (wI G (mo 7) 4 mo_weights), (wI G (mo 10) 48 mo_bed), (wJ G (mo 11) 4 mo_lots)] H ∧ va_S A s.heap H [] := ⟨_, rfl, hP, hS⟩
  obtain ⟨locs, el, hS⟩ : ∃ locs : List Loc, locs = [] ∧ va_S A s.heap H locs := ⟨_, rfl, hS⟩
  have key : Wc_X11_best l G mo mo_length mo_at mo_faultAt mo_parts mo_entries mo_stories mo_weights mo_ringEarth mo_lead mo_ring mo_jumpMany mo_curveEnd mo_beds mo_bed mo_lots mo_all R p e s m below meth c A H locs (F0 m 0 ls []) := by
    refine lv_aload_n hx hb dX11_best_0 rfl (lv_at hl 0 rfl) ?_
    refine lv_iconst (v := -1) hx hb dX11_best_1 (by decide) ?_
    obtain ⟨q1, r1, hf⟩ := bd_s hf
    refine rw_V (n := 1) (As := [.int (-1 : Int32)]) (rest := []) (wr := []) (ws2 := [(oX11 mo mo_length mo_at mo_faultAt mo_parts mo_entries mo_ringEarth mo_lead mo_ring mo_jumpMany mo_curveEnd mo_beds q1.2), (wI G (mo 6) 400 mo_stories), (wI G (mo 7) 4 mo_weights), (wI G (mo 10) 48 mo_bed), (wJ G (mo 11) 4 q1.1)]) (c_X11_layLots l G mo mo_length mo_at mo_faultAt mo_parts mo_entries mo_stories mo_weights mo_ringEarth mo_lead mo_ring mo_jumpMany mo_curveEnd mo_beds mo_bed mo_lots mo_all (-1 : Int32) q1 r1) C hK hP hD hS hA hz hl [0, 1, 2, 3, 4] [] [0, 1, 2, 3, 4] rfl rfl rfl rfl rfl (by decide) rfl rfl rfl kcode_X11_layLots kml_X11_216 kim_X11_layLots ksel_X11_layLots kini_X11 (by decide +kernel) ⟨⟨rfl, rfl⟩, Nat.le_of_ble_eq_true rfl, Nat.le_of_ble_eq_true rfl⟩ ⟨Nat.zero_le _, Nat.zero_le _⟩ rfl rfl rfl rfl rfl (Nat.le_of_ble_eq_true rfl) dX11_best_2 rfl (fun H locs hP hD hS => ?_)
    refine lv_aload_n hx hb dX11_best_5 rfl (lv_at hl 0 rfl) ?_
    refine va_get (D := G.1) (ci := 11) (v := .long q1.2) (C := RX11) (T := TX11) (N := 29) hx hb ht twX11 hown hK.1 hP 0 rfl rfl 22 (by decide) (ht _ kfl_X11_212) (fun _ h9 => h9) rfl dX11_best_6 ?_
    refine lv_lconst (v := 0) hx hb dX11_best_9 (by decide) ?_
    refine W.lcmp hx hb dX11_best_10 ?_
    refine lv_if_ne (tgt := 19) hx hb dX11_best_11 (by decide) (fun c2 => ?_) (fun c2 => ?_)
    · have hf := o_f c2 hf
      refine lv_aload_n hx hb dX11_best_19 rfl (lv_at hl 0 rfl) ?_
      obtain ⟨q3, r3, hf⟩ := bd_s hf
      refine ro_V (n := 0) (As := []) (rest := []) (c_X11_bestOf l G mo mo_length mo_at mo_faultAt mo_parts mo_entries mo_ringEarth mo_lead mo_ring mo_jumpMany mo_curveEnd mo_beds q1.1 q1.2 q3 r3) C (hK.at hS hz) (hP.sub [0, 4] rfl) hl kcode_X11_bestOf kml_X11_222 kim_X11_bestOf ksel_X11_bestOf kini_X11 (by decide +kernel) ⟨⟨rfl, rfl⟩, Nat.le_of_ble_eq_true rfl, Nat.le_of_ble_eq_true rfl⟩ ⟨Nat.zero_le _, Nat.zero_le _⟩ rfl rfl rfl rfl rfl (Nat.le_of_ble_eq_true rfl) dX11_best_20 rfl ?_
      have h9 := Option.some.inj hf
      subst h9
      exact rw_iret C rfl hP hD hS dX11_best_23
    · have hf := o_t c2 hf
      refine lv_bipush (v := -3) hx hb dX11_best_14 (by decide) ?_
      refine lv_goto (tgt := 23) hx hb dX11_best_16 (by decide) ?_
      have h9 := Option.some.inj hf
      subst h9
      exact rw_iret C rfl hP hD hS dX11_best_23
  rw [eH, el] at key
  exact key
abbrev Wc_X11_millionths (l : Launch) (G : TG) (mo : Nat → Nat) (mo_length : Int32) (mo_at : Int32) (mo_faultAt : Int32) (mo_parts : Int32) (mo_entries : Int32) (mo_ringEarth : Int32) (mo_lead : Int32) (mo_ring : Int32) (mo_jumpMany : Int32) (mo_curveEnd : Int32) (mo_beds : Int32) (mo_lots : Nat → Int64) (mo_all : Int64) (a1 : Int32) (R : Int32) (p : Program) (e : Env) (s : State) (m : MethodId) (below : List Frame) (meth : Method) (c : Code) (H : Heap) (locs : List Loc) (g : JFrame) : Prop := W p l e ({ frames := 0, cells := 0, slots := 0, locals := 0 }) s m ([.ref (mo 0), .int a1] : List Value).toArray below meth c H locs 0 0 (MQ below (roQ (some (.int R))) ([.ref (mo 0), .int a1] : List Value).toArray s 0 0 (fun _ => False)) g
set_option maxHeartbeats 4000000 in
set_option maxRecDepth 100000 in
theorem c_X11_millionths (l : Launch) (G : TG) (mo : Nat → Nat) (mo_length : Int32) (mo_at : Int32) (mo_faultAt : Int32) (mo_parts : Int32) (mo_entries : Int32) (mo_ringEarth : Int32) (mo_lead : Int32) (mo_ring : Int32) (mo_jumpMany : Int32) (mo_curveEnd : Int32) (mo_beds : Int32) (mo_lots : Nat → Int64) (mo_all : Int64) (a1 : Int32) (R : Int32) (hf : f_X11_millionths mo_lots mo_all a1 = some R) : RO l yX11_millionths cX11_millionths 6 (some .int) ({ frames := 0, cells := 0, slots := 0, locals := 0 }) G [.ref (mo 0), .int a1] [(oX11 mo mo_length mo_at mo_faultAt mo_parts mo_entries mo_ringEarth mo_lead mo_ring mo_jumpMany mo_curveEnd mo_beds mo_all), (wJ G (mo 11) 4 mo_lots)] (some (.int R)) := by
  refine RO.mk (by decide +kernel) (Nat.le_of_ble_eq_true rfl) ?_
  intro p e s m below meth c ls C hP hK hl
  have hx := C.1
  have hb := C.2.1
  have hown : s.vm.findClass RX11 = some m.cls := C.2.2.2.2.2.1
  have ht := C.2.2.2.2.2.2
  have hl : lv_has ls 6 [(0, .ref (mo 0)), (1, .int a1)] := hl
  show Wc_X11_millionths l G mo mo_length mo_at mo_faultAt mo_parts mo_entries mo_ringEarth mo_lead mo_ring mo_jumpMany mo_curveEnd mo_beds mo_lots mo_all a1 R p e s m below meth c s.heap [] (F0 m 0 ls [])
  refine lv_aload_n hx hb dX11_millionths_0 rfl (lv_at hl 0 rfl) ?_
  refine va_get (D := G.1) (ci := 11) (v := .long mo_all) (C := RX11) (T := TX11) (N := 29) hx hb ht twX11 hown hK.1 hP 0 rfl rfl 22 (by decide) (ht _ kfl_X11_212) (fun _ h9 => h9) rfl dX11_millionths_1 ?_
  refine lv_lconst (v := 0) hx hb dX11_millionths_4 (by decide) ?_
  refine W.lcmp hx hb dX11_millionths_5 ?_
  refine lv_if_ne (tgt := 11) hx hb dX11_millionths_6 (by decide) (fun c1 => ?_) (fun c1 => ?_)
  · have hf := o_f c1 hf
    refine lv_aload_n hx hb dX11_millionths_11 rfl (lv_at hl 0 rfl) ?_
    refine va_get (D := G.1) (ci := 11) (v := .ref (mo 11)) (C := RX11) (T := TX11) (N := 29) hx hb ht twX11 hown hK.1 hP 0 rfl rfl 21 (by decide) (ht _ kfl_X11_40) (fun _ h9 => h9) rfl dX11_millionths_12 ?_
    refine lv_iload_n hx hb dX11_millionths_15 rfl (lv_at hl 1 rfl) ?_
    obtain ⟨g2, hf⟩ := gd_s hf
    refine va_lald hx hb hK.1 hP 1 1 rfl rfl g2 dX11_millionths_16 ?_
    refine lv_aload_n hx hb dX11_millionths_17 rfl (lv_at hl 0 rfl) ?_
    refine va_get (D := G.1) (ci := 11) (v := .long mo_all) (C := RX11) (T := TX11) (N := 29) hx hb ht twX11 hown hK.1 hP 0 rfl rfl 22 (by decide) (ht _ kfl_X11_212) (fun _ h9 => h9) rfl dX11_millionths_18 ?_
    obtain ⟨n3, hf⟩ := dzL_s hf
    refine lv_lrem hx hb dX11_millionths_21 n3 ?_
    obtain ⟨u4, e4, hf⟩ := bd_s hf
    refine lv_reL (Option.some.inj e4).symm ?_
    refine lv_lstore_n (lv' := [(2, .long u4), (0, .ref (mo 0)), (1, .int a1)]) hx hb dX11_millionths_22 rfl hl (by decide) rfl (fun ls hl => ?_)
    refine lv_aload_n hx hb dX11_millionths_23 rfl (lv_at hl 1 rfl) ?_
    refine va_get (D := G.1) (ci := 11) (v := .ref (mo 11)) (C := RX11) (T := TX11) (N := 29) hx hb ht twX11 hown hK.1 hP 0 rfl rfl 21 (by decide) (ht _ kfl_X11_40) (fun _ h9 => h9) rfl dX11_millionths_24 ?_
    refine lv_iload_n hx hb dX11_millionths_27 rfl (lv_at hl 2 rfl) ?_
    obtain ⟨g5, hf⟩ := gd_s hf
    refine va_lald hx hb hK.1 hP 1 1 rfl rfl g5 dX11_millionths_28 ?_
    refine lv_aload_n hx hb dX11_millionths_29 rfl (lv_at hl 1 rfl) ?_
    refine va_get (D := G.1) (ci := 11) (v := .long mo_all) (C := RX11) (T := TX11) (N := 29) hx hb ht twX11 hown hK.1 hP 0 rfl rfl 22 (by decide) (ht _ kfl_X11_212) (fun _ h9 => h9) rfl dX11_millionths_30 ?_
    obtain ⟨n6, hf⟩ := dzL_s hf
    refine lv_ldiv hx hb dX11_millionths_33 n6 ?_
    refine lv_l2i (v := (((mo_lots a1.toNatClampNeg) / mo_all).toInt32)) hx hb dX11_millionths_34 rfl ?_
    obtain ⟨u7, e7, hf⟩ := bd_s hf
    refine lv_re (Option.some.inj e7).symm ?_
    refine lv_istore (lv' := [(4, .int u7), (2, .long u4), (0, .ref (mo 0)), (1, .int a1)]) hx hb dX11_millionths_35 hl (by decide) rfl (fun ls hl => ?_)
    refine lv_iconst (v := 0) hx hb dX11_millionths_37 (by decide) ?_
    refine lv_istore (lv' := [(5, .int (0 : Int32)), (4, .int u7), (2, .long u4), (0, .ref (mo 0)), (1, .int a1)]) hx hb dX11_millionths_38 hl (by decide) rfl (fun ls hl => ?_)
    have hx81_8 : ∀ (v4 : Int32) (ls : Array Slot), f_X11_millionths_x81_8 v4 = some R → lv_has ls 6 [(4, .int v4)] → Wc_X11_millionths l G mo mo_length mo_at mo_faultAt mo_parts mo_entries mo_ringEarth mo_lead mo_ring mo_jumpMany mo_curveEnd mo_beds mo_lots mo_all a1 R p e s m below meth c s.heap [] (F0 m 81 ls []) := by
      intro v4 ls hf hl
      refine lv_iload hx hb dX11_millionths_81 (lv_at hl 0 rfl) ?_
      have h9 := Option.some.inj hf
      subst h9
      exact ro_iret C rfl dX11_millionths_83
    obtain ⟨rL8, hL8, hk8⟩ := bd_s hf
    refine lp_W (P := fun st => ∀ (ls : Array Slot), lv_has ls 6 [(0, .ref (mo 0)), (2, .long st.1), (4, .int st.2.1), (5, .int st.2.2)] → Wc_X11_millionths l G mo mo_length mo_at mo_faultAt mo_parts mo_entries mo_ringEarth mo_lead mo_ring mo_jumpMany mo_curveEnd mo_beds mo_lots mo_all a1 R p e s m below meth c s.heap [] (F0 m 40 ls [])) ?_ FU (u4, u7, (0 : Int32)) hL8 ls (lv_sub hl [3, 2, 1, 0] rfl)
    intro ⟨v2, v4, v5⟩ oc8 hf hI hE ls hl
    have hl : lv_has ls 6 [(0, .ref (mo 0)), (2, .long v2), (4, .int v4), (5, .int v5)] := hl
    have hf : f_X11_millionths_b40 mo_all v2 v4 v5 = some oc8 := hf
    refine lv_iload hx hb dX11_millionths_40 (lv_at hl 3 rfl) ?_
    refine lv_bipush (v := 6) hx hb dX11_millionths_42 (by decide) ?_
    refine lv_icmp_ge (tgt := 81) hx hb dX11_millionths_44 (by decide) (fun c10 => ?_) (fun c10 => ?_)
    · have hf := o_t c10 hf
      cases hf
      have hf : f_X11_millionths_x81_8 v4 = some R := by have h9 := hk8; rw [← hE _ rfl] at h9; exact h9
      exact hx81_8 v4 ls hf (lv_sub hl [2] rfl)
    · have hf := o_f c10 hf
      refine lv_lload_n hx hb dX11_millionths_47 rfl (lv_at hl 1 rfl) ?_
      refine lv_ldc2 hx hb hown (ht _ kcL_X11_185) dX11_millionths_48 ?_
      refine lv_lmul hx hb dX11_millionths_51 ?_
      refine lv_lstore_n (lv' := [(2, .long (v2 * (10 : Int64))), (0, .ref (mo 0)), (4, .int v4), (5, .int v5)]) hx hb dX11_millionths_52 rfl hl (by decide) rfl (fun ls hl => ?_)
      refine lv_bipush (v := 10) hx hb dX11_millionths_53 (by decide) ?_
      refine lv_iload hx hb dX11_millionths_55 (lv_at hl 2 rfl) ?_
      refine lv_imul hx hb dX11_millionths_57 ?_
      refine lv_lload_n hx hb dX11_millionths_58 rfl (lv_at hl 0 rfl) ?_
      refine lv_aload_n hx hb dX11_millionths_59 rfl (lv_at hl 1 rfl) ?_
      refine va_get (D := G.1) (ci := 11) (v := .long mo_all) (C := RX11) (T := TX11) (N := 29) hx hb ht twX11 hown hK.1 hP 0 rfl rfl 22 (by decide) (ht _ kfl_X11_212) (fun _ h9 => h9) rfl dX11_millionths_60 ?_
      obtain ⟨n11, hf⟩ := dzL_s hf
      refine lv_ldiv hx hb dX11_millionths_63 n11 ?_
      refine lv_l2i (v := (((v2 * (10 : Int64)) / mo_all).toInt32)) hx hb dX11_millionths_64 rfl ?_
      refine lv_iadd hx hb dX11_millionths_65 ?_
      obtain ⟨u12, e12, hf⟩ := bd_s hf
      refine lv_re (Option.some.inj e12).symm ?_
      refine lv_istore (lv' := [(4, .int u12), (2, .long (v2 * (10 : Int64))), (0, .ref (mo 0)), (5, .int v5)]) hx hb dX11_millionths_66 hl (by decide) rfl (fun ls hl => ?_)
      refine lv_lload_n hx hb dX11_millionths_68 rfl (lv_at hl 1 rfl) ?_
      refine lv_aload_n hx hb dX11_millionths_69 rfl (lv_at hl 2 rfl) ?_
      refine va_get (D := G.1) (ci := 11) (v := .long mo_all) (C := RX11) (T := TX11) (N := 29) hx hb ht twX11 hown hK.1 hP 0 rfl rfl 22 (by decide) (ht _ kfl_X11_212) (fun _ h9 => h9) rfl dX11_millionths_70 ?_
      obtain ⟨n13, hf⟩ := dzL_s hf
      refine lv_lrem hx hb dX11_millionths_73 n13 ?_
      obtain ⟨u14, e14, hf⟩ := bd_s hf
      refine lv_reL (Option.some.inj e14).symm ?_
      refine lv_lstore_n (lv' := [(2, .long u14), (4, .int u12), (0, .ref (mo 0)), (5, .int v5)]) hx hb dX11_millionths_74 rfl hl (by decide) rfl (fun ls hl => ?_)
      refine lv_iinc (v := (v5 + (1 : Int32))) (lv' := [(5, .int (v5 + (1 : Int32))), (2, .long u14), (4, .int u12), (0, .ref (mo 0))]) hx hb dX11_millionths_75 hl (k := 3) rfl (by rfl) (by decide) rfl (fun ls hl => ?_)
      refine lv_goto (tgt := 40) hx hb dX11_millionths_78 (by decide) ?_
      cases hf
      exact hI _ rfl ls (lv_sub hl [3, 1, 2, 0] rfl)
  · have hf := o_t c1 hf
    refine lv_iconst (v := 0) hx hb dX11_millionths_9 (by decide) ?_
    have h9 := Option.some.inj hf
    subst h9
    exact ro_iret C rfl dX11_millionths_10
abbrev Wc_X11_mover (l : Launch) (G : TG) (mo : Nat → Nat) (mo_length : Int32) (mo_at : Int32) (mo_faultAt : Int32) (mo_parts : Int32) (mo_entries : Int32) (mo_stories : Nat → Int32) (mo_weights : Nat → Int32) (mo_ringEarth : Int32) (mo_lead : Int32) (mo_ring : Int32) (mo_jumpMany : Int32) (mo_curveEnd : Int32) (mo_beds : Int32) (mo_bed : Nat → Int32) (mo_lots : Nat → Int64) (mo_all : Int64) (R : Int32 × (Nat → Int64) × Int64) (p : Program) (e : Env) (s : State) (m : MethodId) (below : List Frame) (meth : Method) (c : Code) (A : Nat → Prop) (H : Heap) (locs : List Loc) (g : JFrame) : Prop := W p l e ({ frames := 3, cells := 0, slots := 0, locals := 74 }) s m ([.ref (mo 0)] : List Value).toArray below meth c H locs 0 0 (MQ below (rwQ G (some (.int R.1)) [(oX11 mo mo_length mo_at mo_faultAt mo_parts mo_entries mo_ringEarth mo_lead mo_ring mo_jumpMany mo_curveEnd mo_beds R.2.2), (wI G (mo 6) 400 mo_stories), (wI G (mo 7) 4 mo_weights), (wI G (mo 10) 48 mo_bed), (wJ G (mo 11) 4 R.2.1)] A) ([.ref (mo 0)] : List Value).toArray s 0 0 A) g
set_option maxHeartbeats 4000000 in
set_option maxRecDepth 100000 in
theorem c_X11_mover (l : Launch) (G : TG) (mo : Nat → Nat) (mo_length : Int32) (mo_at : Int32) (mo_faultAt : Int32) (mo_parts : Int32) (mo_entries : Int32) (mo_stories : Nat → Int32) (mo_weights : Nat → Int32) (mo_ringEarth : Int32) (mo_lead : Int32) (mo_ring : Int32) (mo_jumpMany : Int32) (mo_curveEnd : Int32) (mo_beds : Int32) (mo_bed : Nat → Int32) (mo_lots : Nat → Int64) (mo_all : Int64) (R : Int32 × (Nat → Int64) × Int64) (hf : f_X11_mover mo_stories mo_weights mo_beds mo_bed mo_lots = some R) : RW l yX11_mover cX11_mover 7 (some .int) ({ frames := 3, cells := 0, slots := 0, locals := 74 }) G [.ref (mo 0)] [(oX11 mo mo_length mo_at mo_faultAt mo_parts mo_entries mo_ringEarth mo_lead mo_ring mo_jumpMany mo_curveEnd mo_beds mo_all), (wI G (mo 6) 400 mo_stories), (wI G (mo 7) 4 mo_weights), (wI G (mo 10) 48 mo_bed), (wJ G (mo 11) 4 mo_lots)] (some (.int R.1)) [(oX11 mo mo_length mo_at mo_faultAt mo_parts mo_entries mo_ringEarth mo_lead mo_ring mo_jumpMany mo_curveEnd mo_beds R.2.2), (wI G (mo 6) 400 mo_stories), (wI G (mo 7) 4 mo_weights), (wI G (mo 10) 48 mo_bed), (wJ G (mo 11) 4 R.2.1)] := by
  refine RW.mk (by decide +kernel) (Nat.le_of_ble_eq_true rfl) ?_
  intro p e s m below meth c ls A C hP hD hA hz hK hl hS
  have hx := C.1
  have hb := C.2.1
  have hown : s.vm.findClass RX11 = some m.cls := C.2.2.2.2.2.1
  have ht := C.2.2.2.2.2.2
  have hl : lv_has ls 7 [(0, .ref (mo 0))] := hl
  show Wc_X11_mover l G mo mo_length mo_at mo_faultAt mo_parts mo_entries mo_stories mo_weights mo_ringEarth mo_lead mo_ring mo_jumpMany mo_curveEnd mo_beds mo_bed mo_lots mo_all R p e s m below meth c A s.heap [] (F0 m 0 ls [])
  obtain ⟨H, eH, hP, hS⟩ : ∃ H, H = s.heap ∧ va_P G.1 vwCl [(oX11 mo mo_length mo_at mo_faultAt mo_parts mo_entries mo_ringEarth mo_lead mo_ring mo_jumpMany mo_curveEnd mo_beds mo_all), (wI G (mo 6) 400 mo_stories), (wI G (mo 7) 4 mo_weights), (wI G (mo 10) 48 mo_bed), (wJ G (mo 11) 4 mo_lots)] H ∧ va_S A s.heap H [] := ⟨_, rfl, hP, hS⟩
  obtain ⟨locs, el, hS⟩ : ∃ locs : List Loc, locs = [] ∧ va_S A s.heap H locs := ⟨_, rfl, hS⟩
  have key : Wc_X11_mover l G mo mo_length mo_at mo_faultAt mo_parts mo_entries mo_stories mo_weights mo_ringEarth mo_lead mo_ring mo_jumpMany mo_curveEnd mo_beds mo_bed mo_lots mo_all R p e s m below meth c A H locs (F0 m 0 ls []) := by
    refine lv_aload_n hx hb dX11_mover_0 rfl (lv_at hl 0 rfl) ?_
    refine lv_iconst (v := -1) hx hb dX11_mover_1 (by decide) ?_
    obtain ⟨q1, r1, hf⟩ := bd_s hf
    refine rw_V (n := 1) (As := [.int (-1 : Int32)]) (rest := []) (wr := []) (ws2 := [(oX11 mo mo_length mo_at mo_faultAt mo_parts mo_entries mo_ringEarth mo_lead mo_ring mo_jumpMany mo_curveEnd mo_beds q1.2), (wI G (mo 6) 400 mo_stories), (wI G (mo 7) 4 mo_weights), (wI G (mo 10) 48 mo_bed), (wJ G (mo 11) 4 q1.1)]) (c_X11_layLots l G mo mo_length mo_at mo_faultAt mo_parts mo_entries mo_stories mo_weights mo_ringEarth mo_lead mo_ring mo_jumpMany mo_curveEnd mo_beds mo_bed mo_lots mo_all (-1 : Int32) q1 r1) C hK hP hD hS hA hz hl [0, 1, 2, 3, 4] [] [0, 1, 2, 3, 4] rfl rfl rfl rfl rfl (by decide) rfl rfl rfl kcode_X11_layLots kml_X11_216 kim_X11_layLots ksel_X11_layLots kini_X11 (by decide +kernel) ⟨⟨rfl, rfl⟩, Nat.le_of_ble_eq_true rfl, Nat.le_of_ble_eq_true rfl⟩ ⟨Nat.zero_le _, Nat.zero_le _⟩ rfl rfl rfl rfl rfl (Nat.le_of_ble_eq_true rfl) dX11_mover_2 rfl (fun H locs hP hD hS => ?_)
    refine lv_aload_n hx hb dX11_mover_5 rfl (lv_at hl 0 rfl) ?_
    refine va_get (D := G.1) (ci := 11) (v := .long q1.2) (C := RX11) (T := TX11) (N := 29) hx hb ht twX11 hown hK.1 hP 0 rfl rfl 22 (by decide) (ht _ kfl_X11_212) (fun _ h9 => h9) rfl dX11_mover_6 ?_
    refine lv_lconst (v := 0) hx hb dX11_mover_9 (by decide) ?_
    refine W.lcmp hx hb dX11_mover_10 ?_
    refine lv_if_ne (tgt := 17) hx hb dX11_mover_11 (by decide) (fun c2 => ?_) (fun c2 => ?_)
    · have hf := o_f c2 hf
      refine lv_aload_n hx hb dX11_mover_17 rfl (lv_at hl 0 rfl) ?_
      obtain ⟨q3, r3, hf⟩ := bd_s hf
      refine ro_V (n := 0) (As := []) (rest := []) (c_X11_bestOf l G mo mo_length mo_at mo_faultAt mo_parts mo_entries mo_ringEarth mo_lead mo_ring mo_jumpMany mo_curveEnd mo_beds q1.1 q1.2 q3 r3) C (hK.at hS hz) (hP.sub [0, 4] rfl) hl kcode_X11_bestOf kml_X11_222 kim_X11_bestOf ksel_X11_bestOf kini_X11 (by decide +kernel) ⟨⟨rfl, rfl⟩, Nat.le_of_ble_eq_true rfl, Nat.le_of_ble_eq_true rfl⟩ ⟨Nat.zero_le _, Nat.zero_le _⟩ rfl rfl rfl rfl rfl (Nat.le_of_ble_eq_true rfl) dX11_mover_18 rfl ?_
      refine lv_istore_n (lv' := [(1, .int q3), (0, .ref (mo 0))]) hx hb dX11_mover_21 rfl hl (by decide) rfl (fun ls hl => ?_)
      refine lv_aload_n hx hb dX11_mover_22 rfl (lv_at hl 1 rfl) ?_
      refine lv_iload_n hx hb dX11_mover_23 rfl (lv_at hl 0 rfl) ?_
      obtain ⟨q4, r4, hf⟩ := bd_s hf
      refine ro_V (n := 1) (As := [.int q3]) (rest := []) (c_X11_millionths l G mo mo_length mo_at mo_faultAt mo_parts mo_entries mo_ringEarth mo_lead mo_ring mo_jumpMany mo_curveEnd mo_beds q1.1 q1.2 q3 q4 r4) C (hK.at hS hz) (hP.sub [0, 4] rfl) hl kcode_X11_millionths kml_X11_225 kim_X11_millionths ksel_X11_millionths kini_X11 (by decide +kernel) ⟨⟨rfl, rfl⟩, Nat.le_of_ble_eq_true rfl, Nat.le_of_ble_eq_true rfl⟩ ⟨Nat.zero_le _, Nat.zero_le _⟩ rfl rfl rfl rfl rfl (Nat.le_of_ble_eq_true rfl) dX11_mover_24 rfl ?_
      refine lv_istore_n (lv' := [(2, .int q4), (1, .int q3), (0, .ref (mo 0))]) hx hb dX11_mover_27 rfl hl (by decide) rfl (fun ls hl => ?_)
      refine lv_bipush (v := -9) hx hb dX11_mover_28 (by decide) ?_
      refine lv_istore_n (lv' := [(3, .int (-9 : Int32)), (2, .int q4), (1, .int q3), (0, .ref (mo 0))]) hx hb dX11_mover_30 rfl hl (by decide) rfl (fun ls hl => ?_)
      refine lv_iconst (v := -1) hx hb dX11_mover_31 (by decide) ?_
      refine lv_istore (lv' := [(4, .int (-1 : Int32)), (3, .int (-9 : Int32)), (2, .int q4), (1, .int q3), (0, .ref (mo 0))]) hx hb dX11_mover_32 hl (by decide) rfl (fun ls hl => ?_)
      refine lv_iconst (v := 0) hx hb dX11_mover_34 (by decide) ?_
      refine lv_istore (lv' := [(5, .int (0 : Int32)), (4, .int (-1 : Int32)), (3, .int (-9 : Int32)), (2, .int q4), (1, .int q3), (0, .ref (mo 0))]) hx hb dX11_mover_35 hl (by decide) rfl (fun ls hl => ?_)
      have hx112_5 : ∀ (v3 : Int32) (mo_lots : Nat → Int64) (mo_all : Int64) (H : Heap) (locs : List Loc) (ls : Array Slot), f_X11_mover_x112_5 v3 mo_lots mo_all = some R → va_P G.1 vwCl [(oX11 mo mo_length mo_at mo_faultAt mo_parts mo_entries mo_ringEarth mo_lead mo_ring mo_jumpMany mo_curveEnd mo_beds mo_all), (wI G (mo 6) 400 mo_stories), (wI G (mo 7) 4 mo_weights), (wI G (mo 10) 48 mo_bed), (wJ G (mo 11) 4 mo_lots)] H → va_D A [(oX11 mo mo_length mo_at mo_faultAt mo_parts mo_entries mo_ringEarth mo_lead mo_ring mo_jumpMany mo_curveEnd mo_beds mo_all), (wI G (mo 6) 400 mo_stories), (wI G (mo 7) 4 mo_weights), (wI G (mo 10) 48 mo_bed), (wJ G (mo 11) 4 mo_lots)] → va_S A s.heap H locs → lv_has ls 7 [(3, .int v3)] → Wc_X11_mover l G mo mo_length mo_at mo_faultAt mo_parts mo_entries mo_stories mo_weights mo_ringEarth mo_lead mo_ring mo_jumpMany mo_curveEnd mo_beds mo_bed mo_lots mo_all R p e s m below meth c A H locs (F0 m 112 ls []) := by
        intro v3 mo_lots mo_all H locs ls hf hP hD hS hl
        refine lv_iload_n hx hb dX11_mover_112 rfl (lv_at hl 0 rfl) ?_
        have h9 := Option.some.inj hf
        subst h9
        exact rw_iret C rfl hP hD hS dX11_mover_113
      obtain ⟨rL5, hL5, hk5⟩ := bd_s hf
      refine lp_W (P := fun st => ∀ (H : Heap) (locs : List Loc) (ls : Array Slot), va_P G.1 vwCl [(oX11 mo mo_length mo_at mo_faultAt mo_parts mo_entries mo_ringEarth mo_lead mo_ring mo_jumpMany mo_curveEnd mo_beds st.2.2.2.2), (wI G (mo 6) 400 mo_stories), (wI G (mo 7) 4 mo_weights), (wI G (mo 10) 48 mo_bed), (wJ G (mo 11) 4 st.2.2.2.1)] H → va_D A [(oX11 mo mo_length mo_at mo_faultAt mo_parts mo_entries mo_ringEarth mo_lead mo_ring mo_jumpMany mo_curveEnd mo_beds st.2.2.2.2), (wI G (mo 6) 400 mo_stories), (wI G (mo 7) 4 mo_weights), (wI G (mo 10) 48 mo_bed), (wJ G (mo 11) 4 st.2.2.2.1)] → va_S A s.heap H locs → lv_has ls 7 [(0, .ref (mo 0)), (1, .int q3), (2, .int q4), (3, .int st.1), (4, .int st.2.1), (5, .int st.2.2.1)] → Wc_X11_mover l G mo mo_length mo_at mo_faultAt mo_parts mo_entries mo_stories mo_weights mo_ringEarth mo_lead mo_ring mo_jumpMany mo_curveEnd mo_beds mo_bed mo_lots mo_all R p e s m below meth c A H locs (F0 m 37 ls [])) ?_ FU ((-9 : Int32), (-1 : Int32), (0 : Int32), q1.1, q1.2) hL5 H locs ls hP hD hS (lv_sub hl [5, 4, 3, 2, 1, 0] rfl)
      intro ⟨v3, v4, v5, mo_lots, mo_all⟩ oc5 hf hI hE H locs ls hP hD hS hl
      have hP : va_P G.1 vwCl [(oX11 mo mo_length mo_at mo_faultAt mo_parts mo_entries mo_ringEarth mo_lead mo_ring mo_jumpMany mo_curveEnd mo_beds mo_all), (wI G (mo 6) 400 mo_stories), (wI G (mo 7) 4 mo_weights), (wI G (mo 10) 48 mo_bed), (wJ G (mo 11) 4 mo_lots)] H := hP
      have hD : va_D A [(oX11 mo mo_length mo_at mo_faultAt mo_parts mo_entries mo_ringEarth mo_lead mo_ring mo_jumpMany mo_curveEnd mo_beds mo_all), (wI G (mo 6) 400 mo_stories), (wI G (mo 7) 4 mo_weights), (wI G (mo 10) 48 mo_bed), (wJ G (mo 11) 4 mo_lots)] := hD
      have hl : lv_has ls 7 [(0, .ref (mo 0)), (1, .int q3), (2, .int q4), (3, .int v3), (4, .int v4), (5, .int v5)] := hl
      have hf : f_X11_mover_b37 mo_stories mo_weights mo_beds mo_bed q3 q4 v3 v4 v5 mo_lots mo_all = some oc5 := hf
      have hj89 : ∀ (v4 : Int32) (v5 : Int32) (v6 : Int32) (k0 : Int32) (mo_lots : Nat → Int64) (mo_all : Int64) (H : Heap) (locs : List Loc) (ls : Array Slot), f_X11_mover_j89 v4 v5 v6 k0 mo_lots mo_all = some oc5 → va_P G.1 vwCl [(oX11 mo mo_length mo_at mo_faultAt mo_parts mo_entries mo_ringEarth mo_lead mo_ring mo_jumpMany mo_curveEnd mo_beds mo_all), (wI G (mo 6) 400 mo_stories), (wI G (mo 7) 4 mo_weights), (wI G (mo 10) 48 mo_bed), (wJ G (mo 11) 4 mo_lots)] H → va_D A [(oX11 mo mo_length mo_at mo_faultAt mo_parts mo_entries mo_ringEarth mo_lead mo_ring mo_jumpMany mo_curveEnd mo_beds mo_all), (wI G (mo 6) 400 mo_stories), (wI G (mo 7) 4 mo_weights), (wI G (mo 10) 48 mo_bed), (wJ G (mo 11) 4 mo_lots)] → va_S A s.heap H locs → lv_has ls 7 [(0, .ref (mo 0)), (1, .int q3), (2, .int q4), (4, .int v4), (5, .int v5), (6, .int v6)] → Wc_X11_mover l G mo mo_length mo_at mo_faultAt mo_parts mo_entries mo_stories mo_weights mo_ringEarth mo_lead mo_ring mo_jumpMany mo_curveEnd mo_beds mo_bed mo_lots mo_all R p e s m below meth c A H locs (F0 m 89 ls [.int k0]) := by
        intro v4 v5 v6 k0 mo_lots mo_all H locs ls hf hP hD hS hl
        refine lv_istore_n (lv' := [(3, .int k0), (0, .ref (mo 0)), (1, .int q3), (2, .int q4), (4, .int v4), (5, .int v5), (6, .int v6)]) hx hb dX11_mover_89 rfl hl (by decide) rfl (fun ls hl => ?_)
        refine lv_iload hx hb dX11_mover_90 (lv_at hl 6 rfl) ?_
        refine lv_iload hx hb dX11_mover_92 (lv_at hl 4 rfl) ?_
        refine lv_icmp_le (tgt := 102) hx hb dX11_mover_94 (by decide) (fun c7 => ?_) (fun c7 => ?_)
        · have hf := o_t c7 hf
          refine lv_iload hx hb dX11_mover_102 (lv_at hl 4 rfl) ?_
          refine lv_istore (lv' := [(4, .int v4), (3, .int k0), (0, .ref (mo 0)), (1, .int q3), (2, .int q4), (5, .int v5), (6, .int v6)]) hx hb dX11_mover_104 hl (by decide) rfl (fun ls hl => ?_)
          refine lv_iinc (v := (v5 + (1 : Int32))) (lv' := [(5, .int (v5 + (1 : Int32))), (4, .int v4), (3, .int k0), (0, .ref (mo 0)), (1, .int q3), (2, .int q4), (6, .int v6)]) hx hb dX11_mover_106 hl (k := 5) rfl (by rfl) (by decide) rfl (fun ls hl => ?_)
          refine lv_goto (tgt := 37) hx hb dX11_mover_109 (by decide) ?_
          cases hf
          exact hI _ rfl H locs ls hP hD hS (lv_sub hl [3, 4, 5, 2, 1, 0] rfl)
        · have hf := o_f c7 hf
          refine lv_iload hx hb dX11_mover_97 (lv_at hl 6 rfl) ?_
          refine lv_goto (tgt := 104) hx hb dX11_mover_99 (by decide) ?_
          refine lv_istore (lv' := [(4, .int v6), (3, .int k0), (0, .ref (mo 0)), (1, .int q3), (2, .int q4), (5, .int v5), (6, .int v6)]) hx hb dX11_mover_104 hl (by decide) rfl (fun ls hl => ?_)
          refine lv_iinc (v := (v5 + (1 : Int32))) (lv' := [(5, .int (v5 + (1 : Int32))), (4, .int v6), (3, .int k0), (0, .ref (mo 0)), (1, .int q3), (2, .int q4), (6, .int v6)]) hx hb dX11_mover_106 hl (k := 5) rfl (by rfl) (by decide) rfl (fun ls hl => ?_)
          refine lv_goto (tgt := 37) hx hb dX11_mover_109 (by decide) ?_
          cases hf
          exact hI _ rfl H locs ls hP hD hS (lv_sub hl [3, 4, 5, 2, 1, 0] rfl)
      have hj74 : ∀ (v3 : Int32) (v4 : Int32) (v5 : Int32) (k0 : Int32) (mo_lots : Nat → Int64) (mo_all : Int64) (H : Heap) (locs : List Loc) (ls : Array Slot), f_X11_mover_j74 v3 v4 v5 k0 mo_lots mo_all = some oc5 → va_P G.1 vwCl [(oX11 mo mo_length mo_at mo_faultAt mo_parts mo_entries mo_ringEarth mo_lead mo_ring mo_jumpMany mo_curveEnd mo_beds mo_all), (wI G (mo 6) 400 mo_stories), (wI G (mo 7) 4 mo_weights), (wI G (mo 10) 48 mo_bed), (wJ G (mo 11) 4 mo_lots)] H → va_D A [(oX11 mo mo_length mo_at mo_faultAt mo_parts mo_entries mo_ringEarth mo_lead mo_ring mo_jumpMany mo_curveEnd mo_beds mo_all), (wI G (mo 6) 400 mo_stories), (wI G (mo 7) 4 mo_weights), (wI G (mo 10) 48 mo_bed), (wJ G (mo 11) 4 mo_lots)] → va_S A s.heap H locs → lv_has ls 7 [(0, .ref (mo 0)), (1, .int q3), (2, .int q4), (3, .int v3), (4, .int v4), (5, .int v5)] → Wc_X11_mover l G mo mo_length mo_at mo_faultAt mo_parts mo_entries mo_stories mo_weights mo_ringEarth mo_lead mo_ring mo_jumpMany mo_curveEnd mo_beds mo_bed mo_lots mo_all R p e s m below meth c A H locs (F0 m 74 ls [.int k0]) := by
        intro v3 v4 v5 k0 mo_lots mo_all H locs ls hf hP hD hS hl
        refine lv_istore (lv' := [(6, .int k0), (0, .ref (mo 0)), (1, .int q3), (2, .int q4), (3, .int v3), (4, .int v4), (5, .int v5)]) hx hb dX11_mover_74 hl (by decide) rfl (fun ls hl => ?_)
        refine lv_iload hx hb dX11_mover_76 (lv_at hl 0 rfl) ?_
        refine lv_iload hx hb dX11_mover_78 (lv_at hl 5 rfl) ?_
        refine lv_icmp_le (tgt := 88) hx hb dX11_mover_80 (by decide) (fun c8 => ?_) (fun c8 => ?_)
        · have hf := o_t c8 hf
          refine lv_iload_n hx hb dX11_mover_88 rfl (lv_at hl 4 rfl) ?_
          exact hj89 v4 v5 k0 v3 mo_lots mo_all H locs ls hf hP hD hS (lv_sub hl [1, 2, 3, 5, 6, 0] rfl)
        · have hf := o_f c8 hf
          refine lv_iload hx hb dX11_mover_83 (lv_at hl 6 rfl) ?_
          refine lv_goto (tgt := 89) hx hb dX11_mover_85 (by decide) ?_
          exact hj89 v4 v5 k0 v5 mo_lots mo_all H locs ls hf hP hD hS (lv_sub hl [1, 2, 3, 5, 6, 0] rfl)
      refine lv_iload hx hb dX11_mover_37 (lv_at hl 5 rfl) ?_
      refine lv_aload_n hx hb dX11_mover_39 rfl (lv_at hl 0 rfl) ?_
      refine va_get (D := G.1) (ci := 11) (v := .int mo_beds) (C := RX11) (T := TX11) (N := 29) hx hb ht twX11 hown hK.1 hP 0 rfl rfl 19 (by decide) (ht _ kfl_X11_180) (fun _ h9 => h9) rfl dX11_mover_40 ?_
      refine lv_icmp_ge (tgt := 112) hx hb dX11_mover_43 (by decide) (fun c9 => ?_) (fun c9 => ?_)
      · have hf := o_t c9 hf
        cases hf
        have hf : f_X11_mover_x112_5 v3 mo_lots mo_all = some R := by have h9 := hk5; rw [← hE _ rfl] at h9; exact h9
        exact hx112_5 v3 mo_lots mo_all H locs ls hf hP hD hS (lv_sub hl [3] rfl)
      · have hf := o_f c9 hf
        refine lv_aload_n hx hb dX11_mover_46 rfl (lv_at hl 0 rfl) ?_
        refine lv_iload hx hb dX11_mover_47 (lv_at hl 5 rfl) ?_
        obtain ⟨q10, r10, hf⟩ := bd_s hf
        refine rw_V (n := 1) (As := [.int v5]) (rest := []) (wr := []) (ws2 := [(oX11 mo mo_length mo_at mo_faultAt mo_parts mo_entries mo_ringEarth mo_lead mo_ring mo_jumpMany mo_curveEnd mo_beds q10.2), (wI G (mo 6) 400 mo_stories), (wI G (mo 7) 4 mo_weights), (wI G (mo 10) 48 mo_bed), (wJ G (mo 11) 4 q10.1)]) (c_X11_layLots l G mo mo_length mo_at mo_faultAt mo_parts mo_entries mo_stories mo_weights mo_ringEarth mo_lead mo_ring mo_jumpMany mo_curveEnd mo_beds mo_bed mo_lots mo_all v5 q10 r10) C hK hP hD hS hA hz hl [0, 1, 2, 3, 4] [] [0, 1, 2, 3, 4] rfl rfl rfl rfl rfl (by decide) rfl rfl rfl kcode_X11_layLots kml_X11_216 kim_X11_layLots ksel_X11_layLots kini_X11 (by decide +kernel) ⟨⟨rfl, rfl⟩, Nat.le_of_ble_eq_true rfl, Nat.le_of_ble_eq_true rfl⟩ ⟨Nat.zero_le _, Nat.zero_le _⟩ rfl rfl rfl rfl rfl (Nat.le_of_ble_eq_true rfl) dX11_mover_49 rfl (fun H locs hP hD hS => ?_)
        refine lv_aload_n hx hb dX11_mover_52 rfl (lv_at hl 0 rfl) ?_
        refine lv_iload_n hx hb dX11_mover_53 rfl (lv_at hl 1 rfl) ?_
        obtain ⟨q11, r11, hf⟩ := bd_s hf
        refine ro_V (n := 1) (As := [.int q3]) (rest := []) (c_X11_millionths l G mo mo_length mo_at mo_faultAt mo_parts mo_entries mo_ringEarth mo_lead mo_ring mo_jumpMany mo_curveEnd mo_beds q10.1 q10.2 q3 q11 r11) C (hK.at hS hz) (hP.sub [0, 4] rfl) hl kcode_X11_millionths kml_X11_225 kim_X11_millionths ksel_X11_millionths kini_X11 (by decide +kernel) ⟨⟨rfl, rfl⟩, Nat.le_of_ble_eq_true rfl, Nat.le_of_ble_eq_true rfl⟩ ⟨Nat.zero_le _, Nat.zero_le _⟩ rfl rfl rfl rfl rfl (Nat.le_of_ble_eq_true rfl) dX11_mover_54 rfl ?_
        refine lv_iload_n hx hb dX11_mover_57 rfl (lv_at hl 2 rfl) ?_
        refine lv_isub hx hb dX11_mover_58 ?_
        refine lv_istore (lv' := [(6, .int (q11 - q4)), (0, .ref (mo 0)), (1, .int q3), (2, .int q4), (3, .int v3), (4, .int v4), (5, .int v5)]) hx hb dX11_mover_59 hl (by decide) rfl (fun ls hl => ?_)
        refine lv_iload hx hb dX11_mover_61 (lv_at hl 0 rfl) ?_
        refine lv_if_ge (tgt := 72) hx hb dX11_mover_63 (by decide) (fun c12 => ?_) (fun c12 => ?_)
        · have hf := o_t c12 hf
          refine lv_iload hx hb dX11_mover_72 (lv_at hl 0 rfl) ?_
          exact hj74 v3 v4 v5 (q11 - q4) q10.1 q10.2 H locs ls hf hP hD hS (lv_sub hl [1, 2, 3, 4, 5, 6] rfl)
        · have hf := o_f c12 hf
          refine lv_iload hx hb dX11_mover_66 (lv_at hl 0 rfl) ?_
          refine lv_ineg hx hb dX11_mover_68 ?_
          refine lv_goto (tgt := 74) hx hb dX11_mover_69 (by decide) ?_
          exact hj74 v3 v4 v5 (-(q11 - q4)) q10.1 q10.2 H locs ls hf hP hD hS (lv_sub hl [1, 2, 3, 4, 5, 6] rfl)
    · have hf := o_t c2 hf
      refine lv_bipush (v := -3) hx hb dX11_mover_14 (by decide) ?_
      have h9 := Option.some.inj hf
      subst h9
      exact rw_iret C rfl hP hD hS dX11_mover_16
  rw [eH, el] at key
  exact key
abbrev Wc_X11_next (l : Launch) (G : TG) (mo : Nat → Nat) (mo_length : Int32) (mo_at : Int32) (mo_faultAt : Int32) (mo_parts : Int32) (mo_entries : Int32) (mo_stories : Nat → Int32) (mo_weights : Nat → Int32) (mo_ringEarth : Int32) (mo_lead : Int32) (mo_ring : Int32) (mo_jumpMany : Int32) (mo_curveEnd : Int32) (mo_beds : Int32) (mo_bed : Nat → Int32) (mo_lots : Nat → Int64) (mo_all : Int64) (R : Int32 × (Nat → Int64) × Int64) (p : Program) (e : Env) (s : State) (m : MethodId) (below : List Frame) (meth : Method) (c : Code) (A : Nat → Prop) (H : Heap) (locs : List Loc) (g : JFrame) : Prop := W p l e ({ frames := 3, cells := 0, slots := 0, locals := 74 }) s m ([.ref (mo 0)] : List Value).toArray below meth c H locs 0 0 (MQ below (rwQ G (some (.int R.1)) [(oX11 mo mo_length mo_at mo_faultAt mo_parts mo_entries mo_ringEarth mo_lead mo_ring mo_jumpMany mo_curveEnd mo_beds R.2.2), (wI G (mo 6) 400 mo_stories), (wI G (mo 7) 4 mo_weights), (wI G (mo 10) 48 mo_bed), (wJ G (mo 11) 4 R.2.1)] A) ([.ref (mo 0)] : List Value).toArray s 0 0 A) g
set_option maxHeartbeats 4000000 in
set_option maxRecDepth 100000 in
theorem c_X11_next (l : Launch) (G : TG) (mo : Nat → Nat) (mo_length : Int32) (mo_at : Int32) (mo_faultAt : Int32) (mo_parts : Int32) (mo_entries : Int32) (mo_stories : Nat → Int32) (mo_weights : Nat → Int32) (mo_ringEarth : Int32) (mo_lead : Int32) (mo_ring : Int32) (mo_jumpMany : Int32) (mo_curveEnd : Int32) (mo_beds : Int32) (mo_bed : Nat → Int32) (mo_lots : Nat → Int64) (mo_all : Int64) (R : Int32 × (Nat → Int64) × Int64) (hf : f_X11_next mo_stories mo_weights mo_beds mo_bed mo_lots = some R) : RW l yX11_next cX11_next 9 (some .int) ({ frames := 3, cells := 0, slots := 0, locals := 74 }) G [.ref (mo 0)] [(oX11 mo mo_length mo_at mo_faultAt mo_parts mo_entries mo_ringEarth mo_lead mo_ring mo_jumpMany mo_curveEnd mo_beds mo_all), (wI G (mo 6) 400 mo_stories), (wI G (mo 7) 4 mo_weights), (wI G (mo 10) 48 mo_bed), (wJ G (mo 11) 4 mo_lots)] (some (.int R.1)) [(oX11 mo mo_length mo_at mo_faultAt mo_parts mo_entries mo_ringEarth mo_lead mo_ring mo_jumpMany mo_curveEnd mo_beds R.2.2), (wI G (mo 6) 400 mo_stories), (wI G (mo 7) 4 mo_weights), (wI G (mo 10) 48 mo_bed), (wJ G (mo 11) 4 R.2.1)] := by
  refine RW.mk (by decide +kernel) (Nat.le_of_ble_eq_true rfl) ?_
  intro p e s m below meth c ls A C hP hD hA hz hK hl hS
  have hx := C.1
  have hb := C.2.1
  have hown : s.vm.findClass RX11 = some m.cls := C.2.2.2.2.2.1
  have ht := C.2.2.2.2.2.2
  have hl : lv_has ls 9 [(0, .ref (mo 0))] := hl
  show Wc_X11_next l G mo mo_length mo_at mo_faultAt mo_parts mo_entries mo_stories mo_weights mo_ringEarth mo_lead mo_ring mo_jumpMany mo_curveEnd mo_beds mo_bed mo_lots mo_all R p e s m below meth c A s.heap [] (F0 m 0 ls [])
  obtain ⟨H, eH, hP, hS⟩ : ∃ H, H = s.heap ∧ va_P G.1 vwCl [(oX11 mo mo_length mo_at mo_faultAt mo_parts mo_entries mo_ringEarth mo_lead mo_ring mo_jumpMany mo_curveEnd mo_beds mo_all), (wI G (mo 6) 400 mo_stories), (wI G (mo 7) 4 mo_weights), (wI G (mo 10) 48 mo_bed), (wJ G (mo 11) 4 mo_lots)] H ∧ va_S A s.heap H [] := ⟨_, rfl, hP, hS⟩
  obtain ⟨locs, el, hS⟩ : ∃ locs : List Loc, locs = [] ∧ va_S A s.heap H locs := ⟨_, rfl, hS⟩
  have key : Wc_X11_next l G mo mo_length mo_at mo_faultAt mo_parts mo_entries mo_stories mo_weights mo_ringEarth mo_lead mo_ring mo_jumpMany mo_curveEnd mo_beds mo_bed mo_lots mo_all R p e s m below meth c A H locs (F0 m 0 ls []) := by
    refine lv_aload_n hx hb dX11_next_0 rfl (lv_at hl 0 rfl) ?_
    refine lv_iconst (v := -1) hx hb dX11_next_1 (by decide) ?_
    obtain ⟨q1, r1, hf⟩ := bd_s hf
    refine rw_V (n := 1) (As := [.int (-1 : Int32)]) (rest := []) (wr := []) (ws2 := [(oX11 mo mo_length mo_at mo_faultAt mo_parts mo_entries mo_ringEarth mo_lead mo_ring mo_jumpMany mo_curveEnd mo_beds q1.2), (wI G (mo 6) 400 mo_stories), (wI G (mo 7) 4 mo_weights), (wI G (mo 10) 48 mo_bed), (wJ G (mo 11) 4 q1.1)]) (c_X11_layLots l G mo mo_length mo_at mo_faultAt mo_parts mo_entries mo_stories mo_weights mo_ringEarth mo_lead mo_ring mo_jumpMany mo_curveEnd mo_beds mo_bed mo_lots mo_all (-1 : Int32) q1 r1) C hK hP hD hS hA hz hl [0, 1, 2, 3, 4] [] [0, 1, 2, 3, 4] rfl rfl rfl rfl rfl (by decide) rfl rfl rfl kcode_X11_layLots kml_X11_216 kim_X11_layLots ksel_X11_layLots kini_X11 (by decide +kernel) ⟨⟨rfl, rfl⟩, Nat.le_of_ble_eq_true rfl, Nat.le_of_ble_eq_true rfl⟩ ⟨Nat.zero_le _, Nat.zero_le _⟩ rfl rfl rfl rfl rfl (Nat.le_of_ble_eq_true rfl) dX11_next_2 rfl (fun H locs hP hD hS => ?_)
    refine lv_aload_n hx hb dX11_next_5 rfl (lv_at hl 0 rfl) ?_
    refine va_get (D := G.1) (ci := 11) (v := .long q1.2) (C := RX11) (T := TX11) (N := 29) hx hb ht twX11 hown hK.1 hP 0 rfl rfl 22 (by decide) (ht _ kfl_X11_212) (fun _ h9 => h9) rfl dX11_next_6 ?_
    refine lv_lconst (v := 0) hx hb dX11_next_9 (by decide) ?_
    refine W.lcmp hx hb dX11_next_10 ?_
    refine lv_if_ne (tgt := 17) hx hb dX11_next_11 (by decide) (fun c2 => ?_) (fun c2 => ?_)
    · have hf := o_f c2 hf
      refine lv_iconst (v := 0) hx hb dX11_next_17 (by decide) ?_
      refine lv_istore_n (lv' := [(1, .int (0 : Int32)), (0, .ref (mo 0))]) hx hb dX11_next_18 rfl hl (by decide) rfl (fun ls hl => ?_)
      refine lv_ldc2 hx hb hown (ht _ kcL_X11_210) dX11_next_19 ?_
      refine lv_lstore_n (lv' := [(2, .long (-1 : Int64)), (1, .int (0 : Int32)), (0, .ref (mo 0))]) hx hb dX11_next_22 rfl hl (by decide) rfl (fun ls hl => ?_)
      refine lv_iconst (v := 0) hx hb dX11_next_23 (by decide) ?_
      refine lv_istore (lv' := [(4, .int (0 : Int32)), (2, .long (-1 : Int64)), (1, .int (0 : Int32)), (0, .ref (mo 0))]) hx hb dX11_next_24 hl (by decide) rfl (fun ls hl => ?_)
      have hx153_3 : ∀ (v1 : Int32) (H : Heap) (locs : List Loc) (ls : Array Slot), f_X11_next_x153_3 q1 v1 = some R → va_P G.1 vwCl [(oX11 mo mo_length mo_at mo_faultAt mo_parts mo_entries mo_ringEarth mo_lead mo_ring mo_jumpMany mo_curveEnd mo_beds q1.2), (wI G (mo 6) 400 mo_stories), (wI G (mo 7) 4 mo_weights), (wI G (mo 10) 48 mo_bed), (wJ G (mo 11) 4 q1.1)] H → va_D A [(oX11 mo mo_length mo_at mo_faultAt mo_parts mo_entries mo_ringEarth mo_lead mo_ring mo_jumpMany mo_curveEnd mo_beds q1.2), (wI G (mo 6) 400 mo_stories), (wI G (mo 7) 4 mo_weights), (wI G (mo 10) 48 mo_bed), (wJ G (mo 11) 4 q1.1)] → va_S A s.heap H locs → lv_has ls 9 [(1, .int v1)] → Wc_X11_next l G mo mo_length mo_at mo_faultAt mo_parts mo_entries mo_stories mo_weights mo_ringEarth mo_lead mo_ring mo_jumpMany mo_curveEnd mo_beds mo_bed mo_lots mo_all R p e s m below meth c A H locs (F0 m 153 ls []) := by
        intro v1 H locs ls hf hP hD hS hl
        refine lv_iload_n hx hb dX11_next_153 rfl (lv_at hl 0 rfl) ?_
        have h9 := Option.some.inj hf
        subst h9
        exact rw_iret C rfl hP hD hS dX11_next_154
      obtain ⟨rL3, hL3, hk3⟩ := bd_s hf
      refine lp_W (P := fun st => ∀ (H : Heap) (locs : List Loc) (ls : Array Slot), va_P G.1 vwCl [(oX11 mo mo_length mo_at mo_faultAt mo_parts mo_entries mo_ringEarth mo_lead mo_ring mo_jumpMany mo_curveEnd mo_beds q1.2), (wI G (mo 6) 400 mo_stories), (wI G (mo 7) 4 mo_weights), (wI G (mo 10) 48 mo_bed), (wJ G (mo 11) 4 q1.1)] H → va_D A [(oX11 mo mo_length mo_at mo_faultAt mo_parts mo_entries mo_ringEarth mo_lead mo_ring mo_jumpMany mo_curveEnd mo_beds q1.2), (wI G (mo 6) 400 mo_stories), (wI G (mo 7) 4 mo_weights), (wI G (mo 10) 48 mo_bed), (wJ G (mo 11) 4 q1.1)] → va_S A s.heap H locs → lv_has ls 9 [(0, .ref (mo 0)), (1, .int st.1), (2, .long st.2.1), (4, .int st.2.2)] → Wc_X11_next l G mo mo_length mo_at mo_faultAt mo_parts mo_entries mo_stories mo_weights mo_ringEarth mo_lead mo_ring mo_jumpMany mo_curveEnd mo_beds mo_bed mo_lots mo_all R p e s m below meth c A H locs (F0 m 26 ls [])) ?_ FU ((0 : Int32), (-1 : Int64), (0 : Int32)) hL3 H locs ls hP hD hS (lv_sub hl [3, 2, 1, 0] rfl)
      intro ⟨v1, v2, v4⟩ oc3 hf hI hE H locs ls hP hD hS hl
      have hP : va_P G.1 vwCl [(oX11 mo mo_length mo_at mo_faultAt mo_parts mo_entries mo_ringEarth mo_lead mo_ring mo_jumpMany mo_curveEnd mo_beds q1.2), (wI G (mo 6) 400 mo_stories), (wI G (mo 7) 4 mo_weights), (wI G (mo 10) 48 mo_bed), (wJ G (mo 11) 4 q1.1)] H := hP
      have hD : va_D A [(oX11 mo mo_length mo_at mo_faultAt mo_parts mo_entries mo_ringEarth mo_lead mo_ring mo_jumpMany mo_curveEnd mo_beds q1.2), (wI G (mo 6) 400 mo_stories), (wI G (mo 7) 4 mo_weights), (wI G (mo 10) 48 mo_bed), (wJ G (mo 11) 4 q1.1)] := hD
      have hl : lv_has ls 9 [(0, .ref (mo 0)), (1, .int v1), (2, .long v2), (4, .int v4)] := hl
      have hf : f_X11_next_b26 mo_stories q1 v1 v2 v4 = some oc3 := hf
      have hj141 : ∀ (v4 : Int32) (v7 : Int64) (H : Heap) (locs : List Loc) (ls : Array Slot), f_X11_next_j141 v4 v7 = some oc3 → va_P G.1 vwCl [(oX11 mo mo_length mo_at mo_faultAt mo_parts mo_entries mo_ringEarth mo_lead mo_ring mo_jumpMany mo_curveEnd mo_beds q1.2), (wI G (mo 6) 400 mo_stories), (wI G (mo 7) 4 mo_weights), (wI G (mo 10) 48 mo_bed), (wJ G (mo 11) 4 q1.1)] H → va_D A [(oX11 mo mo_length mo_at mo_faultAt mo_parts mo_entries mo_ringEarth mo_lead mo_ring mo_jumpMany mo_curveEnd mo_beds q1.2), (wI G (mo 6) 400 mo_stories), (wI G (mo 7) 4 mo_weights), (wI G (mo 10) 48 mo_bed), (wJ G (mo 11) 4 q1.1)] → va_S A s.heap H locs → lv_has ls 9 [(0, .ref (mo 0)), (4, .int v4), (7, .long v7)] → Wc_X11_next l G mo mo_length mo_at mo_faultAt mo_parts mo_entries mo_stories mo_weights mo_ringEarth mo_lead mo_ring mo_jumpMany mo_curveEnd mo_beds mo_bed mo_lots mo_all R p e s m below meth c A H locs (F0 m 141 ls []) := by
        intro v4 v7 H locs ls hf hP hD hS hl
        refine lv_iload hx hb dX11_next_141 (lv_at hl 1 rfl) ?_
        refine lv_istore_n (lv' := [(1, .int v4), (0, .ref (mo 0)), (4, .int v4), (7, .long v7)]) hx hb dX11_next_143 rfl hl (by decide) rfl (fun ls hl => ?_)
        refine lv_lload hx hb dX11_next_144 (lv_at hl 3 rfl) ?_
        refine lv_lstore_n (lv' := [(2, .long v7), (1, .int v4), (0, .ref (mo 0)), (4, .int v4), (7, .long v7)]) hx hb dX11_next_146 rfl hl (by decide) rfl (fun ls hl => ?_)
        refine lv_iinc (v := (v4 + (1 : Int32))) (lv' := [(4, .int (v4 + (1 : Int32))), (2, .long v7), (1, .int v4), (0, .ref (mo 0)), (7, .long v7)]) hx hb dX11_next_147 hl (k := 3) rfl (by rfl) (by decide) rfl (fun ls hl => ?_)
        refine lv_goto (tgt := 26) hx hb dX11_next_150 (by decide) ?_
        cases hf
        exact hI _ rfl H locs ls hP hD hS (lv_sub hl [3, 2, 1, 0] rfl)
      have hj126 : ∀ (v1 : Int32) (v2 : Int64) (v4 : Int32) (k0 : Int64) (H : Heap) (locs : List Loc) (ls : Array Slot), f_X11_next_j126 v1 v2 v4 k0 = some oc3 → va_P G.1 vwCl [(oX11 mo mo_length mo_at mo_faultAt mo_parts mo_entries mo_ringEarth mo_lead mo_ring mo_jumpMany mo_curveEnd mo_beds q1.2), (wI G (mo 6) 400 mo_stories), (wI G (mo 7) 4 mo_weights), (wI G (mo 10) 48 mo_bed), (wJ G (mo 11) 4 q1.1)] H → va_D A [(oX11 mo mo_length mo_at mo_faultAt mo_parts mo_entries mo_ringEarth mo_lead mo_ring mo_jumpMany mo_curveEnd mo_beds q1.2), (wI G (mo 6) 400 mo_stories), (wI G (mo 7) 4 mo_weights), (wI G (mo 10) 48 mo_bed), (wJ G (mo 11) 4 q1.1)] → va_S A s.heap H locs → lv_has ls 9 [(0, .ref (mo 0)), (1, .int v1), (2, .long v2), (4, .int v4)] → Wc_X11_next l G mo mo_length mo_at mo_faultAt mo_parts mo_entries mo_stories mo_weights mo_ringEarth mo_lead mo_ring mo_jumpMany mo_curveEnd mo_beds mo_bed mo_lots mo_all R p e s m below meth c A H locs (F0 m 126 ls [.long k0]) := by
        intro v1 v2 v4 k0 H locs ls hf hP hD hS hl
        refine lv_lstore (lv' := [(7, .long k0), (0, .ref (mo 0)), (1, .int v1), (2, .long v2), (4, .int v4)]) hx hb dX11_next_126 hl (by decide) rfl (fun ls hl => ?_)
        refine lv_lload_n hx hb dX11_next_128 rfl (lv_at hl 3 rfl) ?_
        refine lv_lconst (v := 0) hx hb dX11_next_129 (by decide) ?_
        refine W.lcmp hx hb dX11_next_130 ?_
        refine lv_if_lt (tgt := 141) hx hb dX11_next_131 (by decide) (fun c5 => ?_) (fun c5 => ?_)
        · have hf := o_t c5 hf
          exact hj141 v4 k0 H locs ls hf hP hD hS (lv_sub hl [1, 4, 0] rfl)
        · have hf := o_f c5 hf
          refine lv_lload hx hb dX11_next_134 (lv_at hl 0 rfl) ?_
          refine lv_lload_n hx hb dX11_next_136 rfl (lv_at hl 3 rfl) ?_
          refine W.lcmp hx hb dX11_next_137 ?_
          refine lv_if_ge (tgt := 147) hx hb dX11_next_138 (by decide) (fun c6 => ?_) (fun c6 => ?_)
          · have hf := o_t c6 hf
            refine lv_iinc (v := (v4 + (1 : Int32))) (lv' := [(4, .int (v4 + (1 : Int32))), (7, .long k0), (0, .ref (mo 0)), (1, .int v1), (2, .long v2)]) hx hb dX11_next_147 hl (k := 4) rfl (by rfl) (by decide) rfl (fun ls hl => ?_)
            refine lv_goto (tgt := 26) hx hb dX11_next_150 (by decide) ?_
            cases hf
            exact hI _ rfl H locs ls hP hD hS (lv_sub hl [2, 3, 4, 0] rfl)
          · have hf := o_f c6 hf
            exact hj141 v4 k0 H locs ls hf hP hD hS (lv_sub hl [1, 4, 0] rfl)
      refine lv_iload hx hb dX11_next_26 (lv_at hl 3 rfl) ?_
      refine lv_bipush (v := 60) hx hb dX11_next_28 (by decide) ?_
      refine lv_icmp_ge (tgt := 153) hx hb dX11_next_30 (by decide) (fun c7 => ?_) (fun c7 => ?_)
      · have hf := o_t c7 hf
        cases hf
        have hf : f_X11_next_x153_3 q1 v1 = some R := by have h9 := hk3; rw [← hE _ rfl] at h9; exact h9
        exact hx153_3 v1 H locs ls hf hP hD hS (lv_sub hl [1] rfl)
      · have hf := o_f c7 hf
        refine lv_lconst (v := 0) hx hb dX11_next_33 (by decide) ?_
        refine lv_lstore (lv' := [(5, .long (0 : Int64)), (0, .ref (mo 0)), (1, .int v1), (2, .long v2), (4, .int v4)]) hx hb dX11_next_34 hl (by decide) rfl (fun ls hl => ?_)
        refine lv_iconst (v := 0) hx hb dX11_next_36 (by decide) ?_
        refine lv_istore (lv' := [(7, .int (0 : Int32)), (5, .long (0 : Int64)), (0, .ref (mo 0)), (1, .int v1), (2, .long v2), (4, .int v4)]) hx hb dX11_next_37 hl (by decide) rfl (fun ls hl => ?_)
        have hx98_8 : ∀ (v5 : Int64) (H : Heap) (locs : List Loc) (ls : Array Slot), f_X11_next_x98_8 q1 v1 v2 v4 v5 = some oc3 → va_P G.1 vwCl [(oX11 mo mo_length mo_at mo_faultAt mo_parts mo_entries mo_ringEarth mo_lead mo_ring mo_jumpMany mo_curveEnd mo_beds q1.2), (wI G (mo 6) 400 mo_stories), (wI G (mo 7) 4 mo_weights), (wI G (mo 10) 48 mo_bed), (wJ G (mo 11) 4 q1.1)] H → va_D A [(oX11 mo mo_length mo_at mo_faultAt mo_parts mo_entries mo_ringEarth mo_lead mo_ring mo_jumpMany mo_curveEnd mo_beds q1.2), (wI G (mo 6) 400 mo_stories), (wI G (mo 7) 4 mo_weights), (wI G (mo 10) 48 mo_bed), (wJ G (mo 11) 4 q1.1)] → va_S A s.heap H locs → lv_has ls 9 [(0, .ref (mo 0)), (1, .int v1), (2, .long v2), (4, .int v4), (5, .long v5)] → Wc_X11_next l G mo mo_length mo_at mo_faultAt mo_parts mo_entries mo_stories mo_weights mo_ringEarth mo_lead mo_ring mo_jumpMany mo_curveEnd mo_beds mo_bed mo_lots mo_all R p e s m below meth c A H locs (F0 m 98 ls []) := by
          intro v5 H locs ls hf hP hD hS hl
          refine lv_ldc2 hx hb hown (ht _ kcL_X11_228) dX11_next_98 ?_
          refine lv_lload hx hb dX11_next_101 (lv_at hl 4 rfl) ?_
          refine lv_lmul hx hb dX11_next_103 ?_
          refine lv_aload_n hx hb dX11_next_104 rfl (lv_at hl 0 rfl) ?_
          refine va_get (D := G.1) (ci := 11) (v := .long q1.2) (C := RX11) (T := TX11) (N := 29) hx hb ht twX11 hown hK.1 hP 0 rfl rfl 22 (by decide) (ht _ kfl_X11_212) (fun _ h9 => h9) rfl dX11_next_105 ?_
          refine lv_lsub hx hb dX11_next_108 ?_
          refine lv_lstore (lv' := [(7, .long (((2 : Int64) * v5) - q1.2)), (0, .ref (mo 0)), (1, .int v1), (2, .long v2), (4, .int v4), (5, .long v5)]) hx hb dX11_next_109 hl (by decide) rfl (fun ls hl => ?_)
          refine lv_lload hx hb dX11_next_111 (lv_at hl 0 rfl) ?_
          refine lv_lconst (v := 0) hx hb dX11_next_113 (by decide) ?_
          refine W.lcmp hx hb dX11_next_114 ?_
          refine lv_if_ge (tgt := 124) hx hb dX11_next_115 (by decide) (fun c9 => ?_) (fun c9 => ?_)
          · have hf := o_t c9 hf
            refine lv_lload hx hb dX11_next_124 (lv_at hl 0 rfl) ?_
            exact hj126 v1 v2 v4 (((2 : Int64) * v5) - q1.2) H locs ls hf hP hD hS (lv_sub hl [1, 2, 3, 4] rfl)
          · have hf := o_f c9 hf
            refine lv_lload hx hb dX11_next_118 (lv_at hl 0 rfl) ?_
            refine lv_lneg hx hb dX11_next_120 ?_
            refine lv_goto (tgt := 126) hx hb dX11_next_121 (by decide) ?_
            exact hj126 v1 v2 v4 (-(((2 : Int64) * v5) - q1.2)) H locs ls hf hP hD hS (lv_sub hl [1, 2, 3, 4] rfl)
        obtain ⟨rL8, hL8, hk8⟩ := bd_s hf
        refine lp_W (P := fun st => ∀ (H : Heap) (locs : List Loc) (ls : Array Slot), va_P G.1 vwCl [(oX11 mo mo_length mo_at mo_faultAt mo_parts mo_entries mo_ringEarth mo_lead mo_ring mo_jumpMany mo_curveEnd mo_beds q1.2), (wI G (mo 6) 400 mo_stories), (wI G (mo 7) 4 mo_weights), (wI G (mo 10) 48 mo_bed), (wJ G (mo 11) 4 q1.1)] H → va_D A [(oX11 mo mo_length mo_at mo_faultAt mo_parts mo_entries mo_ringEarth mo_lead mo_ring mo_jumpMany mo_curveEnd mo_beds q1.2), (wI G (mo 6) 400 mo_stories), (wI G (mo 7) 4 mo_weights), (wI G (mo 10) 48 mo_bed), (wJ G (mo 11) 4 q1.1)] → va_S A s.heap H locs → lv_has ls 9 [(0, .ref (mo 0)), (1, .int v1), (2, .long v2), (4, .int v4), (5, .long st.1), (7, .int st.2)] → Wc_X11_next l G mo mo_length mo_at mo_faultAt mo_parts mo_entries mo_stories mo_weights mo_ringEarth mo_lead mo_ring mo_jumpMany mo_curveEnd mo_beds mo_bed mo_lots mo_all R p e s m below meth c A H locs (F0 m 39 ls [])) ?_ FU ((0 : Int64), (0 : Int32)) hL8 H locs ls hP hD hS (lv_sub hl [2, 3, 4, 5, 1, 0] rfl)
        intro ⟨v5, v7⟩ oc8 hf hI hE H locs ls hP hD hS hl
        have hP : va_P G.1 vwCl [(oX11 mo mo_length mo_at mo_faultAt mo_parts mo_entries mo_ringEarth mo_lead mo_ring mo_jumpMany mo_curveEnd mo_beds q1.2), (wI G (mo 6) 400 mo_stories), (wI G (mo 7) 4 mo_weights), (wI G (mo 10) 48 mo_bed), (wJ G (mo 11) 4 q1.1)] H := hP
        have hD : va_D A [(oX11 mo mo_length mo_at mo_faultAt mo_parts mo_entries mo_ringEarth mo_lead mo_ring mo_jumpMany mo_curveEnd mo_beds q1.2), (wI G (mo 6) 400 mo_stories), (wI G (mo 7) 4 mo_weights), (wI G (mo 10) 48 mo_bed), (wJ G (mo 11) 4 q1.1)] := hD
        have hl : lv_has ls 9 [(0, .ref (mo 0)), (1, .int v1), (2, .long v2), (4, .int v4), (5, .long v5), (7, .int v7)] := hl
        have hf : f_X11_next_b39 mo_stories q1 v4 v5 v7 = some oc8 := hf
        have hj89 : ∀ (v7 : Int32) (k0 : Int64) (k1 : Int64) (H : Heap) (locs : List Loc) (ls : Array Slot), f_X11_next_j89 v7 k0 k1 = some oc8 → va_P G.1 vwCl [(oX11 mo mo_length mo_at mo_faultAt mo_parts mo_entries mo_ringEarth mo_lead mo_ring mo_jumpMany mo_curveEnd mo_beds q1.2), (wI G (mo 6) 400 mo_stories), (wI G (mo 7) 4 mo_weights), (wI G (mo 10) 48 mo_bed), (wJ G (mo 11) 4 q1.1)] H → va_D A [(oX11 mo mo_length mo_at mo_faultAt mo_parts mo_entries mo_ringEarth mo_lead mo_ring mo_jumpMany mo_curveEnd mo_beds q1.2), (wI G (mo 6) 400 mo_stories), (wI G (mo 7) 4 mo_weights), (wI G (mo 10) 48 mo_bed), (wJ G (mo 11) 4 q1.1)] → va_S A s.heap H locs → lv_has ls 9 [(0, .ref (mo 0)), (1, .int v1), (2, .long v2), (4, .int v4), (7, .int v7)] → Wc_X11_next l G mo mo_length mo_at mo_faultAt mo_parts mo_entries mo_stories mo_weights mo_ringEarth mo_lead mo_ring mo_jumpMany mo_curveEnd mo_beds mo_bed mo_lots mo_all R p e s m below meth c A H locs (F0 m 89 ls [.long k1, .long k0]) := by
          intro v7 k0 k1 H locs ls hf hP hD hS hl
          refine lv_ladd hx hb dX11_next_89 ?_
          refine lv_lstore (lv' := [(5, .long (k0 + k1)), (0, .ref (mo 0)), (1, .int v1), (2, .long v2), (4, .int v4), (7, .int v7)]) hx hb dX11_next_90 hl (by decide) rfl (fun ls hl => ?_)
          refine lv_iinc (v := (v7 + (1 : Int32))) (lv' := [(7, .int (v7 + (1 : Int32))), (5, .long (k0 + k1)), (0, .ref (mo 0)), (1, .int v1), (2, .long v2), (4, .int v4)]) hx hb dX11_next_92 hl (k := 5) rfl (by rfl) (by decide) rfl (fun ls hl => ?_)
          refine lv_goto (tgt := 39) hx hb dX11_next_95 (by decide) ?_
          cases hf
          exact hI _ rfl H locs ls hP hD hS (lv_sub hl [2, 3, 4, 5, 1, 0] rfl)
        refine lv_iload hx hb dX11_next_39 (lv_at hl 5 rfl) ?_
        refine lv_iconst (v := 4) hx hb dX11_next_41 (by decide) ?_
        refine lv_icmp_ge (tgt := 98) hx hb dX11_next_42 (by decide) (fun c10 => ?_) (fun c10 => ?_)
        · have hf := o_t c10 hf
          cases hf
          have hf : f_X11_next_x98_8 q1 v1 v2 v4 v5 = some oc3 := by have h9 := hk8; rw [← hE _ rfl] at h9; exact h9
          exact hx98_8 v5 H locs ls hf hP hD hS (lv_sub hl [0, 1, 2, 3, 4] rfl)
        · have hf := o_f c10 hf
          refine lv_lload hx hb dX11_next_45 (lv_at hl 4 rfl) ?_
          refine lv_aload_n hx hb dX11_next_47 rfl (lv_at hl 0 rfl) ?_
          refine va_get (D := G.1) (ci := 11) (v := .ref (mo 6)) (C := RX11) (T := TX11) (N := 29) hx hb ht twX11 hown hK.1 hP 0 rfl rfl 10 (by decide) (ht _ kfl_X11_25) (fun _ h9 => h9) rfl dX11_next_48 ?_
          refine lv_bipush (v := 100) hx hb dX11_next_51 (by decide) ?_
          refine lv_iload hx hb dX11_next_53 (lv_at hl 5 rfl) ?_
          refine lv_imul hx hb dX11_next_55 ?_
          refine lv_bipush (v := 10) hx hb dX11_next_56 (by decide) ?_
          refine lv_iload hx hb dX11_next_58 (lv_at hl 3 rfl) ?_
          refine lv_bipush (v := 10) hx hb dX11_next_60 (by decide) ?_
          obtain ⟨n11, hf⟩ := dz_s hf
          refine lv_irem hx hb dX11_next_62 n11 ?_
          refine lv_imul hx hb dX11_next_63 ?_
          refine lv_iadd hx hb dX11_next_64 ?_
          obtain ⟨g12, hf⟩ := gd_s hf
          refine va_iald hx hb hK.1 hP 1 0 rfl rfl g12 dX11_next_65 ?_
          refine lv_iload hx hb dX11_next_66 (lv_at hl 3 rfl) ?_
          refine lv_bipush (v := 10) hx hb dX11_next_68 (by decide) ?_
          obtain ⟨n13, hf⟩ := dz_s hf
          refine lv_idiv hx hb dX11_next_70 n13 ?_
          refine lv_ishr hx hb dX11_next_71 ?_
          refine lv_iconst (v := 1) hx hb dX11_next_72 (by decide) ?_
          refine lv_iand hx hb dX11_next_73 ?_
          refine lv_iconst (v := 1) hx hb dX11_next_74 (by decide) ?_
          refine lv_icmp_ne (tgt := 88) hx hb dX11_next_75 (by decide) (fun c14 => ?_) (fun c14 => ?_)
          · have hf := o_f c14 hf
            refine lv_lconst (v := 0) hx hb dX11_next_88 (by decide) ?_
            exact hj89 v7 v5 (0 : Int64) H locs ls hf hP hD hS (lv_sub hl [0, 1, 2, 3, 5] rfl)
          · have hf := o_t c14 hf
            refine lv_aload_n hx hb dX11_next_78 rfl (lv_at hl 0 rfl) ?_
            refine va_get (D := G.1) (ci := 11) (v := .ref (mo 11)) (C := RX11) (T := TX11) (N := 29) hx hb ht twX11 hown hK.1 hP 0 rfl rfl 21 (by decide) (ht _ kfl_X11_40) (fun _ h9 => h9) rfl dX11_next_79 ?_
            refine lv_iload hx hb dX11_next_82 (lv_at hl 5 rfl) ?_
            obtain ⟨g15, hf⟩ := gd_s hf
            refine va_lald hx hb hK.1 hP 4 1 rfl rfl g15 dX11_next_84 ?_
            refine lv_goto (tgt := 89) hx hb dX11_next_85 (by decide) ?_
            exact hj89 v7 v5 (q1.1 v7.toNatClampNeg) H locs ls hf hP hD hS (lv_sub hl [0, 1, 2, 3, 5] rfl)
    · have hf := o_t c2 hf
      refine lv_bipush (v := -3) hx hb dX11_next_14 (by decide) ?_
      have h9 := Option.some.inj hf
      subst h9
      exact rw_iret C rfl hP hD hS dX11_next_16
  rw [eH, el] at key
  exact key
abbrev Wc_X11_once (l : Launch) (G : TG) (mo : Nat → Nat) (mo_length : Int32) (mo_at : Int32) (mo_faultAt : Int32) (mo_parts : Int32) (mo_entries : Int32) (mo_ringEarth : Int32) (mo_lead : Int32) (mo_ring : Int32) (mo_jumpMany : Int32) (mo_curveEnd : Int32) (mo_beds : Int32) (mo_bed : Nat → Int32) (mo_all : Int64) (R : Int32) (p : Program) (e : Env) (s : State) (m : MethodId) (below : List Frame) (meth : Method) (c : Code) (H : Heap) (locs : List Loc) (g : JFrame) : Prop := W p l e ({ frames := 1, cells := 0, slots := 0, locals := 21 }) s m ([.ref (mo 0)] : List Value).toArray below meth c H locs 0 0 (MQ below (roQ (some (.int R))) ([.ref (mo 0)] : List Value).toArray s 0 0 (fun _ => False)) g
set_option maxHeartbeats 4000000 in
set_option maxRecDepth 100000 in
theorem c_X11_once (l : Launch) (G : TG) (mo : Nat → Nat) (mo_length : Int32) (mo_at : Int32) (mo_faultAt : Int32) (mo_parts : Int32) (mo_entries : Int32) (mo_ringEarth : Int32) (mo_lead : Int32) (mo_ring : Int32) (mo_jumpMany : Int32) (mo_curveEnd : Int32) (mo_beds : Int32) (mo_bed : Nat → Int32) (mo_all : Int64) (R : Int32) (hf : f_X11_once mo_beds mo_bed = some R) : RO l yX11_once cX11_once 5 (some .int) ({ frames := 1, cells := 0, slots := 0, locals := 21 }) G [.ref (mo 0)] [(oX11 mo mo_length mo_at mo_faultAt mo_parts mo_entries mo_ringEarth mo_lead mo_ring mo_jumpMany mo_curveEnd mo_beds mo_all), (wI G (mo 10) 48 mo_bed)] (some (.int R)) := by
  refine RO.mk (by decide +kernel) (Nat.le_of_ble_eq_true rfl) ?_
  intro p e s m below meth c ls C hP hK hl
  have hx := C.1
  have hb := C.2.1
  have hown : s.vm.findClass RX11 = some m.cls := C.2.2.2.2.2.1
  have ht := C.2.2.2.2.2.2
  have hl : lv_has ls 5 [(0, .ref (mo 0))] := hl
  show Wc_X11_once l G mo mo_length mo_at mo_faultAt mo_parts mo_entries mo_ringEarth mo_lead mo_ring mo_jumpMany mo_curveEnd mo_beds mo_bed mo_all R p e s m below meth c s.heap [] (F0 m 0 ls [])
  refine lv_iconst (v := 0) hx hb dX11_once_0 (by decide) ?_
  refine lv_istore_n (lv' := [(1, .int (0 : Int32)), (0, .ref (mo 0))]) hx hb dX11_once_1 rfl hl (by decide) rfl (fun ls hl => ?_)
  refine lv_bipush (v := 99) hx hb dX11_once_2 (by decide) ?_
  refine lv_istore_n (lv' := [(2, .int (99 : Int32)), (1, .int (0 : Int32)), (0, .ref (mo 0))]) hx hb dX11_once_4 rfl hl (by decide) rfl (fun ls hl => ?_)
  refine lv_iconst (v := 0) hx hb dX11_once_5 (by decide) ?_
  refine lv_istore_n (lv' := [(3, .int (0 : Int32)), (2, .int (99 : Int32)), (1, .int (0 : Int32)), (0, .ref (mo 0))]) hx hb dX11_once_6 rfl hl (by decide) rfl (fun ls hl => ?_)
  refine lv_iconst (v := 0) hx hb dX11_once_7 (by decide) ?_
  refine lv_istore (lv' := [(4, .int (0 : Int32)), (3, .int (0 : Int32)), (2, .int (99 : Int32)), (1, .int (0 : Int32)), (0, .ref (mo 0))]) hx hb dX11_once_8 hl (by decide) rfl (fun ls hl => ?_)
  have hx103_1 : ∀ (v1 : Int32) (v2 : Int32) (v3 : Int32) (ls : Array Slot), f_X11_once_x103_1 v1 v2 v3 = some R → lv_has ls 5 [(1, .int v1), (2, .int v2), (3, .int v3)] → Wc_X11_once l G mo mo_length mo_at mo_faultAt mo_parts mo_entries mo_ringEarth mo_lead mo_ring mo_jumpMany mo_curveEnd mo_beds mo_bed mo_all R p e s m below meth c s.heap [] (F0 m 103 ls []) := by
    intro v1 v2 v3 ls hf hl
    refine lv_iload_n hx hb dX11_once_103 rfl (lv_at hl 2 rfl) ?_
    refine lv_if_eq (tgt := 112) hx hb dX11_once_104 (by decide) (fun c2 => ?_) (fun c2 => ?_)
    · have hf := o_t c2 hf
      refine lv_bipush (v := -9) hx hb dX11_once_112 (by decide) ?_
      refine lv_goto (tgt := 118) hx hb dX11_once_114 (by decide) ?_
      have h9 := Option.some.inj hf
      subst h9
      exact ro_iret C rfl dX11_once_118
    · have hf := o_f c2 hf
      refine lv_iload_n hx hb dX11_once_107 rfl (lv_at hl 0 rfl) ?_
      refine lv_iload_n hx hb dX11_once_108 rfl (lv_at hl 1 rfl) ?_
      refine lv_icmp_le (tgt := 117) hx hb dX11_once_109 (by decide) (fun c4 => ?_) (fun c4 => ?_)
      · have hf := o_t c4 hf
        refine lv_iload_n hx hb dX11_once_117 rfl (lv_at hl 0 rfl) ?_
        have h9 := Option.some.inj hf
        subst h9
        exact ro_iret C rfl dX11_once_118
      · have hf := o_f c4 hf
        refine lv_bipush (v := -9) hx hb dX11_once_112 (by decide) ?_
        refine lv_goto (tgt := 118) hx hb dX11_once_114 (by decide) ?_
        have h9 := Option.some.inj hf
        subst h9
        exact ro_iret C rfl dX11_once_118
  obtain ⟨rL1, hL1, hk1⟩ := bd_s hf
  refine lp_W (P := fun st => ∀ (ls : Array Slot), lv_has ls 5 [(0, .ref (mo 0)), (1, .int st.1), (2, .int st.2.1), (3, .int st.2.2.1), (4, .int st.2.2.2)] → Wc_X11_once l G mo mo_length mo_at mo_faultAt mo_parts mo_entries mo_ringEarth mo_lead mo_ring mo_jumpMany mo_curveEnd mo_beds mo_bed mo_all R p e s m below meth c s.heap [] (F0 m 10 ls [])) ?_ FU ((0 : Int32), (99 : Int32), (0 : Int32), (0 : Int32)) hL1 ls (lv_sub hl [4, 3, 2, 1, 0] rfl)
  intro ⟨v1, v2, v3, v4⟩ oc1 hf hI hE ls hl
  have hl : lv_has ls 5 [(0, .ref (mo 0)), (1, .int v1), (2, .int v2), (3, .int v3), (4, .int v4)] := hl
  have hf : f_X11_once_b10 mo_beds mo_bed v1 v2 v3 v4 = some oc1 := hf
  have hj60 : ∀ (v2 : Int32) (v3 : Int32) (v4 : Int32) (k0 : Int32) (ls : Array Slot), f_X11_once_j60 mo_bed v2 v3 v4 k0 = some oc1 → lv_has ls 5 [(0, .ref (mo 0)), (2, .int v2), (3, .int v3), (4, .int v4)] → Wc_X11_once l G mo mo_length mo_at mo_faultAt mo_parts mo_entries mo_ringEarth mo_lead mo_ring mo_jumpMany mo_curveEnd mo_beds mo_bed mo_all R p e s m below meth c s.heap [] (F0 m 60 ls [.int k0]) := by
    intro v2 v3 v4 k0 ls hf hl
    refine lv_istore_n (lv' := [(1, .int k0), (0, .ref (mo 0)), (2, .int v2), (3, .int v3), (4, .int v4)]) hx hb dX11_once_60 rfl hl (by decide) rfl (fun ls hl => ?_)
    refine lv_aload_n hx hb dX11_once_61 rfl (lv_at hl 1 rfl) ?_
    refine va_get (D := G.1) (ci := 11) (v := .ref (mo 10)) (C := RX11) (T := TX11) (N := 29) hx hb ht twX11 hown hK.1 hP 0 rfl rfl 20 (by decide) (ht _ kfl_X11_37) (fun _ h9 => h9) rfl dX11_once_62 ?_
    refine lv_bipush (v := 6) hx hb dX11_once_65 (by decide) ?_
    refine lv_iload hx hb dX11_once_67 (lv_at hl 4 rfl) ?_
    refine lv_imul hx hb dX11_once_69 ?_
    refine lv_iconst (v := 3) hx hb dX11_once_70 (by decide) ?_
    refine lv_iadd hx hb dX11_once_71 ?_
    obtain ⟨g7, hf⟩ := gd_s hf
    refine va_iald hx hb hK.1 hP 1 0 rfl rfl g7 dX11_once_72 ?_
    refine lv_iload_n hx hb dX11_once_73 rfl (lv_at hl 2 rfl) ?_
    refine lv_icmp_ge (tgt := 92) hx hb dX11_once_74 (by decide) (fun c8 => ?_) (fun c8 => ?_)
    · have hf := o_t c8 hf
      refine lv_iload_n hx hb dX11_once_92 rfl (lv_at hl 2 rfl) ?_
      refine lv_istore_n (lv' := [(2, .int v2), (1, .int k0), (0, .ref (mo 0)), (3, .int v3), (4, .int v4)]) hx hb dX11_once_93 rfl hl (by decide) rfl (fun ls hl => ?_)
      refine lv_iinc (v := (v3 + (1 : Int32))) (lv' := [(3, .int (v3 + (1 : Int32))), (2, .int v2), (1, .int k0), (0, .ref (mo 0)), (4, .int v4)]) hx hb dX11_once_94 hl (k := 3) rfl (by rfl) (by decide) rfl (fun ls hl => ?_)
      refine lv_iinc (v := (v4 + (1 : Int32))) (lv' := [(4, .int (v4 + (1 : Int32))), (3, .int (v3 + (1 : Int32))), (2, .int v2), (1, .int k0), (0, .ref (mo 0))]) hx hb dX11_once_97 hl (k := 4) rfl (by rfl) (by decide) rfl (fun ls hl => ?_)
      refine lv_goto (tgt := 10) hx hb dX11_once_100 (by decide) ?_
      cases hf
      exact hI _ rfl ls (lv_sub hl [4, 3, 2, 1, 0] rfl)
    · have hf := o_f c8 hf
      refine lv_aload_n hx hb dX11_once_77 rfl (lv_at hl 1 rfl) ?_
      refine va_get (D := G.1) (ci := 11) (v := .ref (mo 10)) (C := RX11) (T := TX11) (N := 29) hx hb ht twX11 hown hK.1 hP 0 rfl rfl 20 (by decide) (ht _ kfl_X11_37) (fun _ h9 => h9) rfl dX11_once_78 ?_
      refine lv_bipush (v := 6) hx hb dX11_once_81 (by decide) ?_
      refine lv_iload hx hb dX11_once_83 (lv_at hl 4 rfl) ?_
      refine lv_imul hx hb dX11_once_85 ?_
      refine lv_iconst (v := 3) hx hb dX11_once_86 (by decide) ?_
      refine lv_iadd hx hb dX11_once_87 ?_
      obtain ⟨g9, hf⟩ := gd_s hf
      refine va_iald hx hb hK.1 hP 1 0 rfl rfl g9 dX11_once_88 ?_
      refine lv_goto (tgt := 93) hx hb dX11_once_89 (by decide) ?_
      obtain ⟨u10, e10, hf⟩ := bd_s hf
      refine lv_re (Option.some.inj e10).symm ?_
      refine lv_istore_n (lv' := [(2, .int u10), (1, .int k0), (0, .ref (mo 0)), (3, .int v3), (4, .int v4)]) hx hb dX11_once_93 rfl hl (by decide) rfl (fun ls hl => ?_)
      refine lv_iinc (v := (v3 + (1 : Int32))) (lv' := [(3, .int (v3 + (1 : Int32))), (2, .int u10), (1, .int k0), (0, .ref (mo 0)), (4, .int v4)]) hx hb dX11_once_94 hl (k := 3) rfl (by rfl) (by decide) rfl (fun ls hl => ?_)
      refine lv_iinc (v := (v4 + (1 : Int32))) (lv' := [(4, .int (v4 + (1 : Int32))), (3, .int (v3 + (1 : Int32))), (2, .int u10), (1, .int k0), (0, .ref (mo 0))]) hx hb dX11_once_97 hl (k := 4) rfl (by rfl) (by decide) rfl (fun ls hl => ?_)
      refine lv_goto (tgt := 10) hx hb dX11_once_100 (by decide) ?_
      cases hf
      exact hI _ rfl ls (lv_sub hl [4, 3, 2, 1, 0] rfl)
  refine lv_iload hx hb dX11_once_10 (lv_at hl 4 rfl) ?_
  refine lv_aload_n hx hb dX11_once_12 rfl (lv_at hl 0 rfl) ?_
  refine va_get (D := G.1) (ci := 11) (v := .int mo_beds) (C := RX11) (T := TX11) (N := 29) hx hb ht twX11 hown hK.1 hP 0 rfl rfl 19 (by decide) (ht _ kfl_X11_180) (fun _ h9 => h9) rfl dX11_once_13 ?_
  refine lv_icmp_ge (tgt := 103) hx hb dX11_once_16 (by decide) (fun c11 => ?_) (fun c11 => ?_)
  · have hf := o_t c11 hf
    cases hf
    have hf : f_X11_once_x103_1 v1 v2 v3 = some R := by have h9 := hk1; rw [← hE _ rfl] at h9; exact h9
    exact hx103_1 v1 v2 v3 ls hf (lv_sub hl [1, 2, 3] rfl)
  · have hf := o_f c11 hf
    refine lv_aload_n hx hb dX11_once_19 rfl (lv_at hl 0 rfl) ?_
    refine lv_iload hx hb dX11_once_20 (lv_at hl 4 rfl) ?_
    obtain ⟨q12, r12, hf⟩ := bd_s hf
    refine ro_V (n := 1) (As := [.int v4]) (rest := []) (c_X11_isIcy l G mo mo_length mo_at mo_faultAt mo_parts mo_entries mo_ringEarth mo_lead mo_ring mo_jumpMany mo_curveEnd mo_beds mo_bed mo_all v4 q12 r12) C hK (hP.sub [0, 1] rfl) hl kcode_X11_isIcy kml_X11_195 kim_X11_isIcy ksel_X11_isIcy kini_X11 (by decide +kernel) ⟨⟨rfl, rfl⟩, Nat.le_of_ble_eq_true rfl, Nat.le_of_ble_eq_true rfl⟩ ⟨Nat.zero_le _, Nat.zero_le _⟩ rfl rfl rfl rfl rfl (Nat.le_of_ble_eq_true rfl) dX11_once_22 rfl ?_
    refine lv_if_eq (tgt := 97) hx hb dX11_once_25 (by decide) (fun c13 => ?_) (fun c13 => ?_)
    · have hf := o_t c13 hf
      refine lv_iinc (v := (v4 + (1 : Int32))) (lv' := [(4, .int (v4 + (1 : Int32))), (0, .ref (mo 0)), (1, .int v1), (2, .int v2), (3, .int v3)]) hx hb dX11_once_97 hl (k := 4) rfl (by rfl) (by decide) rfl (fun ls hl => ?_)
      refine lv_goto (tgt := 10) hx hb dX11_once_100 (by decide) ?_
      cases hf
      exact hI _ rfl ls (lv_sub hl [1, 2, 3, 4, 0] rfl)
    · have hf := o_f c13 hf
      refine lv_aload_n hx hb dX11_once_28 rfl (lv_at hl 0 rfl) ?_
      refine va_get (D := G.1) (ci := 11) (v := .ref (mo 10)) (C := RX11) (T := TX11) (N := 29) hx hb ht twX11 hown hK.1 hP 0 rfl rfl 20 (by decide) (ht _ kfl_X11_37) (fun _ h9 => h9) rfl dX11_once_29 ?_
      refine lv_bipush (v := 6) hx hb dX11_once_32 (by decide) ?_
      refine lv_iload hx hb dX11_once_34 (lv_at hl 4 rfl) ?_
      refine lv_imul hx hb dX11_once_36 ?_
      refine lv_iconst (v := 2) hx hb dX11_once_37 (by decide) ?_
      refine lv_iadd hx hb dX11_once_38 ?_
      obtain ⟨g14, hf⟩ := gd_s hf
      refine va_iald hx hb hK.1 hP 1 0 rfl rfl g14 dX11_once_39 ?_
      refine lv_iload_n hx hb dX11_once_40 rfl (lv_at hl 1 rfl) ?_
      refine lv_icmp_le (tgt := 59) hx hb dX11_once_41 (by decide) (fun c15 => ?_) (fun c15 => ?_)
      · have hf := o_t c15 hf
        refine lv_iload_n hx hb dX11_once_59 rfl (lv_at hl 1 rfl) ?_
        exact hj60 v2 v3 v4 v1 ls hf (lv_sub hl [0, 2, 3, 4] rfl)
      · have hf := o_f c15 hf
        refine lv_aload_n hx hb dX11_once_44 rfl (lv_at hl 0 rfl) ?_
        refine va_get (D := G.1) (ci := 11) (v := .ref (mo 10)) (C := RX11) (T := TX11) (N := 29) hx hb ht twX11 hown hK.1 hP 0 rfl rfl 20 (by decide) (ht _ kfl_X11_37) (fun _ h9 => h9) rfl dX11_once_45 ?_
        refine lv_bipush (v := 6) hx hb dX11_once_48 (by decide) ?_
        refine lv_iload hx hb dX11_once_50 (lv_at hl 4 rfl) ?_
        refine lv_imul hx hb dX11_once_52 ?_
        refine lv_iconst (v := 2) hx hb dX11_once_53 (by decide) ?_
        refine lv_iadd hx hb dX11_once_54 ?_
        obtain ⟨g16, hf⟩ := gd_s hf
        refine va_iald hx hb hK.1 hP 1 0 rfl rfl g16 dX11_once_55 ?_
        refine lv_goto (tgt := 60) hx hb dX11_once_56 (by decide) ?_
        exact hj60 v2 v3 v4 (mo_bed (((6 : Int32) * v4) + (2 : Int32)).toNatClampNeg) ls hf (lv_sub hl [0, 2, 3, 4] rfl)
abbrev Wc_X11_firstEnd (l : Launch) (G : TG) (mo : Nat → Nat) (mo_length : Int32) (mo_at : Int32) (mo_faultAt : Int32) (mo_parts : Int32) (mo_entries : Int32) (mo_ringEarth : Int32) (mo_lead : Int32) (mo_ring : Int32) (mo_jumpMany : Int32) (mo_curveEnd : Int32) (mo_beds : Int32) (mo_bed : Nat → Int32) (mo_all : Int64) (a1 : Int32) (R : Int32) (p : Program) (e : Env) (s : State) (m : MethodId) (below : List Frame) (meth : Method) (c : Code) (H : Heap) (locs : List Loc) (g : JFrame) : Prop := W p l e ({ frames := 1, cells := 0, slots := 0, locals := 21 }) s m ([.ref (mo 0), .int a1] : List Value).toArray below meth c H locs 0 0 (MQ below (roQ (some (.int R))) ([.ref (mo 0), .int a1] : List Value).toArray s 0 0 (fun _ => False)) g
set_option maxHeartbeats 4000000 in
set_option maxRecDepth 100000 in
theorem c_X11_firstEnd (l : Launch) (G : TG) (mo : Nat → Nat) (mo_length : Int32) (mo_at : Int32) (mo_faultAt : Int32) (mo_parts : Int32) (mo_entries : Int32) (mo_ringEarth : Int32) (mo_lead : Int32) (mo_ring : Int32) (mo_jumpMany : Int32) (mo_curveEnd : Int32) (mo_beds : Int32) (mo_bed : Nat → Int32) (mo_all : Int64) (a1 : Int32) (R : Int32) (hf : f_X11_firstEnd mo_beds mo_bed a1 = some R) : RO l yX11_firstEnd cX11_firstEnd 5 (some .int) ({ frames := 1, cells := 0, slots := 0, locals := 21 }) G [.ref (mo 0), .int a1] [(oX11 mo mo_length mo_at mo_faultAt mo_parts mo_entries mo_ringEarth mo_lead mo_ring mo_jumpMany mo_curveEnd mo_beds mo_all), (wI G (mo 10) 48 mo_bed)] (some (.int R)) := by
  refine RO.mk (by decide +kernel) (Nat.le_of_ble_eq_true rfl) ?_
  intro p e s m below meth c ls C hP hK hl
  have hx := C.1
  have hb := C.2.1
  have hown : s.vm.findClass RX11 = some m.cls := C.2.2.2.2.2.1
  have ht := C.2.2.2.2.2.2
  have hl : lv_has ls 5 [(0, .ref (mo 0)), (1, .int a1)] := hl
  show Wc_X11_firstEnd l G mo mo_length mo_at mo_faultAt mo_parts mo_entries mo_ringEarth mo_lead mo_ring mo_jumpMany mo_curveEnd mo_beds mo_bed mo_all a1 R p e s m below meth c s.heap [] (F0 m 0 ls [])
  refine lv_bipush (v := -9) hx hb dX11_firstEnd_0 (by decide) ?_
  refine lv_istore_n (lv' := [(2, .int (-9 : Int32)), (0, .ref (mo 0)), (1, .int a1)]) hx hb dX11_firstEnd_2 rfl hl (by decide) rfl (fun ls hl => ?_)
  refine lv_iconst (v := 0) hx hb dX11_firstEnd_3 (by decide) ?_
  refine lv_istore_n (lv' := [(3, .int (0 : Int32)), (2, .int (-9 : Int32)), (0, .ref (mo 0)), (1, .int a1)]) hx hb dX11_firstEnd_4 rfl hl (by decide) rfl (fun ls hl => ?_)
  have hx74_1 : ∀ (v2 : Int32) (ls : Array Slot), f_X11_firstEnd_x74_1 v2 = some R → lv_has ls 5 [(2, .int v2)] → Wc_X11_firstEnd l G mo mo_length mo_at mo_faultAt mo_parts mo_entries mo_ringEarth mo_lead mo_ring mo_jumpMany mo_curveEnd mo_beds mo_bed mo_all a1 R p e s m below meth c s.heap [] (F0 m 74 ls []) := by
    intro v2 ls hf hl
    refine lv_iload_n hx hb dX11_firstEnd_74 rfl (lv_at hl 0 rfl) ?_
    have h9 := Option.some.inj hf
    subst h9
    exact ro_iret C rfl dX11_firstEnd_75
  obtain ⟨rL1, hL1, hk1⟩ := bd_s hf
  refine lp_W (P := fun st => ∀ (ls : Array Slot), lv_has ls 5 [(0, .ref (mo 0)), (1, .int a1), (2, .int st.1), (3, .int st.2)] → Wc_X11_firstEnd l G mo mo_length mo_at mo_faultAt mo_parts mo_entries mo_ringEarth mo_lead mo_ring mo_jumpMany mo_curveEnd mo_beds mo_bed mo_all a1 R p e s m below meth c s.heap [] (F0 m 5 ls [])) ?_ FU ((-9 : Int32), (0 : Int32)) hL1 ls (lv_sub hl [2, 3, 1, 0] rfl)
  intro ⟨v2, v3⟩ oc1 hf hI hE ls hl
  have hl : lv_has ls 5 [(0, .ref (mo 0)), (1, .int a1), (2, .int v2), (3, .int v3)] := hl
  have hf : f_X11_firstEnd_b5 mo_beds mo_bed a1 v2 v3 = some oc1 := hf
  refine lv_iload_n hx hb dX11_firstEnd_5 rfl (lv_at hl 3 rfl) ?_
  refine lv_aload_n hx hb dX11_firstEnd_6 rfl (lv_at hl 0 rfl) ?_
  refine va_get (D := G.1) (ci := 11) (v := .int mo_beds) (C := RX11) (T := TX11) (N := 29) hx hb ht twX11 hown hK.1 hP 0 rfl rfl 19 (by decide) (ht _ kfl_X11_180) (fun _ h9 => h9) rfl dX11_firstEnd_7 ?_
  refine lv_icmp_ge (tgt := 74) hx hb dX11_firstEnd_10 (by decide) (fun c3 => ?_) (fun c3 => ?_)
  · have hf := o_t c3 hf
    cases hf
    have hf : f_X11_firstEnd_x74_1 v2 = some R := by have h9 := hk1; rw [← hE _ rfl] at h9; exact h9
    exact hx74_1 v2 ls hf (lv_sub hl [2] rfl)
  · have hf := o_f c3 hf
    refine lv_aload_n hx hb dX11_firstEnd_13 rfl (lv_at hl 0 rfl) ?_
    refine va_get (D := G.1) (ci := 11) (v := .ref (mo 10)) (C := RX11) (T := TX11) (N := 29) hx hb ht twX11 hown hK.1 hP 0 rfl rfl 20 (by decide) (ht _ kfl_X11_37) (fun _ h9 => h9) rfl dX11_firstEnd_14 ?_
    refine lv_bipush (v := 6) hx hb dX11_firstEnd_17 (by decide) ?_
    refine lv_iload_n hx hb dX11_firstEnd_19 rfl (lv_at hl 3 rfl) ?_
    refine lv_imul hx hb dX11_firstEnd_20 ?_
    refine lv_iconst (v := 3) hx hb dX11_firstEnd_21 (by decide) ?_
    refine lv_iadd hx hb dX11_firstEnd_22 ?_
    obtain ⟨g4, hf⟩ := gd_s hf
    refine va_iald hx hb hK.1 hP 1 0 rfl rfl g4 dX11_firstEnd_23 ?_
    obtain ⟨u5, e5, hf⟩ := bd_s hf
    refine lv_re (Option.some.inj e5).symm ?_
    refine lv_istore (lv' := [(4, .int u5), (0, .ref (mo 0)), (1, .int a1), (2, .int v2), (3, .int v3)]) hx hb dX11_firstEnd_24 hl (by decide) rfl (fun ls hl => ?_)
    refine lv_aload_n hx hb dX11_firstEnd_26 rfl (lv_at hl 1 rfl) ?_
    refine lv_iload_n hx hb dX11_firstEnd_27 rfl (lv_at hl 4 rfl) ?_
    obtain ⟨q6, r6, hf⟩ := bd_s hf
    refine ro_V (n := 1) (As := [.int v3]) (rest := []) (c_X11_isIcy l G mo mo_length mo_at mo_faultAt mo_parts mo_entries mo_ringEarth mo_lead mo_ring mo_jumpMany mo_curveEnd mo_beds mo_bed mo_all v3 q6 r6) C hK (hP.sub [0, 1] rfl) hl kcode_X11_isIcy kml_X11_195 kim_X11_isIcy ksel_X11_isIcy kini_X11 (by decide +kernel) ⟨⟨rfl, rfl⟩, Nat.le_of_ble_eq_true rfl, Nat.le_of_ble_eq_true rfl⟩ ⟨Nat.zero_le _, Nat.zero_le _⟩ rfl rfl rfl rfl rfl (Nat.le_of_ble_eq_true rfl) dX11_firstEnd_28 rfl ?_
    refine lv_if_eq (tgt := 66) hx hb dX11_firstEnd_31 (by decide) (fun c7 => ?_) (fun c7 => ?_)
    · have hf := o_t c7 hf
      refine lv_iload_n hx hb dX11_firstEnd_66 rfl (lv_at hl 3 rfl) ?_
      refine lv_istore_n (lv' := [(2, .int v2), (4, .int u5), (0, .ref (mo 0)), (1, .int a1), (3, .int v3)]) hx hb dX11_firstEnd_67 rfl hl (by decide) rfl (fun ls hl => ?_)
      refine lv_iinc (v := (v3 + (1 : Int32))) (lv' := [(3, .int (v3 + (1 : Int32))), (2, .int v2), (4, .int u5), (0, .ref (mo 0)), (1, .int a1)]) hx hb dX11_firstEnd_68 hl (k := 4) rfl (by rfl) (by decide) rfl (fun ls hl => ?_)
      refine lv_goto (tgt := 5) hx hb dX11_firstEnd_71 (by decide) ?_
      cases hf
      exact hI _ rfl ls (lv_sub hl [3, 4, 1, 0] rfl)
    · have hf := o_f c7 hf
      refine lv_aload_n hx hb dX11_firstEnd_34 rfl (lv_at hl 1 rfl) ?_
      refine va_get (D := G.1) (ci := 11) (v := .ref (mo 10)) (C := RX11) (T := TX11) (N := 29) hx hb ht twX11 hown hK.1 hP 0 rfl rfl 20 (by decide) (ht _ kfl_X11_37) (fun _ h9 => h9) rfl dX11_firstEnd_35 ?_
      refine lv_bipush (v := 6) hx hb dX11_firstEnd_38 (by decide) ?_
      refine lv_iload_n hx hb dX11_firstEnd_40 rfl (lv_at hl 4 rfl) ?_
      refine lv_imul hx hb dX11_firstEnd_41 ?_
      refine lv_iconst (v := 2) hx hb dX11_firstEnd_42 (by decide) ?_
      refine lv_iadd hx hb dX11_firstEnd_43 ?_
      obtain ⟨g8, hf⟩ := gd_s hf
      refine va_iald hx hb hK.1 hP 1 0 rfl rfl g8 dX11_firstEnd_44 ?_
      refine lv_iload_n hx hb dX11_firstEnd_45 rfl (lv_at hl 2 rfl) ?_
      refine lv_icmp_le (tgt := 66) hx hb dX11_firstEnd_46 (by decide) (fun c9 => ?_) (fun c9 => ?_)
      · have hf := o_t c9 hf
        refine lv_iload_n hx hb dX11_firstEnd_66 rfl (lv_at hl 3 rfl) ?_
        refine lv_istore_n (lv' := [(2, .int v2), (4, .int u5), (0, .ref (mo 0)), (1, .int a1), (3, .int v3)]) hx hb dX11_firstEnd_67 rfl hl (by decide) rfl (fun ls hl => ?_)
        refine lv_iinc (v := (v3 + (1 : Int32))) (lv' := [(3, .int (v3 + (1 : Int32))), (2, .int v2), (4, .int u5), (0, .ref (mo 0)), (1, .int a1)]) hx hb dX11_firstEnd_68 hl (k := 4) rfl (by rfl) (by decide) rfl (fun ls hl => ?_)
        refine lv_goto (tgt := 5) hx hb dX11_firstEnd_71 (by decide) ?_
        cases hf
        exact hI _ rfl ls (lv_sub hl [3, 4, 1, 0] rfl)
      · have hf := o_f c9 hf
        refine lv_iload_n hx hb dX11_firstEnd_49 rfl (lv_at hl 3 rfl) ?_
        refine lv_bipush (v := -9) hx hb dX11_firstEnd_50 (by decide) ?_
        refine lv_icmp_eq (tgt := 61) hx hb dX11_firstEnd_52 (by decide) (fun c10 => ?_) (fun c10 => ?_)
        · have hf := o_t c10 hf
          refine lv_iload hx hb dX11_firstEnd_61 (lv_at hl 0 rfl) ?_
          refine lv_goto (tgt := 67) hx hb dX11_firstEnd_63 (by decide) ?_
          refine lv_istore_n (lv' := [(2, .int u5), (4, .int u5), (0, .ref (mo 0)), (1, .int a1), (3, .int v3)]) hx hb dX11_firstEnd_67 rfl hl (by decide) rfl (fun ls hl => ?_)
          refine lv_iinc (v := (v3 + (1 : Int32))) (lv' := [(3, .int (v3 + (1 : Int32))), (2, .int u5), (4, .int u5), (0, .ref (mo 0)), (1, .int a1)]) hx hb dX11_firstEnd_68 hl (k := 4) rfl (by rfl) (by decide) rfl (fun ls hl => ?_)
          refine lv_goto (tgt := 5) hx hb dX11_firstEnd_71 (by decide) ?_
          cases hf
          exact hI _ rfl ls (lv_sub hl [3, 4, 1, 0] rfl)
        · have hf := o_f c10 hf
          refine lv_iload hx hb dX11_firstEnd_55 (lv_at hl 0 rfl) ?_
          refine lv_iload_n hx hb dX11_firstEnd_57 rfl (lv_at hl 3 rfl) ?_
          refine lv_icmp_ge (tgt := 66) hx hb dX11_firstEnd_58 (by decide) (fun c11 => ?_) (fun c11 => ?_)
          · have hf := o_t c11 hf
            refine lv_iload_n hx hb dX11_firstEnd_66 rfl (lv_at hl 3 rfl) ?_
            refine lv_istore_n (lv' := [(2, .int v2), (4, .int u5), (0, .ref (mo 0)), (1, .int a1), (3, .int v3)]) hx hb dX11_firstEnd_67 rfl hl (by decide) rfl (fun ls hl => ?_)
            refine lv_iinc (v := (v3 + (1 : Int32))) (lv' := [(3, .int (v3 + (1 : Int32))), (2, .int v2), (4, .int u5), (0, .ref (mo 0)), (1, .int a1)]) hx hb dX11_firstEnd_68 hl (k := 4) rfl (by rfl) (by decide) rfl (fun ls hl => ?_)
            refine lv_goto (tgt := 5) hx hb dX11_firstEnd_71 (by decide) ?_
            cases hf
            exact hI _ rfl ls (lv_sub hl [3, 4, 1, 0] rfl)
          · have hf := o_f c11 hf
            refine lv_iload hx hb dX11_firstEnd_61 (lv_at hl 0 rfl) ?_
            refine lv_goto (tgt := 67) hx hb dX11_firstEnd_63 (by decide) ?_
            refine lv_istore_n (lv' := [(2, .int u5), (4, .int u5), (0, .ref (mo 0)), (1, .int a1), (3, .int v3)]) hx hb dX11_firstEnd_67 rfl hl (by decide) rfl (fun ls hl => ?_)
            refine lv_iinc (v := (v3 + (1 : Int32))) (lv' := [(3, .int (v3 + (1 : Int32))), (2, .int u5), (4, .int u5), (0, .ref (mo 0)), (1, .int a1)]) hx hb dX11_firstEnd_68 hl (k := 4) rfl (by rfl) (by decide) rfl (fun ls hl => ?_)
            refine lv_goto (tgt := 5) hx hb dX11_firstEnd_71 (by decide) ?_
            cases hf
            exact hI _ rfl ls (lv_sub hl [3, 4, 1, 0] rfl)
