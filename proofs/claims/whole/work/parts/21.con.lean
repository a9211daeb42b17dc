abbrev Wc_X6_faultOf (l : Launch) (G : TG) (o : Nat → Nat) (p1 : Nat → Nat) (o_numbers : Nat → Int32) (o_parts : Int32) (o_figuresDue : Int32) (o_place : Int32) (o_bandDue : Int32) (p1_signs : Nat → Int32) (p1_length : Int32) (R : Int32 × (Nat → Int32) × Int32 × Int32 × Int32 × Int32) (p : Program) (e : Env) (s : State) (m : MethodId) (below : List Frame) (meth : Method) (c : Code) (A : Nat → Prop) (H : Heap) (locs : List Loc) (g : JFrame) : Prop := W p l e ({ frames := 6, cells := 0, slots := 0, locals := 149 }) s m ([.ref (o 0), .ref (p1 0)] : List Value).toArray below meth c H locs 0 0 (MQ below (rwQ G (some (.int R.1)) [(oX6 o R.2.2.1 R.2.2.2.1 R.2.2.2.2.1 R.2.2.2.2.2), (wI G (o 1) 12 R.2.1), (oX9 p1 p1_length), (wI G (p1 1) 48 p1_signs)] A) ([.ref (o 0), .ref (p1 0)] : List Value).toArray s 0 0 A) g
set_option maxHeartbeats 4000000 in
set_option maxRecDepth 100000 in
theorem c_X6_faultOf (l : Launch) (G : TG) (o : Nat → Nat) (p1 : Nat → Nat) (o_numbers : Nat → Int32) (o_parts : Int32) (o_figuresDue : Int32) (o_place : Int32) (o_bandDue : Int32) (p1_signs : Nat → Int32) (p1_length : Int32) (R : Int32 × (Nat → Int32) × Int32 × Int32 × Int32 × Int32) (hf : f_X6_faultOf o_numbers p1_signs p1_length = some R) : RW l yX6_faultOf cX6_faultOf 3 (some .int) ({ frames := 6, cells := 0, slots := 0, locals := 149 }) G [.ref (o 0), .ref (p1 0)] [(oX6 o o_parts o_figuresDue o_place o_bandDue), (wI G (o 1) 12 o_numbers), (oX9 p1 p1_length), (wI G (p1 1) 48 p1_signs)] (some (.int R.1)) [(oX6 o R.2.2.1 R.2.2.2.1 R.2.2.2.2.1 R.2.2.2.2.2), (wI G (o 1) 12 R.2.1), (oX9 p1 p1_length), (wI G (p1 1) 48 p1_signs)] := by
  refine RW.mk (by decide +kernel) (Nat.le_of_ble_eq_true rfl) ?_
  intro p e s m below meth c ls A C hP hD hA hz hK hl hS
  have hx := C.1
  have hb := C.2.1
  have hown : s.vm.findClass RX6 = some m.cls := C.2.2.2.2.2.1
  have ht := C.2.2.2.2.2.2
  have hl : lv_has ls 3 [(0, .ref (o 0)), (1, .ref (p1 0))] := hl
  show Wc_X6_faultOf l G o p1 o_numbers o_parts o_figuresDue o_place o_bandDue p1_signs p1_length R p e s m below meth c A s.heap [] (F0 m 0 ls [])
  obtain ⟨H, eH, hP, hS⟩ : ∃ H, H = s.heap ∧ va_P G.1 vwCl [(oX6 o o_parts o_figuresDue o_place o_bandDue), (wI G (o 1) 12 o_numbers), (oX9 p1 p1_length), (wI G (p1 1) 48 p1_signs)] H ∧ va_S A s.heap H [] := ⟨_, rfl, hP, hS⟩
  obtain ⟨locs, el, hS⟩ : ∃ locs : List Loc, locs = [] ∧ va_S A s.heap H locs := ⟨_, rfl, hS⟩
  have key : Wc_X6_faultOf l G o p1 o_numbers o_parts o_figuresDue o_place o_bandDue p1_signs p1_length R p e s m below meth c A H locs (F0 m 0 ls []) := by
    have hj55 : ∀ (o_numbers : Nat → Int32) (o_parts : Int32) (o_figuresDue : Int32) (o_place : Int32) (o_bandDue : Int32) (H : Heap) (locs : List Loc) (ls : Array Slot), f_X6_faultOf_j55 p1_length o_numbers o_parts o_figuresDue o_place o_bandDue = some R → va_P G.1 vwCl [(oX6 o o_parts o_figuresDue o_place o_bandDue), (wI G (o 1) 12 o_numbers), (oX9 p1 p1_length), (wI G (p1 1) 48 p1_signs)] H → va_D A [(oX6 o o_parts o_figuresDue o_place o_bandDue), (wI G (o 1) 12 o_numbers), (oX9 p1 p1_length), (wI G (p1 1) 48 p1_signs)] → va_S A s.heap H locs → lv_has ls 3 [(1, .ref (p1 0))] → Wc_X6_faultOf l G o p1 o_numbers o_parts o_figuresDue o_place o_bandDue p1_signs p1_length R p e s m below meth c A H locs (F0 m 55 ls []) := by
      intro o_numbers o_parts o_figuresDue o_place o_bandDue H locs ls hf hP hD hS hl
      refine lv_aload_n hx hb dX6_faultOf_55 rfl (lv_at hl 0 rfl) ?_
      refine va_get (D := G.1) (ci := 9) (v := .int p1_length) (C := RX9) (T := TX9) (N := 2) hx hb ht twX9 hown hK.1 hP 2 rfl rfl 1 (by decide) (ht _ kfl_X6_20) (fun _ h9 => h9) rfl dX6_faultOf_56 ?_
      refine lv_goto (tgt := 64) hx hb dX6_faultOf_59 (by decide) ?_
      have h9 := Option.some.inj hf
      subst h9
      exact rw_iret C rfl hP hD hS dX6_faultOf_64
    refine lv_aload_n hx hb dX6_faultOf_0 rfl (lv_at hl 0 rfl) ?_
    obtain ⟨q2, r2, hf⟩ := bd_s hf
    refine rw_V (n := 0) (As := []) (rest := []) (wr := [(oX9 p1 p1_length), (wI G (p1 1) 48 p1_signs)]) (ws2 := [(oX6 o q2.2.1 q2.2.2.1 q2.2.2.2.1 q2.2.2.2.2), (wI G (o 1) 12 q2.1), (oX9 p1 p1_length), (wI G (p1 1) 48 p1_signs)]) (c_X6_begin l G o o_numbers o_parts o_figuresDue o_place o_bandDue q2 r2) C hK hP hD hS hA hz hl [0, 1] [2, 3] [2, 3, 0, 1] rfl rfl rfl rfl rfl (by decide) rfl rfl rfl kcode_X6_begin kml_X6_17 kim_X6_begin ksel_X6_begin kini_X6 (by decide +kernel) ⟨⟨rfl, rfl⟩, Nat.le_of_ble_eq_true rfl, Nat.le_of_ble_eq_true rfl⟩ ⟨Nat.zero_le _, Nat.zero_le _⟩ rfl rfl rfl rfl rfl (Nat.le_of_ble_eq_true rfl) dX6_faultOf_1 rfl (fun H locs hP hD hS => ?_)
    refine lv_iconst (v := 0) hx hb dX6_faultOf_4 (by decide) ?_
    refine lv_istore_n (lv' := [(2, .int (0 : Int32)), (0, .ref (o 0)), (1, .ref (p1 0))]) hx hb dX6_faultOf_5 rfl hl (by decide) rfl (fun ls hl => ?_)
    have hx41_3 : ∀ (o_numbers : Nat → Int32) (o_parts : Int32) (o_figuresDue : Int32) (o_place : Int32) (o_bandDue : Int32) (H : Heap) (locs : List Loc) (ls : Array Slot), f_X6_faultOf_x41_3 p1_length o_numbers o_parts o_figuresDue o_place o_bandDue = some R → va_P G.1 vwCl [(oX6 o o_parts o_figuresDue o_place o_bandDue), (wI G (o 1) 12 o_numbers), (oX9 p1 p1_length), (wI G (p1 1) 48 p1_signs)] H → va_D A [(oX6 o o_parts o_figuresDue o_place o_bandDue), (wI G (o 1) 12 o_numbers), (oX9 p1 p1_length), (wI G (p1 1) 48 p1_signs)] → va_S A s.heap H locs → lv_has ls 3 [(0, .ref (o 0)), (1, .ref (p1 0))] → Wc_X6_faultOf l G o p1 o_numbers o_parts o_figuresDue o_place o_bandDue p1_signs p1_length R p e s m below meth c A H locs (F0 m 41 ls []) := by
      intro o_numbers o_parts o_figuresDue o_place o_bandDue H locs ls hf hP hD hS hl
      refine lv_aload_n hx hb dX6_faultOf_41 rfl (lv_at hl 0 rfl) ?_
      refine va_get (D := G.1) (ci := 6) (v := .int o_figuresDue) (C := RX6) (T := TX6) (N := 5) hx hb ht twX6 hown hK.1 hP 0 rfl rfl 2 (by decide) (ht _ kfl_X6_33) (fun _ h9 => h9) rfl dX6_faultOf_42 ?_
      refine lv_if_gt (tgt := 55) hx hb dX6_faultOf_45 (by decide) (fun c4 => ?_) (fun c4 => ?_)
      · have hf := o_t c4 hf
        exact hj55 o_numbers o_parts o_figuresDue o_place o_bandDue H locs ls hf hP hD hS (lv_sub hl [1] rfl)
      · have hf := o_f c4 hf
        refine lv_aload_n hx hb dX6_faultOf_48 rfl (lv_at hl 0 rfl) ?_
        refine va_get (D := G.1) (ci := 6) (v := .int o_bandDue) (C := RX6) (T := TX6) (N := 5) hx hb ht twX6 hown hK.1 hP 0 rfl rfl 4 (by decide) (ht _ kfl_X6_36) (fun _ h9 => h9) rfl dX6_faultOf_49 ?_
        refine lv_if_eq (tgt := 62) hx hb dX6_faultOf_52 (by decide) (fun c5 => ?_) (fun c5 => ?_)
        · have hf := o_t c5 hf
          refine lv_bipush (v := -9) hx hb dX6_faultOf_62 (by decide) ?_
          have h9 := Option.some.inj hf
          subst h9
          exact rw_iret C rfl hP hD hS dX6_faultOf_64
        · have hf := o_f c5 hf
          exact hj55 o_numbers o_parts o_figuresDue o_place o_bandDue H locs ls hf hP hD hS (lv_sub hl [1] rfl)
    obtain ⟨rL3, hL3, hk3⟩ := bd_s hf
    refine lp_W (P := fun st => ∀ (H : Heap) (locs : List Loc) (ls : Array Slot), va_P G.1 vwCl [(oX6 o st.2.2.1 st.2.2.2.1 st.2.2.2.2.1 st.2.2.2.2.2), (wI G (o 1) 12 st.2.1), (oX9 p1 p1_length), (wI G (p1 1) 48 p1_signs)] H → va_D A [(oX6 o st.2.2.1 st.2.2.2.1 st.2.2.2.2.1 st.2.2.2.2.2), (wI G (o 1) 12 st.2.1), (oX9 p1 p1_length), (wI G (p1 1) 48 p1_signs)] → va_S A s.heap H locs → lv_has ls 3 [(0, .ref (o 0)), (1, .ref (p1 0)), (2, .int st.1)] → Wc_X6_faultOf l G o p1 o_numbers o_parts o_figuresDue o_place o_bandDue p1_signs p1_length R p e s m below meth c A H locs (F0 m 6 ls [])) ?_ FU ((0 : Int32), q2.1, q2.2.1, q2.2.2.1, q2.2.2.2.1, q2.2.2.2.2) hL3 H locs ls hP hD hS (lv_sub hl [1, 2, 0] rfl)
    intro ⟨v2, o_numbers, o_parts, o_figuresDue, o_place, o_bandDue⟩ oc3 hf hI hE H locs ls hP hD hS hl
    have hP : va_P G.1 vwCl [(oX6 o o_parts o_figuresDue o_place o_bandDue), (wI G (o 1) 12 o_numbers), (oX9 p1 p1_length), (wI G (p1 1) 48 p1_signs)] H := hP
    have hD : va_D A [(oX6 o o_parts o_figuresDue o_place o_bandDue), (wI G (o 1) 12 o_numbers), (oX9 p1 p1_length), (wI G (p1 1) 48 p1_signs)] := hD
    have hl : lv_has ls 3 [(0, .ref (o 0)), (1, .ref (p1 0)), (2, .int v2)] := hl
    have hf : f_X6_faultOf_b6 p1_signs p1_length v2 o_numbers o_parts o_figuresDue o_place o_bandDue = some oc3 := hf
    refine lv_iload_n hx hb dX6_faultOf_6 rfl (lv_at hl 2 rfl) ?_
    refine lv_aload_n hx hb dX6_faultOf_7 rfl (lv_at hl 1 rfl) ?_
    refine va_get (D := G.1) (ci := 9) (v := .int p1_length) (C := RX9) (T := TX9) (N := 2) hx hb ht twX9 hown hK.1 hP 2 rfl rfl 1 (by decide) (ht _ kfl_X6_20) (fun _ h9 => h9) rfl dX6_faultOf_8 ?_
    refine lv_icmp_ge (tgt := 41) hx hb dX6_faultOf_11 (by decide) (fun c7 => ?_) (fun c7 => ?_)
    · have hf := o_t c7 hf
      cases hf
      have hf : f_X6_faultOf_x41_3 p1_length o_numbers o_parts o_figuresDue o_place o_bandDue = some R := by have h9 := hk3; rw [← hE _ rfl] at h9; exact h9
      exact hx41_3 o_numbers o_parts o_figuresDue o_place o_bandDue H locs ls hf hP hD hS (lv_sub hl [0, 1] rfl)
    · have hf := o_f c7 hf
      refine lv_iload_n hx hb dX6_faultOf_14 rfl (lv_at hl 2 rfl) ?_
      refine lv_bipush (v := 48) hx hb dX6_faultOf_15 (by decide) ?_
      refine lv_icmp_ge (tgt := 41) hx hb dX6_faultOf_17 (by decide) (fun c8 => ?_) (fun c8 => ?_)
      · have hf := o_t c8 hf
        cases hf
        have hf : f_X6_faultOf_x41_3 p1_length o_numbers o_parts o_figuresDue o_place o_bandDue = some R := by have h9 := hk3; rw [← hE _ rfl] at h9; exact h9
        exact hx41_3 o_numbers o_parts o_figuresDue o_place o_bandDue H locs ls hf hP hD hS (lv_sub hl [0, 1] rfl)
      · have hf := o_f c8 hf
        refine lv_aload_n hx hb dX6_faultOf_20 rfl (lv_at hl 0 rfl) ?_
        refine lv_aload_n hx hb dX6_faultOf_21 rfl (lv_at hl 1 rfl) ?_
        refine va_get (D := G.1) (ci := 9) (v := .ref (p1 1)) (C := RX9) (T := TX9) (N := 2) hx hb ht twX9 hown hK.1 hP 2 rfl rfl 0 (by decide) (ht _ kfl_X6_26) (fun _ h9 => h9) rfl dX6_faultOf_22 ?_
        refine lv_iload_n hx hb dX6_faultOf_25 rfl (lv_at hl 2 rfl) ?_
        obtain ⟨g9, hf⟩ := gd_s hf
        refine va_iald hx hb hK.1 hP 3 0 rfl rfl g9 dX6_faultOf_26 ?_
        obtain ⟨q10, r10, hf⟩ := bd_s hf
        refine rw_V (n := 1) (As := [.int (p1_signs v2.toNatClampNeg)]) (rest := []) (wr := [(oX9 p1 p1_length), (wI G (p1 1) 48 p1_signs)]) (ws2 := [(oX6 o q10.2.2.1 q10.2.2.2.1 q10.2.2.2.2.1 q10.2.2.2.2.2), (wI G (o 1) 12 q10.2.1), (oX9 p1 p1_length), (wI G (p1 1) 48 p1_signs)]) (c_X6_takes l G o o_numbers o_parts o_figuresDue o_place o_bandDue (p1_signs v2.toNatClampNeg) q10 r10) C hK hP hD hS hA hz hl [0, 1] [2, 3] [2, 3, 0, 1] rfl rfl rfl rfl rfl (by decide) rfl rfl rfl kcode_X6_takes kml_X6_29 kim_X6_takes ksel_X6_takes kini_X6 (by decide +kernel) ⟨⟨rfl, rfl⟩, Nat.le_of_ble_eq_true rfl, Nat.le_of_ble_eq_true rfl⟩ ⟨Nat.zero_le _, Nat.zero_le _⟩ rfl rfl rfl rfl rfl (Nat.le_of_ble_eq_true rfl) dX6_faultOf_27 rfl (fun H locs hP hD hS => ?_)
        refine lv_if_ne (tgt := 35) hx hb dX6_faultOf_30 (by decide) (fun c11 => ?_) (fun c11 => ?_)
        · have hf := o_f c11 hf
          refine lv_iinc (v := (v2 + (1 : Int32))) (lv' := [(2, .int (v2 + (1 : Int32))), (0, .ref (o 0)), (1, .ref (p1 0))]) hx hb dX6_faultOf_35 hl (k := 2) rfl (by rfl) (by decide) rfl (fun ls hl => ?_)
          refine lv_goto (tgt := 6) hx hb dX6_faultOf_38 (by decide) ?_
          cases hf
          exact hI _ rfl H locs ls hP hD hS (lv_sub hl [1, 2, 0] rfl)
        · have hf := o_t c11 hf
          refine lv_iload_n hx hb dX6_faultOf_33 rfl (lv_at hl 2 rfl) ?_
          cases hf
          have hf : some (v2, q10.2.1, q10.2.2.1, q10.2.2.2.1, q10.2.2.2.2.1, q10.2.2.2.2.2) = some R := by have h9 := hk3; rw [← hE _ rfl] at h9; exact h9
          have h9 := Option.some.inj hf
          subst h9
          exact rw_iret C rfl hP hD hS dX6_faultOf_34
  rw [eH, el] at key
  exact key
abbrev Wc_X6_giveTo (l : Launch) (G : TG) (o : Nat → Nat) (p1 : Nat → Nat) (o_numbers : Nat → Int32) (o_parts : Int32) (o_figuresDue : Int32) (o_place : Int32) (o_bandDue : Int32) (p1_law : Nat → Int32) (R : (Nat → Int32)) (p : Program) (e : Env) (s : State) (m : MethodId) (below : List Frame) (meth : Method) (c : Code) (A : Nat → Prop) (H : Heap) (locs : List Loc) (g : JFrame) : Prop := W p l e ({ frames := 1, cells := 0, slots := 0, locals := 40 }) s m ([.ref (o 0), .ref (p1 0)] : List Value).toArray below meth c H locs 0 0 (MQ below (rwQ G none [(oX6 o o_parts o_figuresDue o_place o_bandDue), (wI G (o 1) 12 o_numbers), (oX3 p1), (wI G (p1 1) 12 R)] A) ([.ref (o 0), .ref (p1 0)] : List Value).toArray s 0 0 A) g
set_option maxHeartbeats 4000000 in
set_option maxRecDepth 100000 in
theorem c_X6_giveTo (l : Launch) (G : TG) (o : Nat → Nat) (p1 : Nat → Nat) (o_numbers : Nat → Int32) (o_parts : Int32) (o_figuresDue : Int32) (o_place : Int32) (o_bandDue : Int32) (p1_law : Nat → Int32) (R : (Nat → Int32)) (hf : f_X6_giveTo o_numbers p1_law = some R) : RW l yX6_giveTo cX6_giveTo 3 none ({ frames := 1, cells := 0, slots := 0, locals := 40 }) G [.ref (o 0), .ref (p1 0)] [(oX6 o o_parts o_figuresDue o_place o_bandDue), (wI G (o 1) 12 o_numbers), (oX3 p1), (wI G (p1 1) 12 p1_law)] none [(oX6 o o_parts o_figuresDue o_place o_bandDue), (wI G (o 1) 12 o_numbers), (oX3 p1), (wI G (p1 1) 12 R)] := by
  refine RW.mk (by decide +kernel) (Nat.le_of_ble_eq_true rfl) ?_
  intro p e s m below meth c ls A C hP hD hA hz hK hl hS
  have hx := C.1
  have hb := C.2.1
  have hown : s.vm.findClass RX6 = some m.cls := C.2.2.2.2.2.1
  have ht := C.2.2.2.2.2.2
  have hl : lv_has ls 3 [(0, .ref (o 0)), (1, .ref (p1 0))] := hl
  show Wc_X6_giveTo l G o p1 o_numbers o_parts o_figuresDue o_place o_bandDue p1_law R p e s m below meth c A s.heap [] (F0 m 0 ls [])
  obtain ⟨H, eH, hP, hS⟩ : ∃ H, H = s.heap ∧ va_P G.1 vwCl [(oX6 o o_parts o_figuresDue o_place o_bandDue), (wI G (o 1) 12 o_numbers), (oX3 p1), (wI G (p1 1) 12 p1_law)] H ∧ va_S A s.heap H [] := ⟨_, rfl, hP, hS⟩
  obtain ⟨locs, el, hS⟩ : ∃ locs : List Loc, locs = [] ∧ va_S A s.heap H locs := ⟨_, rfl, hS⟩
  have key : Wc_X6_giveTo l G o p1 o_numbers o_parts o_figuresDue o_place o_bandDue p1_law R p e s m below meth c A H locs (F0 m 0 ls []) := by
    refine lv_iconst (v := 0) hx hb dX6_giveTo_0 (by decide) ?_
    refine lv_istore_n (lv' := [(2, .int (0 : Int32)), (0, .ref (o 0)), (1, .ref (p1 0))]) hx hb dX6_giveTo_1 rfl hl (by decide) rfl (fun ls hl => ?_)
    have hx30_1 : ∀ (p1_law : Nat → Int32) (H : Heap) (locs : List Loc) (ls : Array Slot), f_X6_giveTo_x30_1 p1_law = some R → va_P G.1 vwCl [(oX6 o o_parts o_figuresDue o_place o_bandDue), (wI G (o 1) 12 o_numbers), (oX3 p1), (wI G (p1 1) 12 p1_law)] H → va_D A [(oX6 o o_parts o_figuresDue o_place o_bandDue), (wI G (o 1) 12 o_numbers), (oX3 p1), (wI G (p1 1) 12 p1_law)] → va_S A s.heap H locs → lv_has ls 3 [] → Wc_X6_giveTo l G o p1 o_numbers o_parts o_figuresDue o_place o_bandDue p1_law R p e s m below meth c A H locs (F0 m 30 ls []) := by
      intro p1_law H locs ls hf hP hD hS hl
      have h9 := Option.some.inj hf
      subst h9
      exact rw_vret C hP hD hS dX6_giveTo_30
    obtain ⟨rL1, hL1, hk1⟩ := bd_s hf
    refine lp_W (P := fun st => ∀ (H : Heap) (locs : List Loc) (ls : Array Slot), va_P G.1 vwCl [(oX6 o o_parts o_figuresDue o_place o_bandDue), (wI G (o 1) 12 o_numbers), (oX3 p1), (wI G (p1 1) 12 st.2)] H → va_D A [(oX6 o o_parts o_figuresDue o_place o_bandDue), (wI G (o 1) 12 o_numbers), (oX3 p1), (wI G (p1 1) 12 st.2)] → va_S A s.heap H locs → lv_has ls 3 [(0, .ref (o 0)), (1, .ref (p1 0)), (2, .int st.1)] → Wc_X6_giveTo l G o p1 o_numbers o_parts o_figuresDue o_place o_bandDue p1_law R p e s m below meth c A H locs (F0 m 2 ls [])) ?_ FU ((0 : Int32), p1_law) hL1 H locs ls hP hD hS (lv_sub hl [1, 2, 0] rfl)
    intro ⟨v2, p1_law⟩ oc1 hf hI hE H locs ls hP hD hS hl
    have hP : va_P G.1 vwCl [(oX6 o o_parts o_figuresDue o_place o_bandDue), (wI G (o 1) 12 o_numbers), (oX3 p1), (wI G (p1 1) 12 p1_law)] H := hP
    have hD : va_D A [(oX6 o o_parts o_figuresDue o_place o_bandDue), (wI G (o 1) 12 o_numbers), (oX3 p1), (wI G (p1 1) 12 p1_law)] := hD
    have hl : lv_has ls 3 [(0, .ref (o 0)), (1, .ref (p1 0)), (2, .int v2)] := hl
    have hf : f_X6_giveTo_b2 o_numbers v2 p1_law = some oc1 := hf
    refine lv_iload_n hx hb dX6_giveTo_2 rfl (lv_at hl 2 rfl) ?_
    refine lv_bipush (v := 12) hx hb dX6_giveTo_3 (by decide) ?_
    refine lv_icmp_ge (tgt := 30) hx hb dX6_giveTo_5 (by decide) (fun c3 => ?_) (fun c3 => ?_)
    · have hf := o_t c3 hf
      cases hf
      have hf : f_X6_giveTo_x30_1 p1_law = some R := by have h9 := hk1; rw [← hE _ rfl] at h9; exact h9
      exact hx30_1 p1_law H locs ls hf hP hD hS (lv_sub hl [] rfl)
    · have hf := o_f c3 hf
      refine lv_aload_n hx hb dX6_giveTo_8 rfl (lv_at hl 1 rfl) ?_
      refine va_get (D := G.1) (ci := 3) (v := .ref (p1 1)) (C := RX3) (T := TX3) (N := 1) hx hb ht twX3 hown hK.1 hP 2 rfl rfl 0 (by decide) (ht _ kfl_X6_40) (fun _ h9 => h9) rfl dX6_giveTo_9 ?_
      refine lv_iload_n hx hb dX6_giveTo_12 rfl (lv_at hl 2 rfl) ?_
      refine lv_aload_n hx hb dX6_giveTo_13 rfl (lv_at hl 0 rfl) ?_
      refine va_get (D := G.1) (ci := 6) (v := .ref (o 1)) (C := RX6) (T := TX6) (N := 5) hx hb ht twX6 hown hK.1 hP 0 rfl rfl 0 (by decide) (ht _ kfl_X6_11) (fun _ h9 => h9) rfl dX6_giveTo_14 ?_
      refine lv_iload_n hx hb dX6_giveTo_17 rfl (lv_at hl 2 rfl) ?_
      obtain ⟨g4, hf⟩ := gd_s hf
      refine va_iald hx hb hK.1 hP 1 0 rfl rfl g4 dX6_giveTo_18 ?_
      refine lv_iconst (v := 0) hx hb dX6_giveTo_19 (by decide) ?_
      refine va_mmax hx hb (C.2.2.1.trans hl.1.symm) hown (ht _ kml_X6_43) (ht _ kst_J9_max_7cf53) (ht _ kini_J9) (ht _ kcode_J9_max_7cf53) (Nat.le_of_ble_eq_true rfl) (Nat.le_of_ble_eq_true rfl) (Nat.zero_le _) (Nat.zero_le _) dX6_giveTo_20 ?_
      obtain ⟨g5, hf⟩ := gd_s hf
      refine va_iast hx hb hK.1 hP hD hS 3 0 rfl rfl g5 dX6_giveTo_23 (fun H locs hP hD hS => ?_)
      have hP : va_P G.1 vwCl [(oX6 o o_parts o_figuresDue o_place o_bandDue), (wI G (o 1) 12 o_numbers), (oX3 p1), (wI G (p1 1) 12 (upd p1_law v2.toNatClampNeg (if (o_numbers v2.toNatClampNeg) < (0 : Int32) then (0 : Int32) else (o_numbers v2.toNatClampNeg))))] H := hP
      have hD : va_D A [(oX6 o o_parts o_figuresDue o_place o_bandDue), (wI G (o 1) 12 o_numbers), (oX3 p1), (wI G (p1 1) 12 (upd p1_law v2.toNatClampNeg (if (o_numbers v2.toNatClampNeg) < (0 : Int32) then (0 : Int32) else (o_numbers v2.toNatClampNeg))))] := hD
      refine lv_iinc (v := (v2 + (1 : Int32))) (lv' := [(2, .int (v2 + (1 : Int32))), (0, .ref (o 0)), (1, .ref (p1 0))]) hx hb dX6_giveTo_24 hl (k := 2) rfl (by rfl) (by decide) rfl (fun ls hl => ?_)
      refine lv_goto (tgt := 2) hx hb dX6_giveTo_27 (by decide) ?_
      cases hf
      exact hI _ rfl H locs ls hP hD hS (lv_sub hl [1, 2, 0] rfl)
  rw [eH, el] at key
  exact key
abbrev Wc_X7_isNew (l : Launch) (G : TG) (o : Nat → Nat) (o_placeBehind : Nat → Int32) (o_length : Int32) (o_lead : Int32) (a1 : Int32) (R : Int32) (p : Program) (e : Env) (s : State) (m : MethodId) (below : List Frame) (meth : Method) (c : Code) (H : Heap) (locs : List Loc) (g : JFrame) : Prop := W p l e ({ frames := 1, cells := 0, slots := 0, locals := 22 }) s m ([.ref (o 0), .int a1] : List Value).toArray below meth c H locs 0 0 (MQ below (roQ (some (.int R))) ([.ref (o 0), .int a1] : List Value).toArray s 0 0 (fun _ => False)) g
set_option maxHeartbeats 4000000 in
set_option maxRecDepth 100000 in
theorem c_X7_isNew (l : Launch) (G : TG) (o : Nat → Nat) (o_placeBehind : Nat → Int32) (o_length : Int32) (o_lead : Int32) (a1 : Int32) (R : Int32) (hf : f_X7_isNew o_placeBehind a1 = some R) : RO l yX7_isNew cX7_isNew 2 (some .boolean) ({ frames := 1, cells := 0, slots := 0, locals := 22 }) G [.ref (o 0), .int a1] [(oX7 o o_length o_lead), (wI G (o 2) 6400 o_placeBehind)] (some (.int R)) := by
  refine RO.mk (by decide +kernel) (Nat.le_of_ble_eq_true rfl) ?_
  intro p e s m below meth c ls C hP hK hl
  have hx := C.1
  have hb := C.2.1
  have hown : s.vm.findClass RX7 = some m.cls := C.2.2.2.2.2.1
  have ht := C.2.2.2.2.2.2
  have hl : lv_has ls 2 [(0, .ref (o 0)), (1, .int a1)] := hl
  show Wc_X7_isNew l G o o_placeBehind o_length o_lead a1 R p e s m below meth c s.heap [] (F0 m 0 ls [])
  refine lv_iload_n hx hb dX7_isNew_0 rfl (lv_at hl 1 rfl) ?_
  refine lv_iconst (v := 0) hx hb dX7_isNew_1 (by decide) ?_
  refine lv_sipush (v := 6399) hx hb dX7_isNew_2 (by decide) ?_
  obtain ⟨q1, r1, hf⟩ := bd_s hf
  refine ro_SN (n := 3) (As := [.int a1, .int (0 : Int32), .int (6399 : Int32)]) (rest := []) (c_X10_within l G a1 (0 : Int32) (6399 : Int32) q1 r1) C hK (hP.sub [] rfl) hl kcode_X10_within kmln_X7_36 kst_X10_within kini_X10 (by decide +kernel) ⟨⟨rfl, rfl⟩, Nat.le_of_ble_eq_true rfl, Nat.le_of_ble_eq_true rfl⟩ ⟨Nat.zero_le _, Nat.zero_le _⟩ rfl rfl (Nat.le_of_ble_eq_true rfl) dX7_isNew_5 rfl ?_
  refine lv_if_eq (tgt := 24) hx hb dX7_isNew_8 (by decide) (fun c2 => ?_) (fun c2 => ?_)
  · have hf := o_t c2 hf
    refine lv_iconst (v := 0) hx hb dX7_isNew_24 (by decide) ?_
    have h9 := Option.some.inj hf
    subst h9
    exact ro_zret C (Or.inl rfl) rfl dX7_isNew_25
  · have hf := o_f c2 hf
    refine lv_aload_n hx hb dX7_isNew_11 rfl (lv_at hl 0 rfl) ?_
    refine va_get (D := G.1) (ci := 7) (v := .ref (o 2)) (C := RX7) (T := TX7) (N := 4) hx hb ht twX7 hown hK.1 hP 0 rfl rfl 1 (by decide) (ht _ kfl_X7_17) (fun _ h9 => h9) rfl dX7_isNew_12 ?_
    refine lv_iload_n hx hb dX7_isNew_15 rfl (lv_at hl 1 rfl) ?_
    obtain ⟨g4, hf⟩ := gd_s hf
    refine va_iald hx hb hK.1 hP 1 0 rfl rfl g4 dX7_isNew_16 ?_
    refine lv_if_ne (tgt := 24) hx hb dX7_isNew_17 (by decide) (fun c5 => ?_) (fun c5 => ?_)
    · have hf := o_f c5 hf
      refine lv_iconst (v := 0) hx hb dX7_isNew_24 (by decide) ?_
      have h9 := Option.some.inj hf
      subst h9
      exact ro_zret C (Or.inl rfl) rfl dX7_isNew_25
    · have hf := o_t c5 hf
      refine lv_iconst (v := 1) hx hb dX7_isNew_20 (by decide) ?_
      refine lv_goto (tgt := 25) hx hb dX7_isNew_21 (by decide) ?_
      have h9 := Option.some.inj hf
      subst h9
      exact ro_zret C (Or.inr rfl) rfl dX7_isNew_25
abbrev Wc_X7_follow (l : Launch) (G : TG) (o : Nat → Nat) (p1 : Nat → Nat) (o_states : Nat → Int32) (o_placeBehind : Nat → Int32) (o_length : Int32) (o_lead : Int32) (p1_law : Nat → Int32) (a2 : Int32) (a3 : Int32) (R : (Nat → Int32) × (Nat → Int32) × Int32 × Int32) (p : Program) (e : Env) (s : State) (m : MethodId) (below : List Frame) (meth : Method) (c : Code) (A : Nat → Prop) (H : Heap) (locs : List Loc) (g : JFrame) : Prop := W p l e ({ frames := 5, cells := 0, slots := 0, locals := 119 }) s m ([.ref (o 0), .ref (p1 0), .int a2, .int a3] : List Value).toArray below meth c H locs 0 0 (MQ below (rwQ G none [(oX7 o R.2.2.1 R.2.2.2), (wI G (o 1) 6400 R.1), (wI G (o 2) 6400 R.2.1), (oX3 p1), (wI G (p1 1) 12 p1_law)] A) ([.ref (o 0), .ref (p1 0), .int a2, .int a3] : List Value).toArray s 0 0 A) g
set_option maxHeartbeats 4000000 in
set_option maxRecDepth 100000 in
theorem c_X7_follow (l : Launch) (G : TG) (o : Nat → Nat) (p1 : Nat → Nat) (o_states : Nat → Int32) (o_placeBehind : Nat → Int32) (o_length : Int32) (o_lead : Int32) (p1_law : Nat → Int32) (a2 : Int32) (a3 : Int32) (R : (Nat → Int32) × (Nat → Int32) × Int32 × Int32) (hf : f_X7_follow o_states o_placeBehind p1_law a2 a3 = some R) : RW l yX7_follow cX7_follow 6 none ({ frames := 5, cells := 0, slots := 0, locals := 119 }) G [.ref (o 0), .ref (p1 0), .int a2, .int a3] [(oX7 o o_length o_lead), (wI G (o 1) 6400 o_states), (wI G (o 2) 6400 o_placeBehind), (oX3 p1), (wI G (p1 1) 12 p1_law)] none [(oX7 o R.2.2.1 R.2.2.2), (wI G (o 1) 6400 R.1), (wI G (o 2) 6400 R.2.1), (oX3 p1), (wI G (p1 1) 12 p1_law)] := by
  refine RW.mk (by decide +kernel) (Nat.le_of_ble_eq_true rfl) ?_
  intro p e s m below meth c ls A C hP hD hA hz hK hl hS
  have hx := C.1
  have hb := C.2.1
  have hown : s.vm.findClass RX7 = some m.cls := C.2.2.2.2.2.1
  have ht := C.2.2.2.2.2.2
  have hl : lv_has ls 6 [(0, .ref (o 0)), (1, .ref (p1 0)), (2, .int a2), (3, .int a3)] := hl
  show Wc_X7_follow l G o p1 o_states o_placeBehind o_length o_lead p1_law a2 a3 R p e s m below meth c A s.heap [] (F0 m 0 ls [])
  obtain ⟨H, eH, hP, hS⟩ : ∃ H, H = s.heap ∧ va_P G.1 vwCl [(oX7 o o_length o_lead), (wI G (o 1) 6400 o_states), (wI G (o 2) 6400 o_placeBehind), (oX3 p1), (wI G (p1 1) 12 p1_law)] H ∧ va_S A s.heap H [] := ⟨_, rfl, hP, hS⟩
  obtain ⟨locs, el, hS⟩ : ∃ locs : List Loc, locs = [] ∧ va_S A s.heap H locs := ⟨_, rfl, hS⟩
  have key : Wc_X7_follow l G o p1 o_states o_placeBehind o_length o_lead p1_law a2 a3 R p e s m below meth c A H locs (F0 m 0 ls []) := by
    have hj104 : ∀ (k1 : Int32) (o_states : Nat → Int32) (o_placeBehind : Nat → Int32) (o_length : Int32) (o_lead : Int32) (H : Heap) (locs : List Loc) (ls : Array Slot), f_X7_follow_j104 k1 o_states o_placeBehind o_length = some R → va_P G.1 vwCl [(oX7 o o_length o_lead), (wI G (o 1) 6400 o_states), (wI G (o 2) 6400 o_placeBehind), (oX3 p1), (wI G (p1 1) 12 p1_law)] H → va_D A [(oX7 o o_length o_lead), (wI G (o 1) 6400 o_states), (wI G (o 2) 6400 o_placeBehind), (oX3 p1), (wI G (p1 1) 12 p1_law)] → va_S A s.heap H locs → lv_has ls 6 [(0, .ref (o 0))] → Wc_X7_follow l G o p1 o_states o_placeBehind o_length o_lead p1_law a2 a3 R p e s m below meth c A H locs (F0 m 104 ls [.int k1, .ref (o 0)]) := by
      intro k1 o_states o_placeBehind o_length o_lead H locs ls hf hP hD hS hl
      refine va_put (D := G.1) (ci := 7) (v := .int k1) (ty := .int) (C := RX7) (T := TX7) (N := 4) hx hb ht twX7 tyX7 tyX7_ok nmX7 hown hK.1 hP hD hS 0 rfl rfl 3 (by decide) (ht _ kfl_X7_45) (fun _ h9 => h9) rfl (by decide +kernel) rfl rfl (Nat.le_of_ble_eq_true rfl) dX7_follow_104 (fun H locs hP hD hS => ?_)
      have hP : va_P G.1 vwCl [(oX7 o o_length k1), (wI G (o 1) 6400 o_states), (wI G (o 2) 6400 o_placeBehind), (oX3 p1), (wI G (p1 1) 12 p1_law)] H := hP
      have hD : va_D A [(oX7 o o_length k1), (wI G (o 1) 6400 o_states), (wI G (o 2) 6400 o_placeBehind), (oX3 p1), (wI G (p1 1) 12 p1_law)] := hD
      refine lv_iconst (v := 0) hx hb dX7_follow_107 (by decide) ?_
      refine lv_istore (lv' := [(5, .int (0 : Int32)), (0, .ref (o 0))]) hx hb dX7_follow_108 hl (by decide) rfl (fun ls hl => ?_)
      have hx138_1 : ∀ (o_placeBehind : Nat → Int32) (H : Heap) (locs : List Loc) (ls : Array Slot), f_X7_follow_x138_1 k1 o_states o_length o_placeBehind = some R → va_P G.1 vwCl [(oX7 o o_length k1), (wI G (o 1) 6400 o_states), (wI G (o 2) 6400 o_placeBehind), (oX3 p1), (wI G (p1 1) 12 p1_law)] H → va_D A [(oX7 o o_length k1), (wI G (o 1) 6400 o_states), (wI G (o 2) 6400 o_placeBehind), (oX3 p1), (wI G (p1 1) 12 p1_law)] → va_S A s.heap H locs → lv_has ls 6 [] → Wc_X7_follow l G o p1 o_states o_placeBehind o_length o_lead p1_law a2 a3 R p e s m below meth c A H locs (F0 m 138 ls []) := by
        intro o_placeBehind H locs ls hf hP hD hS hl
        have h9 := Option.some.inj hf
        subst h9
        exact rw_vret C hP hD hS dX7_follow_138
      obtain ⟨rL1, hL1, hk1⟩ := bd_s hf
      refine lp_W (P := fun st => ∀ (H : Heap) (locs : List Loc) (ls : Array Slot), va_P G.1 vwCl [(oX7 o o_length k1), (wI G (o 1) 6400 o_states), (wI G (o 2) 6400 st.2), (oX3 p1), (wI G (p1 1) 12 p1_law)] H → va_D A [(oX7 o o_length k1), (wI G (o 1) 6400 o_states), (wI G (o 2) 6400 st.2), (oX3 p1), (wI G (p1 1) 12 p1_law)] → va_S A s.heap H locs → lv_has ls 6 [(0, .ref (o 0)), (5, .int st.1)] → Wc_X7_follow l G o p1 o_states o_placeBehind o_length o_lead p1_law a2 a3 R p e s m below meth c A H locs (F0 m 110 ls [])) ?_ FU ((0 : Int32), o_placeBehind) hL1 H locs ls hP hD hS (lv_sub hl [1, 0] rfl)
      intro ⟨v5, o_placeBehind⟩ oc1 hf hI hE H locs ls hP hD hS hl
      have hP : va_P G.1 vwCl [(oX7 o o_length k1), (wI G (o 1) 6400 o_states), (wI G (o 2) 6400 o_placeBehind), (oX3 p1), (wI G (p1 1) 12 p1_law)] H := hP
      have hD : va_D A [(oX7 o o_length k1), (wI G (o 1) 6400 o_states), (wI G (o 2) 6400 o_placeBehind), (oX3 p1), (wI G (p1 1) 12 p1_law)] := hD
      have hl : lv_has ls 6 [(0, .ref (o 0)), (5, .int v5)] := hl
      have hf : f_X7_follow_b110 o_states o_length v5 o_placeBehind = some oc1 := hf
      refine lv_iload hx hb dX7_follow_110 (lv_at hl 1 rfl) ?_
      refine lv_aload_n hx hb dX7_follow_112 rfl (lv_at hl 0 rfl) ?_
      refine va_get (D := G.1) (ci := 7) (v := .int o_length) (C := RX7) (T := TX7) (N := 4) hx hb ht twX7 hown hK.1 hP 0 rfl rfl 2 (by decide) (ht _ kfl_X7_24) (fun _ h9 => h9) rfl dX7_follow_113 ?_
      refine lv_icmp_ge (tgt := 138) hx hb dX7_follow_116 (by decide) (fun c3 => ?_) (fun c3 => ?_)
      · have hf := o_t c3 hf
        cases hf
        have hf : f_X7_follow_x138_1 k1 o_states o_length o_placeBehind = some R := by have h9 := hk1; rw [← hE _ rfl] at h9; exact h9
        exact hx138_1 o_placeBehind H locs ls hf hP hD hS (lv_sub hl [] rfl)
      · have hf := o_f c3 hf
        refine lv_aload_n hx hb dX7_follow_119 rfl (lv_at hl 0 rfl) ?_
        refine va_get (D := G.1) (ci := 7) (v := .ref (o 2)) (C := RX7) (T := TX7) (N := 4) hx hb ht twX7 hown hK.1 hP 0 rfl rfl 1 (by decide) (ht _ kfl_X7_17) (fun _ h9 => h9) rfl dX7_follow_120 ?_
        refine lv_aload_n hx hb dX7_follow_123 rfl (lv_at hl 0 rfl) ?_
        refine va_get (D := G.1) (ci := 7) (v := .ref (o 1)) (C := RX7) (T := TX7) (N := 4) hx hb ht twX7 hown hK.1 hP 0 rfl rfl 0 (by decide) (ht _ kfl_X7_11) (fun _ h9 => h9) rfl dX7_follow_124 ?_
        refine lv_iload hx hb dX7_follow_127 (lv_at hl 1 rfl) ?_
        obtain ⟨g4, hf⟩ := gd_s hf
        refine va_iald hx hb hK.1 hP 1 0 rfl rfl g4 dX7_follow_129 ?_
        refine lv_iconst (v := 0) hx hb dX7_follow_130 (by decide) ?_
        obtain ⟨g5, hf⟩ := gd_s hf
        refine va_iast hx hb hK.1 hP hD hS 2 0 rfl rfl g5 dX7_follow_131 (fun H locs hP hD hS => ?_)
        have hP : va_P G.1 vwCl [(oX7 o o_length k1), (wI G (o 1) 6400 o_states), (wI G (o 2) 6400 (upd o_placeBehind (o_states v5.toNatClampNeg).toNatClampNeg (0 : Int32))), (oX3 p1), (wI G (p1 1) 12 p1_law)] H := hP
        have hD : va_D A [(oX7 o o_length k1), (wI G (o 1) 6400 o_states), (wI G (o 2) 6400 (upd o_placeBehind (o_states v5.toNatClampNeg).toNatClampNeg (0 : Int32))), (oX3 p1), (wI G (p1 1) 12 p1_law)] := hD
        refine lv_iinc (v := (v5 + (1 : Int32))) (lv' := [(5, .int (v5 + (1 : Int32))), (0, .ref (o 0))]) hx hb dX7_follow_132 hl (k := 1) rfl (by rfl) (by decide) rfl (fun ls hl => ?_)
        refine lv_goto (tgt := 110) hx hb dX7_follow_135 (by decide) ?_
        cases hf
        exact hI _ rfl H locs ls hP hD hS (lv_sub hl [1, 0] rfl)
    refine lv_iload_n hx hb dX7_follow_0 rfl (lv_at hl 2 rfl) ?_
    refine lv_iload_n hx hb dX7_follow_1 rfl (lv_at hl 3 rfl) ?_
    obtain ⟨q6, r6, hf⟩ := bd_s hf
    refine ro_S (n := 2) (As := [.int a2, .int a3]) (rest := []) (c_X3_stateOf l G a2 a3 q6 r6) C (hK.at hS hz) (hP.sub [] rfl) hl kcode_X3_stateOf kml_X7_20 kst_X3_stateOf kini_X3 (by decide +kernel) ⟨⟨rfl, rfl⟩, Nat.le_of_ble_eq_true rfl, Nat.le_of_ble_eq_true rfl⟩ ⟨Nat.zero_le _, Nat.zero_le _⟩ rfl rfl (Nat.le_of_ble_eq_true rfl) dX7_follow_2 rfl ?_
    refine lv_istore (lv' := [(4, .int q6), (0, .ref (o 0)), (1, .ref (p1 0)), (2, .int a2), (3, .int a3)]) hx hb dX7_follow_5 hl (by decide) rfl (fun ls hl => ?_)
    refine lv_aload_n hx hb dX7_follow_7 rfl (lv_at hl 1 rfl) ?_
    refine lv_iconst (v := 0) hx hb dX7_follow_8 (by decide) ?_
    refine va_put (D := G.1) (ci := 7) (v := .int (0 : Int32)) (ty := .int) (C := RX7) (T := TX7) (N := 4) hx hb ht twX7 tyX7 tyX7_ok nmX7 hown hK.1 hP hD hS 0 rfl rfl 2 (by decide) (ht _ kfl_X7_24) (fun _ h9 => h9) rfl (by decide +kernel) rfl rfl (Nat.le_of_ble_eq_true rfl) dX7_follow_9 (fun H locs hP hD hS => ?_)
    have hP : va_P G.1 vwCl [(oX7 o (0 : Int32) o_lead), (wI G (o 1) 6400 o_states), (wI G (o 2) 6400 o_placeBehind), (oX3 p1), (wI G (p1 1) 12 p1_law)] H := hP
    have hD : va_D A [(oX7 o (0 : Int32) o_lead), (wI G (o 1) 6400 o_states), (wI G (o 2) 6400 o_placeBehind), (oX3 p1), (wI G (p1 1) 12 p1_law)] := hD
    have hx74_7 : ∀ (v4 : Int32) (o_states : Nat → Int32) (o_placeBehind : Nat → Int32) (o_length : Int32) (H : Heap) (locs : List Loc) (ls : Array Slot), f_X7_follow_x74_7 v4 o_states o_placeBehind o_length = some R → va_P G.1 vwCl [(oX7 o o_length o_lead), (wI G (o 1) 6400 o_states), (wI G (o 2) 6400 o_placeBehind), (oX3 p1), (wI G (p1 1) 12 p1_law)] H → va_D A [(oX7 o o_length o_lead), (wI G (o 1) 6400 o_states), (wI G (o 2) 6400 o_placeBehind), (oX3 p1), (wI G (p1 1) 12 p1_law)] → va_S A s.heap H locs → lv_has ls 6 [(0, .ref (o 0)), (4, .int v4)] → Wc_X7_follow l G o p1 o_states o_placeBehind o_length o_lead p1_law a2 a3 R p e s m below meth c A H locs (F0 m 74 ls []) := by
      intro v4 o_states o_placeBehind o_length H locs ls hf hP hD hS hl
      refine lv_aload_n hx hb dX7_follow_74 rfl (lv_at hl 0 rfl) ?_
      refine lv_iload hx hb dX7_follow_75 (lv_at hl 1 rfl) ?_
      refine lv_iconst (v := 0) hx hb dX7_follow_77 (by decide) ?_
      refine lv_sipush (v := 6399) hx hb dX7_follow_78 (by decide) ?_
      obtain ⟨q8, r8, hf⟩ := bd_s hf
      refine ro_SN (n := 3) (As := [.int v4, .int (0 : Int32), .int (6399 : Int32)]) (rest := [.ref (o 0)]) (c_X10_within l G v4 (0 : Int32) (6399 : Int32) q8 r8) C (hK.at hS hz) (hP.sub [] rfl) hl kcode_X10_within kmln_X7_36 kst_X10_within kini_X10 (by decide +kernel) ⟨⟨rfl, rfl⟩, Nat.le_of_ble_eq_true rfl, Nat.le_of_ble_eq_true rfl⟩ ⟨Nat.zero_le _, Nat.zero_le _⟩ rfl rfl (Nat.le_of_ble_eq_true rfl) dX7_follow_81 rfl ?_
      refine lv_if_eq (tgt := 103) hx hb dX7_follow_84 (by decide) (fun c9 => ?_) (fun c9 => ?_)
      · have hf := o_t c9 hf
        refine lv_iconst (v := 0) hx hb dX7_follow_103 (by decide) ?_
        exact hj104 (0 : Int32) o_states o_placeBehind o_length o_lead H locs ls hf hP hD hS (lv_sub hl [0] rfl)
      · have hf := o_f c9 hf
        refine lv_aload_n hx hb dX7_follow_87 rfl (lv_at hl 0 rfl) ?_
        refine va_get (D := G.1) (ci := 7) (v := .ref (o 2)) (C := RX7) (T := TX7) (N := 4) hx hb ht twX7 hown hK.1 hP 0 rfl rfl 1 (by decide) (ht _ kfl_X7_17) (fun _ h9 => h9) rfl dX7_follow_88 ?_
        refine lv_iload hx hb dX7_follow_91 (lv_at hl 1 rfl) ?_
        obtain ⟨g10, hf⟩ := gd_s hf
        refine va_iald hx hb hK.1 hP 2 0 rfl rfl g10 dX7_follow_93 ?_
        refine lv_iconst (v := 1) hx hb dX7_follow_94 (by decide) ?_
        refine lv_isub hx hb dX7_follow_95 ?_
        refine lv_iconst (v := 0) hx hb dX7_follow_96 (by decide) ?_
        refine va_mmax hx hb (C.2.2.1.trans hl.1.symm) hown (ht _ kml_X7_40) (ht _ kst_J9_max_7cf53) (ht _ kini_J9) (ht _ kcode_J9_max_7cf53) (Nat.le_of_ble_eq_true rfl) (Nat.le_of_ble_eq_true rfl) (Nat.zero_le _) (Nat.zero_le _) dX7_follow_97 ?_
        refine lv_goto (tgt := 104) hx hb dX7_follow_100 (by decide) ?_
        exact hj104 (if ((o_placeBehind v4.toNatClampNeg) - (1 : Int32)) < (0 : Int32) then (0 : Int32) else ((o_placeBehind v4.toNatClampNeg) - (1 : Int32))) o_states o_placeBehind o_length o_lead H locs ls hf hP hD hS (lv_sub hl [0] rfl)
    obtain ⟨rL7, hL7, hk7⟩ := bd_s hf
    refine lp_W (P := fun st => ∀ (H : Heap) (locs : List Loc) (ls : Array Slot), va_P G.1 vwCl [(oX7 o st.2.2.2 o_lead), (wI G (o 1) 6400 st.2.1), (wI G (o 2) 6400 st.2.2.1), (oX3 p1), (wI G (p1 1) 12 p1_law)] H → va_D A [(oX7 o st.2.2.2 o_lead), (wI G (o 1) 6400 st.2.1), (wI G (o 2) 6400 st.2.2.1), (oX3 p1), (wI G (p1 1) 12 p1_law)] → va_S A s.heap H locs → lv_has ls 6 [(0, .ref (o 0)), (1, .ref (p1 0)), (4, .int st.1)] → Wc_X7_follow l G o p1 o_states o_placeBehind o_length o_lead p1_law a2 a3 R p e s m below meth c A H locs (F0 m 12 ls [])) ?_ FU (q6, o_states, o_placeBehind, (0 : Int32)) hL7 H locs ls hP hD hS (lv_sub hl [1, 2, 0] rfl)
    intro ⟨v4, o_states, o_placeBehind, o_length⟩ oc7 hf hI hE H locs ls hP hD hS hl
    have hP : va_P G.1 vwCl [(oX7 o o_length o_lead), (wI G (o 1) 6400 o_states), (wI G (o 2) 6400 o_placeBehind), (oX3 p1), (wI G (p1 1) 12 p1_law)] H := hP
    have hD : va_D A [(oX7 o o_length o_lead), (wI G (o 1) 6400 o_states), (wI G (o 2) 6400 o_placeBehind), (oX3 p1), (wI G (p1 1) 12 p1_law)] := hD
    have hl : lv_has ls 6 [(0, .ref (o 0)), (1, .ref (p1 0)), (4, .int v4)] := hl
    have hf : f_X7_follow_b12 p1_law v4 o_states o_placeBehind o_length = some oc7 := hf
    refine lv_aload_n hx hb dX7_follow_12 rfl (lv_at hl 0 rfl) ?_
    refine va_get (D := G.1) (ci := 7) (v := .int o_length) (C := RX7) (T := TX7) (N := 4) hx hb ht twX7 hown hK.1 hP 0 rfl rfl 2 (by decide) (ht _ kfl_X7_24) (fun _ h9 => h9) rfl dX7_follow_13 ?_
    refine lv_sipush (v := 6400) hx hb dX7_follow_16 (by decide) ?_
    refine lv_icmp_ge (tgt := 74) hx hb dX7_follow_19 (by decide) (fun c11 => ?_) (fun c11 => ?_)
    · have hf := o_t c11 hf
      cases hf
      have hf : f_X7_follow_x74_7 v4 o_states o_placeBehind o_length = some R := by have h9 := hk7; rw [← hE _ rfl] at h9; exact h9
      exact hx74_7 v4 o_states o_placeBehind o_length H locs ls hf hP hD hS (lv_sub hl [0, 2] rfl)
    · have hf := o_f c11 hf
      refine lv_aload_n hx hb dX7_follow_22 rfl (lv_at hl 0 rfl) ?_
      refine lv_iload hx hb dX7_follow_23 (lv_at hl 2 rfl) ?_
      obtain ⟨q12, r12, hf⟩ := bd_s hf
      refine ro_V (n := 1) (As := [.int v4]) (rest := []) (c_X7_isNew l G o o_placeBehind o_length o_lead v4 q12 r12) C (hK.at hS hz) (hP.sub [0, 2] rfl) hl kcode_X7_isNew kml_X7_28 kim_X7_isNew ksel_X7_isNew kini_X7 (by decide +kernel) ⟨⟨rfl, rfl⟩, Nat.le_of_ble_eq_true rfl, Nat.le_of_ble_eq_true rfl⟩ ⟨Nat.zero_le _, Nat.zero_le _⟩ rfl rfl rfl rfl rfl (Nat.le_of_ble_eq_true rfl) dX7_follow_25 rfl ?_
      refine lv_if_eq (tgt := 74) hx hb dX7_follow_28 (by decide) (fun c13 => ?_) (fun c13 => ?_)
      · have hf := o_t c13 hf
        cases hf
        have hf : f_X7_follow_x74_7 v4 o_states o_placeBehind o_length = some R := by have h9 := hk7; rw [← hE _ rfl] at h9; exact h9
        exact hx74_7 v4 o_states o_placeBehind o_length H locs ls hf hP hD hS (lv_sub hl [0, 2] rfl)
      · have hf := o_f c13 hf
        refine lv_aload_n hx hb dX7_follow_31 rfl (lv_at hl 0 rfl) ?_
        refine va_get (D := G.1) (ci := 7) (v := .ref (o 1)) (C := RX7) (T := TX7) (N := 4) hx hb ht twX7 hown hK.1 hP 0 rfl rfl 0 (by decide) (ht _ kfl_X7_11) (fun _ h9 => h9) rfl dX7_follow_32 ?_
        refine lv_aload_n hx hb dX7_follow_35 rfl (lv_at hl 0 rfl) ?_
        refine va_get (D := G.1) (ci := 7) (v := .int o_length) (C := RX7) (T := TX7) (N := 4) hx hb ht twX7 hown hK.1 hP 0 rfl rfl 2 (by decide) (ht _ kfl_X7_24) (fun _ h9 => h9) rfl dX7_follow_36 ?_
        refine lv_iload hx hb dX7_follow_39 (lv_at hl 2 rfl) ?_
        obtain ⟨g14, hf⟩ := gd_s hf
        refine va_iast hx hb hK.1 hP hD hS 1 0 rfl rfl g14 dX7_follow_41 (fun H locs hP hD hS => ?_)
        have hP : va_P G.1 vwCl [(oX7 o o_length o_lead), (wI G (o 1) 6400 (upd o_states o_length.toNatClampNeg v4)), (wI G (o 2) 6400 o_placeBehind), (oX3 p1), (wI G (p1 1) 12 p1_law)] H := hP
        have hD : va_D A [(oX7 o o_length o_lead), (wI G (o 1) 6400 (upd o_states o_length.toNatClampNeg v4)), (wI G (o 2) 6400 o_placeBehind), (oX3 p1), (wI G (p1 1) 12 p1_law)] := hD
        refine lv_aload_n hx hb dX7_follow_42 rfl (lv_at hl 0 rfl) ?_
        refine lv_dup hx hb dX7_follow_43 rfl ?_
        refine va_get (D := G.1) (ci := 7) (v := .int o_length) (C := RX7) (T := TX7) (N := 4) hx hb ht twX7 hown hK.1 hP 0 rfl rfl 2 (by decide) (ht _ kfl_X7_24) (fun _ h9 => h9) rfl dX7_follow_44 ?_
        refine lv_iconst (v := 1) hx hb dX7_follow_47 (by decide) ?_
        refine lv_iadd hx hb dX7_follow_48 ?_
        refine va_put (D := G.1) (ci := 7) (v := .int (o_length + (1 : Int32))) (ty := .int) (C := RX7) (T := TX7) (N := 4) hx hb ht twX7 tyX7 tyX7_ok nmX7 hown hK.1 hP hD hS 0 rfl rfl 2 (by decide) (ht _ kfl_X7_24) (fun _ h9 => h9) rfl (by decide +kernel) rfl rfl (Nat.le_of_ble_eq_true rfl) dX7_follow_49 (fun H locs hP hD hS => ?_)
        have hP : va_P G.1 vwCl [(oX7 o (o_length + (1 : Int32)) o_lead), (wI G (o 1) 6400 (upd o_states o_length.toNatClampNeg v4)), (wI G (o 2) 6400 o_placeBehind), (oX3 p1), (wI G (p1 1) 12 p1_law)] H := hP
        have hD : va_D A [(oX7 o (o_length + (1 : Int32)) o_lead), (wI G (o 1) 6400 (upd o_states o_length.toNatClampNeg v4)), (wI G (o 2) 6400 o_placeBehind), (oX3 p1), (wI G (p1 1) 12 p1_law)] := hD
        refine lv_aload_n hx hb dX7_follow_52 rfl (lv_at hl 0 rfl) ?_
        refine va_get (D := G.1) (ci := 7) (v := .ref (o 2)) (C := RX7) (T := TX7) (N := 4) hx hb ht twX7 hown hK.1 hP 0 rfl rfl 1 (by decide) (ht _ kfl_X7_17) (fun _ h9 => h9) rfl dX7_follow_53 ?_
        refine lv_iload hx hb dX7_follow_56 (lv_at hl 2 rfl) ?_
        refine lv_aload_n hx hb dX7_follow_58 rfl (lv_at hl 0 rfl) ?_
        refine va_get (D := G.1) (ci := 7) (v := .int (o_length + (1 : Int32))) (C := RX7) (T := TX7) (N := 4) hx hb ht twX7 hown hK.1 hP 0 rfl rfl 2 (by decide) (ht _ kfl_X7_24) (fun _ h9 => h9) rfl dX7_follow_59 ?_
        obtain ⟨g15, hf⟩ := gd_s hf
        refine va_iast hx hb hK.1 hP hD hS 2 0 rfl rfl g15 dX7_follow_62 (fun H locs hP hD hS => ?_)
        have hP : va_P G.1 vwCl [(oX7 o (o_length + (1 : Int32)) o_lead), (wI G (o 1) 6400 (upd o_states o_length.toNatClampNeg v4)), (wI G (o 2) 6400 (upd o_placeBehind v4.toNatClampNeg (o_length + (1 : Int32)))), (oX3 p1), (wI G (p1 1) 12 p1_law)] H := hP
        have hD : va_D A [(oX7 o (o_length + (1 : Int32)) o_lead), (wI G (o 1) 6400 (upd o_states o_length.toNatClampNeg v4)), (wI G (o 2) 6400 (upd o_placeBehind v4.toNatClampNeg (o_length + (1 : Int32)))), (oX3 p1), (wI G (p1 1) 12 p1_law)] := hD
        refine lv_aload_n hx hb dX7_follow_63 rfl (lv_at hl 1 rfl) ?_
        refine lv_iload hx hb dX7_follow_64 (lv_at hl 2 rfl) ?_
        obtain ⟨q16, r16, hf⟩ := bd_s hf
        refine ro_V (n := 1) (As := [.int v4]) (rest := []) (c_X3_stateAfter l G p1 p1_law v4 q16 r16) C (hK.at hS hz) (hP.sub [3, 4] rfl) hl kcode_X3_stateAfter kml_X7_32 kim_X3_stateAfter ksel_X3_stateAfter kini_X3 (by decide +kernel) ⟨⟨rfl, rfl⟩, Nat.le_of_ble_eq_true rfl, Nat.le_of_ble_eq_true rfl⟩ ⟨Nat.zero_le _, Nat.zero_le _⟩ rfl rfl rfl rfl rfl (Nat.le_of_ble_eq_true rfl) dX7_follow_66 rfl ?_
        refine lv_istore (lv' := [(4, .int q16), (0, .ref (o 0)), (1, .ref (p1 0))]) hx hb dX7_follow_69 hl (by decide) rfl (fun ls hl => ?_)
        refine lv_goto (tgt := 12) hx hb dX7_follow_71 (by decide) ?_
        cases hf
        exact hI _ rfl H locs ls hP hD hS (lv_sub hl [1, 2, 0] rfl)
  rw [eH, el] at key
  exact key
abbrev Wc_X7_ring (l : Launch) (G : TG) (o : Nat → Nat) (o_length : Int32) (o_lead : Int32) (R : Int32) (p : Program) (e : Env) (s : State) (m : MethodId) (below : List Frame) (meth : Method) (c : Code) (H : Heap) (locs : List Loc) (g : JFrame) : Prop := W p l e ({ frames := 0, cells := 0, slots := 0, locals := 0 }) s m ([.ref (o 0)] : List Value).toArray below meth c H locs 0 0 (MQ below (roQ (some (.int R))) ([.ref (o 0)] : List Value).toArray s 0 0 (fun _ => False)) g
set_option maxHeartbeats 4000000 in
set_option maxRecDepth 100000 in
theorem c_X7_ring (l : Launch) (G : TG) (o : Nat → Nat) (o_length : Int32) (o_lead : Int32) (R : Int32) (hf : f_X7_ring o_length o_lead = some R) : RO l yX7_ring cX7_ring 1 (some .int) ({ frames := 0, cells := 0, slots := 0, locals := 0 }) G [.ref (o 0)] [(oX7 o o_length o_lead)] (some (.int R)) := by
  refine RO.mk (by decide +kernel) (Nat.le_of_ble_eq_true rfl) ?_
  intro p e s m below meth c ls C hP hK hl
  have hx := C.1
  have hb := C.2.1
  have hown : s.vm.findClass RX7 = some m.cls := C.2.2.2.2.2.1
  have ht := C.2.2.2.2.2.2
  have hl : lv_has ls 1 [(0, .ref (o 0))] := hl
  show Wc_X7_ring l G o o_length o_lead R p e s m below meth c s.heap [] (F0 m 0 ls [])
  refine lv_aload_n hx hb dX7_ring_0 rfl (lv_at hl 0 rfl) ?_
  refine va_get (D := G.1) (ci := 7) (v := .int o_length) (C := RX7) (T := TX7) (N := 4) hx hb ht twX7 hown hK.1 hP 0 rfl rfl 2 (by decide) (ht _ kfl_X7_24) (fun _ h9 => h9) rfl dX7_ring_1 ?_
  refine lv_aload_n hx hb dX7_ring_4 rfl (lv_at hl 0 rfl) ?_
  refine va_get (D := G.1) (ci := 7) (v := .int o_lead) (C := RX7) (T := TX7) (N := 4) hx hb ht twX7 hown hK.1 hP 0 rfl rfl 3 (by decide) (ht _ kfl_X7_45) (fun _ h9 => h9) rfl dX7_ring_5 ?_
  refine lv_isub hx hb dX7_ring_8 ?_
  have h9 := Option.some.inj hf
  subst h9
  exact ro_iret C rfl dX7_ring_9
abbrev Wc_X7_stateAt (l : Launch) (G : TG) (o : Nat → Nat) (o_states : Nat → Int32) (o_length : Int32) (o_lead : Int32) (a1 : Int32) (R : Int32) (p : Program) (e : Env) (s : State) (m : MethodId) (below : List Frame) (meth : Method) (c : Code) (H : Heap) (locs : List Loc) (g : JFrame) : Prop := W p l e ({ frames := 1, cells := 0, slots := 0, locals := 22 }) s m ([.ref (o 0), .int a1] : List Value).toArray below meth c H locs 0 0 (MQ below (roQ (some (.int R))) ([.ref (o 0), .int a1] : List Value).toArray s 0 0 (fun _ => False)) g
set_option maxHeartbeats 4000000 in
set_option maxRecDepth 100000 in
theorem c_X7_stateAt (l : Launch) (G : TG) (o : Nat → Nat) (o_states : Nat → Int32) (o_length : Int32) (o_lead : Int32) (a1 : Int32) (R : Int32) (hf : f_X7_stateAt o_states o_length o_lead a1 = some R) : RO l yX7_stateAt cX7_stateAt 3 (some .int) ({ frames := 1, cells := 0, slots := 0, locals := 22 }) G [.ref (o 0), .int a1] [(oX7 o o_length o_lead), (wI G (o 1) 6400 o_states)] (some (.int R)) := by
  refine RO.mk (by decide +kernel) (Nat.le_of_ble_eq_true rfl) ?_
  intro p e s m below meth c ls C hP hK hl
  have hx := C.1
  have hb := C.2.1
  have hown : s.vm.findClass RX7 = some m.cls := C.2.2.2.2.2.1
  have ht := C.2.2.2.2.2.2
  have hl : lv_has ls 3 [(0, .ref (o 0)), (1, .int a1)] := hl
  show Wc_X7_stateAt l G o o_states o_length o_lead a1 R p e s m below meth c s.heap [] (F0 m 0 ls [])
  have hj34 : ∀ (v2 : Int32) (ls : Array Slot), f_X7_stateAt_j34 o_states o_length v2 = some R → lv_has ls 3 [(0, .ref (o 0)), (2, .int v2)] → Wc_X7_stateAt l G o o_states o_length o_lead a1 R p e s m below meth c s.heap [] (F0 m 34 ls []) := by
    intro v2 ls hf hl
    refine lv_iload_n hx hb dX7_stateAt_34 rfl (lv_at hl 1 rfl) ?_
    refine lv_iconst (v := 0) hx hb dX7_stateAt_35 (by decide) ?_
    refine lv_aload_n hx hb dX7_stateAt_36 rfl (lv_at hl 0 rfl) ?_
    refine va_get (D := G.1) (ci := 7) (v := .int o_length) (C := RX7) (T := TX7) (N := 4) hx hb ht twX7 hown hK.1 hP 0 rfl rfl 2 (by decide) (ht _ kfl_X7_24) (fun _ h9 => h9) rfl dX7_stateAt_37 ?_
    refine lv_iconst (v := 1) hx hb dX7_stateAt_40 (by decide) ?_
    refine lv_isub hx hb dX7_stateAt_41 ?_
    obtain ⟨q1, r1, hf⟩ := bd_s hf
    refine ro_SN (n := 3) (As := [.int v2, .int (0 : Int32), .int (o_length - (1 : Int32))]) (rest := []) (c_X10_within l G v2 (0 : Int32) (o_length - (1 : Int32)) q1 r1) C hK (hP.sub [] rfl) hl kcode_X10_within kmln_X7_36 kst_X10_within kini_X10 (by decide +kernel) ⟨⟨rfl, rfl⟩, Nat.le_of_ble_eq_true rfl, Nat.le_of_ble_eq_true rfl⟩ ⟨Nat.zero_le _, Nat.zero_le _⟩ rfl rfl (Nat.le_of_ble_eq_true rfl) dX7_stateAt_42 rfl ?_
    refine lv_if_eq (tgt := 57) hx hb dX7_stateAt_45 (by decide) (fun c2 => ?_) (fun c2 => ?_)
    · have hf := o_t c2 hf
      refine lv_bipush (v := -9) hx hb dX7_stateAt_57 (by decide) ?_
      have h9 := Option.some.inj hf
      subst h9
      exact ro_iret C rfl dX7_stateAt_59
    · have hf := o_f c2 hf
      refine lv_aload_n hx hb dX7_stateAt_48 rfl (lv_at hl 0 rfl) ?_
      refine va_get (D := G.1) (ci := 7) (v := .ref (o 1)) (C := RX7) (T := TX7) (N := 4) hx hb ht twX7 hown hK.1 hP 0 rfl rfl 0 (by decide) (ht _ kfl_X7_11) (fun _ h9 => h9) rfl dX7_stateAt_49 ?_
      refine lv_iload_n hx hb dX7_stateAt_52 rfl (lv_at hl 1 rfl) ?_
      obtain ⟨g4, hf⟩ := gd_s hf
      refine va_iald hx hb hK.1 hP 1 0 rfl rfl g4 dX7_stateAt_53 ?_
      refine lv_goto (tgt := 59) hx hb dX7_stateAt_54 (by decide) ?_
      have h9 := Option.some.inj hf
      subst h9
      exact ro_iret C rfl dX7_stateAt_59
  refine lv_iload_n hx hb dX7_stateAt_0 rfl (lv_at hl 1 rfl) ?_
  refine lv_istore_n (lv' := [(2, .int a1), (0, .ref (o 0)), (1, .int a1)]) hx hb dX7_stateAt_1 rfl hl (by decide) rfl (fun ls hl => ?_)
  refine lv_iload_n hx hb dX7_stateAt_2 rfl (lv_at hl 2 rfl) ?_
  refine lv_aload_n hx hb dX7_stateAt_3 rfl (lv_at hl 1 rfl) ?_
  refine va_get (D := G.1) (ci := 7) (v := .int o_length) (C := RX7) (T := TX7) (N := 4) hx hb ht twX7 hown hK.1 hP 0 rfl rfl 2 (by decide) (ht _ kfl_X7_24) (fun _ h9 => h9) rfl dX7_stateAt_4 ?_
  refine lv_icmp_lt (tgt := 34) hx hb dX7_stateAt_7 (by decide) (fun c6 => ?_) (fun c6 => ?_)
  · have hf := o_t c6 hf
    exact hj34 a1 ls hf (lv_sub hl [1, 0] rfl)
  · have hf := o_f c6 hf
    refine lv_aload_n hx hb dX7_stateAt_10 rfl (lv_at hl 1 rfl) ?_
    obtain ⟨q7, r7, hf⟩ := bd_s hf
    refine ro_V (n := 0) (As := []) (rest := []) (c_X7_ring l G o o_length o_lead q7 r7) C hK (hP.sub [0] rfl) hl kcode_X7_ring kml_X7_48 kim_X7_ring ksel_X7_ring kini_X7 (by decide +kernel) ⟨⟨rfl, rfl⟩, Nat.le_of_ble_eq_true rfl, Nat.le_of_ble_eq_true rfl⟩ ⟨Nat.zero_le _, Nat.zero_le _⟩ rfl rfl rfl rfl rfl (Nat.le_of_ble_eq_true rfl) dX7_stateAt_11 rfl ?_
    refine lv_if_le (tgt := 34) hx hb dX7_stateAt_14 (by decide) (fun c8 => ?_) (fun c8 => ?_)
    · have hf := o_t c8 hf
      exact hj34 a1 ls hf (lv_sub hl [1, 0] rfl)
    · have hf := o_f c8 hf
      refine lv_aload_n hx hb dX7_stateAt_17 rfl (lv_at hl 1 rfl) ?_
      refine va_get (D := G.1) (ci := 7) (v := .int o_lead) (C := RX7) (T := TX7) (N := 4) hx hb ht twX7 hown hK.1 hP 0 rfl rfl 3 (by decide) (ht _ kfl_X7_45) (fun _ h9 => h9) rfl dX7_stateAt_18 ?_
      refine lv_iload_n hx hb dX7_stateAt_21 rfl (lv_at hl 2 rfl) ?_
      refine lv_aload_n hx hb dX7_stateAt_22 rfl (lv_at hl 1 rfl) ?_
      refine va_get (D := G.1) (ci := 7) (v := .int o_lead) (C := RX7) (T := TX7) (N := 4) hx hb ht twX7 hown hK.1 hP 0 rfl rfl 3 (by decide) (ht _ kfl_X7_45) (fun _ h9 => h9) rfl dX7_stateAt_23 ?_
      refine lv_isub hx hb dX7_stateAt_26 ?_
      refine lv_aload_n hx hb dX7_stateAt_27 rfl (lv_at hl 1 rfl) ?_
      obtain ⟨q9, r9, hf⟩ := bd_s hf
      refine ro_V (n := 0) (As := []) (rest := [.int (a1 - o_lead), .int o_lead]) (c_X7_ring l G o o_length o_lead q9 r9) C hK (hP.sub [0] rfl) hl kcode_X7_ring kml_X7_48 kim_X7_ring ksel_X7_ring kini_X7 (by decide +kernel) ⟨⟨rfl, rfl⟩, Nat.le_of_ble_eq_true rfl, Nat.le_of_ble_eq_true rfl⟩ ⟨Nat.zero_le _, Nat.zero_le _⟩ rfl rfl rfl rfl rfl (Nat.le_of_ble_eq_true rfl) dX7_stateAt_28 rfl ?_
      obtain ⟨n10, hf⟩ := dz_s hf
      refine lv_irem hx hb dX7_stateAt_31 n10 ?_
      refine lv_iadd hx hb dX7_stateAt_32 ?_
      obtain ⟨u11, e11, hf⟩ := bd_s hf
      refine lv_re (Option.some.inj e11).symm ?_
      refine lv_istore_n (lv' := [(2, .int u11), (0, .ref (o 0)), (1, .int a1)]) hx hb dX7_stateAt_33 rfl hl (by decide) rfl (fun ls hl => ?_)
      exact hj34 u11 ls hf (lv_sub hl [1, 0] rfl)
abbrev Wc_X7_whiteInRing (l : Launch) (G : TG) (o : Nat → Nat) (o_states : Nat → Int32) (o_length : Int32) (o_lead : Int32) (R : Int32) (p : Program) (e : Env) (s : State) (m : MethodId) (below : List Frame) (meth : Method) (c : Code) (H : Heap) (locs : List Loc) (g : JFrame) : Prop := W p l e ({ frames := 1, cells := 0, slots := 0, locals := 20 }) s m ([.ref (o 0)] : List Value).toArray below meth c H locs 0 0 (MQ below (roQ (some (.int R))) ([.ref (o 0)] : List Value).toArray s 0 0 (fun _ => False)) g
set_option maxHeartbeats 4000000 in
set_option maxRecDepth 100000 in
theorem c_X7_whiteInRing (l : Launch) (G : TG) (o : Nat → Nat) (o_states : Nat → Int32) (o_length : Int32) (o_lead : Int32) (R : Int32) (hf : f_X7_whiteInRing o_states o_length o_lead = some R) : RO l yX7_whiteInRing cX7_whiteInRing 3 (some .int) ({ frames := 1, cells := 0, slots := 0, locals := 20 }) G [.ref (o 0)] [(oX7 o o_length o_lead), (wI G (o 1) 6400 o_states)] (some (.int R)) := by
  refine RO.mk (by decide +kernel) (Nat.le_of_ble_eq_true rfl) ?_
  intro p e s m below meth c ls C hP hK hl
  have hx := C.1
  have hb := C.2.1
  have hown : s.vm.findClass RX7 = some m.cls := C.2.2.2.2.2.1
  have ht := C.2.2.2.2.2.2
  have hl : lv_has ls 3 [(0, .ref (o 0))] := hl
  show Wc_X7_whiteInRing l G o o_states o_length o_lead R p e s m below meth c s.heap [] (F0 m 0 ls [])
  refine lv_iconst (v := 0) hx hb dX7_whiteInRing_0 (by decide) ?_
  refine lv_istore_n (lv' := [(1, .int (0 : Int32)), (0, .ref (o 0))]) hx hb dX7_whiteInRing_1 rfl hl (by decide) rfl (fun ls hl => ?_)
  refine lv_aload_n hx hb dX7_whiteInRing_2 rfl (lv_at hl 1 rfl) ?_
  refine va_get (D := G.1) (ci := 7) (v := .int o_lead) (C := RX7) (T := TX7) (N := 4) hx hb ht twX7 hown hK.1 hP 0 rfl rfl 3 (by decide) (ht _ kfl_X7_45) (fun _ h9 => h9) rfl dX7_whiteInRing_3 ?_
  refine lv_istore_n (lv' := [(2, .int o_lead), (1, .int (0 : Int32)), (0, .ref (o 0))]) hx hb dX7_whiteInRing_6 rfl hl (by decide) rfl (fun ls hl => ?_)
  have hx38_1 : ∀ (v1 : Int32) (ls : Array Slot), f_X7_whiteInRing_x38_1 v1 = some R → lv_has ls 3 [(1, .int v1)] → Wc_X7_whiteInRing l G o o_states o_length o_lead R p e s m below meth c s.heap [] (F0 m 38 ls []) := by
    intro v1 ls hf hl
    refine lv_iload_n hx hb dX7_whiteInRing_38 rfl (lv_at hl 0 rfl) ?_
    have h9 := Option.some.inj hf
    subst h9
    exact ro_iret C rfl dX7_whiteInRing_39
  obtain ⟨rL1, hL1, hk1⟩ := bd_s hf
  refine lp_W (P := fun st => ∀ (ls : Array Slot), lv_has ls 3 [(0, .ref (o 0)), (1, .int st.1), (2, .int st.2)] → Wc_X7_whiteInRing l G o o_states o_length o_lead R p e s m below meth c s.heap [] (F0 m 7 ls [])) ?_ FU ((0 : Int32), o_lead) hL1 ls (lv_sub hl [2, 1, 0] rfl)
  intro ⟨v1, v2⟩ oc1 hf hI hE ls hl
  have hl : lv_has ls 3 [(0, .ref (o 0)), (1, .int v1), (2, .int v2)] := hl
  have hf : f_X7_whiteInRing_b7 o_states o_length v1 v2 = some oc1 := hf
  refine lv_iload_n hx hb dX7_whiteInRing_7 rfl (lv_at hl 2 rfl) ?_
  refine lv_aload_n hx hb dX7_whiteInRing_8 rfl (lv_at hl 0 rfl) ?_
  refine va_get (D := G.1) (ci := 7) (v := .int o_length) (C := RX7) (T := TX7) (N := 4) hx hb ht twX7 hown hK.1 hP 0 rfl rfl 2 (by decide) (ht _ kfl_X7_24) (fun _ h9 => h9) rfl dX7_whiteInRing_9 ?_
  refine lv_icmp_ge (tgt := 38) hx hb dX7_whiteInRing_12 (by decide) (fun c3 => ?_) (fun c3 => ?_)
  · have hf := o_t c3 hf
    cases hf
    have hf : f_X7_whiteInRing_x38_1 v1 = some R := by have h9 := hk1; rw [← hE _ rfl] at h9; exact h9
    exact hx38_1 v1 ls hf (lv_sub hl [1] rfl)
  · have hf := o_f c3 hf
    refine lv_aload_n hx hb dX7_whiteInRing_15 rfl (lv_at hl 0 rfl) ?_
    refine va_get (D := G.1) (ci := 7) (v := .ref (o 1)) (C := RX7) (T := TX7) (N := 4) hx hb ht twX7 hown hK.1 hP 0 rfl rfl 0 (by decide) (ht _ kfl_X7_11) (fun _ h9 => h9) rfl dX7_whiteInRing_16 ?_
    refine lv_iload_n hx hb dX7_whiteInRing_19 rfl (lv_at hl 2 rfl) ?_
    obtain ⟨g4, hf⟩ := gd_s hf
    refine va_iald hx hb hK.1 hP 1 0 rfl rfl g4 dX7_whiteInRing_20 ?_
    obtain ⟨q5, r5, hf⟩ := bd_s hf
    refine ro_S (n := 1) (As := [.int (o_states v2.toNatClampNeg)]) (rest := []) (c_X3_iceIn l G (o_states v2.toNatClampNeg) q5 r5) C hK (hP.sub [] rfl) hl kcode_X3_iceIn kml_X7_52 kst_X3_iceIn kini_X3 (by decide +kernel) ⟨⟨rfl, rfl⟩, Nat.le_of_ble_eq_true rfl, Nat.le_of_ble_eq_true rfl⟩ ⟨Nat.zero_le _, Nat.zero_le _⟩ rfl rfl (Nat.le_of_ble_eq_true rfl) dX7_whiteInRing_21 rfl ?_
    refine lv_bipush (v := 63) hx hb dX7_whiteInRing_24 (by decide) ?_
    refine lv_icmp_ne (tgt := 32) hx hb dX7_whiteInRing_26 (by decide) (fun c6 => ?_) (fun c6 => ?_)
    · have hf := o_f c6 hf
      refine lv_iinc (v := (v2 + (1 : Int32))) (lv' := [(2, .int (v2 + (1 : Int32))), (0, .ref (o 0)), (1, .int v1)]) hx hb dX7_whiteInRing_32 hl (k := 2) rfl (by rfl) (by decide) rfl (fun ls hl => ?_)
      refine lv_goto (tgt := 7) hx hb dX7_whiteInRing_35 (by decide) ?_
      cases hf
      exact hI _ rfl ls (lv_sub hl [1, 2, 0] rfl)
    · have hf := o_t c6 hf
      refine lv_iinc (v := (v1 + (1 : Int32))) (lv' := [(1, .int (v1 + (1 : Int32))), (0, .ref (o 0)), (2, .int v2)]) hx hb dX7_whiteInRing_29 hl (k := 1) rfl (by rfl) (by decide) rfl (fun ls hl => ?_)
      refine lv_iinc (v := (v2 + (1 : Int32))) (lv' := [(2, .int (v2 + (1 : Int32))), (1, .int (v1 + (1 : Int32))), (0, .ref (o 0))]) hx hb dX7_whiteInRing_32 hl (k := 2) rfl (by rfl) (by decide) rfl (fun ls hl => ?_)
      refine lv_goto (tgt := 7) hx hb dX7_whiteInRing_35 (by decide) ?_
      cases hf
      exact hI _ rfl ls (lv_sub hl [2, 1, 0] rfl)
abbrev Wc_X7_leastAirInRing (l : Launch) (G : TG) (o : Nat → Nat) (o_states : Nat → Int32) (o_length : Int32) (o_lead : Int32) (R : Int32) (p : Program) (e : Env) (s : State) (m : MethodId) (below : List Frame) (meth : Method) (c : Code) (H : Heap) (locs : List Loc) (g : JFrame) : Prop := W p l e ({ frames := 1, cells := 0, slots := 0, locals := 40 }) s m ([.ref (o 0)] : List Value).toArray below meth c H locs 0 0 (MQ below (roQ (some (.int R))) ([.ref (o 0)] : List Value).toArray s 0 0 (fun _ => False)) g
set_option maxHeartbeats 4000000 in
set_option maxRecDepth 100000 in
theorem c_X7_leastAirInRing (l : Launch) (G : TG) (o : Nat → Nat) (o_states : Nat → Int32) (o_length : Int32) (o_lead : Int32) (R : Int32) (hf : f_X7_leastAirInRing o_states o_length o_lead = some R) : RO l yX7_leastAirInRing cX7_leastAirInRing 3 (some .int) ({ frames := 1, cells := 0, slots := 0, locals := 40 }) G [.ref (o 0)] [(oX7 o o_length o_lead), (wI G (o 1) 6400 o_states)] (some (.int R)) := by
  refine RO.mk (by decide +kernel) (Nat.le_of_ble_eq_true rfl) ?_
  intro p e s m below meth c ls C hP hK hl
  have hx := C.1
  have hb := C.2.1
  have hown : s.vm.findClass RX7 = some m.cls := C.2.2.2.2.2.1
  have ht := C.2.2.2.2.2.2
  have hl : lv_has ls 3 [(0, .ref (o 0))] := hl
  show Wc_X7_leastAirInRing l G o o_states o_length o_lead R p e s m below meth c s.heap [] (F0 m 0 ls [])
  refine lv_bipush (v := 100) hx hb dX7_leastAirInRing_0 (by decide) ?_
  refine lv_istore_n (lv' := [(1, .int (100 : Int32)), (0, .ref (o 0))]) hx hb dX7_leastAirInRing_2 rfl hl (by decide) rfl (fun ls hl => ?_)
  refine lv_aload_n hx hb dX7_leastAirInRing_3 rfl (lv_at hl 1 rfl) ?_
  refine va_get (D := G.1) (ci := 7) (v := .int o_lead) (C := RX7) (T := TX7) (N := 4) hx hb ht twX7 hown hK.1 hP 0 rfl rfl 3 (by decide) (ht _ kfl_X7_45) (fun _ h9 => h9) rfl dX7_leastAirInRing_4 ?_
  refine lv_istore_n (lv' := [(2, .int o_lead), (1, .int (100 : Int32)), (0, .ref (o 0))]) hx hb dX7_leastAirInRing_7 rfl hl (by decide) rfl (fun ls hl => ?_)
  have hx36_1 : ∀ (v1 : Int32) (ls : Array Slot), f_X7_leastAirInRing_x36_1 v1 = some R → lv_has ls 3 [(1, .int v1)] → Wc_X7_leastAirInRing l G o o_states o_length o_lead R p e s m below meth c s.heap [] (F0 m 36 ls []) := by
    intro v1 ls hf hl
    refine lv_iload_n hx hb dX7_leastAirInRing_36 rfl (lv_at hl 0 rfl) ?_
    have h9 := Option.some.inj hf
    subst h9
    exact ro_iret C rfl dX7_leastAirInRing_37
  obtain ⟨rL1, hL1, hk1⟩ := bd_s hf
  refine lp_W (P := fun st => ∀ (ls : Array Slot), lv_has ls 3 [(0, .ref (o 0)), (1, .int st.1), (2, .int st.2)] → Wc_X7_leastAirInRing l G o o_states o_length o_lead R p e s m below meth c s.heap [] (F0 m 8 ls [])) ?_ FU ((100 : Int32), o_lead) hL1 ls (lv_sub hl [2, 1, 0] rfl)
  intro ⟨v1, v2⟩ oc1 hf hI hE ls hl
  have hl : lv_has ls 3 [(0, .ref (o 0)), (1, .int v1), (2, .int v2)] := hl
  have hf : f_X7_leastAirInRing_b8 o_states o_length v1 v2 = some oc1 := hf
  refine lv_iload_n hx hb dX7_leastAirInRing_8 rfl (lv_at hl 2 rfl) ?_
  refine lv_aload_n hx hb dX7_leastAirInRing_9 rfl (lv_at hl 0 rfl) ?_
  refine va_get (D := G.1) (ci := 7) (v := .int o_length) (C := RX7) (T := TX7) (N := 4) hx hb ht twX7 hown hK.1 hP 0 rfl rfl 2 (by decide) (ht _ kfl_X7_24) (fun _ h9 => h9) rfl dX7_leastAirInRing_10 ?_
  refine lv_icmp_ge (tgt := 36) hx hb dX7_leastAirInRing_13 (by decide) (fun c3 => ?_) (fun c3 => ?_)
  · have hf := o_t c3 hf
    cases hf
    have hf : f_X7_leastAirInRing_x36_1 v1 = some R := by have h9 := hk1; rw [← hE _ rfl] at h9; exact h9
    exact hx36_1 v1 ls hf (lv_sub hl [1] rfl)
  · have hf := o_f c3 hf
    refine lv_iload_n hx hb dX7_leastAirInRing_16 rfl (lv_at hl 1 rfl) ?_
    refine lv_aload_n hx hb dX7_leastAirInRing_17 rfl (lv_at hl 0 rfl) ?_
    refine va_get (D := G.1) (ci := 7) (v := .ref (o 1)) (C := RX7) (T := TX7) (N := 4) hx hb ht twX7 hown hK.1 hP 0 rfl rfl 0 (by decide) (ht _ kfl_X7_11) (fun _ h9 => h9) rfl dX7_leastAirInRing_18 ?_
    refine lv_iload_n hx hb dX7_leastAirInRing_21 rfl (lv_at hl 2 rfl) ?_
    obtain ⟨g4, hf⟩ := gd_s hf
    refine va_iald hx hb hK.1 hP 1 0 rfl rfl g4 dX7_leastAirInRing_22 ?_
    obtain ⟨q5, r5, hf⟩ := bd_s hf
    refine ro_S (n := 1) (As := [.int (o_states v2.toNatClampNeg)]) (rest := [.int v1]) (c_X3_airIn l G (o_states v2.toNatClampNeg) q5 r5) C hK (hP.sub [] rfl) hl kcode_X3_airIn kml_X7_55 kst_X3_airIn kini_X3 (by decide +kernel) ⟨⟨rfl, rfl⟩, Nat.le_of_ble_eq_true rfl, Nat.le_of_ble_eq_true rfl⟩ ⟨Nat.zero_le _, Nat.zero_le _⟩ rfl rfl (Nat.le_of_ble_eq_true rfl) dX7_leastAirInRing_23 rfl ?_
    refine va_mmin hx hb (C.2.2.1.trans hl.1.symm) hown (ht _ kml_X7_58) (ht _ kst_J9_min_7cf53) (ht _ kini_J9) (ht _ kcode_J9_min_7cf53) (Nat.le_of_ble_eq_true rfl) (Nat.le_of_ble_eq_true rfl) (Nat.zero_le _) (Nat.zero_le _) dX7_leastAirInRing_26 ?_
    refine lv_istore_n (lv' := [(1, .int (if q5 < v1 then q5 else v1)), (0, .ref (o 0)), (2, .int v2)]) hx hb dX7_leastAirInRing_29 rfl hl (by decide) rfl (fun ls hl => ?_)
    refine lv_iinc (v := (v2 + (1 : Int32))) (lv' := [(2, .int (v2 + (1 : Int32))), (1, .int (if q5 < v1 then q5 else v1)), (0, .ref (o 0))]) hx hb dX7_leastAirInRing_30 hl (k := 2) rfl (by rfl) (by decide) rfl (fun ls hl => ?_)
    refine lv_goto (tgt := 8) hx hb dX7_leastAirInRing_33 (by decide) ?_
    cases hf
    exact hI _ rfl ls (lv_sub hl [2, 1, 0] rfl)
abbrev Wc_X7_greatestAirInRing (l : Launch) (G : TG) (o : Nat → Nat) (o_states : Nat → Int32) (o_length : Int32) (o_lead : Int32) (R : Int32) (p : Program) (e : Env) (s : State) (m : MethodId) (below : List Frame) (meth : Method) (c : Code) (H : Heap) (locs : List Loc) (g : JFrame) : Prop := W p l e ({ frames := 1, cells := 0, slots := 0, locals := 40 }) s m ([.ref (o 0)] : List Value).toArray below meth c H locs 0 0 (MQ below (roQ (some (.int R))) ([.ref (o 0)] : List Value).toArray s 0 0 (fun _ => False)) g
set_option maxHeartbeats 4000000 in
set_option maxRecDepth 100000 in
theorem c_X7_greatestAirInRing (l : Launch) (G : TG) (o : Nat → Nat) (o_states : Nat → Int32) (o_length : Int32) (o_lead : Int32) (R : Int32) (hf : f_X7_greatestAirInRing o_states o_length o_lead = some R) : RO l yX7_greatestAirInRing cX7_greatestAirInRing 3 (some .int) ({ frames := 1, cells := 0, slots := 0, locals := 40 }) G [.ref (o 0)] [(oX7 o o_length o_lead), (wI G (o 1) 6400 o_states)] (some (.int R)) := by
  refine RO.mk (by decide +kernel) (Nat.le_of_ble_eq_true rfl) ?_
  intro p e s m below meth c ls C hP hK hl
  have hx := C.1
  have hb := C.2.1
  have hown : s.vm.findClass RX7 = some m.cls := C.2.2.2.2.2.1
  have ht := C.2.2.2.2.2.2
  have hl : lv_has ls 3 [(0, .ref (o 0))] := hl
  show Wc_X7_greatestAirInRing l G o o_states o_length o_lead R p e s m below meth c s.heap [] (F0 m 0 ls [])
  refine lv_iconst (v := 0) hx hb dX7_greatestAirInRing_0 (by decide) ?_
  refine lv_istore_n (lv' := [(1, .int (0 : Int32)), (0, .ref (o 0))]) hx hb dX7_greatestAirInRing_1 rfl hl (by decide) rfl (fun ls hl => ?_)
  refine lv_aload_n hx hb dX7_greatestAirInRing_2 rfl (lv_at hl 1 rfl) ?_
  refine va_get (D := G.1) (ci := 7) (v := .int o_lead) (C := RX7) (T := TX7) (N := 4) hx hb ht twX7 hown hK.1 hP 0 rfl rfl 3 (by decide) (ht _ kfl_X7_45) (fun _ h9 => h9) rfl dX7_greatestAirInRing_3 ?_
  refine lv_istore_n (lv' := [(2, .int o_lead), (1, .int (0 : Int32)), (0, .ref (o 0))]) hx hb dX7_greatestAirInRing_6 rfl hl (by decide) rfl (fun ls hl => ?_)
  have hx35_1 : ∀ (v1 : Int32) (ls : Array Slot), f_X7_greatestAirInRing_x35_1 v1 = some R → lv_has ls 3 [(1, .int v1)] → Wc_X7_greatestAirInRing l G o o_states o_length o_lead R p e s m below meth c s.heap [] (F0 m 35 ls []) := by
    intro v1 ls hf hl
    refine lv_iload_n hx hb dX7_greatestAirInRing_35 rfl (lv_at hl 0 rfl) ?_
    have h9 := Option.some.inj hf
    subst h9
    exact ro_iret C rfl dX7_greatestAirInRing_36
  obtain ⟨rL1, hL1, hk1⟩ := bd_s hf
  refine lp_W (P := fun st => ∀ (ls : Array Slot), lv_has ls 3 [(0, .ref (o 0)), (1, .int st.1), (2, .int st.2)] → Wc_X7_greatestAirInRing l G o o_states o_length o_lead R p e s m below meth c s.heap [] (F0 m 7 ls [])) ?_ FU ((0 : Int32), o_lead) hL1 ls (lv_sub hl [2, 1, 0] rfl)
  intro ⟨v1, v2⟩ oc1 hf hI hE ls hl
  have hl : lv_has ls 3 [(0, .ref (o 0)), (1, .int v1), (2, .int v2)] := hl
  have hf : f_X7_greatestAirInRing_b7 o_states o_length v1 v2 = some oc1 := hf
  refine lv_iload_n hx hb dX7_greatestAirInRing_7 rfl (lv_at hl 2 rfl) ?_
  refine lv_aload_n hx hb dX7_greatestAirInRing_8 rfl (lv_at hl 0 rfl) ?_
  refine va_get (D := G.1) (ci := 7) (v := .int o_length) (C := RX7) (T := TX7) (N := 4) hx hb ht twX7 hown hK.1 hP 0 rfl rfl 2 (by decide) (ht _ kfl_X7_24) (fun _ h9 => h9) rfl dX7_greatestAirInRing_9 ?_
  refine lv_icmp_ge (tgt := 35) hx hb dX7_greatestAirInRing_12 (by decide) (fun c3 => ?_) (fun c3 => ?_)
  · have hf := o_t c3 hf
    cases hf
    have hf : f_X7_greatestAirInRing_x35_1 v1 = some R := by have h9 := hk1; rw [← hE _ rfl] at h9; exact h9
    exact hx35_1 v1 ls hf (lv_sub hl [1] rfl)
  · have hf := o_f c3 hf
    refine lv_iload_n hx hb dX7_greatestAirInRing_15 rfl (lv_at hl 1 rfl) ?_
    refine lv_aload_n hx hb dX7_greatestAirInRing_16 rfl (lv_at hl 0 rfl) ?_
    refine va_get (D := G.1) (ci := 7) (v := .ref (o 1)) (C := RX7) (T := TX7) (N := 4) hx hb ht twX7 hown hK.1 hP 0 rfl rfl 0 (by decide) (ht _ kfl_X7_11) (fun _ h9 => h9) rfl dX7_greatestAirInRing_17 ?_
    refine lv_iload_n hx hb dX7_greatestAirInRing_20 rfl (lv_at hl 2 rfl) ?_
    obtain ⟨g4, hf⟩ := gd_s hf
    refine va_iald hx hb hK.1 hP 1 0 rfl rfl g4 dX7_greatestAirInRing_21 ?_
    obtain ⟨q5, r5, hf⟩ := bd_s hf
    refine ro_S (n := 1) (As := [.int (o_states v2.toNatClampNeg)]) (rest := [.int v1]) (c_X3_airIn l G (o_states v2.toNatClampNeg) q5 r5) C hK (hP.sub [] rfl) hl kcode_X3_airIn kml_X7_55 kst_X3_airIn kini_X3 (by decide +kernel) ⟨⟨rfl, rfl⟩, Nat.le_of_ble_eq_true rfl, Nat.le_of_ble_eq_true rfl⟩ ⟨Nat.zero_le _, Nat.zero_le _⟩ rfl rfl (Nat.le_of_ble_eq_true rfl) dX7_greatestAirInRing_22 rfl ?_
    refine va_mmax hx hb (C.2.2.1.trans hl.1.symm) hown (ht _ kml_X7_40) (ht _ kst_J9_max_7cf53) (ht _ kini_J9) (ht _ kcode_J9_max_7cf53) (Nat.le_of_ble_eq_true rfl) (Nat.le_of_ble_eq_true rfl) (Nat.zero_le _) (Nat.zero_le _) dX7_greatestAirInRing_25 ?_
    refine lv_istore_n (lv' := [(1, .int (if v1 < q5 then q5 else v1)), (0, .ref (o 0)), (2, .int v2)]) hx hb dX7_greatestAirInRing_28 rfl hl (by decide) rfl (fun ls hl => ?_)
    refine lv_iinc (v := (v2 + (1 : Int32))) (lv' := [(2, .int (v2 + (1 : Int32))), (1, .int (if v1 < q5 then q5 else v1)), (0, .ref (o 0))]) hx hb dX7_greatestAirInRing_29 hl (k := 2) rfl (by rfl) (by decide) rfl (fun ls hl => ?_)
    refine lv_goto (tgt := 7) hx hb dX7_greatestAirInRing_32 (by decide) ?_
    cases hf
    exact hI _ rfl ls (lv_sub hl [2, 1, 0] rfl)
abbrev Wc_X7_firstWhite (l : Launch) (G : TG) (o : Nat → Nat) (o_states : Nat → Int32) (o_length : Int32) (o_lead : Int32) (a1 : Int32) (R : Int32) (p : Program) (e : Env) (s : State) (m : MethodId) (below : List Frame) (meth : Method) (c : Code) (H : Heap) (locs : List Loc) (g : JFrame) : Prop := W p l e ({ frames := 1, cells := 0, slots := 0, locals := 20 }) s m ([.ref (o 0), .int a1] : List Value).toArray below meth c H locs 0 0 (MQ below (roQ (some (.int R))) ([.ref (o 0), .int a1] : List Value).toArray s 0 0 (fun _ => False)) g
set_option maxHeartbeats 4000000 in
set_option maxRecDepth 100000 in
theorem c_X7_firstWhite (l : Launch) (G : TG) (o : Nat → Nat) (o_states : Nat → Int32) (o_length : Int32) (o_lead : Int32) (a1 : Int32) (R : Int32) (hf : f_X7_firstWhite o_states o_length a1 = some R) : RO l yX7_firstWhite cX7_firstWhite 3 (some .int) ({ frames := 1, cells := 0, slots := 0, locals := 20 }) G [.ref (o 0), .int a1] [(oX7 o o_length o_lead), (wI G (o 1) 6400 o_states)] (some (.int R)) := by
  refine RO.mk (by decide +kernel) (Nat.le_of_ble_eq_true rfl) ?_
  intro p e s m below meth c ls C hP hK hl
  have hx := C.1
  have hb := C.2.1
  have hown : s.vm.findClass RX7 = some m.cls := C.2.2.2.2.2.1
  have ht := C.2.2.2.2.2.2
  have hl : lv_has ls 3 [(0, .ref (o 0)), (1, .int a1)] := hl
  show Wc_X7_firstWhite l G o o_states o_length o_lead a1 R p e s m below meth c s.heap [] (F0 m 0 ls [])
  refine lv_iconst (v := 0) hx hb dX7_firstWhite_0 (by decide) ?_
  refine lv_istore_n (lv' := [(2, .int (0 : Int32)), (0, .ref (o 0)), (1, .int a1)]) hx hb dX7_firstWhite_1 rfl hl (by decide) rfl (fun ls hl => ?_)
  have hx41_1 : ∀ (ls : Array Slot), f_X7_firstWhite_x41_1 = some R → lv_has ls 3 [] → Wc_X7_firstWhite l G o o_states o_length o_lead a1 R p e s m below meth c s.heap [] (F0 m 41 ls []) := by
    intro ls hf hl
    refine lv_bipush (v := -9) hx hb dX7_firstWhite_41 (by decide) ?_
    have h9 := Option.some.inj hf
    subst h9
    exact ro_iret C rfl dX7_firstWhite_43
  obtain ⟨rL1, hL1, hk1⟩ := bd_s hf
  refine lp_W (P := fun st => ∀ (ls : Array Slot), lv_has ls 3 [(0, .ref (o 0)), (1, .int a1), (2, .int st)] → Wc_X7_firstWhite l G o o_states o_length o_lead a1 R p e s m below meth c s.heap [] (F0 m 2 ls [])) ?_ FU (0 : Int32) hL1 ls (lv_sub hl [1, 2, 0] rfl)
  intro v2 oc1 hf hI hE ls hl
  have hl : lv_has ls 3 [(0, .ref (o 0)), (1, .int a1), (2, .int v2)] := hl
  have hf : f_X7_firstWhite_b2 o_states o_length a1 v2 = some oc1 := hf
  have hj29 : ∀ (v2 : Int32) (k0 : Int32) (ls : Array Slot), f_X7_firstWhite_j29 a1 v2 k0 = some oc1 → lv_has ls 3 [(0, .ref (o 0)), (1, .int a1), (2, .int v2)] → Wc_X7_firstWhite l G o o_states o_length o_lead a1 R p e s m below meth c s.heap [] (F0 m 29 ls [.int k0]) := by
    intro v2 k0 ls hf hl
    refine lv_iload_n hx hb dX7_firstWhite_29 rfl (lv_at hl 1 rfl) ?_
    refine lv_icmp_ne (tgt := 35) hx hb dX7_firstWhite_30 (by decide) (fun c3 => ?_) (fun c3 => ?_)
    · have hf := o_f c3 hf
      refine lv_iinc (v := (v2 + (1 : Int32))) (lv' := [(2, .int (v2 + (1 : Int32))), (0, .ref (o 0)), (1, .int a1)]) hx hb dX7_firstWhite_35 hl (k := 2) rfl (by rfl) (by decide) rfl (fun ls hl => ?_)
      refine lv_goto (tgt := 2) hx hb dX7_firstWhite_38 (by decide) ?_
      cases hf
      exact hI _ rfl ls (lv_sub hl [1, 2, 0] rfl)
    · have hf := o_t c3 hf
      refine lv_iload_n hx hb dX7_firstWhite_33 rfl (lv_at hl 2 rfl) ?_
      cases hf
      have hf : some v2 = some R := by have h9 := hk1; rw [← hE _ rfl] at h9; exact h9
      have h9 := Option.some.inj hf
      subst h9
      exact ro_iret C rfl dX7_firstWhite_34
  refine lv_iload_n hx hb dX7_firstWhite_2 rfl (lv_at hl 2 rfl) ?_
  refine lv_aload_n hx hb dX7_firstWhite_3 rfl (lv_at hl 0 rfl) ?_
  refine va_get (D := G.1) (ci := 7) (v := .int o_length) (C := RX7) (T := TX7) (N := 4) hx hb ht twX7 hown hK.1 hP 0 rfl rfl 2 (by decide) (ht _ kfl_X7_24) (fun _ h9 => h9) rfl dX7_firstWhite_4 ?_
  refine lv_icmp_ge (tgt := 41) hx hb dX7_firstWhite_7 (by decide) (fun c5 => ?_) (fun c5 => ?_)
  · have hf := o_t c5 hf
    cases hf
    have hf : f_X7_firstWhite_x41_1 = some R := by have h9 := hk1; rw [← hE _ rfl] at h9; exact h9
    exact hx41_1 ls hf (lv_sub hl [] rfl)
  · have hf := o_f c5 hf
    refine lv_aload_n hx hb dX7_firstWhite_10 rfl (lv_at hl 0 rfl) ?_
    refine va_get (D := G.1) (ci := 7) (v := .ref (o 1)) (C := RX7) (T := TX7) (N := 4) hx hb ht twX7 hown hK.1 hP 0 rfl rfl 0 (by decide) (ht _ kfl_X7_11) (fun _ h9 => h9) rfl dX7_firstWhite_11 ?_
    refine lv_iload_n hx hb dX7_firstWhite_14 rfl (lv_at hl 2 rfl) ?_
    obtain ⟨g6, hf⟩ := gd_s hf
    refine va_iald hx hb hK.1 hP 1 0 rfl rfl g6 dX7_firstWhite_15 ?_
    obtain ⟨q7, r7, hf⟩ := bd_s hf
    refine ro_S (n := 1) (As := [.int (o_states v2.toNatClampNeg)]) (rest := []) (c_X3_iceIn l G (o_states v2.toNatClampNeg) q7 r7) C hK (hP.sub [] rfl) hl kcode_X3_iceIn kml_X7_52 kst_X3_iceIn kini_X3 (by decide +kernel) ⟨⟨rfl, rfl⟩, Nat.le_of_ble_eq_true rfl, Nat.le_of_ble_eq_true rfl⟩ ⟨Nat.zero_le _, Nat.zero_le _⟩ rfl rfl (Nat.le_of_ble_eq_true rfl) dX7_firstWhite_16 rfl ?_
    refine lv_bipush (v := 63) hx hb dX7_firstWhite_19 (by decide) ?_
    refine lv_icmp_ne (tgt := 28) hx hb dX7_firstWhite_21 (by decide) (fun c8 => ?_) (fun c8 => ?_)
    · have hf := o_f c8 hf
      refine lv_iconst (v := 0) hx hb dX7_firstWhite_28 (by decide) ?_
      exact hj29 v2 (0 : Int32) ls hf (lv_sub hl [0, 1, 2] rfl)
    · have hf := o_t c8 hf
      refine lv_iconst (v := 1) hx hb dX7_firstWhite_24 (by decide) ?_
      refine lv_goto (tgt := 29) hx hb dX7_firstWhite_25 (by decide) ?_
      exact hj29 v2 (1 : Int32) ls hf (lv_sub hl [0, 1, 2] rfl)
abbrev Wc_X8_begin (l : Launch) (G : TG) (o : Nat → Nat) (o_iceFrom : Nat → Int32) (o_entries : Int32) (o_due : Int32) (o_roundAhead : Int32) (o_tens : Int32) (o_roundNow : Int32) (o_bandAhead : Int32) (R : (Nat → Int32) × Int32 × Int32 × Int32 × Int32 × Int32 × Int32) (p : Program) (e : Env) (s : State) (m : MethodId) (below : List Frame) (meth : Method) (c : Code) (A : Nat → Prop) (H : Heap) (locs : List Loc) (g : JFrame) : Prop := W p l e ({ frames := 0, cells := 0, slots := 0, locals := 0 }) s m ([.ref (o 0)] : List Value).toArray below meth c H locs 0 0 (MQ below (rwQ G none [(oX8 o R.2.1 R.2.2.1 R.2.2.2.1 R.2.2.2.2.1 R.2.2.2.2.2.1 R.2.2.2.2.2.2), (wI G (o 1) 100 R.1)] A) ([.ref (o 0)] : List Value).toArray s 0 0 A) g
set_option maxHeartbeats 4000000 in
set_option maxRecDepth 100000 in
theorem c_X8_begin (l : Launch) (G : TG) (o : Nat → Nat) (o_iceFrom : Nat → Int32) (o_entries : Int32) (o_due : Int32) (o_roundAhead : Int32) (o_tens : Int32) (o_roundNow : Int32) (o_bandAhead : Int32) (R : (Nat → Int32) × Int32 × Int32 × Int32 × Int32 × Int32 × Int32) (hf : f_X8_begin o_iceFrom = some R) : RW l yX8_begin cX8_begin 2 none ({ frames := 0, cells := 0, slots := 0, locals := 0 }) G [.ref (o 0)] [(oX8 o o_entries o_due o_roundAhead o_tens o_roundNow o_bandAhead), (wI G (o 1) 100 o_iceFrom)] none [(oX8 o R.2.1 R.2.2.1 R.2.2.2.1 R.2.2.2.2.1 R.2.2.2.2.2.1 R.2.2.2.2.2.2), (wI G (o 1) 100 R.1)] := by
  refine RW.mk (by decide +kernel) (Nat.le_of_ble_eq_true rfl) ?_
  intro p e s m below meth c ls A C hP hD hA hz hK hl hS
  have hx := C.1
  have hb := C.2.1
  have hown : s.vm.findClass RX8 = some m.cls := C.2.2.2.2.2.1
  have ht := C.2.2.2.2.2.2
  have hl : lv_has ls 2 [(0, .ref (o 0))] := hl
  show Wc_X8_begin l G o o_iceFrom o_entries o_due o_roundAhead o_tens o_roundNow o_bandAhead R p e s m below meth c A s.heap [] (F0 m 0 ls [])
  obtain ⟨H, eH, hP, hS⟩ : ∃ H, H = s.heap ∧ va_P G.1 vwCl [(oX8 o o_entries o_due o_roundAhead o_tens o_roundNow o_bandAhead), (wI G (o 1) 100 o_iceFrom)] H ∧ va_S A s.heap H [] := ⟨_, rfl, hP, hS⟩
  obtain ⟨locs, el, hS⟩ : ∃ locs : List Loc, locs = [] ∧ va_S A s.heap H locs := ⟨_, rfl, hS⟩
  have key : Wc_X8_begin l G o o_iceFrom o_entries o_due o_roundAhead o_tens o_roundNow o_bandAhead R p e s m below meth c A H locs (F0 m 0 ls []) := by
    refine lv_iconst (v := 0) hx hb dX8_begin_0 (by decide) ?_
    refine lv_istore_n (lv' := [(1, .int (0 : Int32)), (0, .ref (o 0))]) hx hb dX8_begin_1 rfl hl (by decide) rfl (fun ls hl => ?_)
    have hx21_1 : ∀ (o_iceFrom : Nat → Int32) (H : Heap) (locs : List Loc) (ls : Array Slot), f_X8_begin_x21_1 o_iceFrom = some R → va_P G.1 vwCl [(oX8 o o_entries o_due o_roundAhead o_tens o_roundNow o_bandAhead), (wI G (o 1) 100 o_iceFrom)] H → va_D A [(oX8 o o_entries o_due o_roundAhead o_tens o_roundNow o_bandAhead), (wI G (o 1) 100 o_iceFrom)] → va_S A s.heap H locs → lv_has ls 2 [(0, .ref (o 0))] → Wc_X8_begin l G o o_iceFrom o_entries o_due o_roundAhead o_tens o_roundNow o_bandAhead R p e s m below meth c A H locs (F0 m 21 ls []) := by
      intro o_iceFrom H locs ls hf hP hD hS hl
      refine lv_aload_n hx hb dX8_begin_21 rfl (lv_at hl 0 rfl) ?_
      refine lv_iconst (v := 0) hx hb dX8_begin_22 (by decide) ?_
      refine va_put (D := G.1) (ci := 8) (v := .int (0 : Int32)) (ty := .int) (C := RX8) (T := TX8) (N := 7) hx hb ht twX8 tyX8 tyX8_ok nmX8 hown hK.1 hP hD hS 0 rfl rfl 1 (by decide) (ht _ kfl_X8_40) (fun _ h9 => h9) rfl (by decide +kernel) rfl rfl (Nat.le_of_ble_eq_true rfl) dX8_begin_23 (fun H locs hP hD hS => ?_)
      have hP : va_P G.1 vwCl [(oX8 o (0 : Int32) o_due o_roundAhead o_tens o_roundNow o_bandAhead), (wI G (o 1) 100 o_iceFrom)] H := hP
      have hD : va_D A [(oX8 o (0 : Int32) o_due o_roundAhead o_tens o_roundNow o_bandAhead), (wI G (o 1) 100 o_iceFrom)] := hD
      refine lv_aload_n hx hb dX8_begin_26 rfl (lv_at hl 0 rfl) ?_
      refine lv_iconst (v := 0) hx hb dX8_begin_27 (by decide) ?_
      refine va_put (D := G.1) (ci := 8) (v := .int (0 : Int32)) (ty := .int) (C := RX8) (T := TX8) (N := 7) hx hb ht twX8 tyX8 tyX8_ok nmX8 hown hK.1 hP hD hS 0 rfl rfl 2 (by decide) (ht _ kfl_X8_31) (fun _ h9 => h9) rfl (by decide +kernel) rfl rfl (Nat.le_of_ble_eq_true rfl) dX8_begin_28 (fun H locs hP hD hS => ?_)
      have hP : va_P G.1 vwCl [(oX8 o (0 : Int32) (0 : Int32) o_roundAhead o_tens o_roundNow o_bandAhead), (wI G (o 1) 100 o_iceFrom)] H := hP
      have hD : va_D A [(oX8 o (0 : Int32) (0 : Int32) o_roundAhead o_tens o_roundNow o_bandAhead), (wI G (o 1) 100 o_iceFrom)] := hD
      refine lv_aload_n hx hb dX8_begin_31 rfl (lv_at hl 0 rfl) ?_
      refine lv_iconst (v := -1) hx hb dX8_begin_32 (by decide) ?_
      refine va_put (D := G.1) (ci := 8) (v := .int (-1 : Int32)) (ty := .int) (C := RX8) (T := TX8) (N := 7) hx hb ht twX8 tyX8 tyX8_ok nmX8 hown hK.1 hP hD hS 0 rfl rfl 3 (by decide) (ht _ kfl_X8_43) (fun _ h9 => h9) rfl (by decide +kernel) rfl rfl (Nat.le_of_ble_eq_true rfl) dX8_begin_33 (fun H locs hP hD hS => ?_)
      have hP : va_P G.1 vwCl [(oX8 o (0 : Int32) (0 : Int32) (-1 : Int32) o_tens o_roundNow o_bandAhead), (wI G (o 1) 100 o_iceFrom)] H := hP
      have hD : va_D A [(oX8 o (0 : Int32) (0 : Int32) (-1 : Int32) o_tens o_roundNow o_bandAhead), (wI G (o 1) 100 o_iceFrom)] := hD
      refine lv_aload_n hx hb dX8_begin_36 rfl (lv_at hl 0 rfl) ?_
      refine lv_iconst (v := 0) hx hb dX8_begin_37 (by decide) ?_
      refine va_put (D := G.1) (ci := 8) (v := .int (0 : Int32)) (ty := .int) (C := RX8) (T := TX8) (N := 7) hx hb ht twX8 tyX8 tyX8_ok nmX8 hown hK.1 hP hD hS 0 rfl rfl 4 (by decide) (ht _ kfl_X8_46) (fun _ h9 => h9) rfl (by decide +kernel) rfl rfl (Nat.le_of_ble_eq_true rfl) dX8_begin_38 (fun H locs hP hD hS => ?_)
      have hP : va_P G.1 vwCl [(oX8 o (0 : Int32) (0 : Int32) (-1 : Int32) (0 : Int32) o_roundNow o_bandAhead), (wI G (o 1) 100 o_iceFrom)] H := hP
      have hD : va_D A [(oX8 o (0 : Int32) (0 : Int32) (-1 : Int32) (0 : Int32) o_roundNow o_bandAhead), (wI G (o 1) 100 o_iceFrom)] := hD
      refine lv_aload_n hx hb dX8_begin_41 rfl (lv_at hl 0 rfl) ?_
      refine lv_iconst (v := 0) hx hb dX8_begin_42 (by decide) ?_
      refine va_put (D := G.1) (ci := 8) (v := .int (0 : Int32)) (ty := .int) (C := RX8) (T := TX8) (N := 7) hx hb ht twX8 tyX8 tyX8_ok nmX8 hown hK.1 hP hD hS 0 rfl rfl 5 (by decide) (ht _ kfl_X8_49) (fun _ h9 => h9) rfl (by decide +kernel) rfl rfl (Nat.le_of_ble_eq_true rfl) dX8_begin_43 (fun H locs hP hD hS => ?_)
      have hP : va_P G.1 vwCl [(oX8 o (0 : Int32) (0 : Int32) (-1 : Int32) (0 : Int32) (0 : Int32) o_bandAhead), (wI G (o 1) 100 o_iceFrom)] H := hP
      have hD : va_D A [(oX8 o (0 : Int32) (0 : Int32) (-1 : Int32) (0 : Int32) (0 : Int32) o_bandAhead), (wI G (o 1) 100 o_iceFrom)] := hD
      refine lv_aload_n hx hb dX8_begin_46 rfl (lv_at hl 0 rfl) ?_
      refine lv_iconst (v := -1) hx hb dX8_begin_47 (by decide) ?_
      refine va_put (D := G.1) (ci := 8) (v := .int (-1 : Int32)) (ty := .int) (C := RX8) (T := TX8) (N := 7) hx hb ht twX8 tyX8 tyX8_ok nmX8 hown hK.1 hP hD hS 0 rfl rfl 6 (by decide) (ht _ kfl_X8_52) (fun _ h9 => h9) rfl (by decide +kernel) rfl rfl (Nat.le_of_ble_eq_true rfl) dX8_begin_48 (fun H locs hP hD hS => ?_)
      have hP : va_P G.1 vwCl [(oX8 o (0 : Int32) (0 : Int32) (-1 : Int32) (0 : Int32) (0 : Int32) (-1 : Int32)), (wI G (o 1) 100 o_iceFrom)] H := hP
      have hD : va_D A [(oX8 o (0 : Int32) (0 : Int32) (-1 : Int32) (0 : Int32) (0 : Int32) (-1 : Int32)), (wI G (o 1) 100 o_iceFrom)] := hD
      have h9 := Option.some.inj hf
      subst h9
      exact rw_vret C hP hD hS dX8_begin_51
    obtain ⟨rL1, hL1, hk1⟩ := bd_s hf
    refine lp_W (P := fun st => ∀ (H : Heap) (locs : List Loc) (ls : Array Slot), va_P G.1 vwCl [(oX8 o o_entries o_due o_roundAhead o_tens o_roundNow o_bandAhead), (wI G (o 1) 100 st.2)] H → va_D A [(oX8 o o_entries o_due o_roundAhead o_tens o_roundNow o_bandAhead), (wI G (o 1) 100 st.2)] → va_S A s.heap H locs → lv_has ls 2 [(0, .ref (o 0)), (1, .int st.1)] → Wc_X8_begin l G o o_iceFrom o_entries o_due o_roundAhead o_tens o_roundNow o_bandAhead R p e s m below meth c A H locs (F0 m 2 ls [])) ?_ FU ((0 : Int32), o_iceFrom) hL1 H locs ls hP hD hS (lv_sub hl [1, 0] rfl)
    intro ⟨v1, o_iceFrom⟩ oc1 hf hI hE H locs ls hP hD hS hl
    have hP : va_P G.1 vwCl [(oX8 o o_entries o_due o_roundAhead o_tens o_roundNow o_bandAhead), (wI G (o 1) 100 o_iceFrom)] H := hP
    have hD : va_D A [(oX8 o o_entries o_due o_roundAhead o_tens o_roundNow o_bandAhead), (wI G (o 1) 100 o_iceFrom)] := hD
    have hl : lv_has ls 2 [(0, .ref (o 0)), (1, .int v1)] := hl
    have hf : f_X8_begin_b2 v1 o_iceFrom = some oc1 := hf
    refine lv_iload_n hx hb dX8_begin_2 rfl (lv_at hl 1 rfl) ?_
    refine lv_bipush (v := 100) hx hb dX8_begin_3 (by decide) ?_
    refine lv_icmp_ge (tgt := 21) hx hb dX8_begin_5 (by decide) (fun c3 => ?_) (fun c3 => ?_)
    · have hf := o_t c3 hf
      cases hf
      have hf : f_X8_begin_x21_1 o_iceFrom = some R := by have h9 := hk1; rw [← hE _ rfl] at h9; exact h9
      exact hx21_1 o_iceFrom H locs ls hf hP hD hS (lv_sub hl [0] rfl)
    · have hf := o_f c3 hf
      refine lv_aload_n hx hb dX8_begin_8 rfl (lv_at hl 0 rfl) ?_
      refine va_get (D := G.1) (ci := 8) (v := .ref (o 1)) (C := RX8) (T := TX8) (N := 7) hx hb ht twX8 hown hK.1 hP 0 rfl rfl 0 (by decide) (ht _ kfl_X8_9) (fun _ h9 => h9) rfl dX8_begin_9 ?_
      refine lv_iload_n hx hb dX8_begin_12 rfl (lv_at hl 1 rfl) ?_
      refine lv_iconst (v := -1) hx hb dX8_begin_13 (by decide) ?_
      obtain ⟨g4, hf⟩ := gd_s hf
      refine va_iast hx hb hK.1 hP hD hS 1 0 rfl rfl g4 dX8_begin_14 (fun H locs hP hD hS => ?_)
      have hP : va_P G.1 vwCl [(oX8 o o_entries o_due o_roundAhead o_tens o_roundNow o_bandAhead), (wI G (o 1) 100 (upd o_iceFrom v1.toNatClampNeg (-1 : Int32)))] H := hP
      have hD : va_D A [(oX8 o o_entries o_due o_roundAhead o_tens o_roundNow o_bandAhead), (wI G (o 1) 100 (upd o_iceFrom v1.toNatClampNeg (-1 : Int32)))] := hD
      refine lv_iinc (v := (v1 + (1 : Int32))) (lv' := [(1, .int (v1 + (1 : Int32))), (0, .ref (o 0))]) hx hb dX8_begin_15 hl (k := 1) rfl (by rfl) (by decide) rfl (fun ls hl => ?_)
      refine lv_goto (tgt := 2) hx hb dX8_begin_18 (by decide) ?_
      cases hf
      exact hI _ rfl H locs ls hP hD hS (lv_sub hl [1, 0] rfl)
  rw [eH, el] at key
  exact key
abbrev Wc_X8_takesTens (l : Launch) (G : TG) (o : Nat → Nat) (o_entries : Int32) (o_due : Int32) (o_roundAhead : Int32) (o_tens : Int32) (o_roundNow : Int32) (o_bandAhead : Int32) (a1 : Int32) (R : Int32 × Int32 × Int32) (p : Program) (e : Env) (s : State) (m : MethodId) (below : List Frame) (meth : Method) (c : Code) (A : Nat → Prop) (H : Heap) (locs : List Loc) (g : JFrame) : Prop := W p l e ({ frames := 1, cells := 0, slots := 0, locals := 20 }) s m ([.ref (o 0), .int a1] : List Value).toArray below meth c H locs 0 0 (MQ below (rwQ G (some (.int R.1)) [(oX8 o o_entries R.2.1 o_roundAhead R.2.2 o_roundNow o_bandAhead)] A) ([.ref (o 0), .int a1] : List Value).toArray s 0 0 A) g
set_option maxHeartbeats 4000000 in
set_option maxRecDepth 100000 in
theorem c_X8_takesTens (l : Launch) (G : TG) (o : Nat → Nat) (o_entries : Int32) (o_due : Int32) (o_roundAhead : Int32) (o_tens : Int32) (o_roundNow : Int32) (o_bandAhead : Int32) (a1 : Int32) (R : Int32 × Int32 × Int32) (hf : f_X8_takesTens o_roundAhead a1 = some R) : RW l yX8_takesTens cX8_takesTens 2 (some .boolean) ({ frames := 1, cells := 0, slots := 0, locals := 20 }) G [.ref (o 0), .int a1] [(oX8 o o_entries o_due o_roundAhead o_tens o_roundNow o_bandAhead)] (some (.int R.1)) [(oX8 o o_entries R.2.1 o_roundAhead R.2.2 o_roundNow o_bandAhead)] := by
  refine RW.mk (by decide +kernel) (Nat.le_of_ble_eq_true rfl) ?_
  intro p e s m below meth c ls A C hP hD hA hz hK hl hS
  have hx := C.1
  have hb := C.2.1
  have hown : s.vm.findClass RX8 = some m.cls := C.2.2.2.2.2.1
  have ht := C.2.2.2.2.2.2
  have hl : lv_has ls 2 [(0, .ref (o 0)), (1, .int a1)] := hl
  show Wc_X8_takesTens l G o o_entries o_due o_roundAhead o_tens o_roundNow o_bandAhead a1 R p e s m below meth c A s.heap [] (F0 m 0 ls [])
  obtain ⟨H, eH, hP, hS⟩ : ∃ H, H = s.heap ∧ va_P G.1 vwCl [(oX8 o o_entries o_due o_roundAhead o_tens o_roundNow o_bandAhead)] H ∧ va_S A s.heap H [] := ⟨_, rfl, hP, hS⟩
  obtain ⟨locs, el, hS⟩ : ∃ locs : List Loc, locs = [] ∧ va_S A s.heap H locs := ⟨_, rfl, hS⟩
  have key : Wc_X8_takesTens l G o o_entries o_due o_roundAhead o_tens o_roundNow o_bandAhead a1 R p e s m below meth c A H locs (F0 m 0 ls []) := by
    refine lv_aload_n hx hb dX8_takesTens_0 rfl (lv_at hl 0 rfl) ?_
    refine lv_iload_n hx hb dX8_takesTens_1 rfl (lv_at hl 1 rfl) ?_
    obtain ⟨q1, r1, hf⟩ := bd_s hf
    refine ro_SN (n := 1) (As := [.int a1]) (rest := [.ref (o 0)]) (c_X10_figure l G a1 q1 r1) C (hK.at hS hz) (hP.sub [] rfl) hl kcode_X10_figure kmln_X8_71 kst_X10_figure kini_X10 (by decide +kernel) ⟨⟨rfl, rfl⟩, Nat.le_of_ble_eq_true rfl, Nat.le_of_ble_eq_true rfl⟩ ⟨Nat.zero_le _, Nat.zero_le _⟩ rfl rfl (Nat.le_of_ble_eq_true rfl) dX8_takesTens_2 rfl ?_
    refine va_put (D := G.1) (ci := 8) (v := .int q1) (ty := .int) (C := RX8) (T := TX8) (N := 7) hx hb ht twX8 tyX8 tyX8_ok nmX8 hown hK.1 hP hD hS 0 rfl rfl 4 (by decide) (ht _ kfl_X8_46) (fun _ h9 => h9) rfl (by decide +kernel) rfl rfl (Nat.le_of_ble_eq_true rfl) dX8_takesTens_5 (fun H locs hP hD hS => ?_)
    have hP : va_P G.1 vwCl [(oX8 o o_entries o_due o_roundAhead q1 o_roundNow o_bandAhead)] H := hP
    have hD : va_D A [(oX8 o o_entries o_due o_roundAhead q1 o_roundNow o_bandAhead)] := hD
    refine lv_aload_n hx hb dX8_takesTens_8 rfl (lv_at hl 0 rfl) ?_
    refine lv_iconst (v := 1) hx hb dX8_takesTens_9 (by decide) ?_
    refine va_put (D := G.1) (ci := 8) (v := .int (1 : Int32)) (ty := .int) (C := RX8) (T := TX8) (N := 7) hx hb ht twX8 tyX8 tyX8_ok nmX8 hown hK.1 hP hD hS 0 rfl rfl 2 (by decide) (ht _ kfl_X8_31) (fun _ h9 => h9) rfl (by decide +kernel) rfl rfl (Nat.le_of_ble_eq_true rfl) dX8_takesTens_10 (fun H locs hP hD hS => ?_)
    have hP : va_P G.1 vwCl [(oX8 o o_entries (1 : Int32) o_roundAhead q1 o_roundNow o_bandAhead)] H := hP
    have hD : va_D A [(oX8 o o_entries (1 : Int32) o_roundAhead q1 o_roundNow o_bandAhead)] := hD
    refine lv_aload_n hx hb dX8_takesTens_13 rfl (lv_at hl 0 rfl) ?_
    refine va_get (D := G.1) (ci := 8) (v := .int q1) (C := RX8) (T := TX8) (N := 7) hx hb ht twX8 hown hK.1 hP 0 rfl rfl 4 (by decide) (ht _ kfl_X8_46) (fun _ h9 => h9) rfl dX8_takesTens_14 ?_
    refine lv_bipush (v := -9) hx hb dX8_takesTens_17 (by decide) ?_
    refine lv_icmp_eq (tgt := 43) hx hb dX8_takesTens_19 (by decide) (fun c2 => ?_) (fun c2 => ?_)
    · have hf := o_t c2 hf
      refine lv_iconst (v := 0) hx hb dX8_takesTens_43 (by decide) ?_
      have h9 := Option.some.inj hf
      subst h9
      exact rw_zret C (Or.inl rfl) rfl hP hD hS dX8_takesTens_44
    · have hf := o_f c2 hf
      refine lv_bipush (v := 10) hx hb dX8_takesTens_22 (by decide) ?_
      refine lv_aload_n hx hb dX8_takesTens_24 rfl (lv_at hl 0 rfl) ?_
      refine va_get (D := G.1) (ci := 8) (v := .int q1) (C := RX8) (T := TX8) (N := 7) hx hb ht twX8 hown hK.1 hP 0 rfl rfl 4 (by decide) (ht _ kfl_X8_46) (fun _ h9 => h9) rfl dX8_takesTens_25 ?_
      refine lv_imul hx hb dX8_takesTens_28 ?_
      refine lv_bipush (v := 9) hx hb dX8_takesTens_29 (by decide) ?_
      refine lv_iadd hx hb dX8_takesTens_31 ?_
      refine lv_aload_n hx hb dX8_takesTens_32 rfl (lv_at hl 0 rfl) ?_
      refine va_get (D := G.1) (ci := 8) (v := .int o_roundAhead) (C := RX8) (T := TX8) (N := 7) hx hb ht twX8 hown hK.1 hP 0 rfl rfl 3 (by decide) (ht _ kfl_X8_43) (fun _ h9 => h9) rfl dX8_takesTens_33 ?_
      refine lv_icmp_le (tgt := 43) hx hb dX8_takesTens_36 (by decide) (fun c4 => ?_) (fun c4 => ?_)
      · have hf := o_t c4 hf
        refine lv_iconst (v := 0) hx hb dX8_takesTens_43 (by decide) ?_
        have h9 := Option.some.inj hf
        subst h9
        exact rw_zret C (Or.inl rfl) rfl hP hD hS dX8_takesTens_44
      · have hf := o_f c4 hf
        refine lv_iconst (v := 1) hx hb dX8_takesTens_39 (by decide) ?_
        refine lv_goto (tgt := 44) hx hb dX8_takesTens_40 (by decide) ?_
        have h9 := Option.some.inj hf
        subst h9
        exact rw_zret C (Or.inr rfl) rfl hP hD hS dX8_takesTens_44
  rw [eH, el] at key
  exact key
abbrev Wc_X8_takesOnes (l : Launch) (G : TG) (o : Nat → Nat) (o_entries : Int32) (o_due : Int32) (o_roundAhead : Int32) (o_tens : Int32) (o_roundNow : Int32) (o_bandAhead : Int32) (a1 : Int32) (R : Int32 × Int32 × Int32) (p : Program) (e : Env) (s : State) (m : MethodId) (below : List Frame) (meth : Method) (c : Code) (A : Nat → Prop) (H : Heap) (locs : List Loc) (g : JFrame) : Prop := W p l e ({ frames := 1, cells := 0, slots := 0, locals := 20 }) s m ([.ref (o 0), .int a1] : List Value).toArray below meth c H locs 0 0 (MQ below (rwQ G (some (.int R.1)) [(oX8 o o_entries R.2.1 o_roundAhead o_tens R.2.2 o_bandAhead)] A) ([.ref (o 0), .int a1] : List Value).toArray s 0 0 A) g
set_option maxHeartbeats 4000000 in
set_option maxRecDepth 100000 in
theorem c_X8_takesOnes (l : Launch) (G : TG) (o : Nat → Nat) (o_entries : Int32) (o_due : Int32) (o_roundAhead : Int32) (o_tens : Int32) (o_roundNow : Int32) (o_bandAhead : Int32) (a1 : Int32) (R : Int32 × Int32 × Int32) (hf : f_X8_takesOnes o_roundAhead o_tens a1 = some R) : RW l yX8_takesOnes cX8_takesOnes 3 (some .boolean) ({ frames := 1, cells := 0, slots := 0, locals := 20 }) G [.ref (o 0), .int a1] [(oX8 o o_entries o_due o_roundAhead o_tens o_roundNow o_bandAhead)] (some (.int R.1)) [(oX8 o o_entries R.2.1 o_roundAhead o_tens R.2.2 o_bandAhead)] := by
  refine RW.mk (by decide +kernel) (Nat.le_of_ble_eq_true rfl) ?_
  intro p e s m below meth c ls A C hP hD hA hz hK hl hS
  have hx := C.1
  have hb := C.2.1
  have hown : s.vm.findClass RX8 = some m.cls := C.2.2.2.2.2.1
  have ht := C.2.2.2.2.2.2
  have hl : lv_has ls 3 [(0, .ref (o 0)), (1, .int a1)] := hl
  show Wc_X8_takesOnes l G o o_entries o_due o_roundAhead o_tens o_roundNow o_bandAhead a1 R p e s m below meth c A s.heap [] (F0 m 0 ls [])
  obtain ⟨H, eH, hP, hS⟩ : ∃ H, H = s.heap ∧ va_P G.1 vwCl [(oX8 o o_entries o_due o_roundAhead o_tens o_roundNow o_bandAhead)] H ∧ va_S A s.heap H [] := ⟨_, rfl, hP, hS⟩
  obtain ⟨locs, el, hS⟩ : ∃ locs : List Loc, locs = [] ∧ va_S A s.heap H locs := ⟨_, rfl, hS⟩
  have key : Wc_X8_takesOnes l G o o_entries o_due o_roundAhead o_tens o_roundNow o_bandAhead a1 R p e s m below meth c A H locs (F0 m 0 ls []) := by
    refine lv_iload_n hx hb dX8_takesOnes_0 rfl (lv_at hl 1 rfl) ?_
    obtain ⟨q1, r1, hf⟩ := bd_s hf
    refine ro_SN (n := 1) (As := [.int a1]) (rest := []) (c_X10_figure l G a1 q1 r1) C (hK.at hS hz) (hP.sub [] rfl) hl kcode_X10_figure kmln_X8_71 kst_X10_figure kini_X10 (by decide +kernel) ⟨⟨rfl, rfl⟩, Nat.le_of_ble_eq_true rfl, Nat.le_of_ble_eq_true rfl⟩ ⟨Nat.zero_le _, Nat.zero_le _⟩ rfl rfl (Nat.le_of_ble_eq_true rfl) dX8_takesOnes_1 rfl ?_
    refine lv_istore_n (lv' := [(2, .int q1), (0, .ref (o 0)), (1, .int a1)]) hx hb dX8_takesOnes_4 rfl hl (by decide) rfl (fun ls hl => ?_)
    refine lv_aload_n hx hb dX8_takesOnes_5 rfl (lv_at hl 1 rfl) ?_
    refine lv_bipush (v := 10) hx hb dX8_takesOnes_6 (by decide) ?_
    refine lv_aload_n hx hb dX8_takesOnes_8 rfl (lv_at hl 1 rfl) ?_
    refine va_get (D := G.1) (ci := 8) (v := .int o_tens) (C := RX8) (T := TX8) (N := 7) hx hb ht twX8 hown hK.1 hP 0 rfl rfl 4 (by decide) (ht _ kfl_X8_46) (fun _ h9 => h9) rfl dX8_takesOnes_9 ?_
    refine lv_imul hx hb dX8_takesOnes_12 ?_
    refine lv_iload_n hx hb dX8_takesOnes_13 rfl (lv_at hl 0 rfl) ?_
    refine lv_iadd hx hb dX8_takesOnes_14 ?_
    refine va_put (D := G.1) (ci := 8) (v := .int (((10 : Int32) * o_tens) + q1)) (ty := .int) (C := RX8) (T := TX8) (N := 7) hx hb ht twX8 tyX8 tyX8_ok nmX8 hown hK.1 hP hD hS 0 rfl rfl 5 (by decide) (ht _ kfl_X8_49) (fun _ h9 => h9) rfl (by decide +kernel) rfl rfl (Nat.le_of_ble_eq_true rfl) dX8_takesOnes_15 (fun H locs hP hD hS => ?_)
    have hP : va_P G.1 vwCl [(oX8 o o_entries o_due o_roundAhead o_tens (((10 : Int32) * o_tens) + q1) o_bandAhead)] H := hP
    have hD : va_D A [(oX8 o o_entries o_due o_roundAhead o_tens (((10 : Int32) * o_tens) + q1) o_bandAhead)] := hD
    refine lv_aload_n hx hb dX8_takesOnes_18 rfl (lv_at hl 1 rfl) ?_
    refine lv_iconst (v := 2) hx hb dX8_takesOnes_19 (by decide) ?_
    refine va_put (D := G.1) (ci := 8) (v := .int (2 : Int32)) (ty := .int) (C := RX8) (T := TX8) (N := 7) hx hb ht twX8 tyX8 tyX8_ok nmX8 hown hK.1 hP hD hS 0 rfl rfl 2 (by decide) (ht _ kfl_X8_31) (fun _ h9 => h9) rfl (by decide +kernel) rfl rfl (Nat.le_of_ble_eq_true rfl) dX8_takesOnes_20 (fun H locs hP hD hS => ?_)
    have hP : va_P G.1 vwCl [(oX8 o o_entries (2 : Int32) o_roundAhead o_tens (((10 : Int32) * o_tens) + q1) o_bandAhead)] H := hP
    have hD : va_D A [(oX8 o o_entries (2 : Int32) o_roundAhead o_tens (((10 : Int32) * o_tens) + q1) o_bandAhead)] := hD
    refine lv_iload_n hx hb dX8_takesOnes_23 rfl (lv_at hl 0 rfl) ?_
    refine lv_bipush (v := -9) hx hb dX8_takesOnes_24 (by decide) ?_
    refine lv_icmp_eq (tgt := 44) hx hb dX8_takesOnes_26 (by decide) (fun c2 => ?_) (fun c2 => ?_)
    · have hf := o_t c2 hf
      refine lv_iconst (v := 0) hx hb dX8_takesOnes_44 (by decide) ?_
      have h9 := Option.some.inj hf
      subst h9
      exact rw_zret C (Or.inl rfl) rfl hP hD hS dX8_takesOnes_45
    · have hf := o_f c2 hf
      refine lv_aload_n hx hb dX8_takesOnes_29 rfl (lv_at hl 1 rfl) ?_
      refine va_get (D := G.1) (ci := 8) (v := .int (((10 : Int32) * o_tens) + q1)) (C := RX8) (T := TX8) (N := 7) hx hb ht twX8 hown hK.1 hP 0 rfl rfl 5 (by decide) (ht _ kfl_X8_49) (fun _ h9 => h9) rfl dX8_takesOnes_30 ?_
      refine lv_aload_n hx hb dX8_takesOnes_33 rfl (lv_at hl 1 rfl) ?_
      refine va_get (D := G.1) (ci := 8) (v := .int o_roundAhead) (C := RX8) (T := TX8) (N := 7) hx hb ht twX8 hown hK.1 hP 0 rfl rfl 3 (by decide) (ht _ kfl_X8_43) (fun _ h9 => h9) rfl dX8_takesOnes_34 ?_
      refine lv_icmp_le (tgt := 44) hx hb dX8_takesOnes_37 (by decide) (fun c4 => ?_) (fun c4 => ?_)
      · have hf := o_t c4 hf
        refine lv_iconst (v := 0) hx hb dX8_takesOnes_44 (by decide) ?_
        have h9 := Option.some.inj hf
        subst h9
        exact rw_zret C (Or.inl rfl) rfl hP hD hS dX8_takesOnes_45
      · have hf := o_f c4 hf
        refine lv_iconst (v := 1) hx hb dX8_takesOnes_40 (by decide) ?_
        refine lv_goto (tgt := 45) hx hb dX8_takesOnes_41 (by decide) ?_
        have h9 := Option.some.inj hf
        subst h9
        exact rw_zret C (Or.inr rfl) rfl hP hD hS dX8_takesOnes_45
  rw [eH, el] at key
  exact key
abbrev Wc_X8_takesColon (l : Launch) (G : TG) (o : Nat → Nat) (o_iceFrom : Nat → Int32) (o_entries : Int32) (o_due : Int32) (o_roundAhead : Int32) (o_tens : Int32) (o_roundNow : Int32) (o_bandAhead : Int32) (a1 : Int32) (R : Int32 × (Nat → Int32) × Int32 × Int32 × Int32) (p : Program) (e : Env) (s : State) (m : MethodId) (below : List Frame) (meth : Method) (c : Code) (A : Nat → Prop) (H : Heap) (locs : List Loc) (g : JFrame) : Prop := W p l e ({ frames := 2, cells := 0, slots := 0, locals := 42 }) s m ([.ref (o 0), .int a1] : List Value).toArray below meth c H locs 0 0 (MQ below (rwQ G (some (.int R.1)) [(oX8 o R.2.2.1 R.2.2.2.1 o_roundAhead o_tens o_roundNow R.2.2.2.2), (wI G (o 1) 100 R.2.1)] A) ([.ref (o 0), .int a1] : List Value).toArray s 0 0 A) g
set_option maxHeartbeats 4000000 in
set_option maxRecDepth 100000 in
theorem c_X8_takesColon (l : Launch) (G : TG) (o : Nat → Nat) (o_iceFrom : Nat → Int32) (o_entries : Int32) (o_due : Int32) (o_roundAhead : Int32) (o_tens : Int32) (o_roundNow : Int32) (o_bandAhead : Int32) (a1 : Int32) (R : Int32 × (Nat → Int32) × Int32 × Int32 × Int32) (hf : f_X8_takesColon o_iceFrom o_entries o_due o_roundNow o_bandAhead a1 = some R) : RW l yX8_takesColon cX8_takesColon 2 (some .boolean) ({ frames := 2, cells := 0, slots := 0, locals := 42 }) G [.ref (o 0), .int a1] [(oX8 o o_entries o_due o_roundAhead o_tens o_roundNow o_bandAhead), (wI G (o 1) 100 o_iceFrom)] (some (.int R.1)) [(oX8 o R.2.2.1 R.2.2.2.1 o_roundAhead o_tens o_roundNow R.2.2.2.2), (wI G (o 1) 100 R.2.1)] := by
  refine RW.mk (by decide +kernel) (Nat.le_of_ble_eq_true rfl) ?_
  intro p e s m below meth c ls A C hP hD hA hz hK hl hS
  have hx := C.1
  have hb := C.2.1
  have hown : s.vm.findClass RX8 = some m.cls := C.2.2.2.2.2.1
  have ht := C.2.2.2.2.2.2
  have hl : lv_has ls 2 [(0, .ref (o 0)), (1, .int a1)] := hl
  show Wc_X8_takesColon l G o o_iceFrom o_entries o_due o_roundAhead o_tens o_roundNow o_bandAhead a1 R p e s m below meth c A s.heap [] (F0 m 0 ls [])
  obtain ⟨H, eH, hP, hS⟩ : ∃ H, H = s.heap ∧ va_P G.1 vwCl [(oX8 o o_entries o_due o_roundAhead o_tens o_roundNow o_bandAhead), (wI G (o 1) 100 o_iceFrom)] H ∧ va_S A s.heap H [] := ⟨_, rfl, hP, hS⟩
  obtain ⟨locs, el, hS⟩ : ∃ locs : List Loc, locs = [] ∧ va_S A s.heap H locs := ⟨_, rfl, hS⟩
  have key : Wc_X8_takesColon l G o o_iceFrom o_entries o_due o_roundAhead o_tens o_roundNow o_bandAhead a1 R p e s m below meth c A H locs (F0 m 0 ls []) := by
    refine lv_iload_n hx hb dX8_takesColon_0 rfl (lv_at hl 1 rfl) ?_
    refine lv_bipush (v := 58) hx hb dX8_takesColon_1 (by decide) ?_
    refine lv_icmp_ne (tgt := 16) hx hb dX8_takesColon_3 (by decide) (fun c1 => ?_) (fun c1 => ?_)
    · have hf := o_f c1 hf
      refine lv_iconst (v := 0) hx hb dX8_takesColon_16 (by decide) ?_
      have h9 := Option.some.inj hf
      subst h9
      exact rw_zret C (Or.inl rfl) rfl hP hD hS dX8_takesColon_17
    · have hf := o_t c1 hf
      refine lv_aload_n hx hb dX8_takesColon_6 rfl (lv_at hl 0 rfl) ?_
      refine va_get (D := G.1) (ci := 8) (v := .int o_roundNow) (C := RX8) (T := TX8) (N := 7) hx hb ht twX8 hown hK.1 hP 0 rfl rfl 5 (by decide) (ht _ kfl_X8_49) (fun _ h9 => h9) rfl dX8_takesColon_7 ?_
      obtain ⟨q3, r3, hf⟩ := bd_s hf
      refine ro_SN (n := 1) (As := [.int o_roundNow]) (rest := []) (c_X10_isRound l G o_roundNow q3 r3) C (hK.at hS hz) (hP.sub [] rfl) hl kcode_X10_isRound kmln_X8_75 kst_X10_isRound kini_X10 (by decide +kernel) ⟨⟨rfl, rfl⟩, Nat.le_of_ble_eq_true rfl, Nat.le_of_ble_eq_true rfl⟩ ⟨Nat.zero_le _, Nat.zero_le _⟩ rfl rfl (Nat.le_of_ble_eq_true rfl) dX8_takesColon_10 rfl ?_
      refine lv_if_ne (tgt := 18) hx hb dX8_takesColon_13 (by decide) (fun c4 => ?_) (fun c4 => ?_)
      · have hf := o_f c4 hf
        refine lv_aload_n hx hb dX8_takesColon_18 rfl (lv_at hl 0 rfl) ?_
        refine va_get (D := G.1) (ci := 8) (v := .ref (o 1)) (C := RX8) (T := TX8) (N := 7) hx hb ht twX8 hown hK.1 hP 0 rfl rfl 0 (by decide) (ht _ kfl_X8_9) (fun _ h9 => h9) rfl dX8_takesColon_19 ?_
        refine lv_aload_n hx hb dX8_takesColon_22 rfl (lv_at hl 0 rfl) ?_
        refine va_get (D := G.1) (ci := 8) (v := .int o_roundNow) (C := RX8) (T := TX8) (N := 7) hx hb ht twX8 hown hK.1 hP 0 rfl rfl 5 (by decide) (ht _ kfl_X8_49) (fun _ h9 => h9) rfl dX8_takesColon_23 ?_
        refine lv_iconst (v := 0) hx hb dX8_takesColon_26 (by decide) ?_
        obtain ⟨g5, hf⟩ := gd_s hf
        refine va_iast hx hb hK.1 hP hD hS 1 0 rfl rfl g5 dX8_takesColon_27 (fun H locs hP hD hS => ?_)
        have hP : va_P G.1 vwCl [(oX8 o o_entries o_due o_roundAhead o_tens o_roundNow o_bandAhead), (wI G (o 1) 100 (upd o_iceFrom o_roundNow.toNatClampNeg (0 : Int32)))] H := hP
        have hD : va_D A [(oX8 o o_entries o_due o_roundAhead o_tens o_roundNow o_bandAhead), (wI G (o 1) 100 (upd o_iceFrom o_roundNow.toNatClampNeg (0 : Int32)))] := hD
        refine lv_aload_n hx hb dX8_takesColon_28 rfl (lv_at hl 0 rfl) ?_
        refine lv_dup hx hb dX8_takesColon_29 rfl ?_
        refine va_get (D := G.1) (ci := 8) (v := .int o_entries) (C := RX8) (T := TX8) (N := 7) hx hb ht twX8 hown hK.1 hP 0 rfl rfl 1 (by decide) (ht _ kfl_X8_40) (fun _ h9 => h9) rfl dX8_takesColon_30 ?_
        refine lv_iconst (v := 1) hx hb dX8_takesColon_33 (by decide) ?_
        refine lv_iadd hx hb dX8_takesColon_34 ?_
        refine va_put (D := G.1) (ci := 8) (v := .int (o_entries + (1 : Int32))) (ty := .int) (C := RX8) (T := TX8) (N := 7) hx hb ht twX8 tyX8 tyX8_ok nmX8 hown hK.1 hP hD hS 0 rfl rfl 1 (by decide) (ht _ kfl_X8_40) (fun _ h9 => h9) rfl (by decide +kernel) rfl rfl (Nat.le_of_ble_eq_true rfl) dX8_takesColon_35 (fun H locs hP hD hS => ?_)
        have hP : va_P G.1 vwCl [(oX8 o (o_entries + (1 : Int32)) o_due o_roundAhead o_tens o_roundNow o_bandAhead), (wI G (o 1) 100 (upd o_iceFrom o_roundNow.toNatClampNeg (0 : Int32)))] H := hP
        have hD : va_D A [(oX8 o (o_entries + (1 : Int32)) o_due o_roundAhead o_tens o_roundNow o_bandAhead), (wI G (o 1) 100 (upd o_iceFrom o_roundNow.toNatClampNeg (0 : Int32)))] := hD
        refine lv_aload_n hx hb dX8_takesColon_38 rfl (lv_at hl 0 rfl) ?_
        refine lv_iconst (v := -1) hx hb dX8_takesColon_39 (by decide) ?_
        refine va_put (D := G.1) (ci := 8) (v := .int (-1 : Int32)) (ty := .int) (C := RX8) (T := TX8) (N := 7) hx hb ht twX8 tyX8 tyX8_ok nmX8 hown hK.1 hP hD hS 0 rfl rfl 6 (by decide) (ht _ kfl_X8_52) (fun _ h9 => h9) rfl (by decide +kernel) rfl rfl (Nat.le_of_ble_eq_true rfl) dX8_takesColon_40 (fun H locs hP hD hS => ?_)
        have hP : va_P G.1 vwCl [(oX8 o (o_entries + (1 : Int32)) o_due o_roundAhead o_tens o_roundNow (-1 : Int32)), (wI G (o 1) 100 (upd o_iceFrom o_roundNow.toNatClampNeg (0 : Int32)))] H := hP
        have hD : va_D A [(oX8 o (o_entries + (1 : Int32)) o_due o_roundAhead o_tens o_roundNow (-1 : Int32)), (wI G (o 1) 100 (upd o_iceFrom o_roundNow.toNatClampNeg (0 : Int32)))] := hD
        refine lv_aload_n hx hb dX8_takesColon_43 rfl (lv_at hl 0 rfl) ?_
        refine lv_iconst (v := 3) hx hb dX8_takesColon_44 (by decide) ?_
        refine va_put (D := G.1) (ci := 8) (v := .int (3 : Int32)) (ty := .int) (C := RX8) (T := TX8) (N := 7) hx hb ht twX8 tyX8 tyX8_ok nmX8 hown hK.1 hP hD hS 0 rfl rfl 2 (by decide) (ht _ kfl_X8_31) (fun _ h9 => h9) rfl (by decide +kernel) rfl rfl (Nat.le_of_ble_eq_true rfl) dX8_takesColon_45 (fun H locs hP hD hS => ?_)
        have hP : va_P G.1 vwCl [(oX8 o (o_entries + (1 : Int32)) (3 : Int32) o_roundAhead o_tens o_roundNow (-1 : Int32)), (wI G (o 1) 100 (upd o_iceFrom o_roundNow.toNatClampNeg (0 : Int32)))] H := hP
        have hD : va_D A [(oX8 o (o_entries + (1 : Int32)) (3 : Int32) o_roundAhead o_tens o_roundNow (-1 : Int32)), (wI G (o 1) 100 (upd o_iceFrom o_roundNow.toNatClampNeg (0 : Int32)))] := hD
        refine lv_iconst (v := 1) hx hb dX8_takesColon_48 (by decide) ?_
        have h9 := Option.some.inj hf
        subst h9
        exact rw_zret C (Or.inr rfl) rfl hP hD hS dX8_takesColon_49
      · have hf := o_t c4 hf
        refine lv_iconst (v := 0) hx hb dX8_takesColon_16 (by decide) ?_
        have h9 := Option.some.inj hf
        subst h9
        exact rw_zret C (Or.inl rfl) rfl hP hD hS dX8_takesColon_17
  rw [eH, el] at key
  exact key
abbrev Wc_X8_takesNextEntry (l : Launch) (G : TG) (o : Nat → Nat) (o_entries : Int32) (o_due : Int32) (o_roundAhead : Int32) (o_tens : Int32) (o_roundNow : Int32) (o_bandAhead : Int32) (R : Int32 × Int32 × Int32) (p : Program) (e : Env) (s : State) (m : MethodId) (below : List Frame) (meth : Method) (c : Code) (A : Nat → Prop) (H : Heap) (locs : List Loc) (g : JFrame) : Prop := W p l e ({ frames := 0, cells := 0, slots := 0, locals := 0 }) s m ([.ref (o 0)] : List Value).toArray below meth c H locs 0 0 (MQ below (rwQ G (some (.int R.1)) [(oX8 o o_entries R.2.1 R.2.2 o_tens o_roundNow o_bandAhead)] A) ([.ref (o 0)] : List Value).toArray s 0 0 A) g
set_option maxHeartbeats 4000000 in
set_option maxRecDepth 100000 in
theorem c_X8_takesNextEntry (l : Launch) (G : TG) (o : Nat → Nat) (o_entries : Int32) (o_due : Int32) (o_roundAhead : Int32) (o_tens : Int32) (o_roundNow : Int32) (o_bandAhead : Int32) (R : Int32 × Int32 × Int32) (hf : f_X8_takesNextEntry o_roundNow = some R) : RW l yX8_takesNextEntry cX8_takesNextEntry 1 (some .boolean) ({ frames := 0, cells := 0, slots := 0, locals := 0 }) G [.ref (o 0)] [(oX8 o o_entries o_due o_roundAhead o_tens o_roundNow o_bandAhead)] (some (.int R.1)) [(oX8 o o_entries R.2.1 R.2.2 o_tens o_roundNow o_bandAhead)] := by
  refine RW.mk (by decide +kernel) (Nat.le_of_ble_eq_true rfl) ?_
  intro p e s m below meth c ls A C hP hD hA hz hK hl hS
  have hx := C.1
  have hb := C.2.1
  have hown : s.vm.findClass RX8 = some m.cls := C.2.2.2.2.2.1
  have ht := C.2.2.2.2.2.2
  have hl : lv_has ls 1 [(0, .ref (o 0))] := hl
  show Wc_X8_takesNextEntry l G o o_entries o_due o_roundAhead o_tens o_roundNow o_bandAhead R p e s m below meth c A s.heap [] (F0 m 0 ls [])
  obtain ⟨H, eH, hP, hS⟩ : ∃ H, H = s.heap ∧ va_P G.1 vwCl [(oX8 o o_entries o_due o_roundAhead o_tens o_roundNow o_bandAhead)] H ∧ va_S A s.heap H [] := ⟨_, rfl, hP, hS⟩
  obtain ⟨locs, el, hS⟩ : ∃ locs : List Loc, locs = [] ∧ va_S A s.heap H locs := ⟨_, rfl, hS⟩
  have key : Wc_X8_takesNextEntry l G o o_entries o_due o_roundAhead o_tens o_roundNow o_bandAhead R p e s m below meth c A H locs (F0 m 0 ls []) := by
    refine lv_aload_n hx hb dX8_takesNextEntry_0 rfl (lv_at hl 0 rfl) ?_
    refine lv_aload_n hx hb dX8_takesNextEntry_1 rfl (lv_at hl 0 rfl) ?_
    refine va_get (D := G.1) (ci := 8) (v := .int o_roundNow) (C := RX8) (T := TX8) (N := 7) hx hb ht twX8 hown hK.1 hP 0 rfl rfl 5 (by decide) (ht _ kfl_X8_49) (fun _ h9 => h9) rfl dX8_takesNextEntry_2 ?_
    refine va_put (D := G.1) (ci := 8) (v := .int o_roundNow) (ty := .int) (C := RX8) (T := TX8) (N := 7) hx hb ht twX8 tyX8 tyX8_ok nmX8 hown hK.1 hP hD hS 0 rfl rfl 3 (by decide) (ht _ kfl_X8_43) (fun _ h9 => h9) rfl (by decide +kernel) rfl rfl (Nat.le_of_ble_eq_true rfl) dX8_takesNextEntry_5 (fun H locs hP hD hS => ?_)
    have hP : va_P G.1 vwCl [(oX8 o o_entries o_due o_roundNow o_tens o_roundNow o_bandAhead)] H := hP
    have hD : va_D A [(oX8 o o_entries o_due o_roundNow o_tens o_roundNow o_bandAhead)] := hD
    refine lv_aload_n hx hb dX8_takesNextEntry_8 rfl (lv_at hl 0 rfl) ?_
    refine lv_iconst (v := 0) hx hb dX8_takesNextEntry_9 (by decide) ?_
    refine va_put (D := G.1) (ci := 8) (v := .int (0 : Int32)) (ty := .int) (C := RX8) (T := TX8) (N := 7) hx hb ht twX8 tyX8 tyX8_ok nmX8 hown hK.1 hP hD hS 0 rfl rfl 2 (by decide) (ht _ kfl_X8_31) (fun _ h9 => h9) rfl (by decide +kernel) rfl rfl (Nat.le_of_ble_eq_true rfl) dX8_takesNextEntry_10 (fun H locs hP hD hS => ?_)
    have hP : va_P G.1 vwCl [(oX8 o o_entries (0 : Int32) o_roundNow o_tens o_roundNow o_bandAhead)] H := hP
    have hD : va_D A [(oX8 o o_entries (0 : Int32) o_roundNow o_tens o_roundNow o_bandAhead)] := hD
    refine lv_aload_n hx hb dX8_takesNextEntry_13 rfl (lv_at hl 0 rfl) ?_
    refine va_get (D := G.1) (ci := 8) (v := .int o_roundNow) (C := RX8) (T := TX8) (N := 7) hx hb ht twX8 hown hK.1 hP 0 rfl rfl 5 (by decide) (ht _ kfl_X8_49) (fun _ h9 => h9) rfl dX8_takesNextEntry_14 ?_
    refine lv_bipush (v := 99) hx hb dX8_takesNextEntry_17 (by decide) ?_
    refine lv_icmp_ge (tgt := 26) hx hb dX8_takesNextEntry_19 (by decide) (fun c1 => ?_) (fun c1 => ?_)
    · have hf := o_t c1 hf
      refine lv_iconst (v := 0) hx hb dX8_takesNextEntry_26 (by decide) ?_
      have h9 := Option.some.inj hf
      subst h9
      exact rw_zret C (Or.inl rfl) rfl hP hD hS dX8_takesNextEntry_27
    · have hf := o_f c1 hf
      refine lv_iconst (v := 1) hx hb dX8_takesNextEntry_22 (by decide) ?_
      refine lv_goto (tgt := 27) hx hb dX8_takesNextEntry_23 (by decide) ?_
      have h9 := Option.some.inj hf
      subst h9
      exact rw_zret C (Or.inr rfl) rfl hP hD hS dX8_takesNextEntry_27
  rw [eH, el] at key
  exact key
abbrev Wc_X8_takesBand (l : Launch) (G : TG) (o : Nat → Nat) (o_iceFrom : Nat → Int32) (o_entries : Int32) (o_due : Int32) (o_roundAhead : Int32) (o_tens : Int32) (o_roundNow : Int32) (o_bandAhead : Int32) (a1 : Int32) (R : Int32 × (Nat → Int32) × Int32) (p : Program) (e : Env) (s : State) (m : MethodId) (below : List Frame) (meth : Method) (c : Code) (A : Nat → Prop) (H : Heap) (locs : List Loc) (g : JFrame) : Prop := W p l e ({ frames := 2, cells := 0, slots := 0, locals := 42 }) s m ([.ref (o 0), .int a1] : List Value).toArray below meth c H locs 0 0 (MQ below (rwQ G (some (.int R.1)) [(oX8 o o_entries o_due o_roundAhead o_tens o_roundNow R.2.2), (wI G (o 1) 100 R.2.1)] A) ([.ref (o 0), .int a1] : List Value).toArray s 0 0 A) g
set_option maxHeartbeats 4000000 in
set_option maxRecDepth 100000 in
theorem c_X8_takesBand (l : Launch) (G : TG) (o : Nat → Nat) (o_iceFrom : Nat → Int32) (o_entries : Int32) (o_due : Int32) (o_roundAhead : Int32) (o_tens : Int32) (o_roundNow : Int32) (o_bandAhead : Int32) (a1 : Int32) (R : Int32 × (Nat → Int32) × Int32) (hf : f_X8_takesBand o_iceFrom o_roundNow o_bandAhead a1 = some R) : RW l yX8_takesBand cX8_takesBand 3 (some .boolean) ({ frames := 2, cells := 0, slots := 0, locals := 42 }) G [.ref (o 0), .int a1] [(oX8 o o_entries o_due o_roundAhead o_tens o_roundNow o_bandAhead), (wI G (o 1) 100 o_iceFrom)] (some (.int R.1)) [(oX8 o o_entries o_due o_roundAhead o_tens o_roundNow R.2.2), (wI G (o 1) 100 R.2.1)] := by
  refine RW.mk (by decide +kernel) (Nat.le_of_ble_eq_true rfl) ?_
  intro p e s m below meth c ls A C hP hD hA hz hK hl hS
  have hx := C.1
  have hb := C.2.1
  have hown : s.vm.findClass RX8 = some m.cls := C.2.2.2.2.2.1
  have ht := C.2.2.2.2.2.2
  have hl : lv_has ls 3 [(0, .ref (o 0)), (1, .int a1)] := hl
  show Wc_X8_takesBand l G o o_iceFrom o_entries o_due o_roundAhead o_tens o_roundNow o_bandAhead a1 R p e s m below meth c A s.heap [] (F0 m 0 ls [])
  obtain ⟨H, eH, hP, hS⟩ : ∃ H, H = s.heap ∧ va_P G.1 vwCl [(oX8 o o_entries o_due o_roundAhead o_tens o_roundNow o_bandAhead), (wI G (o 1) 100 o_iceFrom)] H ∧ va_S A s.heap H [] := ⟨_, rfl, hP, hS⟩
  obtain ⟨locs, el, hS⟩ : ∃ locs : List Loc, locs = [] ∧ va_S A s.heap H locs := ⟨_, rfl, hS⟩
  have key : Wc_X8_takesBand l G o o_iceFrom o_entries o_due o_roundAhead o_tens o_roundNow o_bandAhead a1 R p e s m below meth c A H locs (F0 m 0 ls []) := by
    refine lv_iload_n hx hb dX8_takesBand_0 rfl (lv_at hl 1 rfl) ?_
    obtain ⟨q1, r1, hf⟩ := bd_s hf
    refine ro_SN (n := 1) (As := [.int a1]) (rest := []) (c_X10_figure l G a1 q1 r1) C (hK.at hS hz) (hP.sub [] rfl) hl kcode_X10_figure kmln_X8_71 kst_X10_figure kini_X10 (by decide +kernel) ⟨⟨rfl, rfl⟩, Nat.le_of_ble_eq_true rfl, Nat.le_of_ble_eq_true rfl⟩ ⟨Nat.zero_le _, Nat.zero_le _⟩ rfl rfl (Nat.le_of_ble_eq_true rfl) dX8_takesBand_1 rfl ?_
    refine lv_istore_n (lv' := [(2, .int q1), (0, .ref (o 0)), (1, .int a1)]) hx hb dX8_takesBand_4 rfl hl (by decide) rfl (fun ls hl => ?_)
    refine lv_iload_n hx hb dX8_takesBand_5 rfl (lv_at hl 0 rfl) ?_
    obtain ⟨q2, r2, hf⟩ := bd_s hf
    refine ro_SN (n := 1) (As := [.int q1]) (rest := []) (c_X10_isBand l G q1 q2 r2) C (hK.at hS hz) (hP.sub [] rfl) hl kcode_X10_isBand kmln_X8_78 kst_X10_isBand kini_X10 (by decide +kernel) ⟨⟨rfl, rfl⟩, Nat.le_of_ble_eq_true rfl, Nat.le_of_ble_eq_true rfl⟩ ⟨Nat.zero_le _, Nat.zero_le _⟩ rfl rfl (Nat.le_of_ble_eq_true rfl) dX8_takesBand_6 rfl ?_
    refine lv_if_eq (tgt := 30) hx hb dX8_takesBand_9 (by decide) (fun c3 => ?_) (fun c3 => ?_)
    · have hf := o_t c3 hf
      refine lv_iconst (v := 0) hx hb dX8_takesBand_30 (by decide) ?_
      have h9 := Option.some.inj hf
      subst h9
      exact rw_zret C (Or.inl rfl) rfl hP hD hS dX8_takesBand_31
    · have hf := o_f c3 hf
      refine lv_iload_n hx hb dX8_takesBand_12 rfl (lv_at hl 0 rfl) ?_
      refine lv_aload_n hx hb dX8_takesBand_13 rfl (lv_at hl 1 rfl) ?_
      refine va_get (D := G.1) (ci := 8) (v := .int o_bandAhead) (C := RX8) (T := TX8) (N := 7) hx hb ht twX8 hown hK.1 hP 0 rfl rfl 6 (by decide) (ht _ kfl_X8_52) (fun _ h9 => h9) rfl dX8_takesBand_14 ?_
      refine lv_icmp_le (tgt := 30) hx hb dX8_takesBand_17 (by decide) (fun c5 => ?_) (fun c5 => ?_)
      · have hf := o_t c5 hf
        refine lv_iconst (v := 0) hx hb dX8_takesBand_30 (by decide) ?_
        have h9 := Option.some.inj hf
        subst h9
        exact rw_zret C (Or.inl rfl) rfl hP hD hS dX8_takesBand_31
      · have hf := o_f c5 hf
        refine lv_aload_n hx hb dX8_takesBand_20 rfl (lv_at hl 1 rfl) ?_
        refine va_get (D := G.1) (ci := 8) (v := .int o_roundNow) (C := RX8) (T := TX8) (N := 7) hx hb ht twX8 hown hK.1 hP 0 rfl rfl 5 (by decide) (ht _ kfl_X8_49) (fun _ h9 => h9) rfl dX8_takesBand_21 ?_
        obtain ⟨q7, r7, hf⟩ := bd_s hf
        refine ro_SN (n := 1) (As := [.int o_roundNow]) (rest := []) (c_X10_isRound l G o_roundNow q7 r7) C (hK.at hS hz) (hP.sub [] rfl) hl kcode_X10_isRound kmln_X8_75 kst_X10_isRound kini_X10 (by decide +kernel) ⟨⟨rfl, rfl⟩, Nat.le_of_ble_eq_true rfl, Nat.le_of_ble_eq_true rfl⟩ ⟨Nat.zero_le _, Nat.zero_le _⟩ rfl rfl (Nat.le_of_ble_eq_true rfl) dX8_takesBand_24 rfl ?_
        refine lv_if_ne (tgt := 32) hx hb dX8_takesBand_27 (by decide) (fun c8 => ?_) (fun c8 => ?_)
        · have hf := o_f c8 hf
          refine lv_aload_n hx hb dX8_takesBand_32 rfl (lv_at hl 1 rfl) ?_
          refine va_get (D := G.1) (ci := 8) (v := .ref (o 1)) (C := RX8) (T := TX8) (N := 7) hx hb ht twX8 hown hK.1 hP 0 rfl rfl 0 (by decide) (ht _ kfl_X8_9) (fun _ h9 => h9) rfl dX8_takesBand_33 ?_
          refine lv_aload_n hx hb dX8_takesBand_36 rfl (lv_at hl 1 rfl) ?_
          refine va_get (D := G.1) (ci := 8) (v := .int o_roundNow) (C := RX8) (T := TX8) (N := 7) hx hb ht twX8 hown hK.1 hP 0 rfl rfl 5 (by decide) (ht _ kfl_X8_49) (fun _ h9 => h9) rfl dX8_takesBand_37 ?_
          refine lv_dup2_11 hx hb dX8_takesBand_40 rfl rfl ?_
          obtain ⟨g9, hf⟩ := gd_s hf
          refine va_iald hx hb hK.1 hP 1 0 rfl rfl g9 dX8_takesBand_41 ?_
          refine lv_iconst (v := 1) hx hb dX8_takesBand_42 (by decide) ?_
          refine lv_iload_n hx hb dX8_takesBand_43 rfl (lv_at hl 0 rfl) ?_
          refine lv_ishl hx hb dX8_takesBand_44 ?_
          refine lv_ior hx hb dX8_takesBand_45 ?_
          obtain ⟨g10, hf⟩ := gd_s hf
          refine va_iast hx hb hK.1 hP hD hS 1 0 rfl rfl g10 dX8_takesBand_46 (fun H locs hP hD hS => ?_)
          have hP : va_P G.1 vwCl [(oX8 o o_entries o_due o_roundAhead o_tens o_roundNow o_bandAhead), (wI G (o 1) 100 (upd o_iceFrom o_roundNow.toNatClampNeg ((o_iceFrom o_roundNow.toNatClampNeg) ||| ((1 : Int32) <<< (q1 &&& (31 : Int32))))))] H := hP
          have hD : va_D A [(oX8 o o_entries o_due o_roundAhead o_tens o_roundNow o_bandAhead), (wI G (o 1) 100 (upd o_iceFrom o_roundNow.toNatClampNeg ((o_iceFrom o_roundNow.toNatClampNeg) ||| ((1 : Int32) <<< (q1 &&& (31 : Int32))))))] := hD
          refine lv_aload_n hx hb dX8_takesBand_47 rfl (lv_at hl 1 rfl) ?_
          refine lv_iload_n hx hb dX8_takesBand_48 rfl (lv_at hl 0 rfl) ?_
          refine va_put (D := G.1) (ci := 8) (v := .int q1) (ty := .int) (C := RX8) (T := TX8) (N := 7) hx hb ht twX8 tyX8 tyX8_ok nmX8 hown hK.1 hP hD hS 0 rfl rfl 6 (by decide) (ht _ kfl_X8_52) (fun _ h9 => h9) rfl (by decide +kernel) rfl rfl (Nat.le_of_ble_eq_true rfl) dX8_takesBand_49 (fun H locs hP hD hS => ?_)
          have hP : va_P G.1 vwCl [(oX8 o o_entries o_due o_roundAhead o_tens o_roundNow q1), (wI G (o 1) 100 (upd o_iceFrom o_roundNow.toNatClampNeg ((o_iceFrom o_roundNow.toNatClampNeg) ||| ((1 : Int32) <<< (q1 &&& (31 : Int32))))))] H := hP
          have hD : va_D A [(oX8 o o_entries o_due o_roundAhead o_tens o_roundNow q1), (wI G (o 1) 100 (upd o_iceFrom o_roundNow.toNatClampNeg ((o_iceFrom o_roundNow.toNatClampNeg) ||| ((1 : Int32) <<< (q1 &&& (31 : Int32))))))] := hD
          refine lv_iconst (v := 1) hx hb dX8_takesBand_52 (by decide) ?_
          have h9 := Option.some.inj hf
          subst h9
          exact rw_zret C (Or.inr rfl) rfl hP hD hS dX8_takesBand_53
        · have hf := o_t c8 hf
          refine lv_iconst (v := 0) hx hb dX8_takesBand_30 (by decide) ?_
          have h9 := Option.some.inj hf
          subst h9
          exact rw_zret C (Or.inl rfl) rfl hP hD hS dX8_takesBand_31
  rw [eH, el] at key
  exact key
abbrev Wc_X8_takes (l : Launch) (G : TG) (o : Nat → Nat) (o_iceFrom : Nat → Int32) (o_entries : Int32) (o_due : Int32) (o_roundAhead : Int32) (o_tens : Int32) (o_roundNow : Int32) (o_bandAhead : Int32) (a1 : Int32) (R : Int32 × (Nat → Int32) × Int32 × Int32 × Int32 × Int32 × Int32 × Int32) (p : Program) (e : Env) (s : State) (m : MethodId) (below : List Frame) (meth : Method) (c : Code) (A : Nat → Prop) (H : Heap) (locs : List Loc) (g : JFrame) : Prop := W p l e ({ frames := 3, cells := 0, slots := 0, locals := 64 }) s m ([.ref (o 0), .int a1] : List Value).toArray below meth c H locs 0 0 (MQ below (rwQ G (some (.int R.1)) [(oX8 o R.2.2.1 R.2.2.2.1 R.2.2.2.2.1 R.2.2.2.2.2.1 R.2.2.2.2.2.2.1 R.2.2.2.2.2.2.2), (wI G (o 1) 100 R.2.1)] A) ([.ref (o 0), .int a1] : List Value).toArray s 0 0 A) g
set_option maxHeartbeats 4000000 in
set_option maxRecDepth 100000 in
theorem c_X8_takes (l : Launch) (G : TG) (o : Nat → Nat) (o_iceFrom : Nat → Int32) (o_entries : Int32) (o_due : Int32) (o_roundAhead : Int32) (o_tens : Int32) (o_roundNow : Int32) (o_bandAhead : Int32) (a1 : Int32) (R : Int32 × (Nat → Int32) × Int32 × Int32 × Int32 × Int32 × Int32 × Int32) (hf : f_X8_takes o_iceFrom o_entries o_due o_roundAhead o_tens o_roundNow o_bandAhead a1 = some R) : RW l yX8_takes cX8_takes 2 (some .boolean) ({ frames := 3, cells := 0, slots := 0, locals := 64 }) G [.ref (o 0), .int a1] [(oX8 o o_entries o_due o_roundAhead o_tens o_roundNow o_bandAhead), (wI G (o 1) 100 o_iceFrom)] (some (.int R.1)) [(oX8 o R.2.2.1 R.2.2.2.1 R.2.2.2.2.1 R.2.2.2.2.2.1 R.2.2.2.2.2.2.1 R.2.2.2.2.2.2.2), (wI G (o 1) 100 R.2.1)] := by
  refine RW.mk (by decide +kernel) (Nat.le_of_ble_eq_true rfl) ?_
  intro p e s m below meth c ls A C hP hD hA hz hK hl hS
  have hx := C.1
  have hb := C.2.1
  have hown : s.vm.findClass RX8 = some m.cls := C.2.2.2.2.2.1
  have ht := C.2.2.2.2.2.2
  have hl : lv_has ls 2 [(0, .ref (o 0)), (1, .int a1)] := hl
  show Wc_X8_takes l G o o_iceFrom o_entries o_due o_roundAhead o_tens o_roundNow o_bandAhead a1 R p e s m below meth c A s.heap [] (F0 m 0 ls [])
  obtain ⟨H, eH, hP, hS⟩ : ∃ H, H = s.heap ∧ va_P G.1 vwCl [(oX8 o o_entries o_due o_roundAhead o_tens o_roundNow o_bandAhead), (wI G (o 1) 100 o_iceFrom)] H ∧ va_S A s.heap H [] := ⟨_, rfl, hP, hS⟩
  obtain ⟨locs, el, hS⟩ : ∃ locs : List Loc, locs = [] ∧ va_S A s.heap H locs := ⟨_, rfl, hS⟩
  have key : Wc_X8_takes l G o o_iceFrom o_entries o_due o_roundAhead o_tens o_roundNow o_bandAhead a1 R p e s m below meth c A H locs (F0 m 0 ls []) := by
    refine lv_aload_n hx hb dX8_takes_0 rfl (lv_at hl 0 rfl) ?_
    refine va_get (D := G.1) (ci := 8) (v := .int o_due) (C := RX8) (T := TX8) (N := 7) hx hb ht twX8 hown hK.1 hP 0 rfl rfl 2 (by decide) (ht _ kfl_X8_31) (fun _ h9 => h9) rfl dX8_takes_1 ?_
    by_cases c1_0 : o_due = (0 : Int32)
    · have hf := o_t c1_0 hf
      refine lv_tsI (tgt := 32) hx hb dX8_takes_4 c1_0 (by decide) (by decide) rfl (by decide) ?_
      refine lv_aload_n hx hb dX8_takes_32 rfl (lv_at hl 0 rfl) ?_
      refine lv_iload_n hx hb dX8_takes_33 rfl (lv_at hl 1 rfl) ?_
      obtain ⟨q2, r2, hf⟩ := bd_s hf
      refine rw_V (n := 1) (As := [.int a1]) (rest := []) (wr := [(wI G (o 1) 100 o_iceFrom)]) (ws2 := [(oX8 o o_entries q2.2.1 o_roundAhead q2.2.2 o_roundNow o_bandAhead), (wI G (o 1) 100 o_iceFrom)]) (c_X8_takesTens l G o o_entries o_due o_roundAhead o_tens o_roundNow o_bandAhead a1 q2 r2) C hK hP hD hS hA hz hl [0] [1] [1, 0] rfl rfl rfl rfl rfl (by decide) rfl rfl rfl kcode_X8_takesTens kml_X8_55 kim_X8_takesTens ksel_X8_takesTens kini_X8 (by decide +kernel) ⟨⟨rfl, rfl⟩, Nat.le_of_ble_eq_true rfl, Nat.le_of_ble_eq_true rfl⟩ ⟨Nat.zero_le _, Nat.zero_le _⟩ rfl rfl rfl rfl rfl (Nat.le_of_ble_eq_true rfl) dX8_takes_34 rfl (fun H locs hP hD hS => ?_)
      obtain ⟨z3, hf⟩ := zb_s hf
      have h9 := Option.some.inj hf
      subst h9
      exact rw_zret C z3 rfl hP hD hS dX8_takes_37
    have hf := o_f c1_0 hf
    by_cases c1_1 : o_due = (1 : Int32)
    · have hf := o_t c1_1 hf
      refine lv_tsI (tgt := 38) hx hb dX8_takes_4 c1_1 (by decide) (by decide) rfl (by decide) ?_
      refine lv_aload_n hx hb dX8_takes_38 rfl (lv_at hl 0 rfl) ?_
      refine lv_iload_n hx hb dX8_takes_39 rfl (lv_at hl 1 rfl) ?_
      obtain ⟨q4, r4, hf⟩ := bd_s hf
      refine rw_V (n := 1) (As := [.int a1]) (rest := []) (wr := [(wI G (o 1) 100 o_iceFrom)]) (ws2 := [(oX8 o o_entries q4.2.1 o_roundAhead o_tens q4.2.2 o_bandAhead), (wI G (o 1) 100 o_iceFrom)]) (c_X8_takesOnes l G o o_entries o_due o_roundAhead o_tens o_roundNow o_bandAhead a1 q4 r4) C hK hP hD hS hA hz hl [0] [1] [1, 0] rfl rfl rfl rfl rfl (by decide) rfl rfl rfl kcode_X8_takesOnes kml_X8_58 kim_X8_takesOnes ksel_X8_takesOnes kini_X8 (by decide +kernel) ⟨⟨rfl, rfl⟩, Nat.le_of_ble_eq_true rfl, Nat.le_of_ble_eq_true rfl⟩ ⟨Nat.zero_le _, Nat.zero_le _⟩ rfl rfl rfl rfl rfl (Nat.le_of_ble_eq_true rfl) dX8_takes_40 rfl (fun H locs hP hD hS => ?_)
      obtain ⟨z5, hf⟩ := zb_s hf
      have h9 := Option.some.inj hf
      subst h9
      exact rw_zret C z5 rfl hP hD hS dX8_takes_43
    have hf := o_f c1_1 hf
    by_cases c1_2 : o_due = (2 : Int32)
    · have hf := o_t c1_2 hf
      refine lv_tsI (tgt := 44) hx hb dX8_takes_4 c1_2 (by decide) (by decide) rfl (by decide) ?_
      refine lv_aload_n hx hb dX8_takes_44 rfl (lv_at hl 0 rfl) ?_
      refine lv_iload_n hx hb dX8_takes_45 rfl (lv_at hl 1 rfl) ?_
      obtain ⟨q6, r6, hf⟩ := bd_s hf
      refine rw_V (n := 1) (As := [.int a1]) (rest := []) (wr := []) (ws2 := [(oX8 o q6.2.2.1 q6.2.2.2.1 o_roundAhead o_tens o_roundNow q6.2.2.2.2), (wI G (o 1) 100 q6.2.1)]) (c_X8_takesColon l G o o_iceFrom o_entries o_due o_roundAhead o_tens o_roundNow o_bandAhead a1 q6 r6) C hK hP hD hS hA hz hl [0, 1] [] [0, 1] rfl rfl rfl rfl rfl (by decide) rfl rfl rfl kcode_X8_takesColon kml_X8_61 kim_X8_takesColon ksel_X8_takesColon kini_X8 (by decide +kernel) ⟨⟨rfl, rfl⟩, Nat.le_of_ble_eq_true rfl, Nat.le_of_ble_eq_true rfl⟩ ⟨Nat.zero_le _, Nat.zero_le _⟩ rfl rfl rfl rfl rfl (Nat.le_of_ble_eq_true rfl) dX8_takes_46 rfl (fun H locs hP hD hS => ?_)
      obtain ⟨z7, hf⟩ := zb_s hf
      have h9 := Option.some.inj hf
      subst h9
      exact rw_zret C z7 rfl hP hD hS dX8_takes_49
    have hf := o_f c1_2 hf
    refine lv_tableOut (tgt := 50) hx hb dX8_takes_4 (ts2 c1_0 c1_1 c1_2) (by decide) ?_
    refine lv_iload_n hx hb dX8_takes_50 rfl (lv_at hl 1 rfl) ?_
    refine lv_bipush (v := 59) hx hb dX8_takes_51 (by decide) ?_
    refine lv_icmp_ne (tgt := 63) hx hb dX8_takes_53 (by decide) (fun c8 => ?_) (fun c8 => ?_)
    · have hf := o_f c8 hf
      refine lv_aload_n hx hb dX8_takes_63 rfl (lv_at hl 0 rfl) ?_
      refine lv_iload_n hx hb dX8_takes_64 rfl (lv_at hl 1 rfl) ?_
      obtain ⟨q9, r9, hf⟩ := bd_s hf
      refine rw_V (n := 1) (As := [.int a1]) (rest := []) (wr := []) (ws2 := [(oX8 o o_entries o_due o_roundAhead o_tens o_roundNow q9.2.2), (wI G (o 1) 100 q9.2.1)]) (c_X8_takesBand l G o o_iceFrom o_entries o_due o_roundAhead o_tens o_roundNow o_bandAhead a1 q9 r9) C hK hP hD hS hA hz hl [0, 1] [] [0, 1] rfl rfl rfl rfl rfl (by decide) rfl rfl rfl kcode_X8_takesBand kml_X8_68 kim_X8_takesBand ksel_X8_takesBand kini_X8 (by decide +kernel) ⟨⟨rfl, rfl⟩, Nat.le_of_ble_eq_true rfl, Nat.le_of_ble_eq_true rfl⟩ ⟨Nat.zero_le _, Nat.zero_le _⟩ rfl rfl rfl rfl rfl (Nat.le_of_ble_eq_true rfl) dX8_takes_65 rfl (fun H locs hP hD hS => ?_)
      obtain ⟨z10, hf⟩ := zb_s hf
      have h9 := Option.some.inj hf
      subst h9
      exact rw_zret C z10 rfl hP hD hS dX8_takes_68
    · have hf := o_t c8 hf
      refine lv_aload_n hx hb dX8_takes_56 rfl (lv_at hl 0 rfl) ?_
      obtain ⟨q11, r11, hf⟩ := bd_s hf
      refine rw_V (n := 0) (As := []) (rest := []) (wr := [(wI G (o 1) 100 o_iceFrom)]) (ws2 := [(oX8 o o_entries q11.2.1 q11.2.2 o_tens o_roundNow o_bandAhead), (wI G (o 1) 100 o_iceFrom)]) (c_X8_takesNextEntry l G o o_entries o_due o_roundAhead o_tens o_roundNow o_bandAhead q11 r11) C hK hP hD hS hA hz hl [0] [1] [1, 0] rfl rfl rfl rfl rfl (by decide) rfl rfl rfl kcode_X8_takesNextEntry kml_X8_64 kim_X8_takesNextEntry ksel_X8_takesNextEntry kini_X8 (by decide +kernel) ⟨⟨rfl, rfl⟩, Nat.le_of_ble_eq_true rfl, Nat.le_of_ble_eq_true rfl⟩ ⟨Nat.zero_le _, Nat.zero_le _⟩ rfl rfl rfl rfl rfl (Nat.le_of_ble_eq_true rfl) dX8_takes_57 rfl (fun H locs hP hD hS => ?_)
      refine lv_goto (tgt := 68) hx hb dX8_takes_60 (by decide) ?_
      obtain ⟨z12, hf⟩ := zb_s hf
      have h9 := Option.some.inj hf
      subst h9
      exact rw_zret C z12 rfl hP hD hS dX8_takes_68
  rw [eH, el] at key
  exact key
abbrev Wc_X8_faultOf (l : Launch) (G : TG) (o : Nat → Nat) (p1 : Nat → Nat) (o_iceFrom : Nat → Int32) (o_entries : Int32) (o_due : Int32) (o_roundAhead : Int32) (o_tens : Int32) (o_roundNow : Int32) (o_bandAhead : Int32) (p1_signs : Nat → Int32) (p1_length : Int32) (R : Int32 × (Nat → Int32) × Int32 × Int32 × Int32 × Int32 × Int32 × Int32) (p : Program) (e : Env) (s : State) (m : MethodId) (below : List Frame) (meth : Method) (c : Code) (A : Nat → Prop) (H : Heap) (locs : List Loc) (g : JFrame) : Prop := W p l e ({ frames := 4, cells := 0, slots := 0, locals := 85 }) s m ([.ref (o 0), .ref (p1 0)] : List Value).toArray below meth c H locs 0 0 (MQ below (rwQ G (some (.int R.1)) [(oX8 o R.2.2.1 R.2.2.2.1 R.2.2.2.2.1 R.2.2.2.2.2.1 R.2.2.2.2.2.2.1 R.2.2.2.2.2.2.2), (wI G (o 1) 100 R.2.1), (oX9 p1 p1_length), (wI G (p1 1) 48 p1_signs)] A) ([.ref (o 0), .ref (p1 0)] : List Value).toArray s 0 0 A) g
set_option maxHeartbeats 4000000 in
set_option maxRecDepth 100000 in
theorem c_X8_faultOf (l : Launch) (G : TG) (o : Nat → Nat) (p1 : Nat → Nat) (o_iceFrom : Nat → Int32) (o_entries : Int32) (o_due : Int32) (o_roundAhead : Int32) (o_tens : Int32) (o_roundNow : Int32) (o_bandAhead : Int32) (p1_signs : Nat → Int32) (p1_length : Int32) (R : Int32 × (Nat → Int32) × Int32 × Int32 × Int32 × Int32 × Int32 × Int32) (hf : f_X8_faultOf o_iceFrom p1_signs p1_length = some R) : RW l yX8_faultOf cX8_faultOf 3 (some .int) ({ frames := 4, cells := 0, slots := 0, locals := 85 }) G [.ref (o 0), .ref (p1 0)] [(oX8 o o_entries o_due o_roundAhead o_tens o_roundNow o_bandAhead), (wI G (o 1) 100 o_iceFrom), (oX9 p1 p1_length), (wI G (p1 1) 48 p1_signs)] (some (.int R.1)) [(oX8 o R.2.2.1 R.2.2.2.1 R.2.2.2.2.1 R.2.2.2.2.2.1 R.2.2.2.2.2.2.1 R.2.2.2.2.2.2.2), (wI G (o 1) 100 R.2.1), (oX9 p1 p1_length), (wI G (p1 1) 48 p1_signs)] := by
  refine RW.mk (by decide +kernel) (Nat.le_of_ble_eq_true rfl) ?_
  intro p e s m below meth c ls A C hP hD hA hz hK hl hS
  have hx := C.1
  have hb := C.2.1
  have hown : s.vm.findClass RX8 = some m.cls := C.2.2.2.2.2.1
  have ht := C.2.2.2.2.2.2
  have hl : lv_has ls 3 [(0, .ref (o 0)), (1, .ref (p1 0))] := hl
  show Wc_X8_faultOf l G o p1 o_iceFrom o_entries o_due o_roundAhead o_tens o_roundNow o_bandAhead p1_signs p1_length R p e s m below meth c A s.heap [] (F0 m 0 ls [])
  obtain ⟨H, eH, hP, hS⟩ : ∃ H, H = s.heap ∧ va_P G.1 vwCl [(oX8 o o_entries o_due o_roundAhead o_tens o_roundNow o_bandAhead), (wI G (o 1) 100 o_iceFrom), (oX9 p1 p1_length), (wI G (p1 1) 48 p1_signs)] H ∧ va_S A s.heap H [] := ⟨_, rfl, hP, hS⟩
  obtain ⟨locs, el, hS⟩ : ∃ locs : List Loc, locs = [] ∧ va_S A s.heap H locs := ⟨_, rfl, hS⟩
  have key : Wc_X8_faultOf l G o p1 o_iceFrom o_entries o_due o_roundAhead o_tens o_roundNow o_bandAhead p1_signs p1_length R p e s m below meth c A H locs (F0 m 0 ls []) := by
    refine lv_aload_n hx hb dX8_faultOf_0 rfl (lv_at hl 0 rfl) ?_
    obtain ⟨q1, r1, hf⟩ := bd_s hf
    refine rw_V (n := 0) (As := []) (rest := []) (wr := [(oX9 p1 p1_length), (wI G (p1 1) 48 p1_signs)]) (ws2 := [(oX8 o q1.2.1 q1.2.2.1 q1.2.2.2.1 q1.2.2.2.2.1 q1.2.2.2.2.2.1 q1.2.2.2.2.2.2), (wI G (o 1) 100 q1.1), (oX9 p1 p1_length), (wI G (p1 1) 48 p1_signs)]) (c_X8_begin l G o o_iceFrom o_entries o_due o_roundAhead o_tens o_roundNow o_bandAhead q1 r1) C hK hP hD hS hA hz hl [0, 1] [2, 3] [2, 3, 0, 1] rfl rfl rfl rfl rfl (by decide) rfl rfl rfl kcode_X8_begin kml_X8_15 kim_X8_begin ksel_X8_begin kini_X8 (by decide +kernel) ⟨⟨rfl, rfl⟩, Nat.le_of_ble_eq_true rfl, Nat.le_of_ble_eq_true rfl⟩ ⟨Nat.zero_le _, Nat.zero_le _⟩ rfl rfl rfl rfl rfl (Nat.le_of_ble_eq_true rfl) dX8_faultOf_1 rfl (fun H locs hP hD hS => ?_)
    refine lv_iconst (v := 0) hx hb dX8_faultOf_4 (by decide) ?_
    refine lv_istore_n (lv' := [(2, .int (0 : Int32)), (0, .ref (o 0)), (1, .ref (p1 0))]) hx hb dX8_faultOf_5 rfl hl (by decide) rfl (fun ls hl => ?_)
    have hx41_2 : ∀ (o_iceFrom : Nat → Int32) (o_entries : Int32) (o_due : Int32) (o_roundAhead : Int32) (o_tens : Int32) (o_roundNow : Int32) (o_bandAhead : Int32) (H : Heap) (locs : List Loc) (ls : Array Slot), f_X8_faultOf_x41_2 p1_length o_iceFrom o_entries o_due o_roundAhead o_tens o_roundNow o_bandAhead = some R → va_P G.1 vwCl [(oX8 o o_entries o_due o_roundAhead o_tens o_roundNow o_bandAhead), (wI G (o 1) 100 o_iceFrom), (oX9 p1 p1_length), (wI G (p1 1) 48 p1_signs)] H → va_D A [(oX8 o o_entries o_due o_roundAhead o_tens o_roundNow o_bandAhead), (wI G (o 1) 100 o_iceFrom), (oX9 p1 p1_length), (wI G (p1 1) 48 p1_signs)] → va_S A s.heap H locs → lv_has ls 3 [(0, .ref (o 0)), (1, .ref (p1 0))] → Wc_X8_faultOf l G o p1 o_iceFrom o_entries o_due o_roundAhead o_tens o_roundNow o_bandAhead p1_signs p1_length R p e s m below meth c A H locs (F0 m 41 ls []) := by
      intro o_iceFrom o_entries o_due o_roundAhead o_tens o_roundNow o_bandAhead H locs ls hf hP hD hS hl
      refine lv_aload_n hx hb dX8_faultOf_41 rfl (lv_at hl 0 rfl) ?_
      refine va_get (D := G.1) (ci := 8) (v := .int o_due) (C := RX8) (T := TX8) (N := 7) hx hb ht twX8 hown hK.1 hP 0 rfl rfl 2 (by decide) (ht _ kfl_X8_31) (fun _ h9 => h9) rfl dX8_faultOf_42 ?_
      refine lv_iconst (v := 3) hx hb dX8_faultOf_45 (by decide) ?_
      refine lv_icmp_ne (tgt := 54) hx hb dX8_faultOf_46 (by decide) (fun c3 => ?_) (fun c3 => ?_)
      · have hf := o_f c3 hf
        refine lv_aload_n hx hb dX8_faultOf_54 rfl (lv_at hl 1 rfl) ?_
        refine va_get (D := G.1) (ci := 9) (v := .int p1_length) (C := RX9) (T := TX9) (N := 2) hx hb ht twX9 hown hK.1 hP 2 rfl rfl 1 (by decide) (ht _ kfl_X8_18) (fun _ h9 => h9) rfl dX8_faultOf_55 ?_
        have h9 := Option.some.inj hf
        subst h9
        exact rw_iret C rfl hP hD hS dX8_faultOf_58
      · have hf := o_t c3 hf
        refine lv_bipush (v := -9) hx hb dX8_faultOf_49 (by decide) ?_
        refine lv_goto (tgt := 58) hx hb dX8_faultOf_51 (by decide) ?_
        have h9 := Option.some.inj hf
        subst h9
        exact rw_iret C rfl hP hD hS dX8_faultOf_58
    obtain ⟨rL2, hL2, hk2⟩ := bd_s hf
    refine lp_W (P := fun st => ∀ (H : Heap) (locs : List Loc) (ls : Array Slot), va_P G.1 vwCl [(oX8 o st.2.2.1 st.2.2.2.1 st.2.2.2.2.1 st.2.2.2.2.2.1 st.2.2.2.2.2.2.1 st.2.2.2.2.2.2.2), (wI G (o 1) 100 st.2.1), (oX9 p1 p1_length), (wI G (p1 1) 48 p1_signs)] H → va_D A [(oX8 o st.2.2.1 st.2.2.2.1 st.2.2.2.2.1 st.2.2.2.2.2.1 st.2.2.2.2.2.2.1 st.2.2.2.2.2.2.2), (wI G (o 1) 100 st.2.1), (oX9 p1 p1_length), (wI G (p1 1) 48 p1_signs)] → va_S A s.heap H locs → lv_has ls 3 [(0, .ref (o 0)), (1, .ref (p1 0)), (2, .int st.1)] → Wc_X8_faultOf l G o p1 o_iceFrom o_entries o_due o_roundAhead o_tens o_roundNow o_bandAhead p1_signs p1_length R p e s m below meth c A H locs (F0 m 6 ls [])) ?_ FU ((0 : Int32), q1.1, q1.2.1, q1.2.2.1, q1.2.2.2.1, q1.2.2.2.2.1, q1.2.2.2.2.2.1, q1.2.2.2.2.2.2) hL2 H locs ls hP hD hS (lv_sub hl [1, 2, 0] rfl)
    intro ⟨v2, o_iceFrom, o_entries, o_due, o_roundAhead, o_tens, o_roundNow, o_bandAhead⟩ oc2 hf hI hE H locs ls hP hD hS hl
    have hP : va_P G.1 vwCl [(oX8 o o_entries o_due o_roundAhead o_tens o_roundNow o_bandAhead), (wI G (o 1) 100 o_iceFrom), (oX9 p1 p1_length), (wI G (p1 1) 48 p1_signs)] H := hP
    have hD : va_D A [(oX8 o o_entries o_due o_roundAhead o_tens o_roundNow o_bandAhead), (wI G (o 1) 100 o_iceFrom), (oX9 p1 p1_length), (wI G (p1 1) 48 p1_signs)] := hD
    have hl : lv_has ls 3 [(0, .ref (o 0)), (1, .ref (p1 0)), (2, .int v2)] := hl
    have hf : f_X8_faultOf_b6 p1_signs p1_length v2 o_iceFrom o_entries o_due o_roundAhead o_tens o_roundNow o_bandAhead = some oc2 := hf
    refine lv_iload_n hx hb dX8_faultOf_6 rfl (lv_at hl 2 rfl) ?_
    refine lv_aload_n hx hb dX8_faultOf_7 rfl (lv_at hl 1 rfl) ?_
    refine va_get (D := G.1) (ci := 9) (v := .int p1_length) (C := RX9) (T := TX9) (N := 2) hx hb ht twX9 hown hK.1 hP 2 rfl rfl 1 (by decide) (ht _ kfl_X8_18) (fun _ h9 => h9) rfl dX8_faultOf_8 ?_
    refine lv_icmp_ge (tgt := 41) hx hb dX8_faultOf_11 (by decide) (fun c6 => ?_) (fun c6 => ?_)
    · have hf := o_t c6 hf
      cases hf
      have hf : f_X8_faultOf_x41_2 p1_length o_iceFrom o_entries o_due o_roundAhead o_tens o_roundNow o_bandAhead = some R := by have h9 := hk2; rw [← hE _ rfl] at h9; exact h9
      exact hx41_2 o_iceFrom o_entries o_due o_roundAhead o_tens o_roundNow o_bandAhead H locs ls hf hP hD hS (lv_sub hl [0, 1] rfl)
    · have hf := o_f c6 hf
      refine lv_iload_n hx hb dX8_faultOf_14 rfl (lv_at hl 2 rfl) ?_
      refine lv_bipush (v := 48) hx hb dX8_faultOf_15 (by decide) ?_
      refine lv_icmp_ge (tgt := 41) hx hb dX8_faultOf_17 (by decide) (fun c7 => ?_) (fun c7 => ?_)
      · have hf := o_t c7 hf
        cases hf
        have hf : f_X8_faultOf_x41_2 p1_length o_iceFrom o_entries o_due o_roundAhead o_tens o_roundNow o_bandAhead = some R := by have h9 := hk2; rw [← hE _ rfl] at h9; exact h9
        exact hx41_2 o_iceFrom o_entries o_due o_roundAhead o_tens o_roundNow o_bandAhead H locs ls hf hP hD hS (lv_sub hl [0, 1] rfl)
      · have hf := o_f c7 hf
        refine lv_aload_n hx hb dX8_faultOf_20 rfl (lv_at hl 0 rfl) ?_
        refine lv_aload_n hx hb dX8_faultOf_21 rfl (lv_at hl 1 rfl) ?_
        refine va_get (D := G.1) (ci := 9) (v := .ref (p1 1)) (C := RX9) (T := TX9) (N := 2) hx hb ht twX9 hown hK.1 hP 2 rfl rfl 0 (by decide) (ht _ kfl_X8_24) (fun _ h9 => h9) rfl dX8_faultOf_22 ?_
        refine lv_iload_n hx hb dX8_faultOf_25 rfl (lv_at hl 2 rfl) ?_
        obtain ⟨g8, hf⟩ := gd_s hf
        refine va_iald hx hb hK.1 hP 3 0 rfl rfl g8 dX8_faultOf_26 ?_
        obtain ⟨q9, r9, hf⟩ := bd_s hf
        refine rw_V (n := 1) (As := [.int (p1_signs v2.toNatClampNeg)]) (rest := []) (wr := [(oX9 p1 p1_length), (wI G (p1 1) 48 p1_signs)]) (ws2 := [(oX8 o q9.2.2.1 q9.2.2.2.1 q9.2.2.2.2.1 q9.2.2.2.2.2.1 q9.2.2.2.2.2.2.1 q9.2.2.2.2.2.2.2), (wI G (o 1) 100 q9.2.1), (oX9 p1 p1_length), (wI G (p1 1) 48 p1_signs)]) (c_X8_takes l G o o_iceFrom o_entries o_due o_roundAhead o_tens o_roundNow o_bandAhead (p1_signs v2.toNatClampNeg) q9 r9) C hK hP hD hS hA hz hl [0, 1] [2, 3] [2, 3, 0, 1] rfl rfl rfl rfl rfl (by decide) rfl rfl rfl kcode_X8_takes kml_X8_27 kim_X8_takes ksel_X8_takes kini_X8 (by decide +kernel) ⟨⟨rfl, rfl⟩, Nat.le_of_ble_eq_true rfl, Nat.le_of_ble_eq_true rfl⟩ ⟨Nat.zero_le _, Nat.zero_le _⟩ rfl rfl rfl rfl rfl (Nat.le_of_ble_eq_true rfl) dX8_faultOf_27 rfl (fun H locs hP hD hS => ?_)
        refine lv_if_ne (tgt := 35) hx hb dX8_faultOf_30 (by decide) (fun c10 => ?_) (fun c10 => ?_)
        · have hf := o_f c10 hf
          refine lv_iinc (v := (v2 + (1 : Int32))) (lv' := [(2, .int (v2 + (1 : Int32))), (0, .ref (o 0)), (1, .ref (p1 0))]) hx hb dX8_faultOf_35 hl (k := 2) rfl (by rfl) (by decide) rfl (fun ls hl => ?_)
          refine lv_goto (tgt := 6) hx hb dX8_faultOf_38 (by decide) ?_
          cases hf
          exact hI _ rfl H locs ls hP hD hS (lv_sub hl [1, 2, 0] rfl)
        · have hf := o_t c10 hf
          refine lv_iload_n hx hb dX8_faultOf_33 rfl (lv_at hl 2 rfl) ?_
          cases hf
          have hf : some (v2, q9.2.1, q9.2.2.1, q9.2.2.2.1, q9.2.2.2.2.1, q9.2.2.2.2.2.1, q9.2.2.2.2.2.2.1, q9.2.2.2.2.2.2.2) = some R := by have h9 := hk2; rw [← hE _ rfl] at h9; exact h9
          have h9 := Option.some.inj hf
          subst h9
          exact rw_iret C rfl hP hD hS dX8_faultOf_34
  rw [eH, el] at key
  exact key
abbrev Wc_X8_giveTo (l : Launch) (G : TG) (o : Nat → Nat) (p1 : Nat → Nat) (o_iceFrom : Nat → Int32) (o_entries : Int32) (o_due : Int32) (o_roundAhead : Int32) (o_tens : Int32) (o_roundNow : Int32) (o_bandAhead : Int32) (p1_ice : Nat → Int32) (a2 : Int32) (R : (Nat → Int32)) (p : Program) (e : Env) (s : State) (m : MethodId) (below : List Frame) (meth : Method) (c : Code) (A : Nat → Prop) (H : Heap) (locs : List Loc) (g : JFrame) : Prop := W p l e ({ frames := 3, cells := 0, slots := 0, locals := 65 }) s m ([.ref (o 0), .ref (p1 0), .int a2] : List Value).toArray below meth c H locs 0 0 (MQ below (rwQ G none [(oX8 o o_entries o_due o_roundAhead o_tens o_roundNow o_bandAhead), (wI G (o 1) 100 o_iceFrom), (oX0 p1), (wI G (p1 1) 400 R)] A) ([.ref (o 0), .ref (p1 0), .int a2] : List Value).toArray s 0 0 A) g
set_option maxHeartbeats 4000000 in
set_option maxRecDepth 100000 in
theorem c_X8_giveTo (l : Launch) (G : TG) (o : Nat → Nat) (p1 : Nat → Nat) (o_iceFrom : Nat → Int32) (o_entries : Int32) (o_due : Int32) (o_roundAhead : Int32) (o_tens : Int32) (o_roundNow : Int32) (o_bandAhead : Int32) (p1_ice : Nat → Int32) (a2 : Int32) (R : (Nat → Int32)) (hf : f_X8_giveTo o_iceFrom p1_ice a2 = some R) : RW l yX8_giveTo cX8_giveTo 5 none ({ frames := 3, cells := 0, slots := 0, locals := 65 }) G [.ref (o 0), .ref (p1 0), .int a2] [(oX8 o o_entries o_due o_roundAhead o_tens o_roundNow o_bandAhead), (wI G (o 1) 100 o_iceFrom), (oX0 p1), (wI G (p1 1) 400 p1_ice)] none [(oX8 o o_entries o_due o_roundAhead o_tens o_roundNow o_bandAhead), (wI G (o 1) 100 o_iceFrom), (oX0 p1), (wI G (p1 1) 400 R)] := by
  refine RW.mk (by decide +kernel) (Nat.le_of_ble_eq_true rfl) ?_
  intro p e s m below meth c ls A C hP hD hA hz hK hl hS
  have hx := C.1
  have hb := C.2.1
  have hown : s.vm.findClass RX8 = some m.cls := C.2.2.2.2.2.1
  have ht := C.2.2.2.2.2.2
  have hl : lv_has ls 5 [(0, .ref (o 0)), (1, .ref (p1 0)), (2, .int a2)] := hl
  show Wc_X8_giveTo l G o p1 o_iceFrom o_entries o_due o_roundAhead o_tens o_roundNow o_bandAhead p1_ice a2 R p e s m below meth c A s.heap [] (F0 m 0 ls [])
  obtain ⟨H, eH, hP, hS⟩ : ∃ H, H = s.heap ∧ va_P G.1 vwCl [(oX8 o o_entries o_due o_roundAhead o_tens o_roundNow o_bandAhead), (wI G (o 1) 100 o_iceFrom), (oX0 p1), (wI G (p1 1) 400 p1_ice)] H ∧ va_S A s.heap H [] := ⟨_, rfl, hP, hS⟩
  obtain ⟨locs, el, hS⟩ : ∃ locs : List Loc, locs = [] ∧ va_S A s.heap H locs := ⟨_, rfl, hS⟩
  have key : Wc_X8_giveTo l G o p1 o_iceFrom o_entries o_due o_roundAhead o_tens o_roundNow o_bandAhead p1_ice a2 R p e s m below meth c A H locs (F0 m 0 ls []) := by
    refine lv_iconst (v := 0) hx hb dX8_giveTo_0 (by decide) ?_
    refine lv_istore_n (lv' := [(3, .int (0 : Int32)), (0, .ref (o 0)), (1, .ref (p1 0)), (2, .int a2)]) hx hb dX8_giveTo_1 rfl hl (by decide) rfl (fun ls hl => ?_)
    refine lv_iconst (v := 0) hx hb dX8_giveTo_2 (by decide) ?_
    refine lv_istore (lv' := [(4, .int (0 : Int32)), (3, .int (0 : Int32)), (0, .ref (o 0)), (1, .ref (p1 0)), (2, .int a2)]) hx hb dX8_giveTo_3 hl (by decide) rfl (fun ls hl => ?_)
    have hx45_1 : ∀ (p1_ice : Nat → Int32) (H : Heap) (locs : List Loc) (ls : Array Slot), f_X8_giveTo_x45_1 p1_ice = some R → va_P G.1 vwCl [(oX8 o o_entries o_due o_roundAhead o_tens o_roundNow o_bandAhead), (wI G (o 1) 100 o_iceFrom), (oX0 p1), (wI G (p1 1) 400 p1_ice)] H → va_D A [(oX8 o o_entries o_due o_roundAhead o_tens o_roundNow o_bandAhead), (wI G (o 1) 100 o_iceFrom), (oX0 p1), (wI G (p1 1) 400 p1_ice)] → va_S A s.heap H locs → lv_has ls 5 [] → Wc_X8_giveTo l G o p1 o_iceFrom o_entries o_due o_roundAhead o_tens o_roundNow o_bandAhead p1_ice a2 R p e s m below meth c A H locs (F0 m 45 ls []) := by
      intro p1_ice H locs ls hf hP hD hS hl
      have h9 := Option.some.inj hf
      subst h9
      exact rw_vret C hP hD hS dX8_giveTo_45
    obtain ⟨rL1, hL1, hk1⟩ := bd_s hf
    refine lp_W (P := fun st => ∀ (H : Heap) (locs : List Loc) (ls : Array Slot), va_P G.1 vwCl [(oX8 o o_entries o_due o_roundAhead o_tens o_roundNow o_bandAhead), (wI G (o 1) 100 o_iceFrom), (oX0 p1), (wI G (p1 1) 400 st.2.2)] H → va_D A [(oX8 o o_entries o_due o_roundAhead o_tens o_roundNow o_bandAhead), (wI G (o 1) 100 o_iceFrom), (oX0 p1), (wI G (p1 1) 400 st.2.2)] → va_S A s.heap H locs → lv_has ls 5 [(0, .ref (o 0)), (1, .ref (p1 0)), (2, .int a2), (3, .int st.1), (4, .int st.2.1)] → Wc_X8_giveTo l G o p1 o_iceFrom o_entries o_due o_roundAhead o_tens o_roundNow o_bandAhead p1_ice a2 R p e s m below meth c A H locs (F0 m 5 ls [])) ?_ FU ((0 : Int32), (0 : Int32), p1_ice) hL1 H locs ls hP hD hS (lv_sub hl [2, 3, 4, 1, 0] rfl)
    intro ⟨v3, v4, p1_ice⟩ oc1 hf hI hE H locs ls hP hD hS hl
    have hP : va_P G.1 vwCl [(oX8 o o_entries o_due o_roundAhead o_tens o_roundNow o_bandAhead), (wI G (o 1) 100 o_iceFrom), (oX0 p1), (wI G (p1 1) 400 p1_ice)] H := hP
    have hD : va_D A [(oX8 o o_entries o_due o_roundAhead o_tens o_roundNow o_bandAhead), (wI G (o 1) 100 o_iceFrom), (oX0 p1), (wI G (p1 1) 400 p1_ice)] := hD
    have hl : lv_has ls 5 [(0, .ref (o 0)), (1, .ref (p1 0)), (2, .int a2), (3, .int v3), (4, .int v4)] := hl
    have hf : f_X8_giveTo_b5 o_iceFrom a2 v3 v4 p1_ice = some oc1 := hf
    have hj31 : ∀ (v3 : Int32) (v4 : Int32) (p1_ice : Nat → Int32) (H : Heap) (locs : List Loc) (ls : Array Slot), f_X8_giveTo_j31 a2 v3 v4 p1_ice = some oc1 → va_P G.1 vwCl [(oX8 o o_entries o_due o_roundAhead o_tens o_roundNow o_bandAhead), (wI G (o 1) 100 o_iceFrom), (oX0 p1), (wI G (p1 1) 400 p1_ice)] H → va_D A [(oX8 o o_entries o_due o_roundAhead o_tens o_roundNow o_bandAhead), (wI G (o 1) 100 o_iceFrom), (oX0 p1), (wI G (p1 1) 400 p1_ice)] → va_S A s.heap H locs → lv_has ls 5 [(0, .ref (o 0)), (1, .ref (p1 0)), (2, .int a2), (3, .int v3), (4, .int v4)] → Wc_X8_giveTo l G o p1 o_iceFrom o_entries o_due o_roundAhead o_tens o_roundNow o_bandAhead p1_ice a2 R p e s m below meth c A H locs (F0 m 31 ls []) := by
      intro v3 v4 p1_ice H locs ls hf hP hD hS hl
      refine lv_aload_n hx hb dX8_giveTo_31 rfl (lv_at hl 1 rfl) ?_
      refine lv_iload_n hx hb dX8_giveTo_32 rfl (lv_at hl 2 rfl) ?_
      refine lv_iload hx hb dX8_giveTo_33 (lv_at hl 4 rfl) ?_
      refine lv_iload_n hx hb dX8_giveTo_35 rfl (lv_at hl 3 rfl) ?_
      obtain ⟨q3, r3, hf⟩ := bd_s hf
      refine rw_V (n := 3) (As := [.int a2, .int v4, .int v3]) (rest := []) (wr := [(oX8 o o_entries o_due o_roundAhead o_tens o_roundNow o_bandAhead), (wI G (o 1) 100 o_iceFrom)]) (ws2 := [(oX8 o o_entries o_due o_roundAhead o_tens o_roundNow o_bandAhead), (wI G (o 1) 100 o_iceFrom), (oX0 p1), (wI G (p1 1) 400 q3)]) (c_X0_tell l G p1 p1_ice a2 v4 v3 q3 r3) C hK hP hD hS hA hz hl [2, 3] [0, 1] [0, 1, 2, 3] rfl rfl rfl rfl rfl (by decide) rfl rfl rfl kcode_X0_tell kml_X8_34 kim_X0_tell ksel_X0_tell kini_X0 (by decide +kernel) ⟨⟨rfl, rfl⟩, Nat.le_of_ble_eq_true rfl, Nat.le_of_ble_eq_true rfl⟩ ⟨Nat.zero_le _, Nat.zero_le _⟩ rfl rfl rfl rfl rfl (Nat.le_of_ble_eq_true rfl) dX8_giveTo_36 rfl (fun H locs hP hD hS => ?_)
      refine lv_iinc (v := (v4 + (1 : Int32))) (lv' := [(4, .int (v4 + (1 : Int32))), (0, .ref (o 0)), (1, .ref (p1 0)), (2, .int a2), (3, .int v3)]) hx hb dX8_giveTo_39 hl (k := 4) rfl (by rfl) (by decide) rfl (fun ls hl => ?_)
      refine lv_goto (tgt := 5) hx hb dX8_giveTo_42 (by decide) ?_
      cases hf
      exact hI _ rfl H locs ls hP hD hS (lv_sub hl [1, 2, 3, 4, 0] rfl)
    refine lv_iload hx hb dX8_giveTo_5 (lv_at hl 4 rfl) ?_
    refine lv_bipush (v := 100) hx hb dX8_giveTo_7 (by decide) ?_
    refine lv_icmp_ge (tgt := 45) hx hb dX8_giveTo_9 (by decide) (fun c4 => ?_) (fun c4 => ?_)
    · have hf := o_t c4 hf
      cases hf
      have hf : f_X8_giveTo_x45_1 p1_ice = some R := by have h9 := hk1; rw [← hE _ rfl] at h9; exact h9
      exact hx45_1 p1_ice H locs ls hf hP hD hS (lv_sub hl [] rfl)
    · have hf := o_f c4 hf
      refine lv_aload_n hx hb dX8_giveTo_12 rfl (lv_at hl 0 rfl) ?_
      refine va_get (D := G.1) (ci := 8) (v := .ref (o 1)) (C := RX8) (T := TX8) (N := 7) hx hb ht twX8 hown hK.1 hP 0 rfl rfl 0 (by decide) (ht _ kfl_X8_9) (fun _ h9 => h9) rfl dX8_giveTo_13 ?_
      refine lv_iload hx hb dX8_giveTo_16 (lv_at hl 4 rfl) ?_
      obtain ⟨g5, hf⟩ := gd_s hf
      refine va_iald hx hb hK.1 hP 1 0 rfl rfl g5 dX8_giveTo_18 ?_
      refine lv_iconst (v := -1) hx hb dX8_giveTo_19 (by decide) ?_
      refine lv_icmp_eq (tgt := 31) hx hb dX8_giveTo_20 (by decide) (fun c6 => ?_) (fun c6 => ?_)
      · have hf := o_t c6 hf
        exact hj31 v3 v4 p1_ice H locs ls hf hP hD hS (lv_sub hl [0, 1, 2, 3, 4] rfl)
      · have hf := o_f c6 hf
        refine lv_aload_n hx hb dX8_giveTo_23 rfl (lv_at hl 0 rfl) ?_
        refine va_get (D := G.1) (ci := 8) (v := .ref (o 1)) (C := RX8) (T := TX8) (N := 7) hx hb ht twX8 hown hK.1 hP 0 rfl rfl 0 (by decide) (ht _ kfl_X8_9) (fun _ h9 => h9) rfl dX8_giveTo_24 ?_
        refine lv_iload hx hb dX8_giveTo_27 (lv_at hl 4 rfl) ?_
        obtain ⟨g7, hf⟩ := gd_s hf
        refine va_iald hx hb hK.1 hP 1 0 rfl rfl g7 dX8_giveTo_29 ?_
        refine lv_istore_n (lv' := [(3, .int (o_iceFrom v4.toNatClampNeg)), (0, .ref (o 0)), (1, .ref (p1 0)), (2, .int a2), (4, .int v4)]) hx hb dX8_giveTo_30 rfl hl (by decide) rfl (fun ls hl => ?_)
        exact hj31 (o_iceFrom v4.toNatClampNeg) v4 p1_ice H locs ls hf hP hD hS (lv_sub hl [1, 2, 3, 0, 4] rfl)
  rw [eH, el] at key
  exact key
abbrev Wc_X9_hasRoomFor (l : Launch) (G : TG) (o : Nat → Nat) (o_length : Int32) (a1 : Int32) (R : Int32) (p : Program) (e : Env) (s : State) (m : MethodId) (below : List Frame) (meth : Method) (c : Code) (H : Heap) (locs : List Loc) (g : JFrame) : Prop := W p l e ({ frames := 0, cells := 0, slots := 0, locals := 0 }) s m ([.ref (o 0), .int a1] : List Value).toArray below meth c H locs 0 0 (MQ below (roQ (some (.int R))) ([.ref (o 0), .int a1] : List Value).toArray s 0 0 (fun _ => False)) g
set_option maxHeartbeats 4000000 in
set_option maxRecDepth 100000 in
theorem c_X9_hasRoomFor (l : Launch) (G : TG) (o : Nat → Nat) (o_length : Int32) (a1 : Int32) (R : Int32) (hf : f_X9_hasRoomFor o_length a1 = some R) : RO l yX9_hasRoomFor cX9_hasRoomFor 2 (some .boolean) ({ frames := 0, cells := 0, slots := 0, locals := 0 }) G [.ref (o 0), .int a1] [(oX9 o o_length)] (some (.int R)) := by
  refine RO.mk (by decide +kernel) (Nat.le_of_ble_eq_true rfl) ?_
  intro p e s m below meth c ls C hP hK hl
  have hx := C.1
  have hb := C.2.1
  have hown : s.vm.findClass RX9 = some m.cls := C.2.2.2.2.2.1
  have ht := C.2.2.2.2.2.2
  have hl : lv_has ls 2 [(0, .ref (o 0)), (1, .int a1)] := hl
  show Wc_X9_hasRoomFor l G o o_length a1 R p e s m below meth c s.heap [] (F0 m 0 ls [])
  refine lv_iload_n hx hb dX9_hasRoomFor_0 rfl (lv_at hl 1 rfl) ?_
  refine lv_bipush (v := 48) hx hb dX9_hasRoomFor_1 (by decide) ?_
  refine lv_aload_n hx hb dX9_hasRoomFor_3 rfl (lv_at hl 0 rfl) ?_
  refine va_get (D := G.1) (ci := 9) (v := .int o_length) (C := RX9) (T := TX9) (N := 2) hx hb ht twX9 hown hK.1 hP 0 rfl rfl 1 (by decide) (ht _ kfl_X9_13) (fun _ h9 => h9) rfl dX9_hasRoomFor_4 ?_
  refine lv_isub hx hb dX9_hasRoomFor_7 ?_
  refine lv_icmp_gt (tgt := 15) hx hb dX9_hasRoomFor_8 (by decide) (fun c1 => ?_) (fun c1 => ?_)
  · have hf := o_t c1 hf
    refine lv_iconst (v := 0) hx hb dX9_hasRoomFor_15 (by decide) ?_
    have h9 := Option.some.inj hf
    subst h9
    exact ro_zret C (Or.inl rfl) rfl dX9_hasRoomFor_16
  · have hf := o_f c1 hf
    refine lv_iconst (v := 1) hx hb dX9_hasRoomFor_11 (by decide) ?_
    refine lv_goto (tgt := 16) hx hb dX9_hasRoomFor_12 (by decide) ?_
    have h9 := Option.some.inj hf
    subst h9
    exact ro_zret C (Or.inr rfl) rfl dX9_hasRoomFor_16
abbrev Wc_X9_put (l : Launch) (G : TG) (o : Nat → Nat) (o_signs : Nat → Int32) (o_length : Int32) (a1 : Int32) (a2 : Int64) (R : (Nat → Int32) × Int32) (p : Program) (e : Env) (s : State) (m : MethodId) (below : List Frame) (meth : Method) (c : Code) (A : Nat → Prop) (H : Heap) (locs : List Loc) (g : JFrame) : Prop := W p l e ({ frames := 0, cells := 0, slots := 0, locals := 0 }) s m ([.ref (o 0), .int a1, .long a2] : List Value).toArray below meth c H locs 0 0 (MQ below (rwQ G none [(oX9 o R.2), (wI G (o 1) 48 R.1)] A) ([.ref (o 0), .int a1, .long a2] : List Value).toArray s 0 0 A) g
set_option maxHeartbeats 4000000 in
set_option maxRecDepth 100000 in
theorem c_X9_put (l : Launch) (G : TG) (o : Nat → Nat) (o_signs : Nat → Int32) (o_length : Int32) (a1 : Int32) (a2 : Int64) (R : (Nat → Int32) × Int32) (hf : f_X9_put o_signs o_length a1 a2 = some R) : RW l yX9_put cX9_put 5 none ({ frames := 0, cells := 0, slots := 0, locals := 0 }) G [.ref (o 0), .int a1, .long a2] [(oX9 o o_length), (wI G (o 1) 48 o_signs)] none [(oX9 o R.2), (wI G (o 1) 48 R.1)] := by
  refine RW.mk (by decide +kernel) (Nat.le_of_ble_eq_true rfl) ?_
  intro p e s m below meth c ls A C hP hD hA hz hK hl hS
  have hx := C.1
  have hb := C.2.1
  have hown : s.vm.findClass RX9 = some m.cls := C.2.2.2.2.2.1
  have ht := C.2.2.2.2.2.2
  have hl : lv_has ls 5 [(0, .ref (o 0)), (1, .int a1), (2, .long a2)] := hl
  show Wc_X9_put l G o o_signs o_length a1 a2 R p e s m below meth c A s.heap [] (F0 m 0 ls [])
  obtain ⟨H, eH, hP, hS⟩ : ∃ H, H = s.heap ∧ va_P G.1 vwCl [(oX9 o o_length), (wI G (o 1) 48 o_signs)] H ∧ va_S A s.heap H [] := ⟨_, rfl, hP, hS⟩
  obtain ⟨locs, el, hS⟩ : ∃ locs : List Loc, locs = [] ∧ va_S A s.heap H locs := ⟨_, rfl, hS⟩
  have key : Wc_X9_put l G o o_signs o_length a1 a2 R p e s m below meth c A H locs (F0 m 0 ls []) := by
    refine lv_iload_n hx hb dX9_put_0 rfl (lv_at hl 1 rfl) ?_
    refine lv_iconst (v := 1) hx hb dX9_put_1 (by decide) ?_
    refine lv_isub hx hb dX9_put_2 ?_
    refine lv_istore (lv' := [(4, .int (a1 - (1 : Int32))), (0, .ref (o 0)), (1, .int a1), (2, .long a2)]) hx hb dX9_put_3 hl (by decide) rfl (fun ls hl => ?_)
    have hx56_1 : ∀ (o_signs : Nat → Int32) (o_length : Int32) (H : Heap) (locs : List Loc) (ls : Array Slot), f_X9_put_x56_1 o_signs o_length = some R → va_P G.1 vwCl [(oX9 o o_length), (wI G (o 1) 48 o_signs)] H → va_D A [(oX9 o o_length), (wI G (o 1) 48 o_signs)] → va_S A s.heap H locs → lv_has ls 5 [] → Wc_X9_put l G o o_signs o_length a1 a2 R p e s m below meth c A H locs (F0 m 56 ls []) := by
      intro o_signs o_length H locs ls hf hP hD hS hl
      have h9 := Option.some.inj hf
      subst h9
      exact rw_vret C hP hD hS dX9_put_56
    obtain ⟨rL1, hL1, hk1⟩ := bd_s hf
    refine lp_W (P := fun st => ∀ (H : Heap) (locs : List Loc) (ls : Array Slot), va_P G.1 vwCl [(oX9 o st.2.2), (wI G (o 1) 48 st.2.1)] H → va_D A [(oX9 o st.2.2), (wI G (o 1) 48 st.2.1)] → va_S A s.heap H locs → lv_has ls 5 [(0, .ref (o 0)), (2, .long a2), (4, .int st.1)] → Wc_X9_put l G o o_signs o_length a1 a2 R p e s m below meth c A H locs (F0 m 5 ls [])) ?_ FU ((a1 - (1 : Int32)), o_signs, o_length) hL1 H locs ls hP hD hS (lv_sub hl [1, 3, 0] rfl)
    intro ⟨v4, o_signs, o_length⟩ oc1 hf hI hE H locs ls hP hD hS hl
    have hP : va_P G.1 vwCl [(oX9 o o_length), (wI G (o 1) 48 o_signs)] H := hP
    have hD : va_D A [(oX9 o o_length), (wI G (o 1) 48 o_signs)] := hD
    have hl : lv_has ls 5 [(0, .ref (o 0)), (2, .long a2), (4, .int v4)] := hl
    have hf : f_X9_put_b5 a2 v4 o_signs o_length = some oc1 := hf
    refine lv_iload hx hb dX9_put_5 (lv_at hl 2 rfl) ?_
    refine lv_if_lt (tgt := 56) hx hb dX9_put_7 (by decide) (fun c3 => ?_) (fun c3 => ?_)
    · have hf := o_t c3 hf
      cases hf
      have hf : f_X9_put_x56_1 o_signs o_length = some R := by have h9 := hk1; rw [← hE _ rfl] at h9; exact h9
      exact hx56_1 o_signs o_length H locs ls hf hP hD hS (lv_sub hl [] rfl)
    · have hf := o_f c3 hf
      refine lv_aload_n hx hb dX9_put_10 rfl (lv_at hl 0 rfl) ?_
      refine va_get (D := G.1) (ci := 9) (v := .int o_length) (C := RX9) (T := TX9) (N := 2) hx hb ht twX9 hown hK.1 hP 0 rfl rfl 1 (by decide) (ht _ kfl_X9_13) (fun _ h9 => h9) rfl dX9_put_11 ?_
      refine lv_bipush (v := 48) hx hb dX9_put_14 (by decide) ?_
      refine lv_icmp_ge (tgt := 56) hx hb dX9_put_16 (by decide) (fun c4 => ?_) (fun c4 => ?_)
      · have hf := o_t c4 hf
        cases hf
        have hf : f_X9_put_x56_1 o_signs o_length = some R := by have h9 := hk1; rw [← hE _ rfl] at h9; exact h9
        exact hx56_1 o_signs o_length H locs ls hf hP hD hS (lv_sub hl [] rfl)
      · have hf := o_f c4 hf
        refine lv_aload_n hx hb dX9_put_19 rfl (lv_at hl 0 rfl) ?_
        refine va_get (D := G.1) (ci := 9) (v := .ref (o 1)) (C := RX9) (T := TX9) (N := 2) hx hb ht twX9 hown hK.1 hP 0 rfl rfl 0 (by decide) (ht _ kfl_X9_9) (fun _ h9 => h9) rfl dX9_put_20 ?_
        refine lv_aload_n hx hb dX9_put_23 rfl (lv_at hl 0 rfl) ?_
        refine va_get (D := G.1) (ci := 9) (v := .int o_length) (C := RX9) (T := TX9) (N := 2) hx hb ht twX9 hown hK.1 hP 0 rfl rfl 1 (by decide) (ht _ kfl_X9_13) (fun _ h9 => h9) rfl dX9_put_24 ?_
        refine lv_lload_n hx hb dX9_put_27 rfl (lv_at hl 1 rfl) ?_
        refine lv_bipush (v := 8) hx hb dX9_put_28 (by decide) ?_
        refine lv_iload hx hb dX9_put_30 (lv_at hl 2 rfl) ?_
        refine lv_imul hx hb dX9_put_32 ?_
        refine lv_lushr (v := ((a2.toUInt64 >>> (((8 : Int32) * v4).toInt64.toUInt64 &&& Int64.toUInt64 63)).toInt64)) hx hb dX9_put_33 rfl ?_
        refine lv_l2i (v := (((a2.toUInt64 >>> (((8 : Int32) * v4).toInt64.toUInt64 &&& Int64.toUInt64 63)).toInt64).toInt32)) hx hb dX9_put_34 rfl ?_
        refine lv_sipush (v := 255) hx hb dX9_put_35 (by decide) ?_
        refine lv_iand hx hb dX9_put_38 ?_
        obtain ⟨g5, hf⟩ := gd_s hf
        refine va_iast hx hb hK.1 hP hD hS 1 0 rfl rfl g5 dX9_put_39 (fun H locs hP hD hS => ?_)
        have hP : va_P G.1 vwCl [(oX9 o o_length), (wI G (o 1) 48 (upd o_signs o_length.toNatClampNeg ((((a2.toUInt64 >>> (((8 : Int32) * v4).toInt64.toUInt64 &&& Int64.toUInt64 63)).toInt64).toInt32) &&& (255 : Int32))))] H := hP
        have hD : va_D A [(oX9 o o_length), (wI G (o 1) 48 (upd o_signs o_length.toNatClampNeg ((((a2.toUInt64 >>> (((8 : Int32) * v4).toInt64.toUInt64 &&& Int64.toUInt64 63)).toInt64).toInt32) &&& (255 : Int32))))] := hD
        refine lv_aload_n hx hb dX9_put_40 rfl (lv_at hl 0 rfl) ?_
        refine lv_dup hx hb dX9_put_41 rfl ?_
        refine va_get (D := G.1) (ci := 9) (v := .int o_length) (C := RX9) (T := TX9) (N := 2) hx hb ht twX9 hown hK.1 hP 0 rfl rfl 1 (by decide) (ht _ kfl_X9_13) (fun _ h9 => h9) rfl dX9_put_42 ?_
        refine lv_iconst (v := 1) hx hb dX9_put_45 (by decide) ?_
        refine lv_iadd hx hb dX9_put_46 ?_
        refine va_put (D := G.1) (ci := 9) (v := .int (o_length + (1 : Int32))) (ty := .int) (C := RX9) (T := TX9) (N := 2) hx hb ht twX9 tyX9 tyX9_ok nmX9 hown hK.1 hP hD hS 0 rfl rfl 1 (by decide) (ht _ kfl_X9_13) (fun _ h9 => h9) rfl (by decide +kernel) rfl rfl (Nat.le_of_ble_eq_true rfl) dX9_put_47 (fun H locs hP hD hS => ?_)
        have hP : va_P G.1 vwCl [(oX9 o (o_length + (1 : Int32))), (wI G (o 1) 48 (upd o_signs o_length.toNatClampNeg ((((a2.toUInt64 >>> (((8 : Int32) * v4).toInt64.toUInt64 &&& Int64.toUInt64 63)).toInt64).toInt32) &&& (255 : Int32))))] H := hP
        have hD : va_D A [(oX9 o (o_length + (1 : Int32))), (wI G (o 1) 48 (upd o_signs o_length.toNatClampNeg ((((a2.toUInt64 >>> (((8 : Int32) * v4).toInt64.toUInt64 &&& Int64.toUInt64 63)).toInt64).toInt32) &&& (255 : Int32))))] := hD
        refine lv_iinc (v := (v4 + (-1 : Int32))) (lv' := [(4, .int (v4 + (-1 : Int32))), (0, .ref (o 0)), (2, .long a2)]) hx hb dX9_put_50 hl (k := 2) rfl (by rfl) (by decide) rfl (fun ls hl => ?_)
        refine lv_goto (tgt := 5) hx hb dX9_put_53 (by decide) ?_
        cases hf
        exact hI _ rfl H locs ls hP hD hS (lv_sub hl [1, 2, 0] rfl)
  rw [eH, el] at key
  exact key
abbrev Wc_X10_write (l : Launch) (G : TG) (x : Nat → Nat) (t9 : Nat → Nat) (t6 : Nat → Nat) (t8 : Nat → Nat) (t3 : Nat → Nat) (t7 : Nat → Nat) (t1 : Nat → Nat) (t0 : Nat → Nat) (t4 : Nat → Nat) (t5 : Nat → Nat) (t2 : Nat → Nat) (t9_signs : Nat → Int32) (t9_length : Int32) (a1 : Int32) (a2 : Int64) (R : Int32 × (Nat → Int32) × Int32) (p : Program) (e : Env) (s : State) (m : MethodId) (below : List Frame) (meth : Method) (c : Code) (A : Nat → Prop) (H : Heap) (locs : List Loc) (g : JFrame) : Prop := W p l e ({ frames := 1, cells := 0, slots := 0, locals := 24 }) s m ([.ref (x 0), .int a1, .long a2] : List Value).toArray below meth c H locs 0 0 (MQ below (rwQ G (some (.int R.1)) [(oX10 x t9 t6 t8 t3 t7 t1 t0 t4 t5 t2), (oX9 t9 R.2.2), (wI G (t9 1) 48 R.2.1)] A) ([.ref (x 0), .int a1, .long a2] : List Value).toArray s 0 0 A) g
set_option maxHeartbeats 4000000 in
set_option maxRecDepth 100000 in
theorem c_X10_write (l : Launch) (G : TG) (x : Nat → Nat) (t9 : Nat → Nat) (t6 : Nat → Nat) (t8 : Nat → Nat) (t3 : Nat → Nat) (t7 : Nat → Nat) (t1 : Nat → Nat) (t0 : Nat → Nat) (t4 : Nat → Nat) (t5 : Nat → Nat) (t2 : Nat → Nat) (t9_signs : Nat → Int32) (t9_length : Int32) (a1 : Int32) (a2 : Int64) (R : Int32 × (Nat → Int32) × Int32) (hf : f_X10_write t9_signs t9_length a1 a2 = some R) : RW l yX10_write cX10_write 4 (some .int) ({ frames := 1, cells := 0, slots := 0, locals := 24 }) G [.ref (x 0), .int a1, .long a2] [(oX10 x t9 t6 t8 t3 t7 t1 t0 t4 t5 t2), (oX9 t9 t9_length), (wI G (t9 1) 48 t9_signs)] (some (.int R.1)) [(oX10 x t9 t6 t8 t3 t7 t1 t0 t4 t5 t2), (oX9 t9 R.2.2), (wI G (t9 1) 48 R.2.1)] := by
  refine RW.mk (by decide +kernel) (Nat.le_of_ble_eq_true rfl) ?_
  intro p e s m below meth c ls A C hP hD hA hz hK hl hS
  have hx := C.1
  have hb := C.2.1
  have hown : s.vm.findClass RX10 = some m.cls := C.2.2.2.2.2.1
  have ht := C.2.2.2.2.2.2
  have hl : lv_has ls 4 [(0, .ref (x 0)), (1, .int a1), (2, .long a2)] := hl
  show Wc_X10_write l G x t9 t6 t8 t3 t7 t1 t0 t4 t5 t2 t9_signs t9_length a1 a2 R p e s m below meth c A s.heap [] (F0 m 0 ls [])
  obtain ⟨H, eH, hP, hS⟩ : ∃ H, H = s.heap ∧ va_P G.1 vwCl [(oX10 x t9 t6 t8 t3 t7 t1 t0 t4 t5 t2), (oX9 t9 t9_length), (wI G (t9 1) 48 t9_signs)] H ∧ va_S A s.heap H [] := ⟨_, rfl, hP, hS⟩
  obtain ⟨locs, el, hS⟩ : ∃ locs : List Loc, locs = [] ∧ va_S A s.heap H locs := ⟨_, rfl, hS⟩
  have key : Wc_X10_write l G x t9 t6 t8 t3 t7 t1 t0 t4 t5 t2 t9_signs t9_length a1 a2 R p e s m below meth c A H locs (F0 m 0 ls []) := by
    refine lv_iload_n hx hb dX10_write_0 rfl (lv_at hl 1 rfl) ?_
    refine lv_iconst (v := 1) hx hb dX10_write_1 (by decide) ?_
    refine lv_bipush (v := 8) hx hb dX10_write_2 (by decide) ?_
    obtain ⟨q1, r1, hf⟩ := bd_s hf
    refine ro_S (n := 3) (As := [.int a1, .int (1 : Int32), .int (8 : Int32)]) (rest := []) (c_X10_within l G a1 (1 : Int32) (8 : Int32) q1 r1) C (hK.at hS hz) (hP.sub [] rfl) hl kcode_X10_within kml_X10_83 kst_X10_within kini_X10 (by decide +kernel) ⟨⟨rfl, rfl⟩, Nat.le_of_ble_eq_true rfl, Nat.le_of_ble_eq_true rfl⟩ ⟨Nat.zero_le _, Nat.zero_le _⟩ rfl rfl (Nat.le_of_ble_eq_true rfl) dX10_write_4 rfl ?_
    refine lv_if_ne (tgt := 13) hx hb dX10_write_7 (by decide) (fun c2 => ?_) (fun c2 => ?_)
    · have hf := o_f c2 hf
      refine lv_aload_n hx hb dX10_write_13 rfl (lv_at hl 0 rfl) ?_
      refine va_get (D := G.1) (ci := 10) (v := .ref (t9 0)) (C := RX10) (T := TX10) (N := 11) hx hb ht twX10 hown hK.1 hP 0 rfl rfl 0 (by decide) (ht _ kfl_X10_10) (fun _ h9 => h9) rfl dX10_write_14 ?_
      refine lv_iload_n hx hb dX10_write_17 rfl (lv_at hl 1 rfl) ?_
      obtain ⟨q3, r3, hf⟩ := bd_s hf
      refine ro_V (n := 1) (As := [.int a1]) (rest := []) (c_X9_hasRoomFor l G t9 t9_length a1 q3 r3) C (hK.at hS hz) (hP.sub [1] rfl) hl kcode_X9_hasRoomFor kml_X10_87 kim_X9_hasRoomFor ksel_X9_hasRoomFor kini_X9 (by decide +kernel) ⟨⟨rfl, rfl⟩, Nat.le_of_ble_eq_true rfl, Nat.le_of_ble_eq_true rfl⟩ ⟨Nat.zero_le _, Nat.zero_le _⟩ rfl rfl rfl rfl rfl (Nat.le_of_ble_eq_true rfl) dX10_write_18 rfl ?_
      refine lv_if_ne (tgt := 27) hx hb dX10_write_21 (by decide) (fun c4 => ?_) (fun c4 => ?_)
      · have hf := o_f c4 hf
        refine lv_aload_n hx hb dX10_write_27 rfl (lv_at hl 0 rfl) ?_
        refine va_get (D := G.1) (ci := 10) (v := .ref (t9 0)) (C := RX10) (T := TX10) (N := 11) hx hb ht twX10 hown hK.1 hP 0 rfl rfl 0 (by decide) (ht _ kfl_X10_10) (fun _ h9 => h9) rfl dX10_write_28 ?_
        refine lv_iload_n hx hb dX10_write_31 rfl (lv_at hl 1 rfl) ?_
        refine lv_lload_n hx hb dX10_write_32 rfl (lv_at hl 2 rfl) ?_
        obtain ⟨q5, r5, hf⟩ := bd_s hf
        refine rw_V (n := 2) (As := [.int a1, .long a2]) (rest := []) (wr := [(oX10 x t9 t6 t8 t3 t7 t1 t0 t4 t5 t2)]) (ws2 := [(oX10 x t9 t6 t8 t3 t7 t1 t0 t4 t5 t2), (oX9 t9 q5.2), (wI G (t9 1) 48 q5.1)]) (c_X9_put l G t9 t9_signs t9_length a1 a2 q5 r5) C hK hP hD hS hA hz hl [1, 2] [0] [0, 1, 2] rfl rfl rfl rfl rfl (by decide) rfl rfl rfl kcode_X9_put kml_X10_91 kim_X9_put ksel_X9_put kini_X9 (by decide +kernel) ⟨⟨rfl, rfl⟩, Nat.le_of_ble_eq_true rfl, Nat.le_of_ble_eq_true rfl⟩ ⟨Nat.zero_le _, Nat.zero_le _⟩ rfl rfl rfl rfl rfl (Nat.le_of_ble_eq_true rfl) dX10_write_33 rfl (fun H locs hP hD hS => ?_)
        refine lv_aload_n hx hb dX10_write_36 rfl (lv_at hl 0 rfl) ?_
        refine va_get (D := G.1) (ci := 10) (v := .ref (t9 0)) (C := RX10) (T := TX10) (N := 11) hx hb ht twX10 hown hK.1 hP 0 rfl rfl 0 (by decide) (ht _ kfl_X10_10) (fun _ h9 => h9) rfl dX10_write_37 ?_
        refine va_get (D := G.1) (ci := 9) (v := .int q5.2) (C := RX9) (T := TX9) (N := 2) hx hb ht twX9 hown hK.1 hP 1 rfl rfl 1 (by decide) (ht _ kfl_X10_95) (fun _ h9 => h9) rfl dX10_write_40 ?_
        have h9 := Option.some.inj hf
        subst h9
        exact rw_iret C rfl hP hD hS dX10_write_43
      · have hf := o_t c4 hf
        refine lv_bipush (v := -4) hx hb dX10_write_24 (by decide) ?_
        have h9 := Option.some.inj hf
        subst h9
        exact rw_iret C rfl hP hD hS dX10_write_26
    · have hf := o_t c2 hf
      refine lv_bipush (v := -2) hx hb dX10_write_10 (by decide) ?_
      have h9 := Option.some.inj hf
      subst h9
      exact rw_iret C rfl hP hD hS dX10_write_12
  rw [eH, el] at key
  exact key
abbrev Wc_X10_wipe (l : Launch) (G : TG) (x : Nat → Nat) (t9 : Nat → Nat) (t6 : Nat → Nat) (t8 : Nat → Nat) (t3 : Nat → Nat) (t7 : Nat → Nat) (t1 : Nat → Nat) (t0 : Nat → Nat) (t4 : Nat → Nat) (t5 : Nat → Nat) (t2 : Nat → Nat) (t9_length : Int32) (R : Int32 × Int32) (p : Program) (e : Env) (s : State) (m : MethodId) (below : List Frame) (meth : Method) (c : Code) (A : Nat → Prop) (H : Heap) (locs : List Loc) (g : JFrame) : Prop := W p l e ({ frames := 0, cells := 0, slots := 0, locals := 0 }) s m ([.ref (x 0)] : List Value).toArray below meth c H locs 0 0 (MQ below (rwQ G (some (.int R.1)) [(oX10 x t9 t6 t8 t3 t7 t1 t0 t4 t5 t2), (oX9 t9 R.2)] A) ([.ref (x 0)] : List Value).toArray s 0 0 A) g
set_option maxHeartbeats 4000000 in
set_option maxRecDepth 100000 in
theorem c_X10_wipe (l : Launch) (G : TG) (x : Nat → Nat) (t9 : Nat → Nat) (t6 : Nat → Nat) (t8 : Nat → Nat) (t3 : Nat → Nat) (t7 : Nat → Nat) (t1 : Nat → Nat) (t0 : Nat → Nat) (t4 : Nat → Nat) (t5 : Nat → Nat) (t2 : Nat → Nat) (t9_length : Int32) (R : Int32 × Int32) (hf : f_X10_wipe t9_length = some R) : RW l yX10_wipe cX10_wipe 2 (some .int) ({ frames := 0, cells := 0, slots := 0, locals := 0 }) G [.ref (x 0)] [(oX10 x t9 t6 t8 t3 t7 t1 t0 t4 t5 t2), (oX9 t9 t9_length)] (some (.int R.1)) [(oX10 x t9 t6 t8 t3 t7 t1 t0 t4 t5 t2), (oX9 t9 R.2)] := by
  refine RW.mk (by decide +kernel) (Nat.le_of_ble_eq_true rfl) ?_
  intro p e s m below meth c ls A C hP hD hA hz hK hl hS
  have hx := C.1
  have hb := C.2.1
  have hown : s.vm.findClass RX10 = some m.cls := C.2.2.2.2.2.1
  have ht := C.2.2.2.2.2.2
  have hl : lv_has ls 2 [(0, .ref (x 0))] := hl
  show Wc_X10_wipe l G x t9 t6 t8 t3 t7 t1 t0 t4 t5 t2 t9_length R p e s m below meth c A s.heap [] (F0 m 0 ls [])
  obtain ⟨H, eH, hP, hS⟩ : ∃ H, H = s.heap ∧ va_P G.1 vwCl [(oX10 x t9 t6 t8 t3 t7 t1 t0 t4 t5 t2), (oX9 t9 t9_length)] H ∧ va_S A s.heap H [] := ⟨_, rfl, hP, hS⟩
  obtain ⟨locs, el, hS⟩ : ∃ locs : List Loc, locs = [] ∧ va_S A s.heap H locs := ⟨_, rfl, hS⟩
  have key : Wc_X10_wipe l G x t9 t6 t8 t3 t7 t1 t0 t4 t5 t2 t9_length R p e s m below meth c A H locs (F0 m 0 ls []) := by
    refine lv_aload_n hx hb dX10_wipe_0 rfl (lv_at hl 0 rfl) ?_
    refine va_get (D := G.1) (ci := 10) (v := .ref (t9 0)) (C := RX10) (T := TX10) (N := 11) hx hb ht twX10 hown hK.1 hP 0 rfl rfl 0 (by decide) (ht _ kfl_X10_10) (fun _ h9 => h9) rfl dX10_wipe_1 ?_
    refine va_get (D := G.1) (ci := 9) (v := .int t9_length) (C := RX9) (T := TX9) (N := 2) hx hb ht twX9 hown hK.1 hP 1 rfl rfl 1 (by decide) (ht _ kfl_X10_95) (fun _ h9 => h9) rfl dX10_wipe_4 ?_
    refine lv_istore_n (lv' := [(1, .int t9_length), (0, .ref (x 0))]) hx hb dX10_wipe_7 rfl hl (by decide) rfl (fun ls hl => ?_)
    refine lv_aload_n hx hb dX10_wipe_8 rfl (lv_at hl 1 rfl) ?_
    refine va_get (D := G.1) (ci := 10) (v := .ref (t9 0)) (C := RX10) (T := TX10) (N := 11) hx hb ht twX10 hown hK.1 hP 0 rfl rfl 0 (by decide) (ht _ kfl_X10_10) (fun _ h9 => h9) rfl dX10_wipe_9 ?_
    refine lv_iconst (v := 0) hx hb dX10_wipe_12 (by decide) ?_
    refine va_put (D := G.1) (ci := 9) (v := .int (0 : Int32)) (ty := .int) (C := RX9) (T := TX9) (N := 2) hx hb ht twX9 tyX9 tyX9_ok nmX9 hown hK.1 hP hD hS 1 rfl rfl 1 (by decide) (ht _ kfl_X10_95) (fun _ h9 => h9) rfl (by decide +kernel) rfl rfl (Nat.le_of_ble_eq_true rfl) dX10_wipe_13 (fun H locs hP hD hS => ?_)
    have hP : va_P G.1 vwCl [(oX10 x t9 t6 t8 t3 t7 t1 t0 t4 t5 t2), (oX9 t9 (0 : Int32))] H := hP
    have hD : va_D A [(oX10 x t9 t6 t8 t3 t7 t1 t0 t4 t5 t2), (oX9 t9 (0 : Int32))] := hD
    refine lv_iload_n hx hb dX10_wipe_16 rfl (lv_at hl 0 rfl) ?_
    have h9 := Option.some.inj hf
    subst h9
    exact rw_iret C rfl hP hD hS dX10_wipe_17
  rw [eH, el] at key
  exact key
abbrev Wc_X10_fault (l : Launch) (G : TG) (x : Nat → Nat) (t9 : Nat → Nat) (t6 : Nat → Nat) (t8 : Nat → Nat) (t3 : Nat → Nat) (t7 : Nat → Nat) (t1 : Nat → Nat) (t0 : Nat → Nat) (t4 : Nat → Nat) (t5 : Nat → Nat) (t2 : Nat → Nat) (t9_signs : Nat → Int32) (t9_length : Int32) (t6_numbers : Nat → Int32) (t6_parts : Int32) (t6_figuresDue : Int32) (t6_place : Int32) (t6_bandDue : Int32) (t8_iceFrom : Nat → Int32) (t8_entries : Int32) (t8_due : Int32) (t8_roundAhead : Int32) (t8_tens : Int32) (t8_roundNow : Int32) (t8_bandAhead : Int32) (a1 : Int32) (R : Int32 × (Nat → Int32) × Int32 × Int32 × Int32 × Int32 × (Nat → Int32) × Int32 × Int32 × Int32 × Int32 × Int32 × Int32) (p : Program) (e : Env) (s : State) (m : MethodId) (below : List Frame) (meth : Method) (c : Code) (A : Nat → Prop) (H : Heap) (locs : List Loc) (g : JFrame) : Prop := W p l e ({ frames := 7, cells := 0, slots := 0, locals := 171 }) s m ([.ref (x 0), .int a1] : List Value).toArray below meth c H locs 0 0 (MQ below (rwQ G (some (.int R.1)) [(oX10 x t9 t6 t8 t3 t7 t1 t0 t4 t5 t2), (oX9 t9 t9_length), (wI G (t9 1) 48 t9_signs), (oX6 t6 R.2.2.1 R.2.2.2.1 R.2.2.2.2.1 R.2.2.2.2.2.1), (wI G (t6 1) 12 R.2.1), (oX8 t8 R.2.2.2.2.2.2.2.1 R.2.2.2.2.2.2.2.2.1 R.2.2.2.2.2.2.2.2.2.1 R.2.2.2.2.2.2.2.2.2.2.1 R.2.2.2.2.2.2.2.2.2.2.2.1 R.2.2.2.2.2.2.2.2.2.2.2.2), (wI G (t8 1) 100 R.2.2.2.2.2.2.1)] A) ([.ref (x 0), .int a1] : List Value).toArray s 0 0 A) g
set_option maxHeartbeats 4000000 in
set_option maxRecDepth 100000 in
theorem c_X10_fault (l : Launch) (G : TG) (x : Nat → Nat) (t9 : Nat → Nat) (t6 : Nat → Nat) (t8 : Nat → Nat) (t3 : Nat → Nat) (t7 : Nat → Nat) (t1 : Nat → Nat) (t0 : Nat → Nat) (t4 : Nat → Nat) (t5 : Nat → Nat) (t2 : Nat → Nat) (t9_signs : Nat → Int32) (t9_length : Int32) (t6_numbers : Nat → Int32) (t6_parts : Int32) (t6_figuresDue : Int32) (t6_place : Int32) (t6_bandDue : Int32) (t8_iceFrom : Nat → Int32) (t8_entries : Int32) (t8_due : Int32) (t8_roundAhead : Int32) (t8_tens : Int32) (t8_roundNow : Int32) (t8_bandAhead : Int32) (a1 : Int32) (R : Int32 × (Nat → Int32) × Int32 × Int32 × Int32 × Int32 × (Nat → Int32) × Int32 × Int32 × Int32 × Int32 × Int32 × Int32) (hf : f_X10_fault t9_signs t9_length t6_numbers t6_parts t6_figuresDue t6_place t6_bandDue t8_iceFrom t8_entries t8_due t8_roundAhead t8_tens t8_roundNow t8_bandAhead a1 = some R) : RW l yX10_fault cX10_fault 2 (some .int) ({ frames := 7, cells := 0, slots := 0, locals := 171 }) G [.ref (x 0), .int a1] [(oX10 x t9 t6 t8 t3 t7 t1 t0 t4 t5 t2), (oX9 t9 t9_length), (wI G (t9 1) 48 t9_signs), (oX6 t6 t6_parts t6_figuresDue t6_place t6_bandDue), (wI G (t6 1) 12 t6_numbers), (oX8 t8 t8_entries t8_due t8_roundAhead t8_tens t8_roundNow t8_bandAhead), (wI G (t8 1) 100 t8_iceFrom)] (some (.int R.1)) [(oX10 x t9 t6 t8 t3 t7 t1 t0 t4 t5 t2), (oX9 t9 t9_length), (wI G (t9 1) 48 t9_signs), (oX6 t6 R.2.2.1 R.2.2.2.1 R.2.2.2.2.1 R.2.2.2.2.2.1), (wI G (t6 1) 12 R.2.1), (oX8 t8 R.2.2.2.2.2.2.2.1 R.2.2.2.2.2.2.2.2.1 R.2.2.2.2.2.2.2.2.2.1 R.2.2.2.2.2.2.2.2.2.2.1 R.2.2.2.2.2.2.2.2.2.2.2.1 R.2.2.2.2.2.2.2.2.2.2.2.2), (wI G (t8 1) 100 R.2.2.2.2.2.2.1)] := by
  refine RW.mk (by decide +kernel) (Nat.le_of_ble_eq_true rfl) ?_
  intro p e s m below meth c ls A C hP hD hA hz hK hl hS
  have hx := C.1
  have hb := C.2.1
  have hown : s.vm.findClass RX10 = some m.cls := C.2.2.2.2.2.1
  have ht := C.2.2.2.2.2.2
  have hl : lv_has ls 2 [(0, .ref (x 0)), (1, .int a1)] := hl
  show Wc_X10_fault l G x t9 t6 t8 t3 t7 t1 t0 t4 t5 t2 t9_signs t9_length t6_numbers t6_parts t6_figuresDue t6_place t6_bandDue t8_iceFrom t8_entries t8_due t8_roundAhead t8_tens t8_roundNow t8_bandAhead a1 R p e s m below meth c A s.heap [] (F0 m 0 ls [])
  obtain ⟨H, eH, hP, hS⟩ : ∃ H, H = s.heap ∧ va_P G.1 vwCl [(oX10 x t9 t6 t8 t3 t7 t1 t0 t4 t5 t2), (oX9 t9 t9_length), (wI G (t9 1) 48 t9_signs), (oX6 t6 t6_parts t6_figuresDue t6_place t6_bandDue), (wI G (t6 1) 12 t6_numbers), (oX8 t8 t8_entries t8_due t8_roundAhead t8_tens t8_roundNow t8_bandAhead), (wI G (t8 1) 100 t8_iceFrom)] H ∧ va_S A s.heap H [] := ⟨_, rfl, hP, hS⟩
  obtain ⟨locs, el, hS⟩ : ∃ locs : List Loc, locs = [] ∧ va_S A s.heap H locs := ⟨_, rfl, hS⟩
  have key : Wc_X10_fault l G x t9 t6 t8 t3 t7 t1 t0 t4 t5 t2 t9_signs t9_length t6_numbers t6_parts t6_figuresDue t6_place t6_bandDue t8_iceFrom t8_entries t8_due t8_roundAhead t8_tens t8_roundNow t8_bandAhead a1 R p e s m below meth c A H locs (F0 m 0 ls []) := by
    refine lv_iload_n hx hb dX10_fault_0 rfl (lv_at hl 1 rfl) ?_
    refine lv_if_eq (tgt := 18) hx hb dX10_fault_1 (by decide) (fun c1 => ?_) (fun c1 => ?_)
    · have hf := o_t c1 hf
      refine lv_aload_n hx hb dX10_fault_18 rfl (lv_at hl 0 rfl) ?_
      refine va_get (D := G.1) (ci := 10) (v := .ref (t6 0)) (C := RX10) (T := TX10) (N := 11) hx hb ht twX10 hown hK.1 hP 0 rfl rfl 1 (by decide) (ht _ kfl_X10_19) (fun _ h9 => h9) rfl dX10_fault_19 ?_
      refine lv_aload_n hx hb dX10_fault_22 rfl (lv_at hl 0 rfl) ?_
      refine va_get (D := G.1) (ci := 10) (v := .ref (t9 0)) (C := RX10) (T := TX10) (N := 11) hx hb ht twX10 hown hK.1 hP 0 rfl rfl 0 (by decide) (ht _ kfl_X10_10) (fun _ h9 => h9) rfl dX10_fault_23 ?_
      obtain ⟨q2, r2, hf⟩ := bd_s hf
      refine rw_V (n := 1) (As := [.ref (t9 0)]) (rest := []) (wr := [(oX10 x t9 t6 t8 t3 t7 t1 t0 t4 t5 t2), (oX8 t8 t8_entries t8_due t8_roundAhead t8_tens t8_roundNow t8_bandAhead), (wI G (t8 1) 100 t8_iceFrom)]) (ws2 := [(oX10 x t9 t6 t8 t3 t7 t1 t0 t4 t5 t2), (oX9 t9 t9_length), (wI G (t9 1) 48 t9_signs), (oX6 t6 q2.2.2.1 q2.2.2.2.1 q2.2.2.2.2.1 q2.2.2.2.2.2), (wI G (t6 1) 12 q2.2.1), (oX8 t8 t8_entries t8_due t8_roundAhead t8_tens t8_roundNow t8_bandAhead), (wI G (t8 1) 100 t8_iceFrom)]) (c_X6_faultOf l G t6 t9 t6_numbers t6_parts t6_figuresDue t6_place t6_bandDue t9_signs t9_length q2 r2) C hK hP hD hS hA hz hl [3, 4, 1, 2] [0, 5, 6] [0, 5, 6, 3, 4, 1, 2] rfl rfl rfl rfl rfl (by decide) rfl rfl rfl kcode_X6_faultOf kml_X10_103 kim_X6_faultOf ksel_X6_faultOf kini_X6 (by decide +kernel) ⟨⟨rfl, rfl⟩, Nat.le_of_ble_eq_true rfl, Nat.le_of_ble_eq_true rfl⟩ ⟨Nat.zero_le _, Nat.zero_le _⟩ rfl rfl rfl rfl rfl (Nat.le_of_ble_eq_true rfl) dX10_fault_26 rfl (fun H locs hP hD hS => ?_)
      have h9 := Option.some.inj hf
      subst h9
      exact rw_iret C rfl hP hD hS dX10_fault_29
    · have hf := o_f c1 hf
      refine lv_aload_n hx hb dX10_fault_4 rfl (lv_at hl 0 rfl) ?_
      refine va_get (D := G.1) (ci := 10) (v := .ref (t8 0)) (C := RX10) (T := TX10) (N := 11) hx hb ht twX10 hown hK.1 hP 0 rfl rfl 2 (by decide) (ht _ kfl_X10_26) (fun _ h9 => h9) rfl dX10_fault_5 ?_
      refine lv_aload_n hx hb dX10_fault_8 rfl (lv_at hl 0 rfl) ?_
      refine va_get (D := G.1) (ci := 10) (v := .ref (t9 0)) (C := RX10) (T := TX10) (N := 11) hx hb ht twX10 hown hK.1 hP 0 rfl rfl 0 (by decide) (ht _ kfl_X10_10) (fun _ h9 => h9) rfl dX10_fault_9 ?_
      obtain ⟨q4, r4, hf⟩ := bd_s hf
      refine rw_V (n := 1) (As := [.ref (t9 0)]) (rest := []) (wr := [(oX10 x t9 t6 t8 t3 t7 t1 t0 t4 t5 t2), (oX6 t6 t6_parts t6_figuresDue t6_place t6_bandDue), (wI G (t6 1) 12 t6_numbers)]) (ws2 := [(oX10 x t9 t6 t8 t3 t7 t1 t0 t4 t5 t2), (oX9 t9 t9_length), (wI G (t9 1) 48 t9_signs), (oX6 t6 t6_parts t6_figuresDue t6_place t6_bandDue), (wI G (t6 1) 12 t6_numbers), (oX8 t8 q4.2.2.1 q4.2.2.2.1 q4.2.2.2.2.1 q4.2.2.2.2.2.1 q4.2.2.2.2.2.2.1 q4.2.2.2.2.2.2.2), (wI G (t8 1) 100 q4.2.1)]) (c_X8_faultOf l G t8 t9 t8_iceFrom t8_entries t8_due t8_roundAhead t8_tens t8_roundNow t8_bandAhead t9_signs t9_length q4 r4) C hK hP hD hS hA hz hl [5, 6, 1, 2] [0, 3, 4] [0, 5, 6, 1, 2, 3, 4] rfl rfl rfl rfl rfl (by decide) rfl rfl rfl kcode_X8_faultOf kml_X10_99 kim_X8_faultOf ksel_X8_faultOf kini_X8 (by decide +kernel) ⟨⟨rfl, rfl⟩, Nat.le_of_ble_eq_true rfl, Nat.le_of_ble_eq_true rfl⟩ ⟨Nat.zero_le _, Nat.zero_le _⟩ rfl rfl rfl rfl rfl (Nat.le_of_ble_eq_true rfl) dX10_fault_12 rfl (fun H locs hP hD hS => ?_)
      refine lv_goto (tgt := 29) hx hb dX10_fault_15 (by decide) ?_
      have h9 := Option.some.inj hf
      subst h9
      exact rw_iret C rfl hP hD hS dX10_fault_29
  rw [eH, el] at key
  exact key
abbrev Wc_X10_law (l : Launch) (G : TG) (x : Nat → Nat) (t9 : Nat → Nat) (t6 : Nat → Nat) (t8 : Nat → Nat) (t3 : Nat → Nat) (t7 : Nat → Nat) (t1 : Nat → Nat) (t0 : Nat → Nat) (t4 : Nat → Nat) (t5 : Nat → Nat) (t2 : Nat → Nat) (t9_signs : Nat → Int32) (t9_length : Int32) (t6_numbers : Nat → Int32) (t6_parts : Int32) (t6_figuresDue : Int32) (t6_place : Int32) (t6_bandDue : Int32) (t3_law : Nat → Int32) (R : Int32 × (Nat → Int32) × Int32 × Int32 × Int32 × Int32 × (Nat → Int32)) (p : Program) (e : Env) (s : State) (m : MethodId) (below : List Frame) (meth : Method) (c : Code) (A : Nat → Prop) (H : Heap) (locs : List Loc) (g : JFrame) : Prop := W p l e ({ frames := 7, cells := 0, slots := 0, locals := 171 }) s m ([.ref (x 0)] : List Value).toArray below meth c H locs 0 0 (MQ below (rwQ G (some (.int R.1)) [(oX10 x t9 t6 t8 t3 t7 t1 t0 t4 t5 t2), (oX9 t9 t9_length), (wI G (t9 1) 48 t9_signs), (oX6 t6 R.2.2.1 R.2.2.2.1 R.2.2.2.2.1 R.2.2.2.2.2.1), (wI G (t6 1) 12 R.2.1), (oX3 t3), (wI G (t3 1) 12 R.2.2.2.2.2.2)] A) ([.ref (x 0)] : List Value).toArray s 0 0 A) g
set_option maxHeartbeats 4000000 in
set_option maxRecDepth 100000 in
theorem c_X10_law (l : Launch) (G : TG) (x : Nat → Nat) (t9 : Nat → Nat) (t6 : Nat → Nat) (t8 : Nat → Nat) (t3 : Nat → Nat) (t7 : Nat → Nat) (t1 : Nat → Nat) (t0 : Nat → Nat) (t4 : Nat → Nat) (t5 : Nat → Nat) (t2 : Nat → Nat) (t9_signs : Nat → Int32) (t9_length : Int32) (t6_numbers : Nat → Int32) (t6_parts : Int32) (t6_figuresDue : Int32) (t6_place : Int32) (t6_bandDue : Int32) (t3_law : Nat → Int32) (R : Int32 × (Nat → Int32) × Int32 × Int32 × Int32 × Int32 × (Nat → Int32)) (hf : f_X10_law t9_signs t9_length t6_numbers t3_law = some R) : RW l yX10_law cX10_law 1 (some .int) ({ frames := 7, cells := 0, slots := 0, locals := 171 }) G [.ref (x 0)] [(oX10 x t9 t6 t8 t3 t7 t1 t0 t4 t5 t2), (oX9 t9 t9_length), (wI G (t9 1) 48 t9_signs), (oX6 t6 t6_parts t6_figuresDue t6_place t6_bandDue), (wI G (t6 1) 12 t6_numbers), (oX3 t3), (wI G (t3 1) 12 t3_law)] (some (.int R.1)) [(oX10 x t9 t6 t8 t3 t7 t1 t0 t4 t5 t2), (oX9 t9 t9_length), (wI G (t9 1) 48 t9_signs), (oX6 t6 R.2.2.1 R.2.2.2.1 R.2.2.2.2.1 R.2.2.2.2.2.1), (wI G (t6 1) 12 R.2.1), (oX3 t3), (wI G (t3 1) 12 R.2.2.2.2.2.2)] := by
  refine RW.mk (by decide +kernel) (Nat.le_of_ble_eq_true rfl) ?_
  intro p e s m below meth c ls A C hP hD hA hz hK hl hS
  have hx := C.1
  have hb := C.2.1
  have hown : s.vm.findClass RX10 = some m.cls := C.2.2.2.2.2.1
  have ht := C.2.2.2.2.2.2
  have hl : lv_has ls 1 [(0, .ref (x 0))] := hl
  show Wc_X10_law l G x t9 t6 t8 t3 t7 t1 t0 t4 t5 t2 t9_signs t9_length t6_numbers t6_parts t6_figuresDue t6_place t6_bandDue t3_law R p e s m below meth c A s.heap [] (F0 m 0 ls [])
  obtain ⟨H, eH, hP, hS⟩ : ∃ H, H = s.heap ∧ va_P G.1 vwCl [(oX10 x t9 t6 t8 t3 t7 t1 t0 t4 t5 t2), (oX9 t9 t9_length), (wI G (t9 1) 48 t9_signs), (oX6 t6 t6_parts t6_figuresDue t6_place t6_bandDue), (wI G (t6 1) 12 t6_numbers), (oX3 t3), (wI G (t3 1) 12 t3_law)] H ∧ va_S A s.heap H [] := ⟨_, rfl, hP, hS⟩
  obtain ⟨locs, el, hS⟩ : ∃ locs : List Loc, locs = [] ∧ va_S A s.heap H locs := ⟨_, rfl, hS⟩
  have key : Wc_X10_law l G x t9 t6 t8 t3 t7 t1 t0 t4 t5 t2 t9_signs t9_length t6_numbers t6_parts t6_figuresDue t6_place t6_bandDue t3_law R p e s m below meth c A H locs (F0 m 0 ls []) := by
    refine lv_aload_n hx hb dX10_law_0 rfl (lv_at hl 0 rfl) ?_
    refine va_get (D := G.1) (ci := 10) (v := .ref (t6 0)) (C := RX10) (T := TX10) (N := 11) hx hb ht twX10 hown hK.1 hP 0 rfl rfl 1 (by decide) (ht _ kfl_X10_19) (fun _ h9 => h9) rfl dX10_law_1 ?_
    refine lv_aload_n hx hb dX10_law_4 rfl (lv_at hl 0 rfl) ?_
    refine va_get (D := G.1) (ci := 10) (v := .ref (t9 0)) (C := RX10) (T := TX10) (N := 11) hx hb ht twX10 hown hK.1 hP 0 rfl rfl 0 (by decide) (ht _ kfl_X10_10) (fun _ h9 => h9) rfl dX10_law_5 ?_
    obtain ⟨q1, r1, hf⟩ := bd_s hf
    refine rw_V (n := 1) (As := [.ref (t9 0)]) (rest := []) (wr := [(oX10 x t9 t6 t8 t3 t7 t1 t0 t4 t5 t2), (oX3 t3), (wI G (t3 1) 12 t3_law)]) (ws2 := [(oX10 x t9 t6 t8 t3 t7 t1 t0 t4 t5 t2), (oX9 t9 t9_length), (wI G (t9 1) 48 t9_signs), (oX6 t6 q1.2.2.1 q1.2.2.2.1 q1.2.2.2.2.1 q1.2.2.2.2.2), (wI G (t6 1) 12 q1.2.1), (oX3 t3), (wI G (t3 1) 12 t3_law)]) (c_X6_faultOf l G t6 t9 t6_numbers t6_parts t6_figuresDue t6_place t6_bandDue t9_signs t9_length q1 r1) C hK hP hD hS hA hz hl [3, 4, 1, 2] [0, 5, 6] [0, 5, 6, 3, 4, 1, 2] rfl rfl rfl rfl rfl (by decide) rfl rfl rfl kcode_X6_faultOf kml_X10_103 kim_X6_faultOf ksel_X6_faultOf kini_X6 (by decide +kernel) ⟨⟨rfl, rfl⟩, Nat.le_of_ble_eq_true rfl, Nat.le_of_ble_eq_true rfl⟩ ⟨Nat.zero_le _, Nat.zero_le _⟩ rfl rfl rfl rfl rfl (Nat.le_of_ble_eq_true rfl) dX10_law_8 rfl (fun H locs hP hD hS => ?_)
    refine lv_bipush (v := -9) hx hb dX10_law_11 (by decide) ?_
    refine lv_icmp_eq (tgt := 19) hx hb dX10_law_13 (by decide) (fun c2 => ?_) (fun c2 => ?_)
    · have hf := o_t c2 hf
      refine lv_aload_n hx hb dX10_law_19 rfl (lv_at hl 0 rfl) ?_
      refine va_get (D := G.1) (ci := 10) (v := .ref (t6 0)) (C := RX10) (T := TX10) (N := 11) hx hb ht twX10 hown hK.1 hP 0 rfl rfl 1 (by decide) (ht _ kfl_X10_19) (fun _ h9 => h9) rfl dX10_law_20 ?_
      refine lv_aload_n hx hb dX10_law_23 rfl (lv_at hl 0 rfl) ?_
      refine va_get (D := G.1) (ci := 10) (v := .ref (t3 0)) (C := RX10) (T := TX10) (N := 11) hx hb ht twX10 hown hK.1 hP 0 rfl rfl 3 (by decide) (ht _ kfl_X10_33) (fun _ h9 => h9) rfl dX10_law_24 ?_
      obtain ⟨q3, r3, hf⟩ := bd_s hf
      refine rw_V (n := 1) (As := [.ref (t3 0)]) (rest := []) (wr := [(oX10 x t9 t6 t8 t3 t7 t1 t0 t4 t5 t2), (oX9 t9 t9_length), (wI G (t9 1) 48 t9_signs)]) (ws2 := [(oX10 x t9 t6 t8 t3 t7 t1 t0 t4 t5 t2), (oX9 t9 t9_length), (wI G (t9 1) 48 t9_signs), (oX6 t6 q1.2.2.1 q1.2.2.2.1 q1.2.2.2.2.1 q1.2.2.2.2.2), (wI G (t6 1) 12 q1.2.1), (oX3 t3), (wI G (t3 1) 12 q3)]) (c_X6_giveTo l G t6 t3 q1.2.1 q1.2.2.1 q1.2.2.2.1 q1.2.2.2.2.1 q1.2.2.2.2.2 t3_law q3 r3) C hK hP hD hS hA hz hl [3, 4, 5, 6] [0, 1, 2] [0, 1, 2, 3, 4, 5, 6] rfl rfl rfl rfl rfl (by decide) rfl rfl rfl kcode_X6_giveTo kml_X10_104 kim_X6_giveTo ksel_X6_giveTo kini_X6 (by decide +kernel) ⟨⟨rfl, rfl⟩, Nat.le_of_ble_eq_true rfl, Nat.le_of_ble_eq_true rfl⟩ ⟨Nat.zero_le _, Nat.zero_le _⟩ rfl rfl rfl rfl rfl (Nat.le_of_ble_eq_true rfl) dX10_law_27 rfl (fun H locs hP hD hS => ?_)
      refine lv_aload_n hx hb dX10_law_30 rfl (lv_at hl 0 rfl) ?_
      refine va_get (D := G.1) (ci := 10) (v := .ref (t6 0)) (C := RX10) (T := TX10) (N := 11) hx hb ht twX10 hown hK.1 hP 0 rfl rfl 1 (by decide) (ht _ kfl_X10_19) (fun _ h9 => h9) rfl dX10_law_31 ?_
      refine va_get (D := G.1) (ci := 6) (v := .int q1.2.2.1) (C := RX6) (T := TX6) (N := 5) hx hb ht twX6 hown hK.1 hP 3 rfl rfl 1 (by decide) (ht _ kfl_X10_108) (fun _ h9 => h9) rfl dX10_law_34 ?_
      have h9 := Option.some.inj hf
      subst h9
      exact rw_iret C rfl hP hD hS dX10_law_37
    · have hf := o_f c2 hf
      refine lv_bipush (v := -3) hx hb dX10_law_16 (by decide) ?_
      have h9 := Option.some.inj hf
      subst h9
      exact rw_iret C rfl hP hD hS dX10_law_18
  rw [eH, el] at key
  exact key
abbrev Wc_X10_lawful (l : Launch) (G : TG) (x : Nat → Nat) (t9 : Nat → Nat) (t6 : Nat → Nat) (t8 : Nat → Nat) (t3 : Nat → Nat) (t7 : Nat → Nat) (t1 : Nat → Nat) (t0 : Nat → Nat) (t4 : Nat → Nat) (t5 : Nat → Nat) (t2 : Nat → Nat) (t3_law : Nat → Int32) (a1 : Int32) (R : Int32) (p : Program) (e : Env) (s : State) (m : MethodId) (below : List Frame) (meth : Method) (c : Code) (H : Heap) (locs : List Loc) (g : JFrame) : Prop := W p l e ({ frames := 1, cells := 0, slots := 0, locals := 22 }) s m ([.ref (x 0), .int a1] : List Value).toArray below meth c H locs 0 0 (MQ below (roQ (some (.int R))) ([.ref (x 0), .int a1] : List Value).toArray s 0 0 (fun _ => False)) g
set_option maxHeartbeats 4000000 in
set_option maxRecDepth 100000 in
theorem c_X10_lawful (l : Launch) (G : TG) (x : Nat → Nat) (t9 : Nat → Nat) (t6 : Nat → Nat) (t8 : Nat → Nat) (t3 : Nat → Nat) (t7 : Nat → Nat) (t1 : Nat → Nat) (t0 : Nat → Nat) (t4 : Nat → Nat) (t5 : Nat → Nat) (t2 : Nat → Nat) (t3_law : Nat → Int32) (a1 : Int32) (R : Int32) (hf : f_X10_lawful t3_law a1 = some R) : RO l yX10_lawful cX10_lawful 2 (some .int) ({ frames := 1, cells := 0, slots := 0, locals := 22 }) G [.ref (x 0), .int a1] [(oX10 x t9 t6 t8 t3 t7 t1 t0 t4 t5 t2), (oX3 t3), (wI G (t3 1) 12 t3_law)] (some (.int R)) := by
  refine RO.mk (by decide +kernel) (Nat.le_of_ble_eq_true rfl) ?_
  intro p e s m below meth c ls C hP hK hl
  have hx := C.1
  have hb := C.2.1
  have hown : s.vm.findClass RX10 = some m.cls := C.2.2.2.2.2.1
  have ht := C.2.2.2.2.2.2
  have hl : lv_has ls 2 [(0, .ref (x 0)), (1, .int a1)] := hl
  show Wc_X10_lawful l G x t9 t6 t8 t3 t7 t1 t0 t4 t5 t2 t3_law a1 R p e s m below meth c s.heap [] (F0 m 0 ls [])
  refine lv_iload_n hx hb dX10_lawful_0 rfl (lv_at hl 1 rfl) ?_
  refine lv_iconst (v := 0) hx hb dX10_lawful_1 (by decide) ?_
  refine lv_bipush (v := 11) hx hb dX10_lawful_2 (by decide) ?_
  obtain ⟨q1, r1, hf⟩ := bd_s hf
  refine ro_S (n := 3) (As := [.int a1, .int (0 : Int32), .int (11 : Int32)]) (rest := []) (c_X10_within l G a1 (0 : Int32) (11 : Int32) q1 r1) C hK (hP.sub [] rfl) hl kcode_X10_within kml_X10_83 kst_X10_within kini_X10 (by decide +kernel) ⟨⟨rfl, rfl⟩, Nat.le_of_ble_eq_true rfl, Nat.le_of_ble_eq_true rfl⟩ ⟨Nat.zero_le _, Nat.zero_le _⟩ rfl rfl (Nat.le_of_ble_eq_true rfl) dX10_lawful_4 rfl ?_
  refine lv_if_ne (tgt := 13) hx hb dX10_lawful_7 (by decide) (fun c2 => ?_) (fun c2 => ?_)
  · have hf := o_f c2 hf
    refine lv_aload_n hx hb dX10_lawful_13 rfl (lv_at hl 0 rfl) ?_
    refine va_get (D := G.1) (ci := 10) (v := .ref (t3 0)) (C := RX10) (T := TX10) (N := 11) hx hb ht twX10 hown hK.1 hP 0 rfl rfl 3 (by decide) (ht _ kfl_X10_33) (fun _ h9 => h9) rfl dX10_lawful_14 ?_
    refine va_get (D := G.1) (ci := 3) (v := .ref (t3 1)) (C := RX3) (T := TX3) (N := 1) hx hb ht twX3 hown hK.1 hP 1 rfl rfl 0 (by decide) (ht _ kfl_X10_111) (fun _ h9 => h9) rfl dX10_lawful_17 ?_
    refine lv_iload_n hx hb dX10_lawful_20 rfl (lv_at hl 1 rfl) ?_
    obtain ⟨g3, hf⟩ := gd_s hf
    refine va_iald hx hb hK.1 hP 2 0 rfl rfl g3 dX10_lawful_21 ?_
    have h9 := Option.some.inj hf
    subst h9
    exact ro_iret C rfl dX10_lawful_22
  · have hf := o_t c2 hf
    refine lv_bipush (v := -2) hx hb dX10_lawful_10 (by decide) ?_
    have h9 := Option.some.inj hf
    subst h9
    exact ro_iret C rfl dX10_lawful_12
abbrev Wc_X10_story (l : Launch) (G : TG) (x : Nat → Nat) (t9 : Nat → Nat) (t6 : Nat → Nat) (t8 : Nat → Nat) (t3 : Nat → Nat) (t7 : Nat → Nat) (t1 : Nat → Nat) (t0 : Nat → Nat) (t4 : Nat → Nat) (t5 : Nat → Nat) (t2 : Nat → Nat) (t9_signs : Nat → Int32) (t9_length : Int32) (t8_iceFrom : Nat → Int32) (t8_entries : Int32) (t8_due : Int32) (t8_roundAhead : Int32) (t8_tens : Int32) (t8_roundNow : Int32) (t8_bandAhead : Int32) (t0_ice : Nat → Int32) (a1 : Int32) (R : Int32 × (Nat → Int32) × Int32 × Int32 × Int32 × Int32 × Int32 × Int32 × (Nat → Int32)) (p : Program) (e : Env) (s : State) (m : MethodId) (below : List Frame) (meth : Method) (c : Code) (A : Nat → Prop) (H : Heap) (locs : List Loc) (g : JFrame) : Prop := W p l e ({ frames := 5, cells := 0, slots := 0, locals := 107 }) s m ([.ref (x 0), .int a1] : List Value).toArray below meth c H locs 0 0 (MQ below (rwQ G (some (.int R.1)) [(oX10 x t9 t6 t8 t3 t7 t1 t0 t4 t5 t2), (oX9 t9 t9_length), (wI G (t9 1) 48 t9_signs), (oX8 t8 R.2.2.1 R.2.2.2.1 R.2.2.2.2.1 R.2.2.2.2.2.1 R.2.2.2.2.2.2.1 R.2.2.2.2.2.2.2.1), (wI G (t8 1) 100 R.2.1), (oX0 t0), (wI G (t0 1) 400 R.2.2.2.2.2.2.2.2)] A) ([.ref (x 0), .int a1] : List Value).toArray s 0 0 A) g
set_option maxHeartbeats 4000000 in
set_option maxRecDepth 100000 in
theorem c_X10_story (l : Launch) (G : TG) (x : Nat → Nat) (t9 : Nat → Nat) (t6 : Nat → Nat) (t8 : Nat → Nat) (t3 : Nat → Nat) (t7 : Nat → Nat) (t1 : Nat → Nat) (t0 : Nat → Nat) (t4 : Nat → Nat) (t5 : Nat → Nat) (t2 : Nat → Nat) (t9_signs : Nat → Int32) (t9_length : Int32) (t8_iceFrom : Nat → Int32) (t8_entries : Int32) (t8_due : Int32) (t8_roundAhead : Int32) (t8_tens : Int32) (t8_roundNow : Int32) (t8_bandAhead : Int32) (t0_ice : Nat → Int32) (a1 : Int32) (R : Int32 × (Nat → Int32) × Int32 × Int32 × Int32 × Int32 × Int32 × Int32 × (Nat → Int32)) (hf : f_X10_story t9_signs t9_length t8_iceFrom t8_entries t8_due t8_roundAhead t8_tens t8_roundNow t8_bandAhead t0_ice a1 = some R) : RW l yX10_story cX10_story 2 (some .int) ({ frames := 5, cells := 0, slots := 0, locals := 107 }) G [.ref (x 0), .int a1] [(oX10 x t9 t6 t8 t3 t7 t1 t0 t4 t5 t2), (oX9 t9 t9_length), (wI G (t9 1) 48 t9_signs), (oX8 t8 t8_entries t8_due t8_roundAhead t8_tens t8_roundNow t8_bandAhead), (wI G (t8 1) 100 t8_iceFrom), (oX0 t0), (wI G (t0 1) 400 t0_ice)] (some (.int R.1)) [(oX10 x t9 t6 t8 t3 t7 t1 t0 t4 t5 t2), (oX9 t9 t9_length), (wI G (t9 1) 48 t9_signs), (oX8 t8 R.2.2.1 R.2.2.2.1 R.2.2.2.2.1 R.2.2.2.2.2.1 R.2.2.2.2.2.2.1 R.2.2.2.2.2.2.2.1), (wI G (t8 1) 100 R.2.1), (oX0 t0), (wI G (t0 1) 400 R.2.2.2.2.2.2.2.2)] := by
  refine RW.mk (by decide +kernel) (Nat.le_of_ble_eq_true rfl) ?_
  intro p e s m below meth c ls A C hP hD hA hz hK hl hS
  have hx := C.1
  have hb := C.2.1
  have hown : s.vm.findClass RX10 = some m.cls := C.2.2.2.2.2.1
  have ht := C.2.2.2.2.2.2
  have hl : lv_has ls 2 [(0, .ref (x 0)), (1, .int a1)] := hl
  show Wc_X10_story l G x t9 t6 t8 t3 t7 t1 t0 t4 t5 t2 t9_signs t9_length t8_iceFrom t8_entries t8_due t8_roundAhead t8_tens t8_roundNow t8_bandAhead t0_ice a1 R p e s m below meth c A s.heap [] (F0 m 0 ls [])
  obtain ⟨H, eH, hP, hS⟩ : ∃ H, H = s.heap ∧ va_P G.1 vwCl [(oX10 x t9 t6 t8 t3 t7 t1 t0 t4 t5 t2), (oX9 t9 t9_length), (wI G (t9 1) 48 t9_signs), (oX8 t8 t8_entries t8_due t8_roundAhead t8_tens t8_roundNow t8_bandAhead), (wI G (t8 1) 100 t8_iceFrom), (oX0 t0), (wI G (t0 1) 400 t0_ice)] H ∧ va_S A s.heap H [] := ⟨_, rfl, hP, hS⟩
  obtain ⟨locs, el, hS⟩ : ∃ locs : List Loc, locs = [] ∧ va_S A s.heap H locs := ⟨_, rfl, hS⟩
  have key : Wc_X10_story l G x t9 t6 t8 t3 t7 t1 t0 t4 t5 t2 t9_signs t9_length t8_iceFrom t8_entries t8_due t8_roundAhead t8_tens t8_roundNow t8_bandAhead t0_ice a1 R p e s m below meth c A H locs (F0 m 0 ls []) := by
    refine lv_iload_n hx hb dX10_story_0 rfl (lv_at hl 1 rfl) ?_
    obtain ⟨q1, r1, hf⟩ := bd_s hf
    refine ro_S (n := 1) (As := [.int a1]) (rest := []) (c_X10_isStory l G a1 q1 r1) C (hK.at hS hz) (hP.sub [] rfl) hl kcode_X10_isStory kml_X10_115 kst_X10_isStory kini_X10 (by decide +kernel) ⟨⟨rfl, rfl⟩, Nat.le_of_ble_eq_true rfl, Nat.le_of_ble_eq_true rfl⟩ ⟨Nat.zero_le _, Nat.zero_le _⟩ rfl rfl (Nat.le_of_ble_eq_true rfl) dX10_story_1 rfl ?_
    refine lv_if_ne (tgt := 9) hx hb dX10_story_4 (by decide) (fun c2 => ?_) (fun c2 => ?_)
    · have hf := o_f c2 hf
      refine lv_aload_n hx hb dX10_story_9 rfl (lv_at hl 0 rfl) ?_
      refine va_get (D := G.1) (ci := 10) (v := .ref (t8 0)) (C := RX10) (T := TX10) (N := 11) hx hb ht twX10 hown hK.1 hP 0 rfl rfl 2 (by decide) (ht _ kfl_X10_26) (fun _ h9 => h9) rfl dX10_story_10 ?_
      refine lv_aload_n hx hb dX10_story_13 rfl (lv_at hl 0 rfl) ?_
      refine va_get (D := G.1) (ci := 10) (v := .ref (t9 0)) (C := RX10) (T := TX10) (N := 11) hx hb ht twX10 hown hK.1 hP 0 rfl rfl 0 (by decide) (ht _ kfl_X10_10) (fun _ h9 => h9) rfl dX10_story_14 ?_
      obtain ⟨q3, r3, hf⟩ := bd_s hf
      refine rw_V (n := 1) (As := [.ref (t9 0)]) (rest := []) (wr := [(oX10 x t9 t6 t8 t3 t7 t1 t0 t4 t5 t2), (oX0 t0), (wI G (t0 1) 400 t0_ice)]) (ws2 := [(oX10 x t9 t6 t8 t3 t7 t1 t0 t4 t5 t2), (oX9 t9 t9_length), (wI G (t9 1) 48 t9_signs), (oX8 t8 q3.2.2.1 q3.2.2.2.1 q3.2.2.2.2.1 q3.2.2.2.2.2.1 q3.2.2.2.2.2.2.1 q3.2.2.2.2.2.2.2), (wI G (t8 1) 100 q3.2.1), (oX0 t0), (wI G (t0 1) 400 t0_ice)]) (c_X8_faultOf l G t8 t9 t8_iceFrom t8_entries t8_due t8_roundAhead t8_tens t8_roundNow t8_bandAhead t9_signs t9_length q3 r3) C hK hP hD hS hA hz hl [3, 4, 1, 2] [0, 5, 6] [0, 5, 6, 3, 4, 1, 2] rfl rfl rfl rfl rfl (by decide) rfl rfl rfl kcode_X8_faultOf kml_X10_99 kim_X8_faultOf ksel_X8_faultOf kini_X8 (by decide +kernel) ⟨⟨rfl, rfl⟩, Nat.le_of_ble_eq_true rfl, Nat.le_of_ble_eq_true rfl⟩ ⟨Nat.zero_le _, Nat.zero_le _⟩ rfl rfl rfl rfl rfl (Nat.le_of_ble_eq_true rfl) dX10_story_17 rfl (fun H locs hP hD hS => ?_)
      refine lv_bipush (v := -9) hx hb dX10_story_20 (by decide) ?_
      refine lv_icmp_eq (tgt := 28) hx hb dX10_story_22 (by decide) (fun c4 => ?_) (fun c4 => ?_)
      · have hf := o_t c4 hf
        refine lv_aload_n hx hb dX10_story_28 rfl (lv_at hl 0 rfl) ?_
        refine va_get (D := G.1) (ci := 10) (v := .ref (t8 0)) (C := RX10) (T := TX10) (N := 11) hx hb ht twX10 hown hK.1 hP 0 rfl rfl 2 (by decide) (ht _ kfl_X10_26) (fun _ h9 => h9) rfl dX10_story_29 ?_
        refine lv_aload_n hx hb dX10_story_32 rfl (lv_at hl 0 rfl) ?_
        refine va_get (D := G.1) (ci := 10) (v := .ref (t0 0)) (C := RX10) (T := TX10) (N := 11) hx hb ht twX10 hown hK.1 hP 0 rfl rfl 6 (by decide) (ht _ kfl_X10_54) (fun _ h9 => h9) rfl dX10_story_33 ?_
        refine lv_iload_n hx hb dX10_story_36 rfl (lv_at hl 1 rfl) ?_
        obtain ⟨q5, r5, hf⟩ := bd_s hf
        refine rw_V (n := 2) (As := [.ref (t0 0), .int a1]) (rest := []) (wr := [(oX10 x t9 t6 t8 t3 t7 t1 t0 t4 t5 t2), (oX9 t9 t9_length), (wI G (t9 1) 48 t9_signs)]) (ws2 := [(oX10 x t9 t6 t8 t3 t7 t1 t0 t4 t5 t2), (oX9 t9 t9_length), (wI G (t9 1) 48 t9_signs), (oX8 t8 q3.2.2.1 q3.2.2.2.1 q3.2.2.2.2.1 q3.2.2.2.2.2.1 q3.2.2.2.2.2.2.1 q3.2.2.2.2.2.2.2), (wI G (t8 1) 100 q3.2.1), (oX0 t0), (wI G (t0 1) 400 q5)]) (c_X8_giveTo l G t8 t0 q3.2.1 q3.2.2.1 q3.2.2.2.1 q3.2.2.2.2.1 q3.2.2.2.2.2.1 q3.2.2.2.2.2.2.1 q3.2.2.2.2.2.2.2 t0_ice a1 q5 r5) C hK hP hD hS hA hz hl [3, 4, 5, 6] [0, 1, 2] [0, 1, 2, 3, 4, 5, 6] rfl rfl rfl rfl rfl (by decide) rfl rfl rfl kcode_X8_giveTo kml_X10_118 kim_X8_giveTo ksel_X8_giveTo kini_X8 (by decide +kernel) ⟨⟨rfl, rfl⟩, Nat.le_of_ble_eq_true rfl, Nat.le_of_ble_eq_true rfl⟩ ⟨Nat.zero_le _, Nat.zero_le _⟩ rfl rfl rfl rfl rfl (Nat.le_of_ble_eq_true rfl) dX10_story_37 rfl (fun H locs hP hD hS => ?_)
        refine lv_aload_n hx hb dX10_story_40 rfl (lv_at hl 0 rfl) ?_
        refine va_get (D := G.1) (ci := 10) (v := .ref (t8 0)) (C := RX10) (T := TX10) (N := 11) hx hb ht twX10 hown hK.1 hP 0 rfl rfl 2 (by decide) (ht _ kfl_X10_26) (fun _ h9 => h9) rfl dX10_story_41 ?_
        refine va_get (D := G.1) (ci := 8) (v := .int q3.2.2.1) (C := RX8) (T := TX8) (N := 7) hx hb ht twX8 hown hK.1 hP 3 rfl rfl 1 (by decide) (ht _ kfl_X10_121) (fun _ h9 => h9) rfl dX10_story_44 ?_
        have h9 := Option.some.inj hf
        subst h9
        exact rw_iret C rfl hP hD hS dX10_story_47
      · have hf := o_f c4 hf
        refine lv_bipush (v := -3) hx hb dX10_story_25 (by decide) ?_
        have h9 := Option.some.inj hf
        subst h9
        exact rw_iret C rfl hP hD hS dX10_story_27
    · have hf := o_t c2 hf
      refine lv_iconst (v := -1) hx hb dX10_story_7 (by decide) ?_
      have h9 := Option.some.inj hf
      subst h9
      exact rw_iret C rfl hP hD hS dX10_story_8
  rw [eH, el] at key
  exact key
abbrev Wc_X10_isIce (l : Launch) (G : TG) (a0 : Int32) (R : Int32) (p : Program) (e : Env) (s : State) (m : MethodId) (below : List Frame) (meth : Method) (c : Code) (H : Heap) (locs : List Loc) (g : JFrame) : Prop := W p l e ({ frames := 1, cells := 0, slots := 0, locals := 22 }) s m ([.int a0] : List Value).toArray below meth c H locs 0 0 (MQ below (roQ (some (.int R))) ([.int a0] : List Value).toArray s 0 0 (fun _ => False)) g
set_option maxHeartbeats 4000000 in
set_option maxRecDepth 100000 in
theorem c_X10_isIce (l : Launch) (G : TG) (a0 : Int32) (R : Int32) (hf : f_X10_isIce a0 = some R) : RO l yX10_isIce cX10_isIce 1 (some .boolean) ({ frames := 1, cells := 0, slots := 0, locals := 22 }) G [.int a0] [] (some (.int R)) := by
  refine RO.mk (by decide +kernel) (Nat.le_of_ble_eq_true rfl) ?_
  intro p e s m below meth c ls C hP hK hl
  have hx := C.1
  have hb := C.2.1
  have hown : s.vm.findClass RX10 = some m.cls := C.2.2.2.2.2.1
  have ht := C.2.2.2.2.2.2
  have hl : lv_has ls 1 [(0, .int a0)] := hl
  show Wc_X10_isIce l G a0 R p e s m below meth c s.heap [] (F0 m 0 ls [])
  refine lv_iload_n hx hb dX10_isIce_0 rfl (lv_at hl 0 rfl) ?_
  refine lv_iconst (v := 0) hx hb dX10_isIce_1 (by decide) ?_
  refine lv_bipush (v := 63) hx hb dX10_isIce_2 (by decide) ?_
  obtain ⟨q1, r1, hf⟩ := bd_s hf
  refine ro_S (n := 3) (As := [.int a0, .int (0 : Int32), .int (63 : Int32)]) (rest := []) (c_X10_within l G a0 (0 : Int32) (63 : Int32) q1 r1) C hK (hP.sub [] rfl) hl kcode_X10_within kml_X10_83 kst_X10_within kini_X10 (by decide +kernel) ⟨⟨rfl, rfl⟩, Nat.le_of_ble_eq_true rfl, Nat.le_of_ble_eq_true rfl⟩ ⟨Nat.zero_le _, Nat.zero_le _⟩ rfl rfl (Nat.le_of_ble_eq_true rfl) dX10_isIce_4 rfl ?_
  obtain ⟨z2, hf⟩ := zb_s hf
  have h9 := Option.some.inj hf
  subst h9
  exact ro_zret C z2 rfl dX10_isIce_7
abbrev Wc_X10_isAir (l : Launch) (G : TG) (a0 : Int32) (R : Int32) (p : Program) (e : Env) (s : State) (m : MethodId) (below : List Frame) (meth : Method) (c : Code) (H : Heap) (locs : List Loc) (g : JFrame) : Prop := W p l e ({ frames := 1, cells := 0, slots := 0, locals := 22 }) s m ([.int a0] : List Value).toArray below meth c H locs 0 0 (MQ below (roQ (some (.int R))) ([.int a0] : List Value).toArray s 0 0 (fun _ => False)) g
set_option maxHeartbeats 4000000 in
set_option maxRecDepth 100000 in
theorem c_X10_isAir (l : Launch) (G : TG) (a0 : Int32) (R : Int32) (hf : f_X10_isAir a0 = some R) : RO l yX10_isAir cX10_isAir 1 (some .boolean) ({ frames := 1, cells := 0, slots := 0, locals := 22 }) G [.int a0] [] (some (.int R)) := by
  refine RO.mk (by decide +kernel) (Nat.le_of_ble_eq_true rfl) ?_
  intro p e s m below meth c ls C hP hK hl
  have hx := C.1
  have hb := C.2.1
  have hown : s.vm.findClass RX10 = some m.cls := C.2.2.2.2.2.1
  have ht := C.2.2.2.2.2.2
  have hl : lv_has ls 1 [(0, .int a0)] := hl
  show Wc_X10_isAir l G a0 R p e s m below meth c s.heap [] (F0 m 0 ls [])
  refine lv_iload_n hx hb dX10_isAir_0 rfl (lv_at hl 0 rfl) ?_
  refine lv_iconst (v := 0) hx hb dX10_isAir_1 (by decide) ?_
  refine lv_bipush (v := 99) hx hb dX10_isAir_2 (by decide) ?_
  obtain ⟨q1, r1, hf⟩ := bd_s hf
  refine ro_S (n := 3) (As := [.int a0, .int (0 : Int32), .int (99 : Int32)]) (rest := []) (c_X10_within l G a0 (0 : Int32) (99 : Int32) q1 r1) C hK (hP.sub [] rfl) hl kcode_X10_within kml_X10_83 kst_X10_within kini_X10 (by decide +kernel) ⟨⟨rfl, rfl⟩, Nat.le_of_ble_eq_true rfl, Nat.le_of_ble_eq_true rfl⟩ ⟨Nat.zero_le _, Nat.zero_le _⟩ rfl rfl (Nat.le_of_ble_eq_true rfl) dX10_isAir_4 rfl ?_
  obtain ⟨z2, hf⟩ := zb_s hf
  have h9 := Option.some.inj hf
  subst h9
  exact ro_zret C z2 rfl dX10_isAir_7
abbrev Wc_X10_lived (l : Launch) (G : TG) (x : Nat → Nat) (t9 : Nat → Nat) (t6 : Nat → Nat) (t8 : Nat → Nat) (t3 : Nat → Nat) (t7 : Nat → Nat) (t1 : Nat → Nat) (t0 : Nat → Nat) (t4 : Nat → Nat) (t5 : Nat → Nat) (t2 : Nat → Nat) (t3_law : Nat → Int32) (t0_ice : Nat → Int32) (a1 : Int32) (a2 : Int32) (a3 : Int32) (R : Int32 × (Nat → Int32)) (p : Program) (e : Env) (s : State) (m : MethodId) (below : List Frame) (meth : Method) (c : Code) (A : Nat → Prop) (H : Heap) (locs : List Loc) (g : JFrame) : Prop := W p l e ({ frames := 5, cells := 0, slots := 0, locals := 119 }) s m ([.ref (x 0), .int a1, .int a2, .int a3] : List Value).toArray below meth c H locs 0 0 (MQ below (rwQ G (some (.int R.1)) [(oX10 x t9 t6 t8 t3 t7 t1 t0 t4 t5 t2), (oX3 t3), (wI G (t3 1) 12 t3_law), (oX0 t0), (wI G (t0 1) 400 R.2)] A) ([.ref (x 0), .int a1, .int a2, .int a3] : List Value).toArray s 0 0 A) g
set_option maxHeartbeats 4000000 in
set_option maxRecDepth 100000 in
theorem c_X10_lived (l : Launch) (G : TG) (x : Nat → Nat) (t9 : Nat → Nat) (t6 : Nat → Nat) (t8 : Nat → Nat) (t3 : Nat → Nat) (t7 : Nat → Nat) (t1 : Nat → Nat) (t0 : Nat → Nat) (t4 : Nat → Nat) (t5 : Nat → Nat) (t2 : Nat → Nat) (t3_law : Nat → Int32) (t0_ice : Nat → Int32) (a1 : Int32) (a2 : Int32) (a3 : Int32) (R : Int32 × (Nat → Int32)) (hf : f_X10_lived t3_law t0_ice a1 a2 a3 = some R) : RW l yX10_lived cX10_lived 8 (some .int) ({ frames := 5, cells := 0, slots := 0, locals := 119 }) G [.ref (x 0), .int a1, .int a2, .int a3] [(oX10 x t9 t6 t8 t3 t7 t1 t0 t4 t5 t2), (oX3 t3), (wI G (t3 1) 12 t3_law), (oX0 t0), (wI G (t0 1) 400 t0_ice)] (some (.int R.1)) [(oX10 x t9 t6 t8 t3 t7 t1 t0 t4 t5 t2), (oX3 t3), (wI G (t3 1) 12 t3_law), (oX0 t0), (wI G (t0 1) 400 R.2)] := by
  refine RW.mk (by decide +kernel) (Nat.le_of_ble_eq_true rfl) ?_
  intro p e s m below meth c ls A C hP hD hA hz hK hl hS
  have hx := C.1
  have hb := C.2.1
  have hown : s.vm.findClass RX10 = some m.cls := C.2.2.2.2.2.1
  have ht := C.2.2.2.2.2.2
  have hl : lv_has ls 8 [(0, .ref (x 0)), (1, .int a1), (2, .int a2), (3, .int a3)] := hl
  show Wc_X10_lived l G x t9 t6 t8 t3 t7 t1 t0 t4 t5 t2 t3_law t0_ice a1 a2 a3 R p e s m below meth c A s.heap [] (F0 m 0 ls [])
  obtain ⟨H, eH, hP, hS⟩ : ∃ H, H = s.heap ∧ va_P G.1 vwCl [(oX10 x t9 t6 t8 t3 t7 t1 t0 t4 t5 t2), (oX3 t3), (wI G (t3 1) 12 t3_law), (oX0 t0), (wI G (t0 1) 400 t0_ice)] H ∧ va_S A s.heap H [] := ⟨_, rfl, hP, hS⟩
  obtain ⟨locs, el, hS⟩ : ∃ locs : List Loc, locs = [] ∧ va_S A s.heap H locs := ⟨_, rfl, hS⟩
  have key : Wc_X10_lived l G x t9 t6 t8 t3 t7 t1 t0 t4 t5 t2 t3_law t0_ice a1 a2 a3 R p e s m below meth c A H locs (F0 m 0 ls []) := by
    refine lv_iload_n hx hb dX10_lived_0 rfl (lv_at hl 1 rfl) ?_
    obtain ⟨q1, r1, hf⟩ := bd_s hf
    refine ro_S (n := 1) (As := [.int a1]) (rest := []) (c_X10_isStory l G a1 q1 r1) C (hK.at hS hz) (hP.sub [] rfl) hl kcode_X10_isStory kml_X10_115 kst_X10_isStory kini_X10 (by decide +kernel) ⟨⟨rfl, rfl⟩, Nat.le_of_ble_eq_true rfl, Nat.le_of_ble_eq_true rfl⟩ ⟨Nat.zero_le _, Nat.zero_le _⟩ rfl rfl (Nat.le_of_ble_eq_true rfl) dX10_lived_1 rfl ?_
    refine lv_if_ne (tgt := 9) hx hb dX10_lived_4 (by decide) (fun c2 => ?_) (fun c2 => ?_)
    · have hf := o_f c2 hf
      refine lv_iload_n hx hb dX10_lived_9 rfl (lv_at hl 2 rfl) ?_
      obtain ⟨q3, r3, hf⟩ := bd_s hf
      refine ro_S (n := 1) (As := [.int a2]) (rest := []) (c_X10_isIce l G a2 q3 r3) C (hK.at hS hz) (hP.sub [] rfl) hl kcode_X10_isIce kml_X10_124 kst_X10_isIce kini_X10 (by decide +kernel) ⟨⟨rfl, rfl⟩, Nat.le_of_ble_eq_true rfl, Nat.le_of_ble_eq_true rfl⟩ ⟨Nat.zero_le _, Nat.zero_le _⟩ rfl rfl (Nat.le_of_ble_eq_true rfl) dX10_lived_10 rfl ?_
      refine lv_if_eq (tgt := 23) hx hb dX10_lived_13 (by decide) (fun c4 => ?_) (fun c4 => ?_)
      · have hf := o_t c4 hf
        refine lv_bipush (v := -2) hx hb dX10_lived_23 (by decide) ?_
        have h9 := Option.some.inj hf
        subst h9
        exact rw_iret C rfl hP hD hS dX10_lived_25
      · have hf := o_f c4 hf
        refine lv_iload_n hx hb dX10_lived_16 rfl (lv_at hl 3 rfl) ?_
        obtain ⟨q6, r6, hf⟩ := bd_s hf
        refine ro_S (n := 1) (As := [.int a3]) (rest := []) (c_X10_isAir l G a3 q6 r6) C (hK.at hS hz) (hP.sub [] rfl) hl kcode_X10_isAir kml_X10_127 kst_X10_isAir kini_X10 (by decide +kernel) ⟨⟨rfl, rfl⟩, Nat.le_of_ble_eq_true rfl, Nat.le_of_ble_eq_true rfl⟩ ⟨Nat.zero_le _, Nat.zero_le _⟩ rfl rfl (Nat.le_of_ble_eq_true rfl) dX10_lived_17 rfl ?_
        refine lv_if_ne (tgt := 26) hx hb dX10_lived_20 (by decide) (fun c7 => ?_) (fun c7 => ?_)
        · have hf := o_f c7 hf
          refine lv_iconst (v := 0) hx hb dX10_lived_26 (by decide) ?_
          refine lv_istore (lv' := [(4, .int (0 : Int32)), (0, .ref (x 0)), (1, .int a1), (2, .int a2), (3, .int a3)]) hx hb dX10_lived_27 hl (by decide) rfl (fun ls hl => ?_)
          refine lv_iload_n hx hb dX10_lived_29 rfl (lv_at hl 3 rfl) ?_
          refine lv_iload_n hx hb dX10_lived_30 rfl (lv_at hl 4 rfl) ?_
          obtain ⟨q8, r8, hf⟩ := bd_s hf
          refine ro_S (n := 2) (As := [.int a2, .int a3]) (rest := []) (c_X3_stateOf l G a2 a3 q8 r8) C (hK.at hS hz) (hP.sub [] rfl) hl kcode_X3_stateOf kml_X10_130 kst_X3_stateOf kini_X3 (by decide +kernel) ⟨⟨rfl, rfl⟩, Nat.le_of_ble_eq_true rfl, Nat.le_of_ble_eq_true rfl⟩ ⟨Nat.zero_le _, Nat.zero_le _⟩ rfl rfl (Nat.le_of_ble_eq_true rfl) dX10_lived_31 rfl ?_
          refine lv_istore (lv' := [(5, .int q8), (4, .int (0 : Int32)), (0, .ref (x 0)), (1, .int a1), (2, .int a2), (3, .int a3)]) hx hb dX10_lived_34 hl (by decide) rfl (fun ls hl => ?_)
          refine lv_iconst (v := 0) hx hb dX10_lived_36 (by decide) ?_
          refine lv_istore (lv' := [(6, .int (0 : Int32)), (5, .int q8), (4, .int (0 : Int32)), (0, .ref (x 0)), (1, .int a1), (2, .int a2), (3, .int a3)]) hx hb dX10_lived_37 hl (by decide) rfl (fun ls hl => ?_)
          have hx92_9 : ∀ (v4 : Int32) (t0_ice : Nat → Int32) (H : Heap) (locs : List Loc) (ls : Array Slot), f_X10_lived_x92_9 v4 t0_ice = some R → va_P G.1 vwCl [(oX10 x t9 t6 t8 t3 t7 t1 t0 t4 t5 t2), (oX3 t3), (wI G (t3 1) 12 t3_law), (oX0 t0), (wI G (t0 1) 400 t0_ice)] H → va_D A [(oX10 x t9 t6 t8 t3 t7 t1 t0 t4 t5 t2), (oX3 t3), (wI G (t3 1) 12 t3_law), (oX0 t0), (wI G (t0 1) 400 t0_ice)] → va_S A s.heap H locs → lv_has ls 8 [(4, .int v4)] → Wc_X10_lived l G x t9 t6 t8 t3 t7 t1 t0 t4 t5 t2 t3_law t0_ice a1 a2 a3 R p e s m below meth c A H locs (F0 m 92 ls []) := by
            intro v4 t0_ice H locs ls hf hP hD hS hl
            refine lv_iload hx hb dX10_lived_92 (lv_at hl 0 rfl) ?_
            have h9 := Option.some.inj hf
            subst h9
            exact rw_iret C rfl hP hD hS dX10_lived_94
          obtain ⟨rL9, hL9, hk9⟩ := bd_s hf
          refine lp_W (P := fun st => ∀ (H : Heap) (locs : List Loc) (ls : Array Slot), va_P G.1 vwCl [(oX10 x t9 t6 t8 t3 t7 t1 t0 t4 t5 t2), (oX3 t3), (wI G (t3 1) 12 t3_law), (oX0 t0), (wI G (t0 1) 400 st.2.2.2)] H → va_D A [(oX10 x t9 t6 t8 t3 t7 t1 t0 t4 t5 t2), (oX3 t3), (wI G (t3 1) 12 t3_law), (oX0 t0), (wI G (t0 1) 400 st.2.2.2)] → va_S A s.heap H locs → lv_has ls 8 [(0, .ref (x 0)), (1, .int a1), (4, .int st.1), (5, .int st.2.1), (6, .int st.2.2.1)] → Wc_X10_lived l G x t9 t6 t8 t3 t7 t1 t0 t4 t5 t2 t3_law t0_ice a1 a2 a3 R p e s m below meth c A H locs (F0 m 39 ls [])) ?_ FU ((0 : Int32), q8, (0 : Int32), t0_ice) hL9 H locs ls hP hD hS (lv_sub hl [3, 4, 2, 1, 0] rfl)
          intro ⟨v4, v5, v6, t0_ice⟩ oc9 hf hI hE H locs ls hP hD hS hl
          have hP : va_P G.1 vwCl [(oX10 x t9 t6 t8 t3 t7 t1 t0 t4 t5 t2), (oX3 t3), (wI G (t3 1) 12 t3_law), (oX0 t0), (wI G (t0 1) 400 t0_ice)] H := hP
          have hD : va_D A [(oX10 x t9 t6 t8 t3 t7 t1 t0 t4 t5 t2), (oX3 t3), (wI G (t3 1) 12 t3_law), (oX0 t0), (wI G (t0 1) 400 t0_ice)] := hD
          have hl : lv_has ls 8 [(0, .ref (x 0)), (1, .int a1), (4, .int v4), (5, .int v5), (6, .int v6)] := hl
          have hf : f_X10_lived_b39 t3_law a1 v4 v5 v6 t0_ice = some oc9 := hf
          have hj75 : ∀ (v4 : Int32) (v5 : Int32) (v6 : Int32) (t0_ice : Nat → Int32) (H : Heap) (locs : List Loc) (ls : Array Slot), f_X10_lived_j75 t3_law v4 v5 v6 t0_ice = some oc9 → va_P G.1 vwCl [(oX10 x t9 t6 t8 t3 t7 t1 t0 t4 t5 t2), (oX3 t3), (wI G (t3 1) 12 t3_law), (oX0 t0), (wI G (t0 1) 400 t0_ice)] H → va_D A [(oX10 x t9 t6 t8 t3 t7 t1 t0 t4 t5 t2), (oX3 t3), (wI G (t3 1) 12 t3_law), (oX0 t0), (wI G (t0 1) 400 t0_ice)] → va_S A s.heap H locs → lv_has ls 8 [(0, .ref (x 0)), (1, .int a1), (4, .int v4), (5, .int v5), (6, .int v6)] → Wc_X10_lived l G x t9 t6 t8 t3 t7 t1 t0 t4 t5 t2 t3_law t0_ice a1 a2 a3 R p e s m below meth c A H locs (F0 m 75 ls []) := by
            intro v4 v5 v6 t0_ice H locs ls hf hP hD hS hl
            refine lv_aload_n hx hb dX10_lived_75 rfl (lv_at hl 0 rfl) ?_
            refine va_get (D := G.1) (ci := 10) (v := .ref (t3 0)) (C := RX10) (T := TX10) (N := 11) hx hb ht twX10 hown hK.1 hP 0 rfl rfl 3 (by decide) (ht _ kfl_X10_33) (fun _ h9 => h9) rfl dX10_lived_76 ?_
            refine lv_iload hx hb dX10_lived_79 (lv_at hl 3 rfl) ?_
            obtain ⟨q11, r11, hf⟩ := bd_s hf
            refine ro_V (n := 1) (As := [.int v5]) (rest := []) (c_X3_stateAfter l G t3 t3_law v5 q11 r11) C (hK.at hS hz) (hP.sub [1, 2] rfl) hl kcode_X3_stateAfter kml_X10_142 kim_X3_stateAfter ksel_X3_stateAfter kini_X3 (by decide +kernel) ⟨⟨rfl, rfl⟩, Nat.le_of_ble_eq_true rfl, Nat.le_of_ble_eq_true rfl⟩ ⟨Nat.zero_le _, Nat.zero_le _⟩ rfl rfl rfl rfl rfl (Nat.le_of_ble_eq_true rfl) dX10_lived_81 rfl ?_
            refine lv_istore (lv' := [(5, .int q11), (0, .ref (x 0)), (1, .int a1), (4, .int v4), (6, .int v6)]) hx hb dX10_lived_84 hl (by decide) rfl (fun ls hl => ?_)
            refine lv_iinc (v := (v6 + (1 : Int32))) (lv' := [(6, .int (v6 + (1 : Int32))), (5, .int q11), (0, .ref (x 0)), (1, .int a1), (4, .int v4)]) hx hb dX10_lived_86 hl (k := 4) rfl (by rfl) (by decide) rfl (fun ls hl => ?_)
            refine lv_goto (tgt := 39) hx hb dX10_lived_89 (by decide) ?_
            cases hf
            exact hI _ rfl H locs ls hP hD hS (lv_sub hl [2, 3, 4, 1, 0] rfl)
          refine lv_iload hx hb dX10_lived_39 (lv_at hl 4 rfl) ?_
          refine lv_bipush (v := 100) hx hb dX10_lived_41 (by decide) ?_
          refine lv_icmp_ge (tgt := 92) hx hb dX10_lived_43 (by decide) (fun c12 => ?_) (fun c12 => ?_)
          · have hf := o_t c12 hf
            cases hf
            have hf : f_X10_lived_x92_9 v4 t0_ice = some R := by have h9 := hk9; rw [← hE _ rfl] at h9; exact h9
            exact hx92_9 v4 t0_ice H locs ls hf hP hD hS (lv_sub hl [2] rfl)
          · have hf := o_f c12 hf
            refine lv_iload hx hb dX10_lived_46 (lv_at hl 3 rfl) ?_
            obtain ⟨q13, r13, hf⟩ := bd_s hf
            refine ro_S (n := 1) (As := [.int v5]) (rest := []) (c_X3_iceIn l G v5 q13 r13) C (hK.at hS hz) (hP.sub [] rfl) hl kcode_X3_iceIn kml_X10_134 kst_X3_iceIn kini_X3 (by decide +kernel) ⟨⟨rfl, rfl⟩, Nat.le_of_ble_eq_true rfl, Nat.le_of_ble_eq_true rfl⟩ ⟨Nat.zero_le _, Nat.zero_le _⟩ rfl rfl (Nat.le_of_ble_eq_true rfl) dX10_lived_48 rfl ?_
            refine lv_istore (lv' := [(7, .int q13), (0, .ref (x 0)), (1, .int a1), (4, .int v4), (5, .int v5), (6, .int v6)]) hx hb dX10_lived_51 hl (by decide) rfl (fun ls hl => ?_)
            refine lv_aload_n hx hb dX10_lived_53 rfl (lv_at hl 1 rfl) ?_
            refine va_get (D := G.1) (ci := 10) (v := .ref (t0 0)) (C := RX10) (T := TX10) (N := 11) hx hb ht twX10 hown hK.1 hP 0 rfl rfl 6 (by decide) (ht _ kfl_X10_54) (fun _ h9 => h9) rfl dX10_lived_54 ?_
            refine lv_iload_n hx hb dX10_lived_57 rfl (lv_at hl 2 rfl) ?_
            refine lv_iload hx hb dX10_lived_58 (lv_at hl 5 rfl) ?_
            refine lv_iload hx hb dX10_lived_60 (lv_at hl 0 rfl) ?_
            obtain ⟨q14, r14, hf⟩ := bd_s hf
            refine rw_V (n := 3) (As := [.int a1, .int v6, .int q13]) (rest := []) (wr := [(oX10 x t9 t6 t8 t3 t7 t1 t0 t4 t5 t2), (oX3 t3), (wI G (t3 1) 12 t3_law)]) (ws2 := [(oX10 x t9 t6 t8 t3 t7 t1 t0 t4 t5 t2), (oX3 t3), (wI G (t3 1) 12 t3_law), (oX0 t0), (wI G (t0 1) 400 q14)]) (c_X0_tell l G t0 t0_ice a1 v6 q13 q14 r14) C hK hP hD hS hA hz hl [3, 4] [0, 1, 2] [0, 1, 2, 3, 4] rfl rfl rfl rfl rfl (by decide) rfl rfl rfl kcode_X0_tell kml_X10_138 kim_X0_tell ksel_X0_tell kini_X0 (by decide +kernel) ⟨⟨rfl, rfl⟩, Nat.le_of_ble_eq_true rfl, Nat.le_of_ble_eq_true rfl⟩ ⟨Nat.zero_le _, Nat.zero_le _⟩ rfl rfl rfl rfl rfl (Nat.le_of_ble_eq_true rfl) dX10_lived_62 rfl (fun H locs hP hD hS => ?_)
            refine lv_iload hx hb dX10_lived_65 (lv_at hl 0 rfl) ?_
            refine lv_bipush (v := 63) hx hb dX10_lived_67 (by decide) ?_
            refine lv_icmp_ne (tgt := 75) hx hb dX10_lived_69 (by decide) (fun c15 => ?_) (fun c15 => ?_)
            · have hf := o_f c15 hf
              exact hj75 v4 v5 v6 q14 H locs ls hf hP hD hS (lv_sub hl [1, 2, 3, 4, 5] rfl)
            · have hf := o_t c15 hf
              refine lv_iinc (v := (v4 + (1 : Int32))) (lv' := [(4, .int (v4 + (1 : Int32))), (7, .int q13), (0, .ref (x 0)), (1, .int a1), (5, .int v5), (6, .int v6)]) hx hb dX10_lived_72 hl (k := 3) rfl (by rfl) (by decide) rfl (fun ls hl => ?_)
              exact hj75 (v4 + (1 : Int32)) v5 v6 q14 H locs ls hf hP hD hS (lv_sub hl [2, 3, 0, 4, 5] rfl)
        · have hf := o_t c7 hf
          refine lv_bipush (v := -2) hx hb dX10_lived_23 (by decide) ?_
          have h9 := Option.some.inj hf
          subst h9
          exact rw_iret C rfl hP hD hS dX10_lived_25
    · have hf := o_t c2 hf
      refine lv_iconst (v := -1) hx hb dX10_lived_7 (by decide) ?_
      have h9 := Option.some.inj hf
      subst h9
      exact rw_iret C rfl hP hD hS dX10_lived_8
  rw [eH, el] at key
  exact key
abbrev Wc_X10_at (l : Launch) (G : TG) (x : Nat → Nat) (t9 : Nat → Nat) (t6 : Nat → Nat) (t8 : Nat → Nat) (t3 : Nat → Nat) (t7 : Nat → Nat) (t1 : Nat → Nat) (t0 : Nat → Nat) (t4 : Nat → Nat) (t5 : Nat → Nat) (t2 : Nat → Nat) (t0_ice : Nat → Int32) (a1 : Int32) (a2 : Int32) (R : Int32) (p : Program) (e : Env) (s : State) (m : MethodId) (below : List Frame) (meth : Method) (c : Code) (H : Heap) (locs : List Loc) (g : JFrame) : Prop := W p l e ({ frames := 3, cells := 0, slots := 0, locals := 64 }) s m ([.ref (x 0), .int a1, .int a2] : List Value).toArray below meth c H locs 0 0 (MQ below (roQ (some (.int R))) ([.ref (x 0), .int a1, .int a2] : List Value).toArray s 0 0 (fun _ => False)) g
set_option maxHeartbeats 4000000 in
set_option maxRecDepth 100000 in
theorem c_X10_at (l : Launch) (G : TG) (x : Nat → Nat) (t9 : Nat → Nat) (t6 : Nat → Nat) (t8 : Nat → Nat) (t3 : Nat → Nat) (t7 : Nat → Nat) (t1 : Nat → Nat) (t0 : Nat → Nat) (t4 : Nat → Nat) (t5 : Nat → Nat) (t2 : Nat → Nat) (t0_ice : Nat → Int32) (a1 : Int32) (a2 : Int32) (R : Int32) (hf : f_X10_at t0_ice a1 a2 = some R) : RO l yX10_at cX10_at 3 (some .int) ({ frames := 3, cells := 0, slots := 0, locals := 64 }) G [.ref (x 0), .int a1, .int a2] [(oX10 x t9 t6 t8 t3 t7 t1 t0 t4 t5 t2), (oX0 t0), (wI G (t0 1) 400 t0_ice)] (some (.int R)) := by
  refine RO.mk (by decide +kernel) (Nat.le_of_ble_eq_true rfl) ?_
  intro p e s m below meth c ls C hP hK hl
  have hx := C.1
  have hb := C.2.1
  have hown : s.vm.findClass RX10 = some m.cls := C.2.2.2.2.2.1
  have ht := C.2.2.2.2.2.2
  have hl : lv_has ls 3 [(0, .ref (x 0)), (1, .int a1), (2, .int a2)] := hl
  show Wc_X10_at l G x t9 t6 t8 t3 t7 t1 t0 t4 t5 t2 t0_ice a1 a2 R p e s m below meth c s.heap [] (F0 m 0 ls [])
  refine lv_iload_n hx hb dX10_at_0 rfl (lv_at hl 1 rfl) ?_
  obtain ⟨q1, r1, hf⟩ := bd_s hf
  refine ro_S (n := 1) (As := [.int a1]) (rest := []) (c_X10_isStory l G a1 q1 r1) C hK (hP.sub [] rfl) hl kcode_X10_isStory kml_X10_115 kst_X10_isStory kini_X10 (by decide +kernel) ⟨⟨rfl, rfl⟩, Nat.le_of_ble_eq_true rfl, Nat.le_of_ble_eq_true rfl⟩ ⟨Nat.zero_le _, Nat.zero_le _⟩ rfl rfl (Nat.le_of_ble_eq_true rfl) dX10_at_1 rfl ?_
  refine lv_if_ne (tgt := 9) hx hb dX10_at_4 (by decide) (fun c2 => ?_) (fun c2 => ?_)
  · have hf := o_f c2 hf
    refine lv_iload_n hx hb dX10_at_9 rfl (lv_at hl 2 rfl) ?_
    obtain ⟨q3, r3, hf⟩ := bd_s hf
    refine ro_S (n := 1) (As := [.int a2]) (rest := []) (c_X10_isRound l G a2 q3 r3) C hK (hP.sub [] rfl) hl kcode_X10_isRound kml_X10_145 kst_X10_isRound kini_X10 (by decide +kernel) ⟨⟨rfl, rfl⟩, Nat.le_of_ble_eq_true rfl, Nat.le_of_ble_eq_true rfl⟩ ⟨Nat.zero_le _, Nat.zero_le _⟩ rfl rfl (Nat.le_of_ble_eq_true rfl) dX10_at_10 rfl ?_
    refine lv_if_ne (tgt := 19) hx hb dX10_at_13 (by decide) (fun c4 => ?_) (fun c4 => ?_)
    · have hf := o_f c4 hf
      refine lv_aload_n hx hb dX10_at_19 rfl (lv_at hl 0 rfl) ?_
      refine va_get (D := G.1) (ci := 10) (v := .ref (t0 0)) (C := RX10) (T := TX10) (N := 11) hx hb ht twX10 hown hK.1 hP 0 rfl rfl 6 (by decide) (ht _ kfl_X10_54) (fun _ h9 => h9) rfl dX10_at_20 ?_
      refine lv_iload_n hx hb dX10_at_23 rfl (lv_at hl 1 rfl) ?_
      refine lv_iload_n hx hb dX10_at_24 rfl (lv_at hl 2 rfl) ?_
      obtain ⟨q5, r5, hf⟩ := bd_s hf
      refine ro_V (n := 2) (As := [.int a1, .int a2]) (rest := []) (c_X0_iceOf l G t0 t0_ice a1 a2 q5 r5) C hK (hP.sub [1, 2] rfl) hl kcode_X0_iceOf kml_X10_148 kim_X0_iceOf ksel_X0_iceOf kini_X0 (by decide +kernel) ⟨⟨rfl, rfl⟩, Nat.le_of_ble_eq_true rfl, Nat.le_of_ble_eq_true rfl⟩ ⟨Nat.zero_le _, Nat.zero_le _⟩ rfl rfl rfl rfl rfl (Nat.le_of_ble_eq_true rfl) dX10_at_25 rfl ?_
      have h9 := Option.some.inj hf
      subst h9
      exact ro_iret C rfl dX10_at_28
    · have hf := o_t c4 hf
      refine lv_bipush (v := -2) hx hb dX10_at_16 (by decide) ?_
      have h9 := Option.some.inj hf
      subst h9
      exact ro_iret C rfl dX10_at_18
  · have hf := o_t c2 hf
    refine lv_iconst (v := -1) hx hb dX10_at_7 (by decide) ?_
    have h9 := Option.some.inj hf
    subst h9
    exact ro_iret C rfl dX10_at_8
abbrev Wc_X10_warmth (l : Launch) (G : TG) (x : Nat → Nat) (t9 : Nat → Nat) (t6 : Nat → Nat) (t8 : Nat → Nat) (t3 : Nat → Nat) (t7 : Nat → Nat) (t1 : Nat → Nat) (t0 : Nat → Nat) (t4 : Nat → Nat) (t5 : Nat → Nat) (t2 : Nat → Nat) (t3_law : Nat → Int32) (a1 : Int32) (a2 : Int32) (a3 : Int32) (R : Int32) (p : Program) (e : Env) (s : State) (m : MethodId) (below : List Frame) (meth : Method) (c : Code) (H : Heap) (locs : List Loc) (g : JFrame) : Prop := W p l e ({ frames := 3, cells := 0, slots := 0, locals := 69 }) s m ([.ref (x 0), .int a1, .int a2, .int a3] : List Value).toArray below meth c H locs 0 0 (MQ below (roQ (some (.int R))) ([.ref (x 0), .int a1, .int a2, .int a3] : List Value).toArray s 0 0 (fun _ => False)) g
set_option maxHeartbeats 4000000 in
set_option maxRecDepth 100000 in
theorem c_X10_warmth (l : Launch) (G : TG) (x : Nat → Nat) (t9 : Nat → Nat) (t6 : Nat → Nat) (t8 : Nat → Nat) (t3 : Nat → Nat) (t7 : Nat → Nat) (t1 : Nat → Nat) (t0 : Nat → Nat) (t4 : Nat → Nat) (t5 : Nat → Nat) (t2 : Nat → Nat) (t3_law : Nat → Int32) (a1 : Int32) (a2 : Int32) (a3 : Int32) (R : Int32) (hf : f_X10_warmth t3_law a1 a2 a3 = some R) : RO l yX10_warmth cX10_warmth 4 (some .int) ({ frames := 3, cells := 0, slots := 0, locals := 69 }) G [.ref (x 0), .int a1, .int a2, .int a3] [(oX10 x t9 t6 t8 t3 t7 t1 t0 t4 t5 t2), (oX3 t3), (wI G (t3 1) 12 t3_law)] (some (.int R)) := by
  refine RO.mk (by decide +kernel) (Nat.le_of_ble_eq_true rfl) ?_
  intro p e s m below meth c ls C hP hK hl
  have hx := C.1
  have hb := C.2.1
  have hown : s.vm.findClass RX10 = some m.cls := C.2.2.2.2.2.1
  have ht := C.2.2.2.2.2.2
  have hl : lv_has ls 4 [(0, .ref (x 0)), (1, .int a1), (2, .int a2), (3, .int a3)] := hl
  show Wc_X10_warmth l G x t9 t6 t8 t3 t7 t1 t0 t4 t5 t2 t3_law a1 a2 a3 R p e s m below meth c s.heap [] (F0 m 0 ls [])
  refine lv_iload_n hx hb dX10_warmth_0 rfl (lv_at hl 1 rfl) ?_
  obtain ⟨q1, r1, hf⟩ := bd_s hf
  refine ro_S (n := 1) (As := [.int a1]) (rest := []) (c_X10_isBand l G a1 q1 r1) C hK (hP.sub [] rfl) hl kcode_X10_isBand kml_X10_151 kst_X10_isBand kini_X10 (by decide +kernel) ⟨⟨rfl, rfl⟩, Nat.le_of_ble_eq_true rfl, Nat.le_of_ble_eq_true rfl⟩ ⟨Nat.zero_le _, Nat.zero_le _⟩ rfl rfl (Nat.le_of_ble_eq_true rfl) dX10_warmth_1 rfl ?_
  refine lv_if_ne (tgt := 9) hx hb dX10_warmth_4 (by decide) (fun c2 => ?_) (fun c2 => ?_)
  · have hf := o_f c2 hf
    refine lv_iload_n hx hb dX10_warmth_9 rfl (lv_at hl 2 rfl) ?_
    obtain ⟨q3, r3, hf⟩ := bd_s hf
    refine ro_S (n := 1) (As := [.int a2]) (rest := []) (c_X10_isIce l G a2 q3 r3) C hK (hP.sub [] rfl) hl kcode_X10_isIce kml_X10_124 kst_X10_isIce kini_X10 (by decide +kernel) ⟨⟨rfl, rfl⟩, Nat.le_of_ble_eq_true rfl, Nat.le_of_ble_eq_true rfl⟩ ⟨Nat.zero_le _, Nat.zero_le _⟩ rfl rfl (Nat.le_of_ble_eq_true rfl) dX10_warmth_10 rfl ?_
    refine lv_if_eq (tgt := 23) hx hb dX10_warmth_13 (by decide) (fun c4 => ?_) (fun c4 => ?_)
    · have hf := o_t c4 hf
      refine lv_bipush (v := -2) hx hb dX10_warmth_23 (by decide) ?_
      have h9 := Option.some.inj hf
      subst h9
      exact ro_iret C rfl dX10_warmth_25
    · have hf := o_f c4 hf
      refine lv_iload_n hx hb dX10_warmth_16 rfl (lv_at hl 3 rfl) ?_
      obtain ⟨q6, r6, hf⟩ := bd_s hf
      refine ro_S (n := 1) (As := [.int a3]) (rest := []) (c_X10_isAir l G a3 q6 r6) C hK (hP.sub [] rfl) hl kcode_X10_isAir kml_X10_127 kst_X10_isAir kini_X10 (by decide +kernel) ⟨⟨rfl, rfl⟩, Nat.le_of_ble_eq_true rfl, Nat.le_of_ble_eq_true rfl⟩ ⟨Nat.zero_le _, Nat.zero_le _⟩ rfl rfl (Nat.le_of_ble_eq_true rfl) dX10_warmth_17 rfl ?_
      refine lv_if_ne (tgt := 26) hx hb dX10_warmth_20 (by decide) (fun c7 => ?_) (fun c7 => ?_)
      · have hf := o_f c7 hf
        refine lv_aload_n hx hb dX10_warmth_26 rfl (lv_at hl 0 rfl) ?_
        refine va_get (D := G.1) (ci := 10) (v := .ref (t3 0)) (C := RX10) (T := TX10) (N := 11) hx hb ht twX10 hown hK.1 hP 0 rfl rfl 3 (by decide) (ht _ kfl_X10_33) (fun _ h9 => h9) rfl dX10_warmth_27 ?_
        refine lv_iload_n hx hb dX10_warmth_30 rfl (lv_at hl 1 rfl) ?_
        refine lv_iload_n hx hb dX10_warmth_31 rfl (lv_at hl 2 rfl) ?_
        refine lv_iload_n hx hb dX10_warmth_32 rfl (lv_at hl 3 rfl) ?_
        obtain ⟨q8, r8, hf⟩ := bd_s hf
        refine ro_V (n := 3) (As := [.int a1, .int a2, .int a3]) (rest := []) (c_X3_fortyWarmth l G t3 t3_law a1 a2 a3 q8 r8) C hK (hP.sub [1, 2] rfl) hl kcode_X3_fortyWarmth kml_X10_154 kim_X3_fortyWarmth ksel_X3_fortyWarmth kini_X3 (by decide +kernel) ⟨⟨rfl, rfl⟩, Nat.le_of_ble_eq_true rfl, Nat.le_of_ble_eq_true rfl⟩ ⟨Nat.zero_le _, Nat.zero_le _⟩ rfl rfl rfl rfl rfl (Nat.le_of_ble_eq_true rfl) dX10_warmth_33 rfl ?_
        have h9 := Option.some.inj hf
        subst h9
        exact ro_iret C rfl dX10_warmth_36
      · have hf := o_t c7 hf
        refine lv_bipush (v := -2) hx hb dX10_warmth_23 (by decide) ?_
        have h9 := Option.some.inj hf
        subst h9
        exact ro_iret C rfl dX10_warmth_25
  · have hf := o_t c2 hf
    refine lv_iconst (v := -1) hx hb dX10_warmth_7 (by decide) ?_
    have h9 := Option.some.inj hf
    subst h9
    exact ro_iret C rfl dX10_warmth_8
abbrev Wc_X10_round (l : Launch) (G : TG) (x : Nat → Nat) (t9 : Nat → Nat) (t6 : Nat → Nat) (t8 : Nat → Nat) (t3 : Nat → Nat) (t7 : Nat → Nat) (t1 : Nat → Nat) (t0 : Nat → Nat) (t4 : Nat → Nat) (t5 : Nat → Nat) (t2 : Nat → Nat) (t3_law : Nat → Int32) (a1 : Int32) (a2 : Int32) (R : Int32) (p : Program) (e : Env) (s : State) (m : MethodId) (below : List Frame) (meth : Method) (c : Code) (H : Heap) (locs : List Loc) (g : JFrame) : Prop := W p l e ({ frames := 5, cells := 0, slots := 0, locals := 119 }) s m ([.ref (x 0), .int a1, .int a2] : List Value).toArray below meth c H locs 0 0 (MQ below (roQ (some (.int R))) ([.ref (x 0), .int a1, .int a2] : List Value).toArray s 0 0 (fun _ => False)) g
set_option maxHeartbeats 4000000 in
set_option maxRecDepth 100000 in
theorem c_X10_round (l : Launch) (G : TG) (x : Nat → Nat) (t9 : Nat → Nat) (t6 : Nat → Nat) (t8 : Nat → Nat) (t3 : Nat → Nat) (t7 : Nat → Nat) (t1 : Nat → Nat) (t0 : Nat → Nat) (t4 : Nat → Nat) (t5 : Nat → Nat) (t2 : Nat → Nat) (t3_law : Nat → Int32) (a1 : Int32) (a2 : Int32) (R : Int32) (hf : f_X10_round t3_law a1 a2 = some R) : RO l yX10_round cX10_round 3 (some .int) ({ frames := 5, cells := 0, slots := 0, locals := 119 }) G [.ref (x 0), .int a1, .int a2] [(oX10 x t9 t6 t8 t3 t7 t1 t0 t4 t5 t2), (oX3 t3), (wI G (t3 1) 12 t3_law)] (some (.int R)) := by
  refine RO.mk (by decide +kernel) (Nat.le_of_ble_eq_true rfl) ?_
  intro p e s m below meth c ls C hP hK hl
  have hx := C.1
  have hb := C.2.1
  have hown : s.vm.findClass RX10 = some m.cls := C.2.2.2.2.2.1
  have ht := C.2.2.2.2.2.2
  have hl : lv_has ls 3 [(0, .ref (x 0)), (1, .int a1), (2, .int a2)] := hl
  show Wc_X10_round l G x t9 t6 t8 t3 t7 t1 t0 t4 t5 t2 t3_law a1 a2 R p e s m below meth c s.heap [] (F0 m 0 ls [])
  refine lv_iload_n hx hb dX10_round_0 rfl (lv_at hl 1 rfl) ?_
  obtain ⟨q1, r1, hf⟩ := bd_s hf
  refine ro_S (n := 1) (As := [.int a1]) (rest := []) (c_X10_isIce l G a1 q1 r1) C hK (hP.sub [] rfl) hl kcode_X10_isIce kml_X10_124 kst_X10_isIce kini_X10 (by decide +kernel) ⟨⟨rfl, rfl⟩, Nat.le_of_ble_eq_true rfl, Nat.le_of_ble_eq_true rfl⟩ ⟨Nat.zero_le _, Nat.zero_le _⟩ rfl rfl (Nat.le_of_ble_eq_true rfl) dX10_round_1 rfl ?_
  refine lv_if_eq (tgt := 14) hx hb dX10_round_4 (by decide) (fun c2 => ?_) (fun c2 => ?_)
  · have hf := o_t c2 hf
    refine lv_bipush (v := -2) hx hb dX10_round_14 (by decide) ?_
    have h9 := Option.some.inj hf
    subst h9
    exact ro_iret C rfl dX10_round_16
  · have hf := o_f c2 hf
    refine lv_iload_n hx hb dX10_round_7 rfl (lv_at hl 2 rfl) ?_
    obtain ⟨q4, r4, hf⟩ := bd_s hf
    refine ro_S (n := 1) (As := [.int a2]) (rest := []) (c_X10_isAir l G a2 q4 r4) C hK (hP.sub [] rfl) hl kcode_X10_isAir kml_X10_127 kst_X10_isAir kini_X10 (by decide +kernel) ⟨⟨rfl, rfl⟩, Nat.le_of_ble_eq_true rfl, Nat.le_of_ble_eq_true rfl⟩ ⟨Nat.zero_le _, Nat.zero_le _⟩ rfl rfl (Nat.le_of_ble_eq_true rfl) dX10_round_8 rfl ?_
    refine lv_if_ne (tgt := 17) hx hb dX10_round_11 (by decide) (fun c5 => ?_) (fun c5 => ?_)
    · have hf := o_f c5 hf
      refine lv_aload_n hx hb dX10_round_17 rfl (lv_at hl 0 rfl) ?_
      refine va_get (D := G.1) (ci := 10) (v := .ref (t3 0)) (C := RX10) (T := TX10) (N := 11) hx hb ht twX10 hown hK.1 hP 0 rfl rfl 3 (by decide) (ht _ kfl_X10_33) (fun _ h9 => h9) rfl dX10_round_18 ?_
      refine lv_iload_n hx hb dX10_round_21 rfl (lv_at hl 1 rfl) ?_
      refine lv_iload_n hx hb dX10_round_22 rfl (lv_at hl 2 rfl) ?_
      obtain ⟨q6, r6, hf⟩ := bd_s hf
      refine ro_S (n := 2) (As := [.int a1, .int a2]) (rest := [.ref (t3 0)]) (c_X3_stateOf l G a1 a2 q6 r6) C hK (hP.sub [] rfl) hl kcode_X3_stateOf kml_X10_130 kst_X3_stateOf kini_X3 (by decide +kernel) ⟨⟨rfl, rfl⟩, Nat.le_of_ble_eq_true rfl, Nat.le_of_ble_eq_true rfl⟩ ⟨Nat.zero_le _, Nat.zero_le _⟩ rfl rfl (Nat.le_of_ble_eq_true rfl) dX10_round_23 rfl ?_
      obtain ⟨q7, r7, hf⟩ := bd_s hf
      refine ro_V (n := 1) (As := [.int q6]) (rest := []) (c_X3_stateAfter l G t3 t3_law q6 q7 r7) C hK (hP.sub [1, 2] rfl) hl kcode_X3_stateAfter kml_X10_142 kim_X3_stateAfter ksel_X3_stateAfter kini_X3 (by decide +kernel) ⟨⟨rfl, rfl⟩, Nat.le_of_ble_eq_true rfl, Nat.le_of_ble_eq_true rfl⟩ ⟨Nat.zero_le _, Nat.zero_le _⟩ rfl rfl rfl rfl rfl (Nat.le_of_ble_eq_true rfl) dX10_round_26 rfl ?_
      have h9 := Option.some.inj hf
      subst h9
      exact ro_iret C rfl dX10_round_29
    · have hf := o_t c5 hf
      refine lv_bipush (v := -2) hx hb dX10_round_14 (by decide) ?_
      have h9 := Option.some.inj hf
      subst h9
      exact ro_iret C rfl dX10_round_16
abbrev Wc_X10_after (l : Launch) (G : TG) (x : Nat → Nat) (t9 : Nat → Nat) (t6 : Nat → Nat) (t8 : Nat → Nat) (t3 : Nat → Nat) (t7 : Nat → Nat) (t1 : Nat → Nat) (t0 : Nat → Nat) (t4 : Nat → Nat) (t5 : Nat → Nat) (t2 : Nat → Nat) (t3_law : Nat → Int32) (t7_states : Nat → Int32) (t7_placeBehind : Nat → Int32) (t7_length : Int32) (t7_lead : Int32) (a1 : Int32) (a2 : Int32) (a3 : Int32) (R : Int32 × (Nat → Int32) × (Nat → Int32) × Int32 × Int32) (p : Program) (e : Env) (s : State) (m : MethodId) (below : List Frame) (meth : Method) (c : Code) (A : Nat → Prop) (H : Heap) (locs : List Loc) (g : JFrame) : Prop := W p l e ({ frames := 6, cells := 0, slots := 0, locals := 144 }) s m ([.ref (x 0), .int a1, .int a2, .int a3] : List Value).toArray below meth c H locs 0 0 (MQ below (rwQ G (some (.int R.1)) [(oX10 x t9 t6 t8 t3 t7 t1 t0 t4 t5 t2), (oX3 t3), (wI G (t3 1) 12 t3_law), (oX7 t7 R.2.2.2.1 R.2.2.2.2), (wI G (t7 1) 6400 R.2.1), (wI G (t7 2) 6400 R.2.2.1)] A) ([.ref (x 0), .int a1, .int a2, .int a3] : List Value).toArray s 0 0 A) g
set_option maxHeartbeats 4000000 in
set_option maxRecDepth 100000 in
theorem c_X10_after (l : Launch) (G : TG) (x : Nat → Nat) (t9 : Nat → Nat) (t6 : Nat → Nat) (t8 : Nat → Nat) (t3 : Nat → Nat) (t7 : Nat → Nat) (t1 : Nat → Nat) (t0 : Nat → Nat) (t4 : Nat → Nat) (t5 : Nat → Nat) (t2 : Nat → Nat) (t3_law : Nat → Int32) (t7_states : Nat → Int32) (t7_placeBehind : Nat → Int32) (t7_length : Int32) (t7_lead : Int32) (a1 : Int32) (a2 : Int32) (a3 : Int32) (R : Int32 × (Nat → Int32) × (Nat → Int32) × Int32 × Int32) (hf : f_X10_after t3_law t7_states t7_placeBehind t7_length t7_lead a1 a2 a3 = some R) : RW l yX10_after cX10_after 4 (some .int) ({ frames := 6, cells := 0, slots := 0, locals := 144 }) G [.ref (x 0), .int a1, .int a2, .int a3] [(oX10 x t9 t6 t8 t3 t7 t1 t0 t4 t5 t2), (oX3 t3), (wI G (t3 1) 12 t3_law), (oX7 t7 t7_length t7_lead), (wI G (t7 1) 6400 t7_states), (wI G (t7 2) 6400 t7_placeBehind)] (some (.int R.1)) [(oX10 x t9 t6 t8 t3 t7 t1 t0 t4 t5 t2), (oX3 t3), (wI G (t3 1) 12 t3_law), (oX7 t7 R.2.2.2.1 R.2.2.2.2), (wI G (t7 1) 6400 R.2.1), (wI G (t7 2) 6400 R.2.2.1)] := by
  refine RW.mk (by decide +kernel) (Nat.le_of_ble_eq_true rfl) ?_
  intro p e s m below meth c ls A C hP hD hA hz hK hl hS
  have hx := C.1
  have hb := C.2.1
  have hown : s.vm.findClass RX10 = some m.cls := C.2.2.2.2.2.1
  have ht := C.2.2.2.2.2.2
  have hl : lv_has ls 4 [(0, .ref (x 0)), (1, .int a1), (2, .int a2), (3, .int a3)] := hl
  show Wc_X10_after l G x t9 t6 t8 t3 t7 t1 t0 t4 t5 t2 t3_law t7_states t7_placeBehind t7_length t7_lead a1 a2 a3 R p e s m below meth c A s.heap [] (F0 m 0 ls [])
  obtain ⟨H, eH, hP, hS⟩ : ∃ H, H = s.heap ∧ va_P G.1 vwCl [(oX10 x t9 t6 t8 t3 t7 t1 t0 t4 t5 t2), (oX3 t3), (wI G (t3 1) 12 t3_law), (oX7 t7 t7_length t7_lead), (wI G (t7 1) 6400 t7_states), (wI G (t7 2) 6400 t7_placeBehind)] H ∧ va_S A s.heap H [] := ⟨_, rfl, hP, hS⟩
  obtain ⟨locs, el, hS⟩ : ∃ locs : List Loc, locs = [] ∧ va_S A s.heap H locs := ⟨_, rfl, hS⟩
  have key : Wc_X10_after l G x t9 t6 t8 t3 t7 t1 t0 t4 t5 t2 t3_law t7_states t7_placeBehind t7_length t7_lead a1 a2 a3 R p e s m below meth c A H locs (F0 m 0 ls []) := by
    refine lv_iload_n hx hb dX10_after_0 rfl (lv_at hl 1 rfl) ?_
    obtain ⟨q1, r1, hf⟩ := bd_s hf
    refine ro_S (n := 1) (As := [.int a1]) (rest := []) (c_X10_isIce l G a1 q1 r1) C (hK.at hS hz) (hP.sub [] rfl) hl kcode_X10_isIce kml_X10_124 kst_X10_isIce kini_X10 (by decide +kernel) ⟨⟨rfl, rfl⟩, Nat.le_of_ble_eq_true rfl, Nat.le_of_ble_eq_true rfl⟩ ⟨Nat.zero_le _, Nat.zero_le _⟩ rfl rfl (Nat.le_of_ble_eq_true rfl) dX10_after_1 rfl ?_
    refine lv_if_eq (tgt := 24) hx hb dX10_after_4 (by decide) (fun c2 => ?_) (fun c2 => ?_)
    · have hf := o_t c2 hf
      refine lv_bipush (v := -2) hx hb dX10_after_24 (by decide) ?_
      have h9 := Option.some.inj hf
      subst h9
      exact rw_iret C rfl hP hD hS dX10_after_26
    · have hf := o_f c2 hf
      refine lv_iload_n hx hb dX10_after_7 rfl (lv_at hl 2 rfl) ?_
      obtain ⟨q4, r4, hf⟩ := bd_s hf
      refine ro_S (n := 1) (As := [.int a2]) (rest := []) (c_X10_isAir l G a2 q4 r4) C (hK.at hS hz) (hP.sub [] rfl) hl kcode_X10_isAir kml_X10_127 kst_X10_isAir kini_X10 (by decide +kernel) ⟨⟨rfl, rfl⟩, Nat.le_of_ble_eq_true rfl, Nat.le_of_ble_eq_true rfl⟩ ⟨Nat.zero_le _, Nat.zero_le _⟩ rfl rfl (Nat.le_of_ble_eq_true rfl) dX10_after_8 rfl ?_
      refine lv_if_eq (tgt := 24) hx hb dX10_after_11 (by decide) (fun c5 => ?_) (fun c5 => ?_)
      · have hf := o_t c5 hf
        refine lv_bipush (v := -2) hx hb dX10_after_24 (by decide) ?_
        have h9 := Option.some.inj hf
        subst h9
        exact rw_iret C rfl hP hD hS dX10_after_26
      · have hf := o_f c5 hf
        refine lv_iload_n hx hb dX10_after_14 rfl (lv_at hl 3 rfl) ?_
        refine lv_iconst (v := 0) hx hb dX10_after_15 (by decide) ?_
        refine lv_ldc hx hb hown (ht _ kcI_X10_158) dX10_after_16 ?_
        obtain ⟨q7, r7, hf⟩ := bd_s hf
        refine ro_S (n := 3) (As := [.int a3, .int (0 : Int32), .int (100000 : Int32)]) (rest := []) (c_X10_within l G a3 (0 : Int32) (100000 : Int32) q7 r7) C (hK.at hS hz) (hP.sub [] rfl) hl kcode_X10_within kml_X10_83 kst_X10_within kini_X10 (by decide +kernel) ⟨⟨rfl, rfl⟩, Nat.le_of_ble_eq_true rfl, Nat.le_of_ble_eq_true rfl⟩ ⟨Nat.zero_le _, Nat.zero_le _⟩ rfl rfl (Nat.le_of_ble_eq_true rfl) dX10_after_18 rfl ?_
        refine lv_if_ne (tgt := 27) hx hb dX10_after_21 (by decide) (fun c8 => ?_) (fun c8 => ?_)
        · have hf := o_f c8 hf
          refine lv_aload_n hx hb dX10_after_27 rfl (lv_at hl 0 rfl) ?_
          refine va_get (D := G.1) (ci := 10) (v := .ref (t7 0)) (C := RX10) (T := TX10) (N := 11) hx hb ht twX10 hown hK.1 hP 0 rfl rfl 4 (by decide) (ht _ kfl_X10_40) (fun _ h9 => h9) rfl dX10_after_28 ?_
          refine lv_aload_n hx hb dX10_after_31 rfl (lv_at hl 0 rfl) ?_
          refine va_get (D := G.1) (ci := 10) (v := .ref (t3 0)) (C := RX10) (T := TX10) (N := 11) hx hb ht twX10 hown hK.1 hP 0 rfl rfl 3 (by decide) (ht _ kfl_X10_33) (fun _ h9 => h9) rfl dX10_after_32 ?_
          refine lv_iload_n hx hb dX10_after_35 rfl (lv_at hl 1 rfl) ?_
          refine lv_iload_n hx hb dX10_after_36 rfl (lv_at hl 2 rfl) ?_
          obtain ⟨q9, r9, hf⟩ := bd_s hf
          refine rw_V (n := 3) (As := [.ref (t3 0), .int a1, .int a2]) (rest := []) (wr := [(oX10 x t9 t6 t8 t3 t7 t1 t0 t4 t5 t2)]) (ws2 := [(oX10 x t9 t6 t8 t3 t7 t1 t0 t4 t5 t2), (oX3 t3), (wI G (t3 1) 12 t3_law), (oX7 t7 q9.2.2.1 q9.2.2.2), (wI G (t7 1) 6400 q9.1), (wI G (t7 2) 6400 q9.2.1)]) (c_X7_follow l G t7 t3 t7_states t7_placeBehind t7_length t7_lead t3_law a1 a2 q9 r9) C hK hP hD hS hA hz hl [3, 4, 5, 1, 2] [0] [0, 4, 5, 1, 2, 3] rfl rfl rfl rfl rfl (by decide) rfl rfl rfl kcode_X7_follow kml_X10_159 kim_X7_follow ksel_X7_follow kini_X7 (by decide +kernel) ⟨⟨rfl, rfl⟩, Nat.le_of_ble_eq_true rfl, Nat.le_of_ble_eq_true rfl⟩ ⟨Nat.zero_le _, Nat.zero_le _⟩ rfl rfl rfl rfl rfl (Nat.le_of_ble_eq_true rfl) dX10_after_37 rfl (fun H locs hP hD hS => ?_)
          refine lv_aload_n hx hb dX10_after_40 rfl (lv_at hl 0 rfl) ?_
          refine va_get (D := G.1) (ci := 10) (v := .ref (t7 0)) (C := RX10) (T := TX10) (N := 11) hx hb ht twX10 hown hK.1 hP 0 rfl rfl 4 (by decide) (ht _ kfl_X10_40) (fun _ h9 => h9) rfl dX10_after_41 ?_
          refine lv_iload_n hx hb dX10_after_44 rfl (lv_at hl 3 rfl) ?_
          obtain ⟨q10, r10, hf⟩ := bd_s hf
          refine ro_V (n := 1) (As := [.int a3]) (rest := []) (c_X7_stateAt l G t7 q9.1 q9.2.2.1 q9.2.2.2 a3 q10 r10) C (hK.at hS hz) (hP.sub [3, 4] rfl) hl kcode_X7_stateAt kml_X10_163 kim_X7_stateAt ksel_X7_stateAt kini_X7 (by decide +kernel) ⟨⟨rfl, rfl⟩, Nat.le_of_ble_eq_true rfl, Nat.le_of_ble_eq_true rfl⟩ ⟨Nat.zero_le _, Nat.zero_le _⟩ rfl rfl rfl rfl rfl (Nat.le_of_ble_eq_true rfl) dX10_after_45 rfl ?_
          have h9 := Option.some.inj hf
          subst h9
          exact rw_iret C rfl hP hD hS dX10_after_48
        · have hf := o_t c8 hf
          refine lv_bipush (v := -2) hx hb dX10_after_24 (by decide) ?_
          have h9 := Option.some.inj hf
          subst h9
          exact rw_iret C rfl hP hD hS dX10_after_26
  rw [eH, el] at key
  exact key
abbrev Wc_X10_run (l : Launch) (G : TG) (x : Nat → Nat) (t9 : Nat → Nat) (t6 : Nat → Nat) (t8 : Nat → Nat) (t3 : Nat → Nat) (t7 : Nat → Nat) (t1 : Nat → Nat) (t0 : Nat → Nat) (t4 : Nat → Nat) (t5 : Nat → Nat) (t2 : Nat → Nat) (t3_law : Nat → Int32) (t7_states : Nat → Int32) (t7_placeBehind : Nat → Int32) (t7_length : Int32) (t7_lead : Int32) (a1 : Int32) (a2 : Int32) (a3 : Int32) (R : Int32 × (Nat → Int32) × (Nat → Int32) × Int32 × Int32) (p : Program) (e : Env) (s : State) (m : MethodId) (below : List Frame) (meth : Method) (c : Code) (A : Nat → Prop) (H : Heap) (locs : List Loc) (g : JFrame) : Prop := W p l e ({ frames := 6, cells := 0, slots := 0, locals := 144 }) s m ([.ref (x 0), .int a1, .int a2, .int a3] : List Value).toArray below meth c H locs 0 0 (MQ below (rwQ G (some (.int R.1)) [(oX10 x t9 t6 t8 t3 t7 t1 t0 t4 t5 t2), (oX3 t3), (wI G (t3 1) 12 t3_law), (oX7 t7 R.2.2.2.1 R.2.2.2.2), (wI G (t7 1) 6400 R.2.1), (wI G (t7 2) 6400 R.2.2.1)] A) ([.ref (x 0), .int a1, .int a2, .int a3] : List Value).toArray s 0 0 A) g
set_option maxHeartbeats 4000000 in
set_option maxRecDepth 100000 in
theorem c_X10_run (l : Launch) (G : TG) (x : Nat → Nat) (t9 : Nat → Nat) (t6 : Nat → Nat) (t8 : Nat → Nat) (t3 : Nat → Nat) (t7 : Nat → Nat) (t1 : Nat → Nat) (t0 : Nat → Nat) (t4 : Nat → Nat) (t5 : Nat → Nat) (t2 : Nat → Nat) (t3_law : Nat → Int32) (t7_states : Nat → Int32) (t7_placeBehind : Nat → Int32) (t7_length : Int32) (t7_lead : Int32) (a1 : Int32) (a2 : Int32) (a3 : Int32) (R : Int32 × (Nat → Int32) × (Nat → Int32) × Int32 × Int32) (hf : f_X10_run t3_law t7_states t7_placeBehind t7_length t7_lead a1 a2 a3 = some R) : RW l yX10_run cX10_run 4 (some .int) ({ frames := 6, cells := 0, slots := 0, locals := 144 }) G [.ref (x 0), .int a1, .int a2, .int a3] [(oX10 x t9 t6 t8 t3 t7 t1 t0 t4 t5 t2), (oX3 t3), (wI G (t3 1) 12 t3_law), (oX7 t7 t7_length t7_lead), (wI G (t7 1) 6400 t7_states), (wI G (t7 2) 6400 t7_placeBehind)] (some (.int R.1)) [(oX10 x t9 t6 t8 t3 t7 t1 t0 t4 t5 t2), (oX3 t3), (wI G (t3 1) 12 t3_law), (oX7 t7 R.2.2.2.1 R.2.2.2.2), (wI G (t7 1) 6400 R.2.1), (wI G (t7 2) 6400 R.2.2.1)] := by
  refine RW.mk (by decide +kernel) (Nat.le_of_ble_eq_true rfl) ?_
  intro p e s m below meth c ls A C hP hD hA hz hK hl hS
  have hx := C.1
  have hb := C.2.1
  have hown : s.vm.findClass RX10 = some m.cls := C.2.2.2.2.2.1
  have ht := C.2.2.2.2.2.2
  have hl : lv_has ls 4 [(0, .ref (x 0)), (1, .int a1), (2, .int a2), (3, .int a3)] := hl
  show Wc_X10_run l G x t9 t6 t8 t3 t7 t1 t0 t4 t5 t2 t3_law t7_states t7_placeBehind t7_length t7_lead a1 a2 a3 R p e s m below meth c A s.heap [] (F0 m 0 ls [])
  obtain ⟨H, eH, hP, hS⟩ : ∃ H, H = s.heap ∧ va_P G.1 vwCl [(oX10 x t9 t6 t8 t3 t7 t1 t0 t4 t5 t2), (oX3 t3), (wI G (t3 1) 12 t3_law), (oX7 t7 t7_length t7_lead), (wI G (t7 1) 6400 t7_states), (wI G (t7 2) 6400 t7_placeBehind)] H ∧ va_S A s.heap H [] := ⟨_, rfl, hP, hS⟩
  obtain ⟨locs, el, hS⟩ : ∃ locs : List Loc, locs = [] ∧ va_S A s.heap H locs := ⟨_, rfl, hS⟩
  have key : Wc_X10_run l G x t9 t6 t8 t3 t7 t1 t0 t4 t5 t2 t3_law t7_states t7_placeBehind t7_length t7_lead a1 a2 a3 R p e s m below meth c A H locs (F0 m 0 ls []) := by
    refine lv_iload_n hx hb dX10_run_0 rfl (lv_at hl 1 rfl) ?_
    obtain ⟨q1, r1, hf⟩ := bd_s hf
    refine ro_S (n := 1) (As := [.int a1]) (rest := []) (c_X10_isIce l G a1 q1 r1) C (hK.at hS hz) (hP.sub [] rfl) hl kcode_X10_isIce kml_X10_124 kst_X10_isIce kini_X10 (by decide +kernel) ⟨⟨rfl, rfl⟩, Nat.le_of_ble_eq_true rfl, Nat.le_of_ble_eq_true rfl⟩ ⟨Nat.zero_le _, Nat.zero_le _⟩ rfl rfl (Nat.le_of_ble_eq_true rfl) dX10_run_1 rfl ?_
    refine lv_if_eq (tgt := 23) hx hb dX10_run_4 (by decide) (fun c2 => ?_) (fun c2 => ?_)
    · have hf := o_t c2 hf
      refine lv_bipush (v := -2) hx hb dX10_run_23 (by decide) ?_
      have h9 := Option.some.inj hf
      subst h9
      exact rw_iret C rfl hP hD hS dX10_run_25
    · have hf := o_f c2 hf
      refine lv_iload_n hx hb dX10_run_7 rfl (lv_at hl 2 rfl) ?_
      obtain ⟨q4, r4, hf⟩ := bd_s hf
      refine ro_S (n := 1) (As := [.int a2]) (rest := []) (c_X10_isAir l G a2 q4 r4) C (hK.at hS hz) (hP.sub [] rfl) hl kcode_X10_isAir kml_X10_127 kst_X10_isAir kini_X10 (by decide +kernel) ⟨⟨rfl, rfl⟩, Nat.le_of_ble_eq_true rfl, Nat.le_of_ble_eq_true rfl⟩ ⟨Nat.zero_le _, Nat.zero_le _⟩ rfl rfl (Nat.le_of_ble_eq_true rfl) dX10_run_8 rfl ?_
      refine lv_if_eq (tgt := 23) hx hb dX10_run_11 (by decide) (fun c5 => ?_) (fun c5 => ?_)
      · have hf := o_t c5 hf
        refine lv_bipush (v := -2) hx hb dX10_run_23 (by decide) ?_
        have h9 := Option.some.inj hf
        subst h9
        exact rw_iret C rfl hP hD hS dX10_run_25
      · have hf := o_f c5 hf
        refine lv_iload_n hx hb dX10_run_14 rfl (lv_at hl 3 rfl) ?_
        refine lv_iconst (v := 0) hx hb dX10_run_15 (by decide) ?_
        refine lv_iconst (v := 4) hx hb dX10_run_16 (by decide) ?_
        obtain ⟨q7, r7, hf⟩ := bd_s hf
        refine ro_S (n := 3) (As := [.int a3, .int (0 : Int32), .int (4 : Int32)]) (rest := []) (c_X10_within l G a3 (0 : Int32) (4 : Int32) q7 r7) C (hK.at hS hz) (hP.sub [] rfl) hl kcode_X10_within kml_X10_83 kst_X10_within kini_X10 (by decide +kernel) ⟨⟨rfl, rfl⟩, Nat.le_of_ble_eq_true rfl, Nat.le_of_ble_eq_true rfl⟩ ⟨Nat.zero_le _, Nat.zero_le _⟩ rfl rfl (Nat.le_of_ble_eq_true rfl) dX10_run_17 rfl ?_
        refine lv_if_ne (tgt := 26) hx hb dX10_run_20 (by decide) (fun c8 => ?_) (fun c8 => ?_)
        · have hf := o_f c8 hf
          refine lv_aload_n hx hb dX10_run_26 rfl (lv_at hl 0 rfl) ?_
          refine va_get (D := G.1) (ci := 10) (v := .ref (t7 0)) (C := RX10) (T := TX10) (N := 11) hx hb ht twX10 hown hK.1 hP 0 rfl rfl 4 (by decide) (ht _ kfl_X10_40) (fun _ h9 => h9) rfl dX10_run_27 ?_
          refine lv_aload_n hx hb dX10_run_30 rfl (lv_at hl 0 rfl) ?_
          refine va_get (D := G.1) (ci := 10) (v := .ref (t3 0)) (C := RX10) (T := TX10) (N := 11) hx hb ht twX10 hown hK.1 hP 0 rfl rfl 3 (by decide) (ht _ kfl_X10_33) (fun _ h9 => h9) rfl dX10_run_31 ?_
          refine lv_iload_n hx hb dX10_run_34 rfl (lv_at hl 1 rfl) ?_
          refine lv_iload_n hx hb dX10_run_35 rfl (lv_at hl 2 rfl) ?_
          obtain ⟨q9, r9, hf⟩ := bd_s hf
          refine rw_V (n := 3) (As := [.ref (t3 0), .int a1, .int a2]) (rest := []) (wr := [(oX10 x t9 t6 t8 t3 t7 t1 t0 t4 t5 t2)]) (ws2 := [(oX10 x t9 t6 t8 t3 t7 t1 t0 t4 t5 t2), (oX3 t3), (wI G (t3 1) 12 t3_law), (oX7 t7 q9.2.2.1 q9.2.2.2), (wI G (t7 1) 6400 q9.1), (wI G (t7 2) 6400 q9.2.1)]) (c_X7_follow l G t7 t3 t7_states t7_placeBehind t7_length t7_lead t3_law a1 a2 q9 r9) C hK hP hD hS hA hz hl [3, 4, 5, 1, 2] [0] [0, 4, 5, 1, 2, 3] rfl rfl rfl rfl rfl (by decide) rfl rfl rfl kcode_X7_follow kml_X10_159 kim_X7_follow ksel_X7_follow kini_X7 (by decide +kernel) ⟨⟨rfl, rfl⟩, Nat.le_of_ble_eq_true rfl, Nat.le_of_ble_eq_true rfl⟩ ⟨Nat.zero_le _, Nat.zero_le _⟩ rfl rfl rfl rfl rfl (Nat.le_of_ble_eq_true rfl) dX10_run_36 rfl (fun H locs hP hD hS => ?_)
          refine lv_iload_n hx hb dX10_run_39 rfl (lv_at hl 3 rfl) ?_
          by_cases c10_0 : a3 = (0 : Int32)
          · have hf := o_t c10_0 hf
            refine lv_tsI (tgt := 72) hx hb dX10_run_40 c10_0 (by decide) (by decide) rfl (by decide) ?_
            refine lv_aload_n hx hb dX10_run_72 rfl (lv_at hl 0 rfl) ?_
            refine va_get (D := G.1) (ci := 10) (v := .ref (t7 0)) (C := RX10) (T := TX10) (N := 11) hx hb ht twX10 hown hK.1 hP 0 rfl rfl 4 (by decide) (ht _ kfl_X10_40) (fun _ h9 => h9) rfl dX10_run_73 ?_
            refine va_get (D := G.1) (ci := 7) (v := .int q9.2.2.2) (C := RX7) (T := TX7) (N := 4) hx hb ht twX7 hown hK.1 hP 3 rfl rfl 3 (by decide) (ht _ kfl_X10_166) (fun _ h9 => h9) rfl dX10_run_76 ?_
            have h9 := Option.some.inj hf
            subst h9
            exact rw_iret C rfl hP hD hS dX10_run_79
          have hf := o_f c10_0 hf
          by_cases c10_1 : a3 = (1 : Int32)
          · have hf := o_t c10_1 hf
            refine lv_tsI (tgt := 80) hx hb dX10_run_40 c10_1 (by decide) (by decide) rfl (by decide) ?_
            refine lv_aload_n hx hb dX10_run_80 rfl (lv_at hl 0 rfl) ?_
            refine va_get (D := G.1) (ci := 10) (v := .ref (t7 0)) (C := RX10) (T := TX10) (N := 11) hx hb ht twX10 hown hK.1 hP 0 rfl rfl 4 (by decide) (ht _ kfl_X10_40) (fun _ h9 => h9) rfl dX10_run_81 ?_
            obtain ⟨q12, r12, hf⟩ := bd_s hf
            refine ro_V (n := 0) (As := []) (rest := []) (c_X7_ring l G t7 q9.2.2.1 q9.2.2.2 q12 r12) C (hK.at hS hz) (hP.sub [3] rfl) hl kcode_X7_ring kml_X10_169 kim_X7_ring ksel_X7_ring kini_X7 (by decide +kernel) ⟨⟨rfl, rfl⟩, Nat.le_of_ble_eq_true rfl, Nat.le_of_ble_eq_true rfl⟩ ⟨Nat.zero_le _, Nat.zero_le _⟩ rfl rfl rfl rfl rfl (Nat.le_of_ble_eq_true rfl) dX10_run_84 rfl ?_
            have h9 := Option.some.inj hf
            subst h9
            exact rw_iret C rfl hP hD hS dX10_run_87
          have hf := o_f c10_1 hf
          by_cases c10_2 : a3 = (2 : Int32)
          · have hf := o_t c10_2 hf
            refine lv_tsI (tgt := 88) hx hb dX10_run_40 c10_2 (by decide) (by decide) rfl (by decide) ?_
            refine lv_aload_n hx hb dX10_run_88 rfl (lv_at hl 0 rfl) ?_
            refine va_get (D := G.1) (ci := 10) (v := .ref (t7 0)) (C := RX10) (T := TX10) (N := 11) hx hb ht twX10 hown hK.1 hP 0 rfl rfl 4 (by decide) (ht _ kfl_X10_40) (fun _ h9 => h9) rfl dX10_run_89 ?_
            obtain ⟨q14, r14, hf⟩ := bd_s hf
            refine ro_V (n := 0) (As := []) (rest := []) (c_X7_whiteInRing l G t7 q9.1 q9.2.2.1 q9.2.2.2 q14 r14) C (hK.at hS hz) (hP.sub [3, 4] rfl) hl kcode_X7_whiteInRing kml_X10_173 kim_X7_whiteInRing ksel_X7_whiteInRing kini_X7 (by decide +kernel) ⟨⟨rfl, rfl⟩, Nat.le_of_ble_eq_true rfl, Nat.le_of_ble_eq_true rfl⟩ ⟨Nat.zero_le _, Nat.zero_le _⟩ rfl rfl rfl rfl rfl (Nat.le_of_ble_eq_true rfl) dX10_run_92 rfl ?_
            have h9 := Option.some.inj hf
            subst h9
            exact rw_iret C rfl hP hD hS dX10_run_95
          have hf := o_f c10_2 hf
          by_cases c10_3 : a3 = (3 : Int32)
          · have hf := o_t c10_3 hf
            refine lv_tsI (tgt := 96) hx hb dX10_run_40 c10_3 (by decide) (by decide) rfl (by decide) ?_
            refine lv_aload_n hx hb dX10_run_96 rfl (lv_at hl 0 rfl) ?_
            refine va_get (D := G.1) (ci := 10) (v := .ref (t7 0)) (C := RX10) (T := TX10) (N := 11) hx hb ht twX10 hown hK.1 hP 0 rfl rfl 4 (by decide) (ht _ kfl_X10_40) (fun _ h9 => h9) rfl dX10_run_97 ?_
            obtain ⟨q16, r16, hf⟩ := bd_s hf
            refine ro_V (n := 0) (As := []) (rest := []) (c_X7_leastAirInRing l G t7 q9.1 q9.2.2.1 q9.2.2.2 q16 r16) C (hK.at hS hz) (hP.sub [3, 4] rfl) hl kcode_X7_leastAirInRing kml_X10_176 kim_X7_leastAirInRing ksel_X7_leastAirInRing kini_X7 (by decide +kernel) ⟨⟨rfl, rfl⟩, Nat.le_of_ble_eq_true rfl, Nat.le_of_ble_eq_true rfl⟩ ⟨Nat.zero_le _, Nat.zero_le _⟩ rfl rfl rfl rfl rfl (Nat.le_of_ble_eq_true rfl) dX10_run_100 rfl ?_
            have h9 := Option.some.inj hf
            subst h9
            exact rw_iret C rfl hP hD hS dX10_run_103
          have hf := o_f c10_3 hf
          refine lv_tableOut (tgt := 104) hx hb dX10_run_40 (ts3 c10_0 c10_1 c10_2 c10_3) (by decide) ?_
          refine lv_aload_n hx hb dX10_run_104 rfl (lv_at hl 0 rfl) ?_
          refine va_get (D := G.1) (ci := 10) (v := .ref (t7 0)) (C := RX10) (T := TX10) (N := 11) hx hb ht twX10 hown hK.1 hP 0 rfl rfl 4 (by decide) (ht _ kfl_X10_40) (fun _ h9 => h9) rfl dX10_run_105 ?_
          obtain ⟨q18, r18, hf⟩ := bd_s hf
          refine ro_V (n := 0) (As := []) (rest := []) (c_X7_greatestAirInRing l G t7 q9.1 q9.2.2.1 q9.2.2.2 q18 r18) C (hK.at hS hz) (hP.sub [3, 4] rfl) hl kcode_X7_greatestAirInRing kml_X10_179 kim_X7_greatestAirInRing ksel_X7_greatestAirInRing kini_X7 (by decide +kernel) ⟨⟨rfl, rfl⟩, Nat.le_of_ble_eq_true rfl, Nat.le_of_ble_eq_true rfl⟩ ⟨Nat.zero_le _, Nat.zero_le _⟩ rfl rfl rfl rfl rfl (Nat.le_of_ble_eq_true rfl) dX10_run_108 rfl ?_
          have h9 := Option.some.inj hf
          subst h9
          exact rw_iret C rfl hP hD hS dX10_run_111
        · have hf := o_t c8 hf
          refine lv_bipush (v := -2) hx hb dX10_run_23 (by decide) ?_
          have h9 := Option.some.inj hf
          subst h9
          exact rw_iret C rfl hP hD hS dX10_run_25
  rw [eH, el] at key
  exact key
abbrev Wc_X10_till (l : Launch) (G : TG) (x : Nat → Nat) (t9 : Nat → Nat) (t6 : Nat → Nat) (t8 : Nat → Nat) (t3 : Nat → Nat) (t7 : Nat → Nat) (t1 : Nat → Nat) (t0 : Nat → Nat) (t4 : Nat → Nat) (t5 : Nat → Nat) (t2 : Nat → Nat) (t3_law : Nat → Int32) (t7_states : Nat → Int32) (t7_placeBehind : Nat → Int32) (t7_length : Int32) (t7_lead : Int32) (a1 : Int32) (a2 : Int32) (a3 : Int32) (R : Int32 × (Nat → Int32) × (Nat → Int32) × Int32 × Int32) (p : Program) (e : Env) (s : State) (m : MethodId) (below : List Frame) (meth : Method) (c : Code) (A : Nat → Prop) (H : Heap) (locs : List Loc) (g : JFrame) : Prop := W p l e ({ frames := 6, cells := 0, slots := 0, locals := 144 }) s m ([.ref (x 0), .int a1, .int a2, .int a3] : List Value).toArray below meth c H locs 0 0 (MQ below (rwQ G (some (.int R.1)) [(oX10 x t9 t6 t8 t3 t7 t1 t0 t4 t5 t2), (oX3 t3), (wI G (t3 1) 12 t3_law), (oX7 t7 R.2.2.2.1 R.2.2.2.2), (wI G (t7 1) 6400 R.2.1), (wI G (t7 2) 6400 R.2.2.1)] A) ([.ref (x 0), .int a1, .int a2, .int a3] : List Value).toArray s 0 0 A) g
set_option maxHeartbeats 4000000 in
set_option maxRecDepth 100000 in
theorem c_X10_till (l : Launch) (G : TG) (x : Nat → Nat) (t9 : Nat → Nat) (t6 : Nat → Nat) (t8 : Nat → Nat) (t3 : Nat → Nat) (t7 : Nat → Nat) (t1 : Nat → Nat) (t0 : Nat → Nat) (t4 : Nat → Nat) (t5 : Nat → Nat) (t2 : Nat → Nat) (t3_law : Nat → Int32) (t7_states : Nat → Int32) (t7_placeBehind : Nat → Int32) (t7_length : Int32) (t7_lead : Int32) (a1 : Int32) (a2 : Int32) (a3 : Int32) (R : Int32 × (Nat → Int32) × (Nat → Int32) × Int32 × Int32) (hf : f_X10_till t3_law t7_states t7_placeBehind t7_length t7_lead a1 a2 a3 = some R) : RW l yX10_till cX10_till 4 (some .int) ({ frames := 6, cells := 0, slots := 0, locals := 144 }) G [.ref (x 0), .int a1, .int a2, .int a3] [(oX10 x t9 t6 t8 t3 t7 t1 t0 t4 t5 t2), (oX3 t3), (wI G (t3 1) 12 t3_law), (oX7 t7 t7_length t7_lead), (wI G (t7 1) 6400 t7_states), (wI G (t7 2) 6400 t7_placeBehind)] (some (.int R.1)) [(oX10 x t9 t6 t8 t3 t7 t1 t0 t4 t5 t2), (oX3 t3), (wI G (t3 1) 12 t3_law), (oX7 t7 R.2.2.2.1 R.2.2.2.2), (wI G (t7 1) 6400 R.2.1), (wI G (t7 2) 6400 R.2.2.1)] := by
  refine RW.mk (by decide +kernel) (Nat.le_of_ble_eq_true rfl) ?_
  intro p e s m below meth c ls A C hP hD hA hz hK hl hS
  have hx := C.1
  have hb := C.2.1
  have hown : s.vm.findClass RX10 = some m.cls := C.2.2.2.2.2.1
  have ht := C.2.2.2.2.2.2
  have hl : lv_has ls 4 [(0, .ref (x 0)), (1, .int a1), (2, .int a2), (3, .int a3)] := hl
  show Wc_X10_till l G x t9 t6 t8 t3 t7 t1 t0 t4 t5 t2 t3_law t7_states t7_placeBehind t7_length t7_lead a1 a2 a3 R p e s m below meth c A s.heap [] (F0 m 0 ls [])
  obtain ⟨H, eH, hP, hS⟩ : ∃ H, H = s.heap ∧ va_P G.1 vwCl [(oX10 x t9 t6 t8 t3 t7 t1 t0 t4 t5 t2), (oX3 t3), (wI G (t3 1) 12 t3_law), (oX7 t7 t7_length t7_lead), (wI G (t7 1) 6400 t7_states), (wI G (t7 2) 6400 t7_placeBehind)] H ∧ va_S A s.heap H [] := ⟨_, rfl, hP, hS⟩
  obtain ⟨locs, el, hS⟩ : ∃ locs : List Loc, locs = [] ∧ va_S A s.heap H locs := ⟨_, rfl, hS⟩
  have key : Wc_X10_till l G x t9 t6 t8 t3 t7 t1 t0 t4 t5 t2 t3_law t7_states t7_placeBehind t7_length t7_lead a1 a2 a3 R p e s m below meth c A H locs (F0 m 0 ls []) := by
    refine lv_iload_n hx hb dX10_till_0 rfl (lv_at hl 1 rfl) ?_
    obtain ⟨q1, r1, hf⟩ := bd_s hf
    refine ro_S (n := 1) (As := [.int a1]) (rest := []) (c_X10_isIce l G a1 q1 r1) C (hK.at hS hz) (hP.sub [] rfl) hl kcode_X10_isIce kml_X10_124 kst_X10_isIce kini_X10 (by decide +kernel) ⟨⟨rfl, rfl⟩, Nat.le_of_ble_eq_true rfl, Nat.le_of_ble_eq_true rfl⟩ ⟨Nat.zero_le _, Nat.zero_le _⟩ rfl rfl (Nat.le_of_ble_eq_true rfl) dX10_till_1 rfl ?_
    refine lv_if_eq (tgt := 14) hx hb dX10_till_4 (by decide) (fun c2 => ?_) (fun c2 => ?_)
    · have hf := o_t c2 hf
      refine lv_bipush (v := -2) hx hb dX10_till_14 (by decide) ?_
      have h9 := Option.some.inj hf
      subst h9
      exact rw_iret C rfl hP hD hS dX10_till_16
    · have hf := o_f c2 hf
      refine lv_iload_n hx hb dX10_till_7 rfl (lv_at hl 2 rfl) ?_
      obtain ⟨q4, r4, hf⟩ := bd_s hf
      refine ro_S (n := 1) (As := [.int a2]) (rest := []) (c_X10_isAir l G a2 q4 r4) C (hK.at hS hz) (hP.sub [] rfl) hl kcode_X10_isAir kml_X10_127 kst_X10_isAir kini_X10 (by decide +kernel) ⟨⟨rfl, rfl⟩, Nat.le_of_ble_eq_true rfl, Nat.le_of_ble_eq_true rfl⟩ ⟨Nat.zero_le _, Nat.zero_le _⟩ rfl rfl (Nat.le_of_ble_eq_true rfl) dX10_till_8 rfl ?_
      refine lv_if_ne (tgt := 17) hx hb dX10_till_11 (by decide) (fun c5 => ?_) (fun c5 => ?_)
      · have hf := o_f c5 hf
        refine lv_aload_n hx hb dX10_till_17 rfl (lv_at hl 0 rfl) ?_
        refine va_get (D := G.1) (ci := 10) (v := .ref (t7 0)) (C := RX10) (T := TX10) (N := 11) hx hb ht twX10 hown hK.1 hP 0 rfl rfl 4 (by decide) (ht _ kfl_X10_40) (fun _ h9 => h9) rfl dX10_till_18 ?_
        refine lv_aload_n hx hb dX10_till_21 rfl (lv_at hl 0 rfl) ?_
        refine va_get (D := G.1) (ci := 10) (v := .ref (t3 0)) (C := RX10) (T := TX10) (N := 11) hx hb ht twX10 hown hK.1 hP 0 rfl rfl 3 (by decide) (ht _ kfl_X10_33) (fun _ h9 => h9) rfl dX10_till_22 ?_
        refine lv_iload_n hx hb dX10_till_25 rfl (lv_at hl 1 rfl) ?_
        refine lv_iload_n hx hb dX10_till_26 rfl (lv_at hl 2 rfl) ?_
        obtain ⟨q6, r6, hf⟩ := bd_s hf
        refine rw_V (n := 3) (As := [.ref (t3 0), .int a1, .int a2]) (rest := []) (wr := [(oX10 x t9 t6 t8 t3 t7 t1 t0 t4 t5 t2)]) (ws2 := [(oX10 x t9 t6 t8 t3 t7 t1 t0 t4 t5 t2), (oX3 t3), (wI G (t3 1) 12 t3_law), (oX7 t7 q6.2.2.1 q6.2.2.2), (wI G (t7 1) 6400 q6.1), (wI G (t7 2) 6400 q6.2.1)]) (c_X7_follow l G t7 t3 t7_states t7_placeBehind t7_length t7_lead t3_law a1 a2 q6 r6) C hK hP hD hS hA hz hl [3, 4, 5, 1, 2] [0] [0, 4, 5, 1, 2, 3] rfl rfl rfl rfl rfl (by decide) rfl rfl rfl kcode_X7_follow kml_X10_159 kim_X7_follow ksel_X7_follow kini_X7 (by decide +kernel) ⟨⟨rfl, rfl⟩, Nat.le_of_ble_eq_true rfl, Nat.le_of_ble_eq_true rfl⟩ ⟨Nat.zero_le _, Nat.zero_le _⟩ rfl rfl rfl rfl rfl (Nat.le_of_ble_eq_true rfl) dX10_till_27 rfl (fun H locs hP hD hS => ?_)
        refine lv_aload_n hx hb dX10_till_30 rfl (lv_at hl 0 rfl) ?_
        refine va_get (D := G.1) (ci := 10) (v := .ref (t7 0)) (C := RX10) (T := TX10) (N := 11) hx hb ht twX10 hown hK.1 hP 0 rfl rfl 4 (by decide) (ht _ kfl_X10_40) (fun _ h9 => h9) rfl dX10_till_31 ?_
        refine lv_iload_n hx hb dX10_till_34 rfl (lv_at hl 3 rfl) ?_
        obtain ⟨q7, r7, hf⟩ := bd_s hf
        refine ro_V (n := 1) (As := [.int a3]) (rest := []) (c_X7_firstWhite l G t7 q6.1 q6.2.2.1 q6.2.2.2 a3 q7 r7) C (hK.at hS hz) (hP.sub [3, 4] rfl) hl kcode_X7_firstWhite kml_X10_182 kim_X7_firstWhite ksel_X7_firstWhite kini_X7 (by decide +kernel) ⟨⟨rfl, rfl⟩, Nat.le_of_ble_eq_true rfl, Nat.le_of_ble_eq_true rfl⟩ ⟨Nat.zero_le _, Nat.zero_le _⟩ rfl rfl rfl rfl rfl (Nat.le_of_ble_eq_true rfl) dX10_till_35 rfl ?_
        have h9 := Option.some.inj hf
        subst h9
        exact rw_iret C rfl hP hD hS dX10_till_38
      · have hf := o_t c5 hf
        refine lv_bipush (v := -2) hx hb dX10_till_14 (by decide) ?_
        have h9 := Option.some.inj hf
        subst h9
        exact rw_iret C rfl hP hD hS dX10_till_16
  rw [eH, el] at key
  exact key
abbrev Wc_X10_rests (l : Launch) (G : TG) (x : Nat → Nat) (t9 : Nat → Nat) (t6 : Nat → Nat) (t8 : Nat → Nat) (t3 : Nat → Nat) (t7 : Nat → Nat) (t1 : Nat → Nat) (t0 : Nat → Nat) (t4 : Nat → Nat) (t5 : Nat → Nat) (t2 : Nat → Nat) (t3_law : Nat → Int32) (a1 : Int32) (R : Int32) (p : Program) (e : Env) (s : State) (m : MethodId) (below : List Frame) (meth : Method) (c : Code) (H : Heap) (locs : List Loc) (g : JFrame) : Prop := W p l e ({ frames := 5, cells := 0, slots := 0, locals := 118 }) s m ([.ref (x 0), .int a1] : List Value).toArray below meth c H locs 0 0 (MQ below (roQ (some (.int R))) ([.ref (x 0), .int a1] : List Value).toArray s 0 0 (fun _ => False)) g
set_option maxHeartbeats 4000000 in
set_option maxRecDepth 100000 in
theorem c_X10_rests (l : Launch) (G : TG) (x : Nat → Nat) (t9 : Nat → Nat) (t6 : Nat → Nat) (t8 : Nat → Nat) (t3 : Nat → Nat) (t7 : Nat → Nat) (t1 : Nat → Nat) (t0 : Nat → Nat) (t4 : Nat → Nat) (t5 : Nat → Nat) (t2 : Nat → Nat) (t3_law : Nat → Int32) (a1 : Int32) (R : Int32) (hf : f_X10_rests t3_law a1 = some R) : RO l yX10_rests cX10_rests 4 (some .int) ({ frames := 5, cells := 0, slots := 0, locals := 118 }) G [.ref (x 0), .int a1] [(oX10 x t9 t6 t8 t3 t7 t1 t0 t4 t5 t2), (oX3 t3), (wI G (t3 1) 12 t3_law)] (some (.int R)) := by
  refine RO.mk (by decide +kernel) (Nat.le_of_ble_eq_true rfl) ?_
  intro p e s m below meth c ls C hP hK hl
  have hx := C.1
  have hb := C.2.1
  have hown : s.vm.findClass RX10 = some m.cls := C.2.2.2.2.2.1
  have ht := C.2.2.2.2.2.2
  have hl : lv_has ls 4 [(0, .ref (x 0)), (1, .int a1)] := hl
  show Wc_X10_rests l G x t9 t6 t8 t3 t7 t1 t0 t4 t5 t2 t3_law a1 R p e s m below meth c s.heap [] (F0 m 0 ls [])
  refine lv_iload_n hx hb dX10_rests_0 rfl (lv_at hl 1 rfl) ?_
  obtain ⟨q1, r1, hf⟩ := bd_s hf
  refine ro_S (n := 1) (As := [.int a1]) (rest := []) (c_X10_isAir l G a1 q1 r1) C hK (hP.sub [] rfl) hl kcode_X10_isAir kml_X10_127 kst_X10_isAir kini_X10 (by decide +kernel) ⟨⟨rfl, rfl⟩, Nat.le_of_ble_eq_true rfl, Nat.le_of_ble_eq_true rfl⟩ ⟨Nat.zero_le _, Nat.zero_le _⟩ rfl rfl (Nat.le_of_ble_eq_true rfl) dX10_rests_1 rfl ?_
  refine lv_if_ne (tgt := 10) hx hb dX10_rests_4 (by decide) (fun c2 => ?_) (fun c2 => ?_)
  · have hf := o_f c2 hf
    refine lv_iconst (v := 0) hx hb dX10_rests_10 (by decide) ?_
    refine lv_istore_n (lv' := [(2, .int (0 : Int32)), (0, .ref (x 0)), (1, .int a1)]) hx hb dX10_rests_11 rfl hl (by decide) rfl (fun ls hl => ?_)
    refine lv_iconst (v := 0) hx hb dX10_rests_12 (by decide) ?_
    refine lv_istore_n (lv' := [(3, .int (0 : Int32)), (2, .int (0 : Int32)), (0, .ref (x 0)), (1, .int a1)]) hx hb dX10_rests_13 rfl hl (by decide) rfl (fun ls hl => ?_)
    have hx41_3 : ∀ (v2 : Int32) (ls : Array Slot), f_X10_rests_x41_3 v2 = some R → lv_has ls 4 [(2, .int v2)] → Wc_X10_rests l G x t9 t6 t8 t3 t7 t1 t0 t4 t5 t2 t3_law a1 R p e s m below meth c s.heap [] (F0 m 41 ls []) := by
      intro v2 ls hf hl
      refine lv_iload_n hx hb dX10_rests_41 rfl (lv_at hl 0 rfl) ?_
      have h9 := Option.some.inj hf
      subst h9
      exact ro_iret C rfl dX10_rests_42
    obtain ⟨rL3, hL3, hk3⟩ := bd_s hf
    refine lp_W (P := fun st => ∀ (ls : Array Slot), lv_has ls 4 [(0, .ref (x 0)), (1, .int a1), (2, .int st.1), (3, .int st.2)] → Wc_X10_rests l G x t9 t6 t8 t3 t7 t1 t0 t4 t5 t2 t3_law a1 R p e s m below meth c s.heap [] (F0 m 14 ls [])) ?_ FU ((0 : Int32), (0 : Int32)) hL3 ls (lv_sub hl [2, 3, 1, 0] rfl)
    intro ⟨v2, v3⟩ oc3 hf hI hE ls hl
    have hl : lv_has ls 4 [(0, .ref (x 0)), (1, .int a1), (2, .int v2), (3, .int v3)] := hl
    have hf : f_X10_rests_b14 t3_law a1 v2 v3 = some oc3 := hf
    refine lv_iload_n hx hb dX10_rests_14 rfl (lv_at hl 3 rfl) ?_
    refine lv_bipush (v := 63) hx hb dX10_rests_15 (by decide) ?_
    refine lv_icmp_gt (tgt := 41) hx hb dX10_rests_17 (by decide) (fun c5 => ?_) (fun c5 => ?_)
    · have hf := o_t c5 hf
      cases hf
      have hf : f_X10_rests_x41_3 v2 = some R := by have h9 := hk3; rw [← hE _ rfl] at h9; exact h9
      exact hx41_3 v2 ls hf (lv_sub hl [2] rfl)
    · have hf := o_f c5 hf
      refine lv_aload_n hx hb dX10_rests_20 rfl (lv_at hl 0 rfl) ?_
      refine va_get (D := G.1) (ci := 10) (v := .ref (t3 0)) (C := RX10) (T := TX10) (N := 11) hx hb ht twX10 hown hK.1 hP 0 rfl rfl 3 (by decide) (ht _ kfl_X10_33) (fun _ h9 => h9) rfl dX10_rests_21 ?_
      refine lv_iload_n hx hb dX10_rests_24 rfl (lv_at hl 3 rfl) ?_
      refine lv_iload_n hx hb dX10_rests_25 rfl (lv_at hl 1 rfl) ?_
      obtain ⟨q6, r6, hf⟩ := bd_s hf
      refine ro_V (n := 2) (As := [.int v3, .int a1]) (rest := []) (c_X3_isRest l G t3 t3_law v3 a1 q6 r6) C hK (hP.sub [1, 2] rfl) hl kcode_X3_isRest kml_X10_186 kim_X3_isRest ksel_X3_isRest kini_X3 (by decide +kernel) ⟨⟨rfl, rfl⟩, Nat.le_of_ble_eq_true rfl, Nat.le_of_ble_eq_true rfl⟩ ⟨Nat.zero_le _, Nat.zero_le _⟩ rfl rfl rfl rfl rfl (Nat.le_of_ble_eq_true rfl) dX10_rests_26 rfl ?_
      refine lv_if_eq (tgt := 35) hx hb dX10_rests_29 (by decide) (fun c7 => ?_) (fun c7 => ?_)
      · have hf := o_t c7 hf
        refine lv_iinc (v := (v3 + (1 : Int32))) (lv' := [(3, .int (v3 + (1 : Int32))), (0, .ref (x 0)), (1, .int a1), (2, .int v2)]) hx hb dX10_rests_35 hl (k := 3) rfl (by rfl) (by decide) rfl (fun ls hl => ?_)
        refine lv_goto (tgt := 14) hx hb dX10_rests_38 (by decide) ?_
        cases hf
        exact hI _ rfl ls (lv_sub hl [1, 2, 3, 0] rfl)
      · have hf := o_f c7 hf
        refine lv_iinc (v := (v2 + (1 : Int32))) (lv' := [(2, .int (v2 + (1 : Int32))), (0, .ref (x 0)), (1, .int a1), (3, .int v3)]) hx hb dX10_rests_32 hl (k := 2) rfl (by rfl) (by decide) rfl (fun ls hl => ?_)
        refine lv_iinc (v := (v3 + (1 : Int32))) (lv' := [(3, .int (v3 + (1 : Int32))), (2, .int (v2 + (1 : Int32))), (0, .ref (x 0)), (1, .int a1)]) hx hb dX10_rests_35 hl (k := 3) rfl (by rfl) (by decide) rfl (fun ls hl => ?_)
        refine lv_goto (tgt := 14) hx hb dX10_rests_38 (by decide) ?_
        cases hf
        exact hI _ rfl ls (lv_sub hl [2, 3, 1, 0] rfl)
  · have hf := o_t c2 hf
    refine lv_bipush (v := -2) hx hb dX10_rests_7 (by decide) ?_
    have h9 := Option.some.inj hf
    subst h9
    exact ro_iret C rfl dX10_rests_9
abbrev Wc_X10_rest (l : Launch) (G : TG) (x : Nat → Nat) (t9 : Nat → Nat) (t6 : Nat → Nat) (t8 : Nat → Nat) (t3 : Nat → Nat) (t7 : Nat → Nat) (t1 : Nat → Nat) (t0 : Nat → Nat) (t4 : Nat → Nat) (t5 : Nat → Nat) (t2 : Nat → Nat) (t3_law : Nat → Int32) (a1 : Int32) (a2 : Int32) (R : Int32) (p : Program) (e : Env) (s : State) (m : MethodId) (below : List Frame) (meth : Method) (c : Code) (H : Heap) (locs : List Loc) (g : JFrame) : Prop := W p l e ({ frames := 5, cells := 0, slots := 0, locals := 118 }) s m ([.ref (x 0), .int a1, .int a2] : List Value).toArray below meth c H locs 0 0 (MQ below (roQ (some (.int R))) ([.ref (x 0), .int a1, .int a2] : List Value).toArray s 0 0 (fun _ => False)) g
set_option maxHeartbeats 4000000 in
set_option maxRecDepth 100000 in
theorem c_X10_rest (l : Launch) (G : TG) (x : Nat → Nat) (t9 : Nat → Nat) (t6 : Nat → Nat) (t8 : Nat → Nat) (t3 : Nat → Nat) (t7 : Nat → Nat) (t1 : Nat → Nat) (t0 : Nat → Nat) (t4 : Nat → Nat) (t5 : Nat → Nat) (t2 : Nat → Nat) (t3_law : Nat → Int32) (a1 : Int32) (a2 : Int32) (R : Int32) (hf : f_X10_rest t3_law a1 a2 = some R) : RO l yX10_rest cX10_rest 5 (some .int) ({ frames := 5, cells := 0, slots := 0, locals := 118 }) G [.ref (x 0), .int a1, .int a2] [(oX10 x t9 t6 t8 t3 t7 t1 t0 t4 t5 t2), (oX3 t3), (wI G (t3 1) 12 t3_law)] (some (.int R)) := by
  refine RO.mk (by decide +kernel) (Nat.le_of_ble_eq_true rfl) ?_
  intro p e s m below meth c ls C hP hK hl
  have hx := C.1
  have hb := C.2.1
  have hown : s.vm.findClass RX10 = some m.cls := C.2.2.2.2.2.1
  have ht := C.2.2.2.2.2.2
  have hl : lv_has ls 5 [(0, .ref (x 0)), (1, .int a1), (2, .int a2)] := hl
  show Wc_X10_rest l G x t9 t6 t8 t3 t7 t1 t0 t4 t5 t2 t3_law a1 a2 R p e s m below meth c s.heap [] (F0 m 0 ls [])
  refine lv_iload_n hx hb dX10_rest_0 rfl (lv_at hl 1 rfl) ?_
  obtain ⟨q1, r1, hf⟩ := bd_s hf
  refine ro_S (n := 1) (As := [.int a1]) (rest := []) (c_X10_isAir l G a1 q1 r1) C hK (hP.sub [] rfl) hl kcode_X10_isAir kml_X10_127 kst_X10_isAir kini_X10 (by decide +kernel) ⟨⟨rfl, rfl⟩, Nat.le_of_ble_eq_true rfl, Nat.le_of_ble_eq_true rfl⟩ ⟨Nat.zero_le _, Nat.zero_le _⟩ rfl rfl (Nat.le_of_ble_eq_true rfl) dX10_rest_1 rfl ?_
  refine lv_if_ne (tgt := 10) hx hb dX10_rest_4 (by decide) (fun c2 => ?_) (fun c2 => ?_)
  · have hf := o_f c2 hf
    refine lv_iconst (v := 0) hx hb dX10_rest_10 (by decide) ?_
    refine lv_istore_n (lv' := [(3, .int (0 : Int32)), (0, .ref (x 0)), (1, .int a1), (2, .int a2)]) hx hb dX10_rest_11 rfl hl (by decide) rfl (fun ls hl => ?_)
    refine lv_iconst (v := 0) hx hb dX10_rest_12 (by decide) ?_
    refine lv_istore (lv' := [(4, .int (0 : Int32)), (3, .int (0 : Int32)), (0, .ref (x 0)), (1, .int a1), (2, .int a2)]) hx hb dX10_rest_13 hl (by decide) rfl (fun ls hl => ?_)
    have hx52_3 : ∀ (ls : Array Slot), f_X10_rest_x52_3 = some R → lv_has ls 5 [] → Wc_X10_rest l G x t9 t6 t8 t3 t7 t1 t0 t4 t5 t2 t3_law a1 a2 R p e s m below meth c s.heap [] (F0 m 52 ls []) := by
      intro ls hf hl
      refine lv_bipush (v := -9) hx hb dX10_rest_52 (by decide) ?_
      have h9 := Option.some.inj hf
      subst h9
      exact ro_iret C rfl dX10_rest_54
    obtain ⟨rL3, hL3, hk3⟩ := bd_s hf
    refine lp_W (P := fun st => ∀ (ls : Array Slot), lv_has ls 5 [(0, .ref (x 0)), (1, .int a1), (2, .int a2), (3, .int st.1), (4, .int st.2)] → Wc_X10_rest l G x t9 t6 t8 t3 t7 t1 t0 t4 t5 t2 t3_law a1 a2 R p e s m below meth c s.heap [] (F0 m 15 ls [])) ?_ FU ((0 : Int32), (0 : Int32)) hL3 ls (lv_sub hl [2, 3, 4, 1, 0] rfl)
    intro ⟨v3, v4⟩ oc3 hf hI hE ls hl
    have hl : lv_has ls 5 [(0, .ref (x 0)), (1, .int a1), (2, .int a2), (3, .int v3), (4, .int v4)] := hl
    have hf : f_X10_rest_b15 t3_law a1 a2 v3 v4 = some oc3 := hf
    refine lv_iload hx hb dX10_rest_15 (lv_at hl 4 rfl) ?_
    refine lv_bipush (v := 63) hx hb dX10_rest_17 (by decide) ?_
    refine lv_icmp_gt (tgt := 52) hx hb dX10_rest_19 (by decide) (fun c5 => ?_) (fun c5 => ?_)
    · have hf := o_t c5 hf
      cases hf
      have hf : f_X10_rest_x52_3 = some R := by have h9 := hk3; rw [← hE _ rfl] at h9; exact h9
      exact hx52_3 ls hf (lv_sub hl [] rfl)
    · have hf := o_f c5 hf
      refine lv_aload_n hx hb dX10_rest_22 rfl (lv_at hl 0 rfl) ?_
      refine va_get (D := G.1) (ci := 10) (v := .ref (t3 0)) (C := RX10) (T := TX10) (N := 11) hx hb ht twX10 hown hK.1 hP 0 rfl rfl 3 (by decide) (ht _ kfl_X10_33) (fun _ h9 => h9) rfl dX10_rest_23 ?_
      refine lv_iload hx hb dX10_rest_26 (lv_at hl 4 rfl) ?_
      refine lv_iload_n hx hb dX10_rest_28 rfl (lv_at hl 1 rfl) ?_
      obtain ⟨q6, r6, hf⟩ := bd_s hf
      refine ro_V (n := 2) (As := [.int v4, .int a1]) (rest := []) (c_X3_isRest l G t3 t3_law v4 a1 q6 r6) C hK (hP.sub [1, 2] rfl) hl kcode_X3_isRest kml_X10_186 kim_X3_isRest ksel_X3_isRest kini_X3 (by decide +kernel) ⟨⟨rfl, rfl⟩, Nat.le_of_ble_eq_true rfl, Nat.le_of_ble_eq_true rfl⟩ ⟨Nat.zero_le _, Nat.zero_le _⟩ rfl rfl rfl rfl rfl (Nat.le_of_ble_eq_true rfl) dX10_rest_29 rfl ?_
      refine lv_if_eq (tgt := 46) hx hb dX10_rest_32 (by decide) (fun c7 => ?_) (fun c7 => ?_)
      · have hf := o_t c7 hf
        refine lv_iinc (v := (v4 + (1 : Int32))) (lv' := [(4, .int (v4 + (1 : Int32))), (0, .ref (x 0)), (1, .int a1), (2, .int a2), (3, .int v3)]) hx hb dX10_rest_46 hl (k := 4) rfl (by rfl) (by decide) rfl (fun ls hl => ?_)
        refine lv_goto (tgt := 15) hx hb dX10_rest_49 (by decide) ?_
        cases hf
        exact hI _ rfl ls (lv_sub hl [1, 2, 3, 4, 0] rfl)
      · have hf := o_f c7 hf
        refine lv_iload_n hx hb dX10_rest_35 rfl (lv_at hl 3 rfl) ?_
        refine lv_iload_n hx hb dX10_rest_36 rfl (lv_at hl 2 rfl) ?_
        refine lv_icmp_ne (tgt := 43) hx hb dX10_rest_37 (by decide) (fun c8 => ?_) (fun c8 => ?_)
        · have hf := o_f c8 hf
          refine lv_iinc (v := (v3 + (1 : Int32))) (lv' := [(3, .int (v3 + (1 : Int32))), (0, .ref (x 0)), (1, .int a1), (2, .int a2), (4, .int v4)]) hx hb dX10_rest_43 hl (k := 3) rfl (by rfl) (by decide) rfl (fun ls hl => ?_)
          refine lv_iinc (v := (v4 + (1 : Int32))) (lv' := [(4, .int (v4 + (1 : Int32))), (3, .int (v3 + (1 : Int32))), (0, .ref (x 0)), (1, .int a1), (2, .int a2)]) hx hb dX10_rest_46 hl (k := 4) rfl (by rfl) (by decide) rfl (fun ls hl => ?_)
          refine lv_goto (tgt := 15) hx hb dX10_rest_49 (by decide) ?_
          cases hf
          exact hI _ rfl ls (lv_sub hl [2, 3, 4, 1, 0] rfl)
        · have hf := o_t c8 hf
          refine lv_iload hx hb dX10_rest_40 (lv_at hl 4 rfl) ?_
          cases hf
          have hf : some v4 = some R := by have h9 := hk3; rw [← hE _ rfl] at h9; exact h9
          have h9 := Option.some.inj hf
          subst h9
          exact ro_iret C rfl dX10_rest_42
  · have hf := o_t c2 hf
    refine lv_bipush (v := -2) hx hb dX10_rest_7 (by decide) ?_
    have h9 := Option.some.inj hf
    subst h9
    exact ro_iret C rfl dX10_rest_9
abbrev Wc_X10_settle (l : Launch) (G : TG) (x : Nat → Nat) (t9 : Nat → Nat) (t6 : Nat → Nat) (t8 : Nat → Nat) (t3 : Nat → Nat) (t7 : Nat → Nat) (t1 : Nat → Nat) (t0 : Nat → Nat) (t4 : Nat → Nat) (t5 : Nat → Nat) (t2 : Nat → Nat) (t3_law : Nat → Int32) (a1 : Int32) (a2 : Int32) (R : Int32) (p : Program) (e : Env) (s : State) (m : MethodId) (below : List Frame) (meth : Method) (c : Code) (H : Heap) (locs : List Loc) (g : JFrame) : Prop := W p l e ({ frames := 5, cells := 0, slots := 0, locals := 121 }) s m ([.ref (x 0), .int a1, .int a2] : List Value).toArray below meth c H locs 0 0 (MQ below (roQ (some (.int R))) ([.ref (x 0), .int a1, .int a2] : List Value).toArray s 0 0 (fun _ => False)) g
set_option maxHeartbeats 4000000 in
set_option maxRecDepth 100000 in
theorem c_X10_settle (l : Launch) (G : TG) (x : Nat → Nat) (t9 : Nat → Nat) (t6 : Nat → Nat) (t8 : Nat → Nat) (t3 : Nat → Nat) (t7 : Nat → Nat) (t1 : Nat → Nat) (t0 : Nat → Nat) (t4 : Nat → Nat) (t5 : Nat → Nat) (t2 : Nat → Nat) (t3_law : Nat → Int32) (a1 : Int32) (a2 : Int32) (R : Int32) (hf : f_X10_settle t3_law a1 a2 = some R) : RO l yX10_settle cX10_settle 3 (some .int) ({ frames := 5, cells := 0, slots := 0, locals := 121 }) G [.ref (x 0), .int a1, .int a2] [(oX10 x t9 t6 t8 t3 t7 t1 t0 t4 t5 t2), (oX3 t3), (wI G (t3 1) 12 t3_law)] (some (.int R)) := by
  refine RO.mk (by decide +kernel) (Nat.le_of_ble_eq_true rfl) ?_
  intro p e s m below meth c ls C hP hK hl
  have hx := C.1
  have hb := C.2.1
  have hown : s.vm.findClass RX10 = some m.cls := C.2.2.2.2.2.1
  have ht := C.2.2.2.2.2.2
  have hl : lv_has ls 3 [(0, .ref (x 0)), (1, .int a1), (2, .int a2)] := hl
  show Wc_X10_settle l G x t9 t6 t8 t3 t7 t1 t0 t4 t5 t2 t3_law a1 a2 R p e s m below meth c s.heap [] (F0 m 0 ls [])
  refine lv_iload_n hx hb dX10_settle_0 rfl (lv_at hl 1 rfl) ?_
  obtain ⟨q1, r1, hf⟩ := bd_s hf
  refine ro_S (n := 1) (As := [.int a1]) (rest := []) (c_X10_isIce l G a1 q1 r1) C hK (hP.sub [] rfl) hl kcode_X10_isIce kml_X10_124 kst_X10_isIce kini_X10 (by decide +kernel) ⟨⟨rfl, rfl⟩, Nat.le_of_ble_eq_true rfl, Nat.le_of_ble_eq_true rfl⟩ ⟨Nat.zero_le _, Nat.zero_le _⟩ rfl rfl (Nat.le_of_ble_eq_true rfl) dX10_settle_1 rfl ?_
  refine lv_if_eq (tgt := 14) hx hb dX10_settle_4 (by decide) (fun c2 => ?_) (fun c2 => ?_)
  · have hf := o_t c2 hf
    refine lv_bipush (v := -2) hx hb dX10_settle_14 (by decide) ?_
    have h9 := Option.some.inj hf
    subst h9
    exact ro_iret C rfl dX10_settle_16
  · have hf := o_f c2 hf
    refine lv_iload_n hx hb dX10_settle_7 rfl (lv_at hl 2 rfl) ?_
    obtain ⟨q4, r4, hf⟩ := bd_s hf
    refine ro_S (n := 1) (As := [.int a2]) (rest := []) (c_X10_isAir l G a2 q4 r4) C hK (hP.sub [] rfl) hl kcode_X10_isAir kml_X10_127 kst_X10_isAir kini_X10 (by decide +kernel) ⟨⟨rfl, rfl⟩, Nat.le_of_ble_eq_true rfl, Nat.le_of_ble_eq_true rfl⟩ ⟨Nat.zero_le _, Nat.zero_le _⟩ rfl rfl (Nat.le_of_ble_eq_true rfl) dX10_settle_8 rfl ?_
    refine lv_if_ne (tgt := 17) hx hb dX10_settle_11 (by decide) (fun c5 => ?_) (fun c5 => ?_)
    · have hf := o_f c5 hf
      refine lv_aload_n hx hb dX10_settle_17 rfl (lv_at hl 0 rfl) ?_
      refine va_get (D := G.1) (ci := 10) (v := .ref (t3 0)) (C := RX10) (T := TX10) (N := 11) hx hb ht twX10 hown hK.1 hP 0 rfl rfl 3 (by decide) (ht _ kfl_X10_33) (fun _ h9 => h9) rfl dX10_settle_18 ?_
      refine lv_iload_n hx hb dX10_settle_21 rfl (lv_at hl 1 rfl) ?_
      refine lv_iload_n hx hb dX10_settle_22 rfl (lv_at hl 2 rfl) ?_
      obtain ⟨q6, r6, hf⟩ := bd_s hf
      refine ro_V (n := 2) (As := [.int a1, .int a2]) (rest := []) (c_X3_settled l G t3 t3_law a1 a2 q6 r6) C hK (hP.sub [1, 2] rfl) hl kcode_X3_settled kml_X10_190 kim_X3_settled ksel_X3_settled kini_X3 (by decide +kernel) ⟨⟨rfl, rfl⟩, Nat.le_of_ble_eq_true rfl, Nat.le_of_ble_eq_true rfl⟩ ⟨Nat.zero_le _, Nat.zero_le _⟩ rfl rfl rfl rfl rfl (Nat.le_of_ble_eq_true rfl) dX10_settle_23 rfl ?_
      have h9 := Option.some.inj hf
      subst h9
      exact ro_iret C rfl dX10_settle_26
    · have hf := o_t c5 hf
      refine lv_bipush (v := -2) hx hb dX10_settle_14 (by decide) ?_
      have h9 := Option.some.inj hf
      subst h9
      exact ro_iret C rfl dX10_settle_16
abbrev Wc_X10_jumps (l : Launch) (G : TG) (x : Nat → Nat) (t9 : Nat → Nat) (t6 : Nat → Nat) (t8 : Nat → Nat) (t3 : Nat → Nat) (t7 : Nat → Nat) (t1 : Nat → Nat) (t0 : Nat → Nat) (t4 : Nat → Nat) (t5 : Nat → Nat) (t2 : Nat → Nat) (t3_law : Nat → Int32) (t1_airs : Nat → Int32) (t1_found : Int32) (t1_end : Int32) (a1 : Int32) (a2 : Int32) (a3 : Int32) (R : Int32 × (Nat → Int32) × Int32 × Int32) (p : Program) (e : Env) (s : State) (m : MethodId) (below : List Frame) (meth : Method) (c : Code) (A : Nat → Prop) (H : Heap) (locs : List Loc) (g : JFrame) : Prop := W p l e ({ frames := 6, cells := 0, slots := 0, locals := 149 }) s m ([.ref (x 0), .int a1, .int a2, .int a3] : List Value).toArray below meth c H locs 0 0 (MQ below (rwQ G (some (.int R.1)) [(oX10 x t9 t6 t8 t3 t7 t1 t0 t4 t5 t2), (oX3 t3), (wI G (t3 1) 12 t3_law), (oX1 t1 R.2.2.1 R.2.2.2), (wI G (t1 1) 100 R.2.1)] A) ([.ref (x 0), .int a1, .int a2, .int a3] : List Value).toArray s 0 0 A) g
set_option maxHeartbeats 4000000 in
set_option maxRecDepth 100000 in
theorem c_X10_jumps (l : Launch) (G : TG) (x : Nat → Nat) (t9 : Nat → Nat) (t6 : Nat → Nat) (t8 : Nat → Nat) (t3 : Nat → Nat) (t7 : Nat → Nat) (t1 : Nat → Nat) (t0 : Nat → Nat) (t4 : Nat → Nat) (t5 : Nat → Nat) (t2 : Nat → Nat) (t3_law : Nat → Int32) (t1_airs : Nat → Int32) (t1_found : Int32) (t1_end : Int32) (a1 : Int32) (a2 : Int32) (a3 : Int32) (R : Int32 × (Nat → Int32) × Int32 × Int32) (hf : f_X10_jumps t3_law t1_airs t1_found t1_end a1 a2 a3 = some R) : RW l yX10_jumps cX10_jumps 4 (some .int) ({ frames := 6, cells := 0, slots := 0, locals := 149 }) G [.ref (x 0), .int a1, .int a2, .int a3] [(oX10 x t9 t6 t8 t3 t7 t1 t0 t4 t5 t2), (oX3 t3), (wI G (t3 1) 12 t3_law), (oX1 t1 t1_found t1_end), (wI G (t1 1) 100 t1_airs)] (some (.int R.1)) [(oX10 x t9 t6 t8 t3 t7 t1 t0 t4 t5 t2), (oX3 t3), (wI G (t3 1) 12 t3_law), (oX1 t1 R.2.2.1 R.2.2.2), (wI G (t1 1) 100 R.2.1)] := by
  refine RW.mk (by decide +kernel) (Nat.le_of_ble_eq_true rfl) ?_
  intro p e s m below meth c ls A C hP hD hA hz hK hl hS
  have hx := C.1
  have hb := C.2.1
  have hown : s.vm.findClass RX10 = some m.cls := C.2.2.2.2.2.1
  have ht := C.2.2.2.2.2.2
  have hl : lv_has ls 4 [(0, .ref (x 0)), (1, .int a1), (2, .int a2), (3, .int a3)] := hl
  show Wc_X10_jumps l G x t9 t6 t8 t3 t7 t1 t0 t4 t5 t2 t3_law t1_airs t1_found t1_end a1 a2 a3 R p e s m below meth c A s.heap [] (F0 m 0 ls [])
  obtain ⟨H, eH, hP, hS⟩ : ∃ H, H = s.heap ∧ va_P G.1 vwCl [(oX10 x t9 t6 t8 t3 t7 t1 t0 t4 t5 t2), (oX3 t3), (wI G (t3 1) 12 t3_law), (oX1 t1 t1_found t1_end), (wI G (t1 1) 100 t1_airs)] H ∧ va_S A s.heap H [] := ⟨_, rfl, hP, hS⟩
  obtain ⟨locs, el, hS⟩ : ∃ locs : List Loc, locs = [] ∧ va_S A s.heap H locs := ⟨_, rfl, hS⟩
  have key : Wc_X10_jumps l G x t9 t6 t8 t3 t7 t1 t0 t4 t5 t2 t3_law t1_airs t1_found t1_end a1 a2 a3 R p e s m below meth c A H locs (F0 m 0 ls []) := by
    refine lv_iload_n hx hb dX10_jumps_0 rfl (lv_at hl 1 rfl) ?_
    obtain ⟨q1, r1, hf⟩ := bd_s hf
    refine ro_S (n := 1) (As := [.int a1]) (rest := []) (c_X10_isIce l G a1 q1 r1) C (hK.at hS hz) (hP.sub [] rfl) hl kcode_X10_isIce kml_X10_124 kst_X10_isIce kini_X10 (by decide +kernel) ⟨⟨rfl, rfl⟩, Nat.le_of_ble_eq_true rfl, Nat.le_of_ble_eq_true rfl⟩ ⟨Nat.zero_le _, Nat.zero_le _⟩ rfl rfl (Nat.le_of_ble_eq_true rfl) dX10_jumps_1 rfl ?_
    refine lv_if_eq (tgt := 21) hx hb dX10_jumps_4 (by decide) (fun c2 => ?_) (fun c2 => ?_)
    · have hf := o_t c2 hf
      refine lv_bipush (v := -2) hx hb dX10_jumps_21 (by decide) ?_
      have h9 := Option.some.inj hf
      subst h9
      exact rw_iret C rfl hP hD hS dX10_jumps_23
    · have hf := o_f c2 hf
      refine lv_iload_n hx hb dX10_jumps_7 rfl (lv_at hl 2 rfl) ?_
      obtain ⟨q4, r4, hf⟩ := bd_s hf
      refine ro_S (n := 1) (As := [.int a2]) (rest := []) (c_X10_isAir l G a2 q4 r4) C (hK.at hS hz) (hP.sub [] rfl) hl kcode_X10_isAir kml_X10_127 kst_X10_isAir kini_X10 (by decide +kernel) ⟨⟨rfl, rfl⟩, Nat.le_of_ble_eq_true rfl, Nat.le_of_ble_eq_true rfl⟩ ⟨Nat.zero_le _, Nat.zero_le _⟩ rfl rfl (Nat.le_of_ble_eq_true rfl) dX10_jumps_8 rfl ?_
      refine lv_if_eq (tgt := 21) hx hb dX10_jumps_11 (by decide) (fun c5 => ?_) (fun c5 => ?_)
      · have hf := o_t c5 hf
        refine lv_bipush (v := -2) hx hb dX10_jumps_21 (by decide) ?_
        have h9 := Option.some.inj hf
        subst h9
        exact rw_iret C rfl hP hD hS dX10_jumps_23
      · have hf := o_f c5 hf
        refine lv_iload_n hx hb dX10_jumps_14 rfl (lv_at hl 3 rfl) ?_
        obtain ⟨q7, r7, hf⟩ := bd_s hf
        refine ro_S (n := 1) (As := [.int a3]) (rest := []) (c_X10_isAir l G a3 q7 r7) C (hK.at hS hz) (hP.sub [] rfl) hl kcode_X10_isAir kml_X10_127 kst_X10_isAir kini_X10 (by decide +kernel) ⟨⟨rfl, rfl⟩, Nat.le_of_ble_eq_true rfl, Nat.le_of_ble_eq_true rfl⟩ ⟨Nat.zero_le _, Nat.zero_le _⟩ rfl rfl (Nat.le_of_ble_eq_true rfl) dX10_jumps_15 rfl ?_
        refine lv_if_ne (tgt := 24) hx hb dX10_jumps_18 (by decide) (fun c8 => ?_) (fun c8 => ?_)
        · have hf := o_f c8 hf
          refine lv_aload_n hx hb dX10_jumps_24 rfl (lv_at hl 0 rfl) ?_
          refine va_get (D := G.1) (ci := 10) (v := .ref (t1 0)) (C := RX10) (T := TX10) (N := 11) hx hb ht twX10 hown hK.1 hP 0 rfl rfl 5 (by decide) (ht _ kfl_X10_47) (fun _ h9 => h9) rfl dX10_jumps_25 ?_
          refine lv_aload_n hx hb dX10_jumps_28 rfl (lv_at hl 0 rfl) ?_
          refine va_get (D := G.1) (ci := 10) (v := .ref (t3 0)) (C := RX10) (T := TX10) (N := 11) hx hb ht twX10 hown hK.1 hP 0 rfl rfl 3 (by decide) (ht _ kfl_X10_33) (fun _ h9 => h9) rfl dX10_jumps_29 ?_
          refine lv_iload_n hx hb dX10_jumps_32 rfl (lv_at hl 1 rfl) ?_
          refine lv_iload_n hx hb dX10_jumps_33 rfl (lv_at hl 2 rfl) ?_
          refine lv_iload_n hx hb dX10_jumps_34 rfl (lv_at hl 3 rfl) ?_
          obtain ⟨q9, r9, hf⟩ := bd_s hf
          refine rw_V (n := 4) (As := [.ref (t3 0), .int a1, .int a2, .int a3]) (rest := []) (wr := [(oX10 x t9 t6 t8 t3 t7 t1 t0 t4 t5 t2)]) (ws2 := [(oX10 x t9 t6 t8 t3 t7 t1 t0 t4 t5 t2), (oX3 t3), (wI G (t3 1) 12 t3_law), (oX1 t1 q9.2.1 q9.2.2), (wI G (t1 1) 100 q9.1)]) (c_X1_follow l G t1 t3 t1_airs t1_found t1_end t3_law a1 a2 a3 q9 r9) C hK hP hD hS hA hz hl [3, 4, 1, 2] [0] [0, 3, 4, 1, 2] rfl rfl rfl rfl rfl (by decide) rfl rfl rfl kcode_X1_follow kml_X10_193 kim_X1_follow ksel_X1_follow kini_X1 (by decide +kernel) ⟨⟨rfl, rfl⟩, Nat.le_of_ble_eq_true rfl, Nat.le_of_ble_eq_true rfl⟩ ⟨Nat.zero_le _, Nat.zero_le _⟩ rfl rfl rfl rfl rfl (Nat.le_of_ble_eq_true rfl) dX10_jumps_35 rfl (fun H locs hP hD hS => ?_)
          refine lv_aload_n hx hb dX10_jumps_38 rfl (lv_at hl 0 rfl) ?_
          refine va_get (D := G.1) (ci := 10) (v := .ref (t1 0)) (C := RX10) (T := TX10) (N := 11) hx hb ht twX10 hown hK.1 hP 0 rfl rfl 5 (by decide) (ht _ kfl_X10_47) (fun _ h9 => h9) rfl dX10_jumps_39 ?_
          refine va_get (D := G.1) (ci := 1) (v := .int q9.2.1) (C := RX1) (T := TX1) (N := 3) hx hb ht twX1 hown hK.1 hP 3 rfl rfl 1 (by decide) (ht _ kfl_X10_196) (fun _ h9 => h9) rfl dX10_jumps_42 ?_
          have h9 := Option.some.inj hf
          subst h9
          exact rw_iret C rfl hP hD hS dX10_jumps_45
        · have hf := o_t c8 hf
          refine lv_bipush (v := -2) hx hb dX10_jumps_21 (by decide) ?_
          have h9 := Option.some.inj hf
          subst h9
          exact rw_iret C rfl hP hD hS dX10_jumps_23
  rw [eH, el] at key
  exact key
abbrev Wc_X10_jump (l : Launch) (G : TG) (x : Nat → Nat) (t9 : Nat → Nat) (t6 : Nat → Nat) (t8 : Nat → Nat) (t3 : Nat → Nat) (t7 : Nat → Nat) (t1 : Nat → Nat) (t0 : Nat → Nat) (t4 : Nat → Nat) (t5 : Nat → Nat) (t2 : Nat → Nat) (t3_law : Nat → Int32) (t1_airs : Nat → Int32) (t1_found : Int32) (t1_end : Int32) (a1 : Int32) (a2 : Int32) (a3 : Int32) (a4 : Int32) (R : Int32 × (Nat → Int32) × Int32 × Int32) (p : Program) (e : Env) (s : State) (m : MethodId) (below : List Frame) (meth : Method) (c : Code) (A : Nat → Prop) (H : Heap) (locs : List Loc) (g : JFrame) : Prop := W p l e ({ frames := 6, cells := 0, slots := 0, locals := 149 }) s m ([.ref (x 0), .int a1, .int a2, .int a3, .int a4] : List Value).toArray below meth c H locs 0 0 (MQ below (rwQ G (some (.int R.1)) [(oX10 x t9 t6 t8 t3 t7 t1 t0 t4 t5 t2), (oX3 t3), (wI G (t3 1) 12 t3_law), (oX1 t1 R.2.2.1 R.2.2.2), (wI G (t1 1) 100 R.2.1)] A) ([.ref (x 0), .int a1, .int a2, .int a3, .int a4] : List Value).toArray s 0 0 A) g
set_option maxHeartbeats 4000000 in
set_option maxRecDepth 100000 in
theorem c_X10_jump (l : Launch) (G : TG) (x : Nat → Nat) (t9 : Nat → Nat) (t6 : Nat → Nat) (t8 : Nat → Nat) (t3 : Nat → Nat) (t7 : Nat → Nat) (t1 : Nat → Nat) (t0 : Nat → Nat) (t4 : Nat → Nat) (t5 : Nat → Nat) (t2 : Nat → Nat) (t3_law : Nat → Int32) (t1_airs : Nat → Int32) (t1_found : Int32) (t1_end : Int32) (a1 : Int32) (a2 : Int32) (a3 : Int32) (a4 : Int32) (R : Int32 × (Nat → Int32) × Int32 × Int32) (hf : f_X10_jump t3_law t1_airs t1_found t1_end a1 a2 a3 a4 = some R) : RW l yX10_jump cX10_jump 5 (some .int) ({ frames := 6, cells := 0, slots := 0, locals := 149 }) G [.ref (x 0), .int a1, .int a2, .int a3, .int a4] [(oX10 x t9 t6 t8 t3 t7 t1 t0 t4 t5 t2), (oX3 t3), (wI G (t3 1) 12 t3_law), (oX1 t1 t1_found t1_end), (wI G (t1 1) 100 t1_airs)] (some (.int R.1)) [(oX10 x t9 t6 t8 t3 t7 t1 t0 t4 t5 t2), (oX3 t3), (wI G (t3 1) 12 t3_law), (oX1 t1 R.2.2.1 R.2.2.2), (wI G (t1 1) 100 R.2.1)] := by
  refine RW.mk (by decide +kernel) (Nat.le_of_ble_eq_true rfl) ?_
  intro p e s m below meth c ls A C hP hD hA hz hK hl hS
  have hx := C.1
  have hb := C.2.1
  have hown : s.vm.findClass RX10 = some m.cls := C.2.2.2.2.2.1
  have ht := C.2.2.2.2.2.2
  have hl : lv_has ls 5 [(0, .ref (x 0)), (1, .int a1), (2, .int a2), (3, .int a3), (4, .int a4)] := hl
  show Wc_X10_jump l G x t9 t6 t8 t3 t7 t1 t0 t4 t5 t2 t3_law t1_airs t1_found t1_end a1 a2 a3 a4 R p e s m below meth c A s.heap [] (F0 m 0 ls [])
  obtain ⟨H, eH, hP, hS⟩ : ∃ H, H = s.heap ∧ va_P G.1 vwCl [(oX10 x t9 t6 t8 t3 t7 t1 t0 t4 t5 t2), (oX3 t3), (wI G (t3 1) 12 t3_law), (oX1 t1 t1_found t1_end), (wI G (t1 1) 100 t1_airs)] H ∧ va_S A s.heap H [] := ⟨_, rfl, hP, hS⟩
  obtain ⟨locs, el, hS⟩ : ∃ locs : List Loc, locs = [] ∧ va_S A s.heap H locs := ⟨_, rfl, hS⟩
  have key : Wc_X10_jump l G x t9 t6 t8 t3 t7 t1 t0 t4 t5 t2 t3_law t1_airs t1_found t1_end a1 a2 a3 a4 R p e s m below meth c A H locs (F0 m 0 ls []) := by
    refine lv_iload_n hx hb dX10_jump_0 rfl (lv_at hl 1 rfl) ?_
    obtain ⟨q1, r1, hf⟩ := bd_s hf
    refine ro_S (n := 1) (As := [.int a1]) (rest := []) (c_X10_isIce l G a1 q1 r1) C (hK.at hS hz) (hP.sub [] rfl) hl kcode_X10_isIce kml_X10_124 kst_X10_isIce kini_X10 (by decide +kernel) ⟨⟨rfl, rfl⟩, Nat.le_of_ble_eq_true rfl, Nat.le_of_ble_eq_true rfl⟩ ⟨Nat.zero_le _, Nat.zero_le _⟩ rfl rfl (Nat.le_of_ble_eq_true rfl) dX10_jump_1 rfl ?_
    refine lv_if_eq (tgt := 21) hx hb dX10_jump_4 (by decide) (fun c2 => ?_) (fun c2 => ?_)
    · have hf := o_t c2 hf
      refine lv_bipush (v := -2) hx hb dX10_jump_21 (by decide) ?_
      have h9 := Option.some.inj hf
      subst h9
      exact rw_iret C rfl hP hD hS dX10_jump_23
    · have hf := o_f c2 hf
      refine lv_iload_n hx hb dX10_jump_7 rfl (lv_at hl 2 rfl) ?_
      obtain ⟨q4, r4, hf⟩ := bd_s hf
      refine ro_S (n := 1) (As := [.int a2]) (rest := []) (c_X10_isAir l G a2 q4 r4) C (hK.at hS hz) (hP.sub [] rfl) hl kcode_X10_isAir kml_X10_127 kst_X10_isAir kini_X10 (by decide +kernel) ⟨⟨rfl, rfl⟩, Nat.le_of_ble_eq_true rfl, Nat.le_of_ble_eq_true rfl⟩ ⟨Nat.zero_le _, Nat.zero_le _⟩ rfl rfl (Nat.le_of_ble_eq_true rfl) dX10_jump_8 rfl ?_
      refine lv_if_eq (tgt := 21) hx hb dX10_jump_11 (by decide) (fun c5 => ?_) (fun c5 => ?_)
      · have hf := o_t c5 hf
        refine lv_bipush (v := -2) hx hb dX10_jump_21 (by decide) ?_
        have h9 := Option.some.inj hf
        subst h9
        exact rw_iret C rfl hP hD hS dX10_jump_23
      · have hf := o_f c5 hf
        refine lv_iload_n hx hb dX10_jump_14 rfl (lv_at hl 3 rfl) ?_
        obtain ⟨q7, r7, hf⟩ := bd_s hf
        refine ro_S (n := 1) (As := [.int a3]) (rest := []) (c_X10_isAir l G a3 q7 r7) C (hK.at hS hz) (hP.sub [] rfl) hl kcode_X10_isAir kml_X10_127 kst_X10_isAir kini_X10 (by decide +kernel) ⟨⟨rfl, rfl⟩, Nat.le_of_ble_eq_true rfl, Nat.le_of_ble_eq_true rfl⟩ ⟨Nat.zero_le _, Nat.zero_le _⟩ rfl rfl (Nat.le_of_ble_eq_true rfl) dX10_jump_15 rfl ?_
        refine lv_if_ne (tgt := 24) hx hb dX10_jump_18 (by decide) (fun c8 => ?_) (fun c8 => ?_)
        · have hf := o_f c8 hf
          refine lv_aload_n hx hb dX10_jump_24 rfl (lv_at hl 0 rfl) ?_
          refine va_get (D := G.1) (ci := 10) (v := .ref (t1 0)) (C := RX10) (T := TX10) (N := 11) hx hb ht twX10 hown hK.1 hP 0 rfl rfl 5 (by decide) (ht _ kfl_X10_47) (fun _ h9 => h9) rfl dX10_jump_25 ?_
          refine lv_aload_n hx hb dX10_jump_28 rfl (lv_at hl 0 rfl) ?_
          refine va_get (D := G.1) (ci := 10) (v := .ref (t3 0)) (C := RX10) (T := TX10) (N := 11) hx hb ht twX10 hown hK.1 hP 0 rfl rfl 3 (by decide) (ht _ kfl_X10_33) (fun _ h9 => h9) rfl dX10_jump_29 ?_
          refine lv_iload_n hx hb dX10_jump_32 rfl (lv_at hl 1 rfl) ?_
          refine lv_iload_n hx hb dX10_jump_33 rfl (lv_at hl 2 rfl) ?_
          refine lv_iload_n hx hb dX10_jump_34 rfl (lv_at hl 3 rfl) ?_
          obtain ⟨q9, r9, hf⟩ := bd_s hf
          refine rw_V (n := 4) (As := [.ref (t3 0), .int a1, .int a2, .int a3]) (rest := []) (wr := [(oX10 x t9 t6 t8 t3 t7 t1 t0 t4 t5 t2)]) (ws2 := [(oX10 x t9 t6 t8 t3 t7 t1 t0 t4 t5 t2), (oX3 t3), (wI G (t3 1) 12 t3_law), (oX1 t1 q9.2.1 q9.2.2), (wI G (t1 1) 100 q9.1)]) (c_X1_follow l G t1 t3 t1_airs t1_found t1_end t3_law a1 a2 a3 q9 r9) C hK hP hD hS hA hz hl [3, 4, 1, 2] [0] [0, 3, 4, 1, 2] rfl rfl rfl rfl rfl (by decide) rfl rfl rfl kcode_X1_follow kml_X10_193 kim_X1_follow ksel_X1_follow kini_X1 (by decide +kernel) ⟨⟨rfl, rfl⟩, Nat.le_of_ble_eq_true rfl, Nat.le_of_ble_eq_true rfl⟩ ⟨Nat.zero_le _, Nat.zero_le _⟩ rfl rfl rfl rfl rfl (Nat.le_of_ble_eq_true rfl) dX10_jump_35 rfl (fun H locs hP hD hS => ?_)
          refine lv_aload_n hx hb dX10_jump_38 rfl (lv_at hl 0 rfl) ?_
          refine va_get (D := G.1) (ci := 10) (v := .ref (t1 0)) (C := RX10) (T := TX10) (N := 11) hx hb ht twX10 hown hK.1 hP 0 rfl rfl 5 (by decide) (ht _ kfl_X10_47) (fun _ h9 => h9) rfl dX10_jump_39 ?_
          refine lv_iload hx hb dX10_jump_42 (lv_at hl 4 rfl) ?_
          obtain ⟨q10, r10, hf⟩ := bd_s hf
          refine ro_V (n := 1) (As := [.int a4]) (rest := []) (c_X1_airOf l G t1 q9.1 q9.2.1 q9.2.2 a4 q10 r10) C (hK.at hS hz) (hP.sub [3, 4] rfl) hl kcode_X1_airOf kml_X10_199 kim_X1_airOf ksel_X1_airOf kini_X1 (by decide +kernel) ⟨⟨rfl, rfl⟩, Nat.le_of_ble_eq_true rfl, Nat.le_of_ble_eq_true rfl⟩ ⟨Nat.zero_le _, Nat.zero_le _⟩ rfl rfl rfl rfl rfl (Nat.le_of_ble_eq_true rfl) dX10_jump_44 rfl ?_
          have h9 := Option.some.inj hf
          subst h9
          exact rw_iret C rfl hP hD hS dX10_jump_47
        · have hf := o_t c8 hf
          refine lv_bipush (v := -2) hx hb dX10_jump_21 (by decide) ?_
          have h9 := Option.some.inj hf
          subst h9
          exact rw_iret C rfl hP hD hS dX10_jump_23
  rw [eH, el] at key
  exact key
abbrev Wc_X10_curve (l : Launch) (G : TG) (x : Nat → Nat) (t9 : Nat → Nat) (t6 : Nat → Nat) (t8 : Nat → Nat) (t3 : Nat → Nat) (t7 : Nat → Nat) (t1 : Nat → Nat) (t0 : Nat → Nat) (t4 : Nat → Nat) (t5 : Nat → Nat) (t2 : Nat → Nat) (t3_law : Nat → Int32) (t1_airs : Nat → Int32) (t1_found : Int32) (t1_end : Int32) (a1 : Int32) (a2 : Int32) (a3 : Int32) (R : Int32 × (Nat → Int32) × Int32 × Int32) (p : Program) (e : Env) (s : State) (m : MethodId) (below : List Frame) (meth : Method) (c : Code) (A : Nat → Prop) (H : Heap) (locs : List Loc) (g : JFrame) : Prop := W p l e ({ frames := 6, cells := 0, slots := 0, locals := 149 }) s m ([.ref (x 0), .int a1, .int a2, .int a3] : List Value).toArray below meth c H locs 0 0 (MQ below (rwQ G (some (.int R.1)) [(oX10 x t9 t6 t8 t3 t7 t1 t0 t4 t5 t2), (oX3 t3), (wI G (t3 1) 12 t3_law), (oX1 t1 R.2.2.1 R.2.2.2), (wI G (t1 1) 100 R.2.1)] A) ([.ref (x 0), .int a1, .int a2, .int a3] : List Value).toArray s 0 0 A) g
set_option maxHeartbeats 4000000 in
set_option maxRecDepth 100000 in
theorem c_X10_curve (l : Launch) (G : TG) (x : Nat → Nat) (t9 : Nat → Nat) (t6 : Nat → Nat) (t8 : Nat → Nat) (t3 : Nat → Nat) (t7 : Nat → Nat) (t1 : Nat → Nat) (t0 : Nat → Nat) (t4 : Nat → Nat) (t5 : Nat → Nat) (t2 : Nat → Nat) (t3_law : Nat → Int32) (t1_airs : Nat → Int32) (t1_found : Int32) (t1_end : Int32) (a1 : Int32) (a2 : Int32) (a3 : Int32) (R : Int32 × (Nat → Int32) × Int32 × Int32) (hf : f_X10_curve t3_law t1_airs t1_found t1_end a1 a2 a3 = some R) : RW l yX10_curve cX10_curve 4 (some .int) ({ frames := 6, cells := 0, slots := 0, locals := 149 }) G [.ref (x 0), .int a1, .int a2, .int a3] [(oX10 x t9 t6 t8 t3 t7 t1 t0 t4 t5 t2), (oX3 t3), (wI G (t3 1) 12 t3_law), (oX1 t1 t1_found t1_end), (wI G (t1 1) 100 t1_airs)] (some (.int R.1)) [(oX10 x t9 t6 t8 t3 t7 t1 t0 t4 t5 t2), (oX3 t3), (wI G (t3 1) 12 t3_law), (oX1 t1 R.2.2.1 R.2.2.2), (wI G (t1 1) 100 R.2.1)] := by
  refine RW.mk (by decide +kernel) (Nat.le_of_ble_eq_true rfl) ?_
  intro p e s m below meth c ls A C hP hD hA hz hK hl hS
  have hx := C.1
  have hb := C.2.1
  have hown : s.vm.findClass RX10 = some m.cls := C.2.2.2.2.2.1
  have ht := C.2.2.2.2.2.2
  have hl : lv_has ls 4 [(0, .ref (x 0)), (1, .int a1), (2, .int a2), (3, .int a3)] := hl
  show Wc_X10_curve l G x t9 t6 t8 t3 t7 t1 t0 t4 t5 t2 t3_law t1_airs t1_found t1_end a1 a2 a3 R p e s m below meth c A s.heap [] (F0 m 0 ls [])
  obtain ⟨H, eH, hP, hS⟩ : ∃ H, H = s.heap ∧ va_P G.1 vwCl [(oX10 x t9 t6 t8 t3 t7 t1 t0 t4 t5 t2), (oX3 t3), (wI G (t3 1) 12 t3_law), (oX1 t1 t1_found t1_end), (wI G (t1 1) 100 t1_airs)] H ∧ va_S A s.heap H [] := ⟨_, rfl, hP, hS⟩
  obtain ⟨locs, el, hS⟩ : ∃ locs : List Loc, locs = [] ∧ va_S A s.heap H locs := ⟨_, rfl, hS⟩
  have key : Wc_X10_curve l G x t9 t6 t8 t3 t7 t1 t0 t4 t5 t2 t3_law t1_airs t1_found t1_end a1 a2 a3 R p e s m below meth c A H locs (F0 m 0 ls []) := by
    refine lv_iload_n hx hb dX10_curve_0 rfl (lv_at hl 1 rfl) ?_
    obtain ⟨q1, r1, hf⟩ := bd_s hf
    refine ro_S (n := 1) (As := [.int a1]) (rest := []) (c_X10_isIce l G a1 q1 r1) C (hK.at hS hz) (hP.sub [] rfl) hl kcode_X10_isIce kml_X10_124 kst_X10_isIce kini_X10 (by decide +kernel) ⟨⟨rfl, rfl⟩, Nat.le_of_ble_eq_true rfl, Nat.le_of_ble_eq_true rfl⟩ ⟨Nat.zero_le _, Nat.zero_le _⟩ rfl rfl (Nat.le_of_ble_eq_true rfl) dX10_curve_1 rfl ?_
    refine lv_if_eq (tgt := 21) hx hb dX10_curve_4 (by decide) (fun c2 => ?_) (fun c2 => ?_)
    · have hf := o_t c2 hf
      refine lv_bipush (v := -2) hx hb dX10_curve_21 (by decide) ?_
      have h9 := Option.some.inj hf
      subst h9
      exact rw_iret C rfl hP hD hS dX10_curve_23
    · have hf := o_f c2 hf
      refine lv_iload_n hx hb dX10_curve_7 rfl (lv_at hl 2 rfl) ?_
      obtain ⟨q4, r4, hf⟩ := bd_s hf
      refine ro_S (n := 1) (As := [.int a2]) (rest := []) (c_X10_isAir l G a2 q4 r4) C (hK.at hS hz) (hP.sub [] rfl) hl kcode_X10_isAir kml_X10_127 kst_X10_isAir kini_X10 (by decide +kernel) ⟨⟨rfl, rfl⟩, Nat.le_of_ble_eq_true rfl, Nat.le_of_ble_eq_true rfl⟩ ⟨Nat.zero_le _, Nat.zero_le _⟩ rfl rfl (Nat.le_of_ble_eq_true rfl) dX10_curve_8 rfl ?_
      refine lv_if_eq (tgt := 21) hx hb dX10_curve_11 (by decide) (fun c5 => ?_) (fun c5 => ?_)
      · have hf := o_t c5 hf
        refine lv_bipush (v := -2) hx hb dX10_curve_21 (by decide) ?_
        have h9 := Option.some.inj hf
        subst h9
        exact rw_iret C rfl hP hD hS dX10_curve_23
      · have hf := o_f c5 hf
        refine lv_iload_n hx hb dX10_curve_14 rfl (lv_at hl 3 rfl) ?_
        obtain ⟨q7, r7, hf⟩ := bd_s hf
        refine ro_S (n := 1) (As := [.int a3]) (rest := []) (c_X10_isAir l G a3 q7 r7) C (hK.at hS hz) (hP.sub [] rfl) hl kcode_X10_isAir kml_X10_127 kst_X10_isAir kini_X10 (by decide +kernel) ⟨⟨rfl, rfl⟩, Nat.le_of_ble_eq_true rfl, Nat.le_of_ble_eq_true rfl⟩ ⟨Nat.zero_le _, Nat.zero_le _⟩ rfl rfl (Nat.le_of_ble_eq_true rfl) dX10_curve_15 rfl ?_
        refine lv_if_ne (tgt := 24) hx hb dX10_curve_18 (by decide) (fun c8 => ?_) (fun c8 => ?_)
        · have hf := o_f c8 hf
          refine lv_aload_n hx hb dX10_curve_24 rfl (lv_at hl 0 rfl) ?_
          refine va_get (D := G.1) (ci := 10) (v := .ref (t1 0)) (C := RX10) (T := TX10) (N := 11) hx hb ht twX10 hown hK.1 hP 0 rfl rfl 5 (by decide) (ht _ kfl_X10_47) (fun _ h9 => h9) rfl dX10_curve_25 ?_
          refine lv_aload_n hx hb dX10_curve_28 rfl (lv_at hl 0 rfl) ?_
          refine va_get (D := G.1) (ci := 10) (v := .ref (t3 0)) (C := RX10) (T := TX10) (N := 11) hx hb ht twX10 hown hK.1 hP 0 rfl rfl 3 (by decide) (ht _ kfl_X10_33) (fun _ h9 => h9) rfl dX10_curve_29 ?_
          refine lv_iload_n hx hb dX10_curve_32 rfl (lv_at hl 1 rfl) ?_
          refine lv_iload_n hx hb dX10_curve_33 rfl (lv_at hl 2 rfl) ?_
          refine lv_iload_n hx hb dX10_curve_34 rfl (lv_at hl 3 rfl) ?_
          obtain ⟨q9, r9, hf⟩ := bd_s hf
          refine rw_V (n := 4) (As := [.ref (t3 0), .int a1, .int a2, .int a3]) (rest := []) (wr := [(oX10 x t9 t6 t8 t3 t7 t1 t0 t4 t5 t2)]) (ws2 := [(oX10 x t9 t6 t8 t3 t7 t1 t0 t4 t5 t2), (oX3 t3), (wI G (t3 1) 12 t3_law), (oX1 t1 q9.2.1 q9.2.2), (wI G (t1 1) 100 q9.1)]) (c_X1_follow l G t1 t3 t1_airs t1_found t1_end t3_law a1 a2 a3 q9 r9) C hK hP hD hS hA hz hl [3, 4, 1, 2] [0] [0, 3, 4, 1, 2] rfl rfl rfl rfl rfl (by decide) rfl rfl rfl kcode_X1_follow kml_X10_193 kim_X1_follow ksel_X1_follow kini_X1 (by decide +kernel) ⟨⟨rfl, rfl⟩, Nat.le_of_ble_eq_true rfl, Nat.le_of_ble_eq_true rfl⟩ ⟨Nat.zero_le _, Nat.zero_le _⟩ rfl rfl rfl rfl rfl (Nat.le_of_ble_eq_true rfl) dX10_curve_35 rfl (fun H locs hP hD hS => ?_)
          refine lv_aload_n hx hb dX10_curve_38 rfl (lv_at hl 0 rfl) ?_
          refine va_get (D := G.1) (ci := 10) (v := .ref (t1 0)) (C := RX10) (T := TX10) (N := 11) hx hb ht twX10 hown hK.1 hP 0 rfl rfl 5 (by decide) (ht _ kfl_X10_47) (fun _ h9 => h9) rfl dX10_curve_39 ?_
          refine va_get (D := G.1) (ci := 1) (v := .int q9.2.2) (C := RX1) (T := TX1) (N := 3) hx hb ht twX1 hown hK.1 hP 3 rfl rfl 2 (by decide) (ht _ kfl_X10_202) (fun _ h9 => h9) rfl dX10_curve_42 ?_
          have h9 := Option.some.inj hf
          subst h9
          exact rw_iret C rfl hP hD hS dX10_curve_45
        · have hf := o_t c8 hf
          refine lv_bipush (v := -2) hx hb dX10_curve_21 (by decide) ?_
          have h9 := Option.some.inj hf
          subst h9
          exact rw_iret C rfl hP hD hS dX10_curve_23
  rw [eH, el] at key
  exact key
abbrev Wc_X10_least (l : Launch) (G : TG) (x : Nat → Nat) (t9 : Nat → Nat) (t6 : Nat → Nat) (t8 : Nat → Nat) (t3 : Nat → Nat) (t7 : Nat → Nat) (t1 : Nat → Nat) (t0 : Nat → Nat) (t4 : Nat → Nat) (t5 : Nat → Nat) (t2 : Nat → Nat) (t3_law : Nat → Int32) (a1 : Int32) (R : Int32) (p : Program) (e : Env) (s : State) (m : MethodId) (below : List Frame) (meth : Method) (c : Code) (H : Heap) (locs : List Loc) (g : JFrame) : Prop := W p l e ({ frames := 5, cells := 0, slots := 0, locals := 118 }) s m ([.ref (x 0), .int a1] : List Value).toArray below meth c H locs 0 0 (MQ below (roQ (some (.int R))) ([.ref (x 0), .int a1] : List Value).toArray s 0 0 (fun _ => False)) g
set_option maxHeartbeats 4000000 in
set_option maxRecDepth 100000 in
theorem c_X10_least (l : Launch) (G : TG) (x : Nat → Nat) (t9 : Nat → Nat) (t6 : Nat → Nat) (t8 : Nat → Nat) (t3 : Nat → Nat) (t7 : Nat → Nat) (t1 : Nat → Nat) (t0 : Nat → Nat) (t4 : Nat → Nat) (t5 : Nat → Nat) (t2 : Nat → Nat) (t3_law : Nat → Int32) (a1 : Int32) (R : Int32) (hf : f_X10_least t3_law a1 = some R) : RO l yX10_least cX10_least 4 (some .int) ({ frames := 5, cells := 0, slots := 0, locals := 118 }) G [.ref (x 0), .int a1] [(oX10 x t9 t6 t8 t3 t7 t1 t0 t4 t5 t2), (oX3 t3), (wI G (t3 1) 12 t3_law)] (some (.int R)) := by
  refine RO.mk (by decide +kernel) (Nat.le_of_ble_eq_true rfl) ?_
  intro p e s m below meth c ls C hP hK hl
  have hx := C.1
  have hb := C.2.1
  have hown : s.vm.findClass RX10 = some m.cls := C.2.2.2.2.2.1
  have ht := C.2.2.2.2.2.2
  have hl : lv_has ls 4 [(0, .ref (x 0)), (1, .int a1)] := hl
  show Wc_X10_least l G x t9 t6 t8 t3 t7 t1 t0 t4 t5 t2 t3_law a1 R p e s m below meth c s.heap [] (F0 m 0 ls [])
  have hj11 : ∀ (k0 : Int32) (ls : Array Slot), f_X10_least_j11 t3_law a1 k0 = some R → lv_has ls 4 [(0, .ref (x 0)), (1, .int a1)] → Wc_X10_least l G x t9 t6 t8 t3 t7 t1 t0 t4 t5 t2 t3_law a1 R p e s m below meth c s.heap [] (F0 m 11 ls [.int k0]) := by
    intro k0 ls hf hl
    refine lv_istore_n (lv' := [(2, .int k0), (0, .ref (x 0)), (1, .int a1)]) hx hb dX10_least_11 rfl hl (by decide) rfl (fun ls hl => ?_)
    refine lv_iconst (v := 0) hx hb dX10_least_12 (by decide) ?_
    refine lv_istore_n (lv' := [(3, .int (0 : Int32)), (2, .int k0), (0, .ref (x 0)), (1, .int a1)]) hx hb dX10_least_13 rfl hl (by decide) rfl (fun ls hl => ?_)
    have hx41_1 : ∀ (ls : Array Slot), f_X10_least_x41_1 = some R → lv_has ls 4 [] → Wc_X10_least l G x t9 t6 t8 t3 t7 t1 t0 t4 t5 t2 t3_law a1 R p e s m below meth c s.heap [] (F0 m 41 ls []) := by
      intro ls hf hl
      refine lv_bipush (v := -9) hx hb dX10_least_41 (by decide) ?_
      have h9 := Option.some.inj hf
      subst h9
      exact ro_iret C rfl dX10_least_43
    obtain ⟨rL1, hL1, hk1⟩ := bd_s hf
    refine lp_W (P := fun st => ∀ (ls : Array Slot), lv_has ls 4 [(0, .ref (x 0)), (1, .int a1), (2, .int k0), (3, .int st)] → Wc_X10_least l G x t9 t6 t8 t3 t7 t1 t0 t4 t5 t2 t3_law a1 R p e s m below meth c s.heap [] (F0 m 14 ls [])) ?_ FU (0 : Int32) hL1 ls (lv_sub hl [2, 3, 1, 0] rfl)
    intro v3 oc1 hf hI hE ls hl
    have hl : lv_has ls 4 [(0, .ref (x 0)), (1, .int a1), (2, .int k0), (3, .int v3)] := hl
    have hf : f_X10_least_b14 t3_law a1 k0 v3 = some oc1 := hf
    refine lv_iload_n hx hb dX10_least_14 rfl (lv_at hl 3 rfl) ?_
    refine lv_bipush (v := 100) hx hb dX10_least_15 (by decide) ?_
    refine lv_icmp_ge (tgt := 41) hx hb dX10_least_17 (by decide) (fun c3 => ?_) (fun c3 => ?_)
    · have hf := o_t c3 hf
      cases hf
      have hf : f_X10_least_x41_1 = some R := by have h9 := hk1; rw [← hE _ rfl] at h9; exact h9
      exact hx41_1 ls hf (lv_sub hl [] rfl)
    · have hf := o_f c3 hf
      refine lv_aload_n hx hb dX10_least_20 rfl (lv_at hl 0 rfl) ?_
      refine va_get (D := G.1) (ci := 10) (v := .ref (t3 0)) (C := RX10) (T := TX10) (N := 11) hx hb ht twX10 hown hK.1 hP 0 rfl rfl 3 (by decide) (ht _ kfl_X10_33) (fun _ h9 => h9) rfl dX10_least_21 ?_
      refine lv_iload_n hx hb dX10_least_24 rfl (lv_at hl 2 rfl) ?_
      refine lv_iload_n hx hb dX10_least_25 rfl (lv_at hl 3 rfl) ?_
      obtain ⟨q4, r4, hf⟩ := bd_s hf
      refine ro_V (n := 2) (As := [.int k0, .int v3]) (rest := []) (c_X3_isRest l G t3 t3_law k0 v3 q4 r4) C hK (hP.sub [1, 2] rfl) hl kcode_X3_isRest kml_X10_186 kim_X3_isRest ksel_X3_isRest kini_X3 (by decide +kernel) ⟨⟨rfl, rfl⟩, Nat.le_of_ble_eq_true rfl, Nat.le_of_ble_eq_true rfl⟩ ⟨Nat.zero_le _, Nat.zero_le _⟩ rfl rfl rfl rfl rfl (Nat.le_of_ble_eq_true rfl) dX10_least_26 rfl ?_
      refine lv_iload_n hx hb dX10_least_29 rfl (lv_at hl 1 rfl) ?_
      refine lv_icmp_ne (tgt := 35) hx hb dX10_least_30 (by decide) (fun c5 => ?_) (fun c5 => ?_)
      · have hf := o_f c5 hf
        refine lv_iinc (v := (v3 + (1 : Int32))) (lv' := [(3, .int (v3 + (1 : Int32))), (0, .ref (x 0)), (1, .int a1), (2, .int k0)]) hx hb dX10_least_35 hl (k := 3) rfl (by rfl) (by decide) rfl (fun ls hl => ?_)
        refine lv_goto (tgt := 14) hx hb dX10_least_38 (by decide) ?_
        cases hf
        exact hI _ rfl ls (lv_sub hl [1, 2, 3, 0] rfl)
      · have hf := o_t c5 hf
        refine lv_iload_n hx hb dX10_least_33 rfl (lv_at hl 3 rfl) ?_
        cases hf
        have hf : some v3 = some R := by have h9 := hk1; rw [← hE _ rfl] at h9; exact h9
        have h9 := Option.some.inj hf
        subst h9
        exact ro_iret C rfl dX10_least_34
  refine lv_iload_n hx hb dX10_least_0 rfl (lv_at hl 1 rfl) ?_
  refine lv_if_eq (tgt := 9) hx hb dX10_least_1 (by decide) (fun c7 => ?_) (fun c7 => ?_)
  · have hf := o_t c7 hf
    refine lv_bipush (v := 63) hx hb dX10_least_9 (by decide) ?_
    exact hj11 (63 : Int32) ls hf (lv_sub hl [0, 1] rfl)
  · have hf := o_f c7 hf
    refine lv_bipush (v := 62) hx hb dX10_least_4 (by decide) ?_
    refine lv_goto (tgt := 11) hx hb dX10_least_6 (by decide) ?_
    exact hj11 (62 : Int32) ls hf (lv_sub hl [0, 1] rfl)
abbrev Wc_X10_isLand (l : Launch) (G : TG) (a0 : Int32) (R : Int32) (p : Program) (e : Env) (s : State) (m : MethodId) (below : List Frame) (meth : Method) (c : Code) (H : Heap) (locs : List Loc) (g : JFrame) : Prop := W p l e ({ frames := 1, cells := 0, slots := 0, locals := 22 }) s m ([.int a0] : List Value).toArray below meth c H locs 0 0 (MQ below (roQ (some (.int R))) ([.int a0] : List Value).toArray s 0 0 (fun _ => False)) g
set_option maxHeartbeats 4000000 in
set_option maxRecDepth 100000 in
theorem c_X10_isLand (l : Launch) (G : TG) (a0 : Int32) (R : Int32) (hf : f_X10_isLand a0 = some R) : RO l yX10_isLand cX10_isLand 1 (some .boolean) ({ frames := 1, cells := 0, slots := 0, locals := 22 }) G [.int a0] [] (some (.int R)) := by
  refine RO.mk (by decide +kernel) (Nat.le_of_ble_eq_true rfl) ?_
  intro p e s m below meth c ls C hP hK hl
  have hx := C.1
  have hb := C.2.1
  have hown : s.vm.findClass RX10 = some m.cls := C.2.2.2.2.2.1
  have ht := C.2.2.2.2.2.2
  have hl : lv_has ls 1 [(0, .int a0)] := hl
  show Wc_X10_isLand l G a0 R p e s m below meth c s.heap [] (F0 m 0 ls [])
  refine lv_iload_n hx hb dX10_isLand_0 rfl (lv_at hl 0 rfl) ?_
  refine lv_iconst (v := 0) hx hb dX10_isLand_1 (by decide) ?_
  refine lv_iconst (v := 3) hx hb dX10_isLand_2 (by decide) ?_
  obtain ⟨q1, r1, hf⟩ := bd_s hf
  refine ro_S (n := 3) (As := [.int a0, .int (0 : Int32), .int (3 : Int32)]) (rest := []) (c_X10_within l G a0 (0 : Int32) (3 : Int32) q1 r1) C hK (hP.sub [] rfl) hl kcode_X10_within kml_X10_83 kst_X10_within kini_X10 (by decide +kernel) ⟨⟨rfl, rfl⟩, Nat.le_of_ble_eq_true rfl, Nat.le_of_ble_eq_true rfl⟩ ⟨Nat.zero_le _, Nat.zero_le _⟩ rfl rfl (Nat.le_of_ble_eq_true rfl) dX10_isLand_3 rfl ?_
  obtain ⟨z2, hf⟩ := zb_s hf
  have h9 := Option.some.inj hf
  subst h9
  exact ro_zret C z2 rfl dX10_isLand_6
abbrev Wc_X10_bed (l : Launch) (G : TG) (x : Nat → Nat) (t9 : Nat → Nat) (t6 : Nat → Nat) (t8 : Nat → Nat) (t3 : Nat → Nat) (t7 : Nat → Nat) (t1 : Nat → Nat) (t0 : Nat → Nat) (t4 : Nat → Nat) (t5 : Nat → Nat) (t2 : Nat → Nat) (t4_marks : Nat → Int32) (t4_beds : Int32) (t4_isKept : Int32) (a1 : Int32) (a2 : Int32) (a3 : Int32) (a4 : Int32) (a5 : Int32) (a6 : Int32) (R : Int32 × (Nat → Int32) × Int32) (p : Program) (e : Env) (s : State) (m : MethodId) (below : List Frame) (meth : Method) (c : Code) (A : Nat → Prop) (H : Heap) (locs : List Loc) (g : JFrame) : Prop := W p l e ({ frames := 2, cells := 0, slots := 0, locals := 45 }) s m ([.ref (x 0), .int a1, .int a2, .int a3, .int a4, .int a5, .int a6] : List Value).toArray below meth c H locs 0 0 (MQ below (rwQ G (some (.int R.1)) [(oX10 x t9 t6 t8 t3 t7 t1 t0 t4 t5 t2), (oX4 t4 R.2.2 t4_isKept), (wI G (t4 1) 48 R.2.1)] A) ([.ref (x 0), .int a1, .int a2, .int a3, .int a4, .int a5, .int a6] : List Value).toArray s 0 0 A) g
set_option maxHeartbeats 4000000 in
set_option maxRecDepth 100000 in
theorem c_X10_bed (l : Launch) (G : TG) (x : Nat → Nat) (t9 : Nat → Nat) (t6 : Nat → Nat) (t8 : Nat → Nat) (t3 : Nat → Nat) (t7 : Nat → Nat) (t1 : Nat → Nat) (t0 : Nat → Nat) (t4 : Nat → Nat) (t5 : Nat → Nat) (t2 : Nat → Nat) (t4_marks : Nat → Int32) (t4_beds : Int32) (t4_isKept : Int32) (a1 : Int32) (a2 : Int32) (a3 : Int32) (a4 : Int32) (a5 : Int32) (a6 : Int32) (R : Int32 × (Nat → Int32) × Int32) (hf : f_X10_bed t4_marks t4_beds a1 a2 a3 a4 a5 a6 = some R) : RW l yX10_bed cX10_bed 8 (some .int) ({ frames := 2, cells := 0, slots := 0, locals := 45 }) G [.ref (x 0), .int a1, .int a2, .int a3, .int a4, .int a5, .int a6] [(oX10 x t9 t6 t8 t3 t7 t1 t0 t4 t5 t2), (oX4 t4 t4_beds t4_isKept), (wI G (t4 1) 48 t4_marks)] (some (.int R.1)) [(oX10 x t9 t6 t8 t3 t7 t1 t0 t4 t5 t2), (oX4 t4 R.2.2 t4_isKept), (wI G (t4 1) 48 R.2.1)] := by
  refine RW.mk (by decide +kernel) (Nat.le_of_ble_eq_true rfl) ?_
  intro p e s m below meth c ls A C hP hD hA hz hK hl hS
  have hx := C.1
  have hb := C.2.1
  have hown : s.vm.findClass RX10 = some m.cls := C.2.2.2.2.2.1
  have ht := C.2.2.2.2.2.2
  have hl : lv_has ls 8 [(0, .ref (x 0)), (1, .int a1), (2, .int a2), (3, .int a3), (4, .int a4), (5, .int a5), (6, .int a6)] := hl
  show Wc_X10_bed l G x t9 t6 t8 t3 t7 t1 t0 t4 t5 t2 t4_marks t4_beds t4_isKept a1 a2 a3 a4 a5 a6 R p e s m below meth c A s.heap [] (F0 m 0 ls [])
  obtain ⟨H, eH, hP, hS⟩ : ∃ H, H = s.heap ∧ va_P G.1 vwCl [(oX10 x t9 t6 t8 t3 t7 t1 t0 t4 t5 t2), (oX4 t4 t4_beds t4_isKept), (wI G (t4 1) 48 t4_marks)] H ∧ va_S A s.heap H [] := ⟨_, rfl, hP, hS⟩
  obtain ⟨locs, el, hS⟩ : ∃ locs : List Loc, locs = [] ∧ va_S A s.heap H locs := ⟨_, rfl, hS⟩
  have key : Wc_X10_bed l G x t9 t6 t8 t3 t7 t1 t0 t4 t5 t2 t4_marks t4_beds t4_isKept a1 a2 a3 a4 a5 a6 R p e s m below meth c A H locs (F0 m 0 ls []) := by
    refine lv_iload_n hx hb dX10_bed_0 rfl (lv_at hl 1 rfl) ?_
    obtain ⟨q1, r1, hf⟩ := bd_s hf
    refine ro_S (n := 1) (As := [.int a1]) (rest := []) (c_X10_isLand l G a1 q1 r1) C (hK.at hS hz) (hP.sub [] rfl) hl kcode_X10_isLand kml_X10_205 kst_X10_isLand kini_X10 (by decide +kernel) ⟨⟨rfl, rfl⟩, Nat.le_of_ble_eq_true rfl, Nat.le_of_ble_eq_true rfl⟩ ⟨Nat.zero_le _, Nat.zero_le _⟩ rfl rfl (Nat.le_of_ble_eq_true rfl) dX10_bed_1 rfl ?_
    refine lv_if_eq (tgt := 15) hx hb dX10_bed_4 (by decide) (fun c2 => ?_) (fun c2 => ?_)
    · have hf := o_t c2 hf
      refine lv_iconst (v := -1) hx hb dX10_bed_15 (by decide) ?_
      have h9 := Option.some.inj hf
      subst h9
      exact rw_iret C rfl hP hD hS dX10_bed_16
    · have hf := o_f c2 hf
      refine lv_iload hx hb dX10_bed_7 (lv_at hl 5 rfl) ?_
      obtain ⟨q4, r4, hf⟩ := bd_s hf
      refine ro_S (n := 1) (As := [.int a5]) (rest := []) (c_X10_isBand l G a5 q4 r4) C (hK.at hS hz) (hP.sub [] rfl) hl kcode_X10_isBand kml_X10_151 kst_X10_isBand kini_X10 (by decide +kernel) ⟨⟨rfl, rfl⟩, Nat.le_of_ble_eq_true rfl, Nat.le_of_ble_eq_true rfl⟩ ⟨Nat.zero_le _, Nat.zero_le _⟩ rfl rfl (Nat.le_of_ble_eq_true rfl) dX10_bed_9 rfl ?_
      refine lv_if_ne (tgt := 17) hx hb dX10_bed_12 (by decide) (fun c5 => ?_) (fun c5 => ?_)
      · have hf := o_f c5 hf
        refine lv_iload_n hx hb dX10_bed_17 rfl (lv_at hl 2 rfl) ?_
        refine lv_iconst (v := 0) hx hb dX10_bed_18 (by decide) ?_
        refine lv_bipush (v := 15) hx hb dX10_bed_19 (by decide) ?_
        obtain ⟨q6, r6, hf⟩ := bd_s hf
        refine ro_S (n := 3) (As := [.int a2, .int (0 : Int32), .int (15 : Int32)]) (rest := []) (c_X10_within l G a2 (0 : Int32) (15 : Int32) q6 r6) C (hK.at hS hz) (hP.sub [] rfl) hl kcode_X10_within kml_X10_83 kst_X10_within kini_X10 (by decide +kernel) ⟨⟨rfl, rfl⟩, Nat.le_of_ble_eq_true rfl, Nat.le_of_ble_eq_true rfl⟩ ⟨Nat.zero_le _, Nat.zero_le _⟩ rfl rfl (Nat.le_of_ble_eq_true rfl) dX10_bed_21 rfl ?_
        refine lv_if_eq (tgt := 59) hx hb dX10_bed_24 (by decide) (fun c7 => ?_) (fun c7 => ?_)
        · have hf := o_t c7 hf
          refine lv_bipush (v := -2) hx hb dX10_bed_59 (by decide) ?_
          have h9 := Option.some.inj hf
          subst h9
          exact rw_iret C rfl hP hD hS dX10_bed_61
        · have hf := o_f c7 hf
          refine lv_iload_n hx hb dX10_bed_27 rfl (lv_at hl 3 rfl) ?_
          obtain ⟨q9, r9, hf⟩ := bd_s hf
          refine ro_S (n := 1) (As := [.int a3]) (rest := []) (c_X10_isRound l G a3 q9 r9) C (hK.at hS hz) (hP.sub [] rfl) hl kcode_X10_isRound kml_X10_145 kst_X10_isRound kini_X10 (by decide +kernel) ⟨⟨rfl, rfl⟩, Nat.le_of_ble_eq_true rfl, Nat.le_of_ble_eq_true rfl⟩ ⟨Nat.zero_le _, Nat.zero_le _⟩ rfl rfl (Nat.le_of_ble_eq_true rfl) dX10_bed_28 rfl ?_
          refine lv_if_eq (tgt := 59) hx hb dX10_bed_31 (by decide) (fun c10 => ?_) (fun c10 => ?_)
          · have hf := o_t c10 hf
            refine lv_bipush (v := -2) hx hb dX10_bed_59 (by decide) ?_
            have h9 := Option.some.inj hf
            subst h9
            exact rw_iret C rfl hP hD hS dX10_bed_61
          · have hf := o_f c10 hf
            refine lv_iload hx hb dX10_bed_34 (lv_at hl 4 rfl) ?_
            obtain ⟨q12, r12, hf⟩ := bd_s hf
            refine ro_S (n := 1) (As := [.int a4]) (rest := []) (c_X10_isRound l G a4 q12 r12) C (hK.at hS hz) (hP.sub [] rfl) hl kcode_X10_isRound kml_X10_145 kst_X10_isRound kini_X10 (by decide +kernel) ⟨⟨rfl, rfl⟩, Nat.le_of_ble_eq_true rfl, Nat.le_of_ble_eq_true rfl⟩ ⟨Nat.zero_le _, Nat.zero_le _⟩ rfl rfl (Nat.le_of_ble_eq_true rfl) dX10_bed_36 rfl ?_
            refine lv_if_eq (tgt := 59) hx hb dX10_bed_39 (by decide) (fun c13 => ?_) (fun c13 => ?_)
            · have hf := o_t c13 hf
              refine lv_bipush (v := -2) hx hb dX10_bed_59 (by decide) ?_
              have h9 := Option.some.inj hf
              subst h9
              exact rw_iret C rfl hP hD hS dX10_bed_61
            · have hf := o_f c13 hf
              refine lv_iload hx hb dX10_bed_42 (lv_at hl 4 rfl) ?_
              refine lv_iload_n hx hb dX10_bed_44 rfl (lv_at hl 3 rfl) ?_
              refine lv_icmp_lt (tgt := 59) hx hb dX10_bed_45 (by decide) (fun c15 => ?_) (fun c15 => ?_)
              · have hf := o_t c15 hf
                refine lv_bipush (v := -2) hx hb dX10_bed_59 (by decide) ?_
                have h9 := Option.some.inj hf
                subst h9
                exact rw_iret C rfl hP hD hS dX10_bed_61
              · have hf := o_f c15 hf
                refine lv_iload hx hb dX10_bed_48 (lv_at hl 6 rfl) ?_
                refine lv_iconst (v := 0) hx hb dX10_bed_50 (by decide) ?_
                refine lv_bipush (v := 10) hx hb dX10_bed_51 (by decide) ?_
                obtain ⟨q17, r17, hf⟩ := bd_s hf
                refine ro_S (n := 3) (As := [.int a6, .int (0 : Int32), .int (10 : Int32)]) (rest := []) (c_X10_within l G a6 (0 : Int32) (10 : Int32) q17 r17) C (hK.at hS hz) (hP.sub [] rfl) hl kcode_X10_within kml_X10_83 kst_X10_within kini_X10 (by decide +kernel) ⟨⟨rfl, rfl⟩, Nat.le_of_ble_eq_true rfl, Nat.le_of_ble_eq_true rfl⟩ ⟨Nat.zero_le _, Nat.zero_le _⟩ rfl rfl (Nat.le_of_ble_eq_true rfl) dX10_bed_53 rfl ?_
                refine lv_if_ne (tgt := 62) hx hb dX10_bed_56 (by decide) (fun c18 => ?_) (fun c18 => ?_)
                · have hf := o_f c18 hf
                  refine lv_aload_n hx hb dX10_bed_62 rfl (lv_at hl 0 rfl) ?_
                  refine va_get (D := G.1) (ci := 10) (v := .ref (t4 0)) (C := RX10) (T := TX10) (N := 11) hx hb ht twX10 hown hK.1 hP 0 rfl rfl 7 (by decide) (ht _ kfl_X10_61) (fun _ h9 => h9) rfl dX10_bed_63 ?_
                  refine va_get (D := G.1) (ci := 4) (v := .int t4_beds) (C := RX4) (T := TX4) (N := 4) hx hb ht twX4 hown hK.1 hP 1 rfl rfl 2 (by decide) (ht _ kfl_X10_208) (fun _ h9 => h9) rfl dX10_bed_66 ?_
                  refine lv_bipush (v := 8) hx hb dX10_bed_69 (by decide) ?_
                  refine lv_icmp_lt (tgt := 77) hx hb dX10_bed_71 (by decide) (fun c19 => ?_) (fun c19 => ?_)
                  · have hf := o_t c19 hf
                    refine lv_aload_n hx hb dX10_bed_77 rfl (lv_at hl 0 rfl) ?_
                    refine va_get (D := G.1) (ci := 10) (v := .ref (t4 0)) (C := RX10) (T := TX10) (N := 11) hx hb ht twX10 hown hK.1 hP 0 rfl rfl 7 (by decide) (ht _ kfl_X10_61) (fun _ h9 => h9) rfl dX10_bed_78 ?_
                    refine va_get (D := G.1) (ci := 4) (v := .int t4_beds) (C := RX4) (T := TX4) (N := 4) hx hb ht twX4 hown hK.1 hP 1 rfl rfl 2 (by decide) (ht _ kfl_X10_208) (fun _ h9 => h9) rfl dX10_bed_81 ?_
                    refine lv_istore (lv' := [(7, .int t4_beds), (0, .ref (x 0)), (1, .int a1), (2, .int a2), (3, .int a3), (4, .int a4), (5, .int a5), (6, .int a6)]) hx hb dX10_bed_84 hl (by decide) rfl (fun ls hl => ?_)
                    refine lv_aload_n hx hb dX10_bed_86 rfl (lv_at hl 1 rfl) ?_
                    refine va_get (D := G.1) (ci := 10) (v := .ref (t4 0)) (C := RX10) (T := TX10) (N := 11) hx hb ht twX10 hown hK.1 hP 0 rfl rfl 7 (by decide) (ht _ kfl_X10_61) (fun _ h9 => h9) rfl dX10_bed_87 ?_
                    refine lv_iload hx hb dX10_bed_90 (lv_at hl 0 rfl) ?_
                    refine lv_iconst (v := 1) hx hb dX10_bed_92 (by decide) ?_
                    refine lv_iadd hx hb dX10_bed_93 ?_
                    refine va_put (D := G.1) (ci := 4) (v := .int (t4_beds + (1 : Int32))) (ty := .int) (C := RX4) (T := TX4) (N := 4) hx hb ht twX4 tyX4 tyX4_ok nmX4 hown hK.1 hP hD hS 1 rfl rfl 2 (by decide) (ht _ kfl_X10_208) (fun _ h9 => h9) rfl (by decide +kernel) rfl rfl (Nat.le_of_ble_eq_true rfl) dX10_bed_94 (fun H locs hP hD hS => ?_)
                    have hP : va_P G.1 vwCl [(oX10 x t9 t6 t8 t3 t7 t1 t0 t4 t5 t2), (oX4 t4 (t4_beds + (1 : Int32)) t4_isKept), (wI G (t4 1) 48 t4_marks)] H := hP
                    have hD : va_D A [(oX10 x t9 t6 t8 t3 t7 t1 t0 t4 t5 t2), (oX4 t4 (t4_beds + (1 : Int32)) t4_isKept), (wI G (t4 1) 48 t4_marks)] := hD
                    refine lv_aload_n hx hb dX10_bed_97 rfl (lv_at hl 1 rfl) ?_
                    refine va_get (D := G.1) (ci := 10) (v := .ref (t4 0)) (C := RX10) (T := TX10) (N := 11) hx hb ht twX10 hown hK.1 hP 0 rfl rfl 7 (by decide) (ht _ kfl_X10_61) (fun _ h9 => h9) rfl dX10_bed_98 ?_
                    refine lv_iload hx hb dX10_bed_101 (lv_at hl 0 rfl) ?_
                    refine lv_iconst (v := 0) hx hb dX10_bed_103 (by decide) ?_
                    refine lv_iload_n hx hb dX10_bed_104 rfl (lv_at hl 2 rfl) ?_
                    obtain ⟨q20, r20, hf⟩ := bd_s hf
                    refine rw_V (n := 3) (As := [.int t4_beds, .int (0 : Int32), .int a1]) (rest := []) (wr := [(oX10 x t9 t6 t8 t3 t7 t1 t0 t4 t5 t2)]) (ws2 := [(oX10 x t9 t6 t8 t3 t7 t1 t0 t4 t5 t2), (oX4 t4 (t4_beds + (1 : Int32)) t4_isKept), (wI G (t4 1) 48 q20)]) (c_X4_mark l G t4 t4_marks (t4_beds + (1 : Int32)) t4_isKept t4_beds (0 : Int32) a1 q20 r20) C hK hP hD hS hA hz hl [1, 2] [0] [0, 1, 2] rfl rfl rfl rfl rfl (by decide) rfl rfl rfl kcode_X4_mark kml_X10_211 kim_X4_mark ksel_X4_mark kini_X4 (by decide +kernel) ⟨⟨rfl, rfl⟩, Nat.le_of_ble_eq_true rfl, Nat.le_of_ble_eq_true rfl⟩ ⟨Nat.zero_le _, Nat.zero_le _⟩ rfl rfl rfl rfl rfl (Nat.le_of_ble_eq_true rfl) dX10_bed_105 rfl (fun H locs hP hD hS => ?_)
                    refine lv_aload_n hx hb dX10_bed_108 rfl (lv_at hl 1 rfl) ?_
                    refine va_get (D := G.1) (ci := 10) (v := .ref (t4 0)) (C := RX10) (T := TX10) (N := 11) hx hb ht twX10 hown hK.1 hP 0 rfl rfl 7 (by decide) (ht _ kfl_X10_61) (fun _ h9 => h9) rfl dX10_bed_109 ?_
                    refine lv_iload hx hb dX10_bed_112 (lv_at hl 0 rfl) ?_
                    refine lv_iconst (v := 1) hx hb dX10_bed_114 (by decide) ?_
                    refine lv_iload_n hx hb dX10_bed_115 rfl (lv_at hl 3 rfl) ?_
                    obtain ⟨q21, r21, hf⟩ := bd_s hf
                    refine rw_V (n := 3) (As := [.int t4_beds, .int (1 : Int32), .int a2]) (rest := []) (wr := [(oX10 x t9 t6 t8 t3 t7 t1 t0 t4 t5 t2)]) (ws2 := [(oX10 x t9 t6 t8 t3 t7 t1 t0 t4 t5 t2), (oX4 t4 (t4_beds + (1 : Int32)) t4_isKept), (wI G (t4 1) 48 q21)]) (c_X4_mark l G t4 q20 (t4_beds + (1 : Int32)) t4_isKept t4_beds (1 : Int32) a2 q21 r21) C hK hP hD hS hA hz hl [1, 2] [0] [0, 1, 2] rfl rfl rfl rfl rfl (by decide) rfl rfl rfl kcode_X4_mark kml_X10_211 kim_X4_mark ksel_X4_mark kini_X4 (by decide +kernel) ⟨⟨rfl, rfl⟩, Nat.le_of_ble_eq_true rfl, Nat.le_of_ble_eq_true rfl⟩ ⟨Nat.zero_le _, Nat.zero_le _⟩ rfl rfl rfl rfl rfl (Nat.le_of_ble_eq_true rfl) dX10_bed_116 rfl (fun H locs hP hD hS => ?_)
                    refine lv_aload_n hx hb dX10_bed_119 rfl (lv_at hl 1 rfl) ?_
                    refine va_get (D := G.1) (ci := 10) (v := .ref (t4 0)) (C := RX10) (T := TX10) (N := 11) hx hb ht twX10 hown hK.1 hP 0 rfl rfl 7 (by decide) (ht _ kfl_X10_61) (fun _ h9 => h9) rfl dX10_bed_120 ?_
                    refine lv_iload hx hb dX10_bed_123 (lv_at hl 0 rfl) ?_
                    refine lv_iconst (v := 2) hx hb dX10_bed_125 (by decide) ?_
                    refine lv_iload_n hx hb dX10_bed_126 rfl (lv_at hl 4 rfl) ?_
                    obtain ⟨q22, r22, hf⟩ := bd_s hf
                    refine rw_V (n := 3) (As := [.int t4_beds, .int (2 : Int32), .int a3]) (rest := []) (wr := [(oX10 x t9 t6 t8 t3 t7 t1 t0 t4 t5 t2)]) (ws2 := [(oX10 x t9 t6 t8 t3 t7 t1 t0 t4 t5 t2), (oX4 t4 (t4_beds + (1 : Int32)) t4_isKept), (wI G (t4 1) 48 q22)]) (c_X4_mark l G t4 q21 (t4_beds + (1 : Int32)) t4_isKept t4_beds (2 : Int32) a3 q22 r22) C hK hP hD hS hA hz hl [1, 2] [0] [0, 1, 2] rfl rfl rfl rfl rfl (by decide) rfl rfl rfl kcode_X4_mark kml_X10_211 kim_X4_mark ksel_X4_mark kini_X4 (by decide +kernel) ⟨⟨rfl, rfl⟩, Nat.le_of_ble_eq_true rfl, Nat.le_of_ble_eq_true rfl⟩ ⟨Nat.zero_le _, Nat.zero_le _⟩ rfl rfl rfl rfl rfl (Nat.le_of_ble_eq_true rfl) dX10_bed_127 rfl (fun H locs hP hD hS => ?_)
                    refine lv_aload_n hx hb dX10_bed_130 rfl (lv_at hl 1 rfl) ?_
                    refine va_get (D := G.1) (ci := 10) (v := .ref (t4 0)) (C := RX10) (T := TX10) (N := 11) hx hb ht twX10 hown hK.1 hP 0 rfl rfl 7 (by decide) (ht _ kfl_X10_61) (fun _ h9 => h9) rfl dX10_bed_131 ?_
                    refine lv_iload hx hb dX10_bed_134 (lv_at hl 0 rfl) ?_
                    refine lv_iconst (v := 3) hx hb dX10_bed_136 (by decide) ?_
                    refine lv_iload hx hb dX10_bed_137 (lv_at hl 5 rfl) ?_
                    obtain ⟨q23, r23, hf⟩ := bd_s hf
                    refine rw_V (n := 3) (As := [.int t4_beds, .int (3 : Int32), .int a4]) (rest := []) (wr := [(oX10 x t9 t6 t8 t3 t7 t1 t0 t4 t5 t2)]) (ws2 := [(oX10 x t9 t6 t8 t3 t7 t1 t0 t4 t5 t2), (oX4 t4 (t4_beds + (1 : Int32)) t4_isKept), (wI G (t4 1) 48 q23)]) (c_X4_mark l G t4 q22 (t4_beds + (1 : Int32)) t4_isKept t4_beds (3 : Int32) a4 q23 r23) C hK hP hD hS hA hz hl [1, 2] [0] [0, 1, 2] rfl rfl rfl rfl rfl (by decide) rfl rfl rfl kcode_X4_mark kml_X10_211 kim_X4_mark ksel_X4_mark kini_X4 (by decide +kernel) ⟨⟨rfl, rfl⟩, Nat.le_of_ble_eq_true rfl, Nat.le_of_ble_eq_true rfl⟩ ⟨Nat.zero_le _, Nat.zero_le _⟩ rfl rfl rfl rfl rfl (Nat.le_of_ble_eq_true rfl) dX10_bed_139 rfl (fun H locs hP hD hS => ?_)
                    refine lv_aload_n hx hb dX10_bed_142 rfl (lv_at hl 1 rfl) ?_
                    refine va_get (D := G.1) (ci := 10) (v := .ref (t4 0)) (C := RX10) (T := TX10) (N := 11) hx hb ht twX10 hown hK.1 hP 0 rfl rfl 7 (by decide) (ht _ kfl_X10_61) (fun _ h9 => h9) rfl dX10_bed_143 ?_
                    refine lv_iload hx hb dX10_bed_146 (lv_at hl 0 rfl) ?_
                    refine lv_iconst (v := 4) hx hb dX10_bed_148 (by decide) ?_
                    refine lv_iload hx hb dX10_bed_149 (lv_at hl 6 rfl) ?_
                    obtain ⟨q24, r24, hf⟩ := bd_s hf
                    refine rw_V (n := 3) (As := [.int t4_beds, .int (4 : Int32), .int a5]) (rest := []) (wr := [(oX10 x t9 t6 t8 t3 t7 t1 t0 t4 t5 t2)]) (ws2 := [(oX10 x t9 t6 t8 t3 t7 t1 t0 t4 t5 t2), (oX4 t4 (t4_beds + (1 : Int32)) t4_isKept), (wI G (t4 1) 48 q24)]) (c_X4_mark l G t4 q23 (t4_beds + (1 : Int32)) t4_isKept t4_beds (4 : Int32) a5 q24 r24) C hK hP hD hS hA hz hl [1, 2] [0] [0, 1, 2] rfl rfl rfl rfl rfl (by decide) rfl rfl rfl kcode_X4_mark kml_X10_211 kim_X4_mark ksel_X4_mark kini_X4 (by decide +kernel) ⟨⟨rfl, rfl⟩, Nat.le_of_ble_eq_true rfl, Nat.le_of_ble_eq_true rfl⟩ ⟨Nat.zero_le _, Nat.zero_le _⟩ rfl rfl rfl rfl rfl (Nat.le_of_ble_eq_true rfl) dX10_bed_151 rfl (fun H locs hP hD hS => ?_)
                    refine lv_aload_n hx hb dX10_bed_154 rfl (lv_at hl 1 rfl) ?_
                    refine va_get (D := G.1) (ci := 10) (v := .ref (t4 0)) (C := RX10) (T := TX10) (N := 11) hx hb ht twX10 hown hK.1 hP 0 rfl rfl 7 (by decide) (ht _ kfl_X10_61) (fun _ h9 => h9) rfl dX10_bed_155 ?_
                    refine lv_iload hx hb dX10_bed_158 (lv_at hl 0 rfl) ?_
                    refine lv_iconst (v := 5) hx hb dX10_bed_160 (by decide) ?_
                    refine lv_iload hx hb dX10_bed_161 (lv_at hl 7 rfl) ?_
                    obtain ⟨q25, r25, hf⟩ := bd_s hf
                    refine rw_V (n := 3) (As := [.int t4_beds, .int (5 : Int32), .int a6]) (rest := []) (wr := [(oX10 x t9 t6 t8 t3 t7 t1 t0 t4 t5 t2)]) (ws2 := [(oX10 x t9 t6 t8 t3 t7 t1 t0 t4 t5 t2), (oX4 t4 (t4_beds + (1 : Int32)) t4_isKept), (wI G (t4 1) 48 q25)]) (c_X4_mark l G t4 q24 (t4_beds + (1 : Int32)) t4_isKept t4_beds (5 : Int32) a6 q25 r25) C hK hP hD hS hA hz hl [1, 2] [0] [0, 1, 2] rfl rfl rfl rfl rfl (by decide) rfl rfl rfl kcode_X4_mark kml_X10_211 kim_X4_mark ksel_X4_mark kini_X4 (by decide +kernel) ⟨⟨rfl, rfl⟩, Nat.le_of_ble_eq_true rfl, Nat.le_of_ble_eq_true rfl⟩ ⟨Nat.zero_le _, Nat.zero_le _⟩ rfl rfl rfl rfl rfl (Nat.le_of_ble_eq_true rfl) dX10_bed_163 rfl (fun H locs hP hD hS => ?_)
                    refine lv_iload hx hb dX10_bed_166 (lv_at hl 0 rfl) ?_
                    have h9 := Option.some.inj hf
                    subst h9
                    exact rw_iret C rfl hP hD hS dX10_bed_168
                  · have hf := o_f c19 hf
                    refine lv_bipush (v := -4) hx hb dX10_bed_74 (by decide) ?_
                    have h9 := Option.some.inj hf
                    subst h9
                    exact rw_iret C rfl hP hD hS dX10_bed_76
                · have hf := o_t c18 hf
                  refine lv_bipush (v := -2) hx hb dX10_bed_59 (by decide) ?_
                  have h9 := Option.some.inj hf
                  subst h9
                  exact rw_iret C rfl hP hD hS dX10_bed_61
      · have hf := o_t c5 hf
        refine lv_iconst (v := -1) hx hb dX10_bed_15 (by decide) ?_
        have h9 := Option.some.inj hf
        subst h9
        exact rw_iret C rfl hP hD hS dX10_bed_16
  rw [eH, el] at key
  exact key
abbrev Wc_X10_forget (l : Launch) (G : TG) (x : Nat → Nat) (t9 : Nat → Nat) (t6 : Nat → Nat) (t8 : Nat → Nat) (t3 : Nat → Nat) (t7 : Nat → Nat) (t1 : Nat → Nat) (t0 : Nat → Nat) (t4 : Nat → Nat) (t5 : Nat → Nat) (t2 : Nat → Nat) (t4_beds : Int32) (t4_isKept : Int32) (R : Int32 × Int32) (p : Program) (e : Env) (s : State) (m : MethodId) (below : List Frame) (meth : Method) (c : Code) (A : Nat → Prop) (H : Heap) (locs : List Loc) (g : JFrame) : Prop := W p l e ({ frames := 0, cells := 0, slots := 0, locals := 0 }) s m ([.ref (x 0)] : List Value).toArray below meth c H locs 0 0 (MQ below (rwQ G (some (.int R.1)) [(oX10 x t9 t6 t8 t3 t7 t1 t0 t4 t5 t2), (oX4 t4 R.2 t4_isKept)] A) ([.ref (x 0)] : List Value).toArray s 0 0 A) g
set_option maxHeartbeats 4000000 in
set_option maxRecDepth 100000 in
theorem c_X10_forget (l : Launch) (G : TG) (x : Nat → Nat) (t9 : Nat → Nat) (t6 : Nat → Nat) (t8 : Nat → Nat) (t3 : Nat → Nat) (t7 : Nat → Nat) (t1 : Nat → Nat) (t0 : Nat → Nat) (t4 : Nat → Nat) (t5 : Nat → Nat) (t2 : Nat → Nat) (t4_beds : Int32) (t4_isKept : Int32) (R : Int32 × Int32) (hf : f_X10_forget t4_beds = some R) : RW l yX10_forget cX10_forget 1 (some .int) ({ frames := 0, cells := 0, slots := 0, locals := 0 }) G [.ref (x 0)] [(oX10 x t9 t6 t8 t3 t7 t1 t0 t4 t5 t2), (oX4 t4 t4_beds t4_isKept)] (some (.int R.1)) [(oX10 x t9 t6 t8 t3 t7 t1 t0 t4 t5 t2), (oX4 t4 R.2 t4_isKept)] := by
  refine RW.mk (by decide +kernel) (Nat.le_of_ble_eq_true rfl) ?_
  intro p e s m below meth c ls A C hP hD hA hz hK hl hS
  have hx := C.1
  have hb := C.2.1
  have hown : s.vm.findClass RX10 = some m.cls := C.2.2.2.2.2.1
  have ht := C.2.2.2.2.2.2
  have hl : lv_has ls 1 [(0, .ref (x 0))] := hl
  show Wc_X10_forget l G x t9 t6 t8 t3 t7 t1 t0 t4 t5 t2 t4_beds t4_isKept R p e s m below meth c A s.heap [] (F0 m 0 ls [])
  obtain ⟨H, eH, hP, hS⟩ : ∃ H, H = s.heap ∧ va_P G.1 vwCl [(oX10 x t9 t6 t8 t3 t7 t1 t0 t4 t5 t2), (oX4 t4 t4_beds t4_isKept)] H ∧ va_S A s.heap H [] := ⟨_, rfl, hP, hS⟩
  obtain ⟨locs, el, hS⟩ : ∃ locs : List Loc, locs = [] ∧ va_S A s.heap H locs := ⟨_, rfl, hS⟩
  have key : Wc_X10_forget l G x t9 t6 t8 t3 t7 t1 t0 t4 t5 t2 t4_beds t4_isKept R p e s m below meth c A H locs (F0 m 0 ls []) := by
    refine lv_aload_n hx hb dX10_forget_0 rfl (lv_at hl 0 rfl) ?_
    refine va_get (D := G.1) (ci := 10) (v := .ref (t4 0)) (C := RX10) (T := TX10) (N := 11) hx hb ht twX10 hown hK.1 hP 0 rfl rfl 7 (by decide) (ht _ kfl_X10_61) (fun _ h9 => h9) rfl dX10_forget_1 ?_
    refine va_get (D := G.1) (ci := 4) (v := .int t4_beds) (C := RX4) (T := TX4) (N := 4) hx hb ht twX4 hown hK.1 hP 1 rfl rfl 2 (by decide) (ht _ kfl_X10_208) (fun _ h9 => h9) rfl dX10_forget_4 ?_
    refine lv_if_gt (tgt := 13) hx hb dX10_forget_7 (by decide) (fun c1 => ?_) (fun c1 => ?_)
    · have hf := o_t c1 hf
      refine lv_aload_n hx hb dX10_forget_13 rfl (lv_at hl 0 rfl) ?_
      refine va_get (D := G.1) (ci := 10) (v := .ref (t4 0)) (C := RX10) (T := TX10) (N := 11) hx hb ht twX10 hown hK.1 hP 0 rfl rfl 7 (by decide) (ht _ kfl_X10_61) (fun _ h9 => h9) rfl dX10_forget_14 ?_
      refine lv_dup hx hb dX10_forget_17 rfl ?_
      refine va_get (D := G.1) (ci := 4) (v := .int t4_beds) (C := RX4) (T := TX4) (N := 4) hx hb ht twX4 hown hK.1 hP 1 rfl rfl 2 (by decide) (ht _ kfl_X10_208) (fun _ h9 => h9) rfl dX10_forget_18 ?_
      refine lv_iconst (v := 1) hx hb dX10_forget_21 (by decide) ?_
      refine lv_isub hx hb dX10_forget_22 ?_
      refine va_put (D := G.1) (ci := 4) (v := .int (t4_beds - (1 : Int32))) (ty := .int) (C := RX4) (T := TX4) (N := 4) hx hb ht twX4 tyX4 tyX4_ok nmX4 hown hK.1 hP hD hS 1 rfl rfl 2 (by decide) (ht _ kfl_X10_208) (fun _ h9 => h9) rfl (by decide +kernel) rfl rfl (Nat.le_of_ble_eq_true rfl) dX10_forget_23 (fun H locs hP hD hS => ?_)
      have hP : va_P G.1 vwCl [(oX10 x t9 t6 t8 t3 t7 t1 t0 t4 t5 t2), (oX4 t4 (t4_beds - (1 : Int32)) t4_isKept)] H := hP
      have hD : va_D A [(oX10 x t9 t6 t8 t3 t7 t1 t0 t4 t5 t2), (oX4 t4 (t4_beds - (1 : Int32)) t4_isKept)] := hD
      refine lv_aload_n hx hb dX10_forget_26 rfl (lv_at hl 0 rfl) ?_
      refine va_get (D := G.1) (ci := 10) (v := .ref (t4 0)) (C := RX10) (T := TX10) (N := 11) hx hb ht twX10 hown hK.1 hP 0 rfl rfl 7 (by decide) (ht _ kfl_X10_61) (fun _ h9 => h9) rfl dX10_forget_27 ?_
      refine va_get (D := G.1) (ci := 4) (v := .int (t4_beds - (1 : Int32))) (C := RX4) (T := TX4) (N := 4) hx hb ht twX4 hown hK.1 hP 1 rfl rfl 2 (by decide) (ht _ kfl_X10_208) (fun _ h9 => h9) rfl dX10_forget_30 ?_
      have h9 := Option.some.inj hf
      subst h9
      exact rw_iret C rfl hP hD hS dX10_forget_33
    · have hf := o_f c1 hf
      refine lv_bipush (v := -3) hx hb dX10_forget_10 (by decide) ?_
      have h9 := Option.some.inj hf
      subst h9
      exact rw_iret C rfl hP hD hS dX10_forget_12
  rw [eH, el] at key
  exact key
abbrev Wc_X10_isBed (l : Launch) (G : TG) (x : Nat → Nat) (t9 : Nat → Nat) (t6 : Nat → Nat) (t8 : Nat → Nat) (t3 : Nat → Nat) (t7 : Nat → Nat) (t1 : Nat → Nat) (t0 : Nat → Nat) (t4 : Nat → Nat) (t5 : Nat → Nat) (t2 : Nat → Nat) (t4_beds : Int32) (t4_isKept : Int32) (a1 : Int32) (R : Int32) (p : Program) (e : Env) (s : State) (m : MethodId) (below : List Frame) (meth : Method) (c : Code) (H : Heap) (locs : List Loc) (g : JFrame) : Prop := W p l e ({ frames := 1, cells := 0, slots := 0, locals := 22 }) s m ([.ref (x 0), .int a1] : List Value).toArray below meth c H locs 0 0 (MQ below (roQ (some (.int R))) ([.ref (x 0), .int a1] : List Value).toArray s 0 0 (fun _ => False)) g
set_option maxHeartbeats 4000000 in
set_option maxRecDepth 100000 in
theorem c_X10_isBed (l : Launch) (G : TG) (x : Nat → Nat) (t9 : Nat → Nat) (t6 : Nat → Nat) (t8 : Nat → Nat) (t3 : Nat → Nat) (t7 : Nat → Nat) (t1 : Nat → Nat) (t0 : Nat → Nat) (t4 : Nat → Nat) (t5 : Nat → Nat) (t2 : Nat → Nat) (t4_beds : Int32) (t4_isKept : Int32) (a1 : Int32) (R : Int32) (hf : f_X10_isBed t4_beds a1 = some R) : RO l yX10_isBed cX10_isBed 2 (some .boolean) ({ frames := 1, cells := 0, slots := 0, locals := 22 }) G [.ref (x 0), .int a1] [(oX10 x t9 t6 t8 t3 t7 t1 t0 t4 t5 t2), (oX4 t4 t4_beds t4_isKept)] (some (.int R)) := by
  refine RO.mk (by decide +kernel) (Nat.le_of_ble_eq_true rfl) ?_
  intro p e s m below meth c ls C hP hK hl
  have hx := C.1
  have hb := C.2.1
  have hown : s.vm.findClass RX10 = some m.cls := C.2.2.2.2.2.1
  have ht := C.2.2.2.2.2.2
  have hl : lv_has ls 2 [(0, .ref (x 0)), (1, .int a1)] := hl
  show Wc_X10_isBed l G x t9 t6 t8 t3 t7 t1 t0 t4 t5 t2 t4_beds t4_isKept a1 R p e s m below meth c s.heap [] (F0 m 0 ls [])
  refine lv_iload_n hx hb dX10_isBed_0 rfl (lv_at hl 1 rfl) ?_
  refine lv_iconst (v := 0) hx hb dX10_isBed_1 (by decide) ?_
  refine lv_aload_n hx hb dX10_isBed_2 rfl (lv_at hl 0 rfl) ?_
  refine va_get (D := G.1) (ci := 10) (v := .ref (t4 0)) (C := RX10) (T := TX10) (N := 11) hx hb ht twX10 hown hK.1 hP 0 rfl rfl 7 (by decide) (ht _ kfl_X10_61) (fun _ h9 => h9) rfl dX10_isBed_3 ?_
  refine va_get (D := G.1) (ci := 4) (v := .int t4_beds) (C := RX4) (T := TX4) (N := 4) hx hb ht twX4 hown hK.1 hP 1 rfl rfl 2 (by decide) (ht _ kfl_X10_208) (fun _ h9 => h9) rfl dX10_isBed_6 ?_
  refine lv_iconst (v := 1) hx hb dX10_isBed_9 (by decide) ?_
  refine lv_isub hx hb dX10_isBed_10 ?_
  obtain ⟨q1, r1, hf⟩ := bd_s hf
  refine ro_S (n := 3) (As := [.int a1, .int (0 : Int32), .int (t4_beds - (1 : Int32))]) (rest := []) (c_X10_within l G a1 (0 : Int32) (t4_beds - (1 : Int32)) q1 r1) C hK (hP.sub [] rfl) hl kcode_X10_within kml_X10_83 kst_X10_within kini_X10 (by decide +kernel) ⟨⟨rfl, rfl⟩, Nat.le_of_ble_eq_true rfl, Nat.le_of_ble_eq_true rfl⟩ ⟨Nat.zero_le _, Nat.zero_le _⟩ rfl rfl (Nat.le_of_ble_eq_true rfl) dX10_isBed_11 rfl ?_
  obtain ⟨z2, hf⟩ := zb_s hf
  have h9 := Option.some.inj hf
  subst h9
  exact ro_zret C z2 rfl dX10_isBed_14
abbrev Wc_X10_about (l : Launch) (G : TG) (x : Nat → Nat) (t9 : Nat → Nat) (t6 : Nat → Nat) (t8 : Nat → Nat) (t3 : Nat → Nat) (t7 : Nat → Nat) (t1 : Nat → Nat) (t0 : Nat → Nat) (t4 : Nat → Nat) (t5 : Nat → Nat) (t2 : Nat → Nat) (t4_marks : Nat → Int32) (t4_beds : Int32) (t4_isKept : Int32) (a1 : Int32) (a2 : Int32) (R : Int32) (p : Program) (e : Env) (s : State) (m : MethodId) (below : List Frame) (meth : Method) (c : Code) (H : Heap) (locs : List Loc) (g : JFrame) : Prop := W p l e ({ frames := 4, cells := 0, slots := 0, locals := 89 }) s m ([.ref (x 0), .int a1, .int a2] : List Value).toArray below meth c H locs 0 0 (MQ below (roQ (some (.int R))) ([.ref (x 0), .int a1, .int a2] : List Value).toArray s 0 0 (fun _ => False)) g
set_option maxHeartbeats 4000000 in
set_option maxRecDepth 100000 in
theorem c_X10_about (l : Launch) (G : TG) (x : Nat → Nat) (t9 : Nat → Nat) (t6 : Nat → Nat) (t8 : Nat → Nat) (t3 : Nat → Nat) (t7 : Nat → Nat) (t1 : Nat → Nat) (t0 : Nat → Nat) (t4 : Nat → Nat) (t5 : Nat → Nat) (t2 : Nat → Nat) (t4_marks : Nat → Int32) (t4_beds : Int32) (t4_isKept : Int32) (a1 : Int32) (a2 : Int32) (R : Int32) (hf : f_X10_about t4_marks t4_beds a1 a2 = some R) : RO l yX10_about cX10_about 3 (some .int) ({ frames := 4, cells := 0, slots := 0, locals := 89 }) G [.ref (x 0), .int a1, .int a2] [(oX10 x t9 t6 t8 t3 t7 t1 t0 t4 t5 t2), (oX4 t4 t4_beds t4_isKept), (wI G (t4 1) 48 t4_marks)] (some (.int R)) := by
  refine RO.mk (by decide +kernel) (Nat.le_of_ble_eq_true rfl) ?_
  intro p e s m below meth c ls C hP hK hl
  have hx := C.1
  have hb := C.2.1
  have hown : s.vm.findClass RX10 = some m.cls := C.2.2.2.2.2.1
  have ht := C.2.2.2.2.2.2
  have hl : lv_has ls 3 [(0, .ref (x 0)), (1, .int a1), (2, .int a2)] := hl
  show Wc_X10_about l G x t9 t6 t8 t3 t7 t1 t0 t4 t5 t2 t4_marks t4_beds t4_isKept a1 a2 R p e s m below meth c s.heap [] (F0 m 0 ls [])
  refine lv_aload_n hx hb dX10_about_0 rfl (lv_at hl 0 rfl) ?_
  refine lv_iload_n hx hb dX10_about_1 rfl (lv_at hl 1 rfl) ?_
  obtain ⟨q1, r1, hf⟩ := bd_s hf
  refine ro_V (n := 1) (As := [.int a1]) (rest := []) (c_X10_isBed l G x t9 t6 t8 t3 t7 t1 t0 t4 t5 t2 t4_beds t4_isKept a1 q1 r1) C hK (hP.sub [0, 1] rfl) hl kcode_X10_isBed kml_X10_214 kim_X10_isBed ksel_X10_isBed kini_X10 (by decide +kernel) ⟨⟨rfl, rfl⟩, Nat.le_of_ble_eq_true rfl, Nat.le_of_ble_eq_true rfl⟩ ⟨Nat.zero_le _, Nat.zero_le _⟩ rfl rfl rfl rfl rfl (Nat.le_of_ble_eq_true rfl) dX10_about_2 rfl ?_
  refine lv_if_ne (tgt := 10) hx hb dX10_about_5 (by decide) (fun c2 => ?_) (fun c2 => ?_)
  · have hf := o_f c2 hf
    refine lv_iload_n hx hb dX10_about_10 rfl (lv_at hl 2 rfl) ?_
    refine lv_iconst (v := 0) hx hb dX10_about_11 (by decide) ?_
    refine lv_bipush (v := 7) hx hb dX10_about_12 (by decide) ?_
    obtain ⟨q3, r3, hf⟩ := bd_s hf
    refine ro_S (n := 3) (As := [.int a2, .int (0 : Int32), .int (7 : Int32)]) (rest := []) (c_X10_within l G a2 (0 : Int32) (7 : Int32) q3 r3) C hK (hP.sub [] rfl) hl kcode_X10_within kml_X10_83 kst_X10_within kini_X10 (by decide +kernel) ⟨⟨rfl, rfl⟩, Nat.le_of_ble_eq_true rfl, Nat.le_of_ble_eq_true rfl⟩ ⟨Nat.zero_le _, Nat.zero_le _⟩ rfl rfl (Nat.le_of_ble_eq_true rfl) dX10_about_14 rfl ?_
    refine lv_if_ne (tgt := 23) hx hb dX10_about_17 (by decide) (fun c4 => ?_) (fun c4 => ?_)
    · have hf := o_f c4 hf
      refine lv_iload_n hx hb dX10_about_23 rfl (lv_at hl 2 rfl) ?_
      refine lv_bipush (v := 6) hx hb dX10_about_24 (by decide) ?_
      refine lv_icmp_ne (tgt := 38) hx hb dX10_about_26 (by decide) (fun c5 => ?_) (fun c5 => ?_)
      · have hf := o_f c5 hf
        refine lv_iload_n hx hb dX10_about_38 rfl (lv_at hl 2 rfl) ?_
        refine lv_bipush (v := 7) hx hb dX10_about_39 (by decide) ?_
        refine lv_icmp_ne (tgt := 61) hx hb dX10_about_41 (by decide) (fun c6 => ?_) (fun c6 => ?_)
        · have hf := o_f c6 hf
          refine lv_aload_n hx hb dX10_about_61 rfl (lv_at hl 0 rfl) ?_
          refine va_get (D := G.1) (ci := 10) (v := .ref (t4 0)) (C := RX10) (T := TX10) (N := 11) hx hb ht twX10 hown hK.1 hP 0 rfl rfl 7 (by decide) (ht _ kfl_X10_61) (fun _ h9 => h9) rfl dX10_about_62 ?_
          refine lv_iload_n hx hb dX10_about_65 rfl (lv_at hl 1 rfl) ?_
          refine lv_iload_n hx hb dX10_about_66 rfl (lv_at hl 2 rfl) ?_
          obtain ⟨q7, r7, hf⟩ := bd_s hf
          refine ro_V (n := 2) (As := [.int a1, .int a2]) (rest := []) (c_X4_markOf l G t4 t4_marks t4_beds t4_isKept a1 a2 q7 r7) C hK (hP.sub [1, 2] rfl) hl kcode_X4_markOf kml_X10_223 kim_X4_markOf ksel_X4_markOf kini_X4 (by decide +kernel) ⟨⟨rfl, rfl⟩, Nat.le_of_ble_eq_true rfl, Nat.le_of_ble_eq_true rfl⟩ ⟨Nat.zero_le _, Nat.zero_le _⟩ rfl rfl rfl rfl rfl (Nat.le_of_ble_eq_true rfl) dX10_about_67 rfl ?_
          have h9 := Option.some.inj hf
          subst h9
          exact ro_iret C rfl dX10_about_70
        · have hf := o_t c6 hf
          refine lv_aload_n hx hb dX10_about_44 rfl (lv_at hl 0 rfl) ?_
          refine va_get (D := G.1) (ci := 10) (v := .ref (t4 0)) (C := RX10) (T := TX10) (N := 11) hx hb ht twX10 hown hK.1 hP 0 rfl rfl 7 (by decide) (ht _ kfl_X10_61) (fun _ h9 => h9) rfl dX10_about_45 ?_
          refine lv_iload_n hx hb dX10_about_48 rfl (lv_at hl 1 rfl) ?_
          obtain ⟨q9, r9, hf⟩ := bd_s hf
          refine ro_V (n := 1) (As := [.int a1]) (rest := []) (c_X4_isIcy l G t4 t4_marks t4_beds t4_isKept a1 q9 r9) C hK (hP.sub [1, 2] rfl) hl kcode_X4_isIcy kml_X10_220 kim_X4_isIcy ksel_X4_isIcy kini_X4 (by decide +kernel) ⟨⟨rfl, rfl⟩, Nat.le_of_ble_eq_true rfl, Nat.le_of_ble_eq_true rfl⟩ ⟨Nat.zero_le _, Nat.zero_le _⟩ rfl rfl rfl rfl rfl (Nat.le_of_ble_eq_true rfl) dX10_about_49 rfl ?_
          refine lv_if_eq (tgt := 59) hx hb dX10_about_52 (by decide) (fun c10 => ?_) (fun c10 => ?_)
          · have hf := o_t c10 hf
            refine lv_iconst (v := 0) hx hb dX10_about_59 (by decide) ?_
            have h9 := Option.some.inj hf
            subst h9
            exact ro_iret C rfl dX10_about_60
          · have hf := o_f c10 hf
            refine lv_iconst (v := 1) hx hb dX10_about_55 (by decide) ?_
            refine lv_goto (tgt := 60) hx hb dX10_about_56 (by decide) ?_
            have h9 := Option.some.inj hf
            subst h9
            exact ro_iret C rfl dX10_about_60
      · have hf := o_t c5 hf
        refine lv_aload_n hx hb dX10_about_29 rfl (lv_at hl 0 rfl) ?_
        refine va_get (D := G.1) (ci := 10) (v := .ref (t4 0)) (C := RX10) (T := TX10) (N := 11) hx hb ht twX10 hown hK.1 hP 0 rfl rfl 7 (by decide) (ht _ kfl_X10_61) (fun _ h9 => h9) rfl dX10_about_30 ?_
        refine lv_iload_n hx hb dX10_about_33 rfl (lv_at hl 1 rfl) ?_
        obtain ⟨q13, r13, hf⟩ := bd_s hf
        refine ro_V (n := 1) (As := [.int a1]) (rest := []) (c_X4_slideTenths l G t4 t4_marks t4_beds t4_isKept a1 q13 r13) C hK (hP.sub [1, 2] rfl) hl kcode_X4_slideTenths kml_X10_217 kim_X4_slideTenths ksel_X4_slideTenths kini_X4 (by decide +kernel) ⟨⟨rfl, rfl⟩, Nat.le_of_ble_eq_true rfl, Nat.le_of_ble_eq_true rfl⟩ ⟨Nat.zero_le _, Nat.zero_le _⟩ rfl rfl rfl rfl rfl (Nat.le_of_ble_eq_true rfl) dX10_about_34 rfl ?_
        have h9 := Option.some.inj hf
        subst h9
        exact ro_iret C rfl dX10_about_37
    · have hf := o_t c4 hf
      refine lv_bipush (v := -2) hx hb dX10_about_20 (by decide) ?_
      have h9 := Option.some.inj hf
      subst h9
      exact ro_iret C rfl dX10_about_22
  · have hf := o_t c2 hf
    refine lv_iconst (v := -1) hx hb dX10_about_8 (by decide) ?_
    have h9 := Option.some.inj hf
    subst h9
    exact ro_iret C rfl dX10_about_9
abbrev Wc_X10_explains (l : Launch) (G : TG) (x : Nat → Nat) (t9 : Nat → Nat) (t6 : Nat → Nat) (t8 : Nat → Nat) (t3 : Nat → Nat) (t7 : Nat → Nat) (t1 : Nat → Nat) (t0 : Nat → Nat) (t4 : Nat → Nat) (t5 : Nat → Nat) (t2 : Nat → Nat) (t0_ice : Nat → Int32) (t4_marks : Nat → Int32) (t4_beds : Int32) (t4_isKept : Int32) (a1 : Int32) (a2 : Int32) (R : Int32) (p : Program) (e : Env) (s : State) (m : MethodId) (below : List Frame) (meth : Method) (c : Code) (H : Heap) (locs : List Loc) (g : JFrame) : Prop := W p l e ({ frames := 4, cells := 0, slots := 0, locals := 89 }) s m ([.ref (x 0), .int a1, .int a2] : List Value).toArray below meth c H locs 0 0 (MQ below (roQ (some (.int R))) ([.ref (x 0), .int a1, .int a2] : List Value).toArray s 0 0 (fun _ => False)) g
set_option maxHeartbeats 4000000 in
set_option maxRecDepth 100000 in
theorem c_X10_explains (l : Launch) (G : TG) (x : Nat → Nat) (t9 : Nat → Nat) (t6 : Nat → Nat) (t8 : Nat → Nat) (t3 : Nat → Nat) (t7 : Nat → Nat) (t1 : Nat → Nat) (t0 : Nat → Nat) (t4 : Nat → Nat) (t5 : Nat → Nat) (t2 : Nat → Nat) (t0_ice : Nat → Int32) (t4_marks : Nat → Int32) (t4_beds : Int32) (t4_isKept : Int32) (a1 : Int32) (a2 : Int32) (R : Int32) (hf : f_X10_explains t0_ice t4_marks t4_beds a1 a2 = some R) : RO l yX10_explains cX10_explains 4 (some .int) ({ frames := 4, cells := 0, slots := 0, locals := 89 }) G [.ref (x 0), .int a1, .int a2] [(oX10 x t9 t6 t8 t3 t7 t1 t0 t4 t5 t2), (oX0 t0), (wI G (t0 1) 400 t0_ice), (oX4 t4 t4_beds t4_isKept), (wI G (t4 1) 48 t4_marks)] (some (.int R)) := by
  refine RO.mk (by decide +kernel) (Nat.le_of_ble_eq_true rfl) ?_
  intro p e s m below meth c ls C hP hK hl
  have hx := C.1
  have hb := C.2.1
  have hown : s.vm.findClass RX10 = some m.cls := C.2.2.2.2.2.1
  have ht := C.2.2.2.2.2.2
  have hl : lv_has ls 4 [(0, .ref (x 0)), (1, .int a1), (2, .int a2)] := hl
  show Wc_X10_explains l G x t9 t6 t8 t3 t7 t1 t0 t4 t5 t2 t0_ice t4_marks t4_beds t4_isKept a1 a2 R p e s m below meth c s.heap [] (F0 m 0 ls [])
  refine lv_iload_n hx hb dX10_explains_0 rfl (lv_at hl 1 rfl) ?_
  obtain ⟨q1, r1, hf⟩ := bd_s hf
  refine ro_S (n := 1) (As := [.int a1]) (rest := []) (c_X10_isStory l G a1 q1 r1) C hK (hP.sub [] rfl) hl kcode_X10_isStory kml_X10_115 kst_X10_isStory kini_X10 (by decide +kernel) ⟨⟨rfl, rfl⟩, Nat.le_of_ble_eq_true rfl, Nat.le_of_ble_eq_true rfl⟩ ⟨Nat.zero_le _, Nat.zero_le _⟩ rfl rfl (Nat.le_of_ble_eq_true rfl) dX10_explains_1 rfl ?_
  refine lv_if_eq (tgt := 15) hx hb dX10_explains_4 (by decide) (fun c2 => ?_) (fun c2 => ?_)
  · have hf := o_t c2 hf
    refine lv_iconst (v := -1) hx hb dX10_explains_15 (by decide) ?_
    have h9 := Option.some.inj hf
    subst h9
    exact ro_iret C rfl dX10_explains_16
  · have hf := o_f c2 hf
    refine lv_aload_n hx hb dX10_explains_7 rfl (lv_at hl 0 rfl) ?_
    refine lv_iload_n hx hb dX10_explains_8 rfl (lv_at hl 2 rfl) ?_
    obtain ⟨q4, r4, hf⟩ := bd_s hf
    refine ro_V (n := 1) (As := [.int a2]) (rest := []) (c_X10_isBed l G x t9 t6 t8 t3 t7 t1 t0 t4 t5 t2 t4_beds t4_isKept a2 q4 r4) C hK (hP.sub [0, 3] rfl) hl kcode_X10_isBed kml_X10_214 kim_X10_isBed ksel_X10_isBed kini_X10 (by decide +kernel) ⟨⟨rfl, rfl⟩, Nat.le_of_ble_eq_true rfl, Nat.le_of_ble_eq_true rfl⟩ ⟨Nat.zero_le _, Nat.zero_le _⟩ rfl rfl rfl rfl rfl (Nat.le_of_ble_eq_true rfl) dX10_explains_9 rfl ?_
    refine lv_if_ne (tgt := 17) hx hb dX10_explains_12 (by decide) (fun c5 => ?_) (fun c5 => ?_)
    · have hf := o_f c5 hf
      refine lv_aload_n hx hb dX10_explains_17 rfl (lv_at hl 0 rfl) ?_
      refine va_get (D := G.1) (ci := 10) (v := .ref (t4 0)) (C := RX10) (T := TX10) (N := 11) hx hb ht twX10 hown hK.1 hP 0 rfl rfl 7 (by decide) (ht _ kfl_X10_61) (fun _ h9 => h9) rfl dX10_explains_18 ?_
      refine lv_iload_n hx hb dX10_explains_21 rfl (lv_at hl 2 rfl) ?_
      obtain ⟨q6, r6, hf⟩ := bd_s hf
      refine ro_V (n := 1) (As := [.int a2]) (rest := []) (c_X4_isIcy l G t4 t4_marks t4_beds t4_isKept a2 q6 r6) C hK (hP.sub [3, 4] rfl) hl kcode_X4_isIcy kml_X10_220 kim_X4_isIcy ksel_X4_isIcy kini_X4 (by decide +kernel) ⟨⟨rfl, rfl⟩, Nat.le_of_ble_eq_true rfl, Nat.le_of_ble_eq_true rfl⟩ ⟨Nat.zero_le _, Nat.zero_le _⟩ rfl rfl rfl rfl rfl (Nat.le_of_ble_eq_true rfl) dX10_explains_22 rfl ?_
      refine lv_if_ne (tgt := 31) hx hb dX10_explains_25 (by decide) (fun c7 => ?_) (fun c7 => ?_)
      · have hf := o_f c7 hf
        refine lv_aload_n hx hb dX10_explains_31 rfl (lv_at hl 0 rfl) ?_
        refine va_get (D := G.1) (ci := 10) (v := .ref (t0 0)) (C := RX10) (T := TX10) (N := 11) hx hb ht twX10 hown hK.1 hP 0 rfl rfl 6 (by decide) (ht _ kfl_X10_54) (fun _ h9 => h9) rfl dX10_explains_32 ?_
        refine lv_iload_n hx hb dX10_explains_35 rfl (lv_at hl 1 rfl) ?_
        refine lv_aload_n hx hb dX10_explains_36 rfl (lv_at hl 0 rfl) ?_
        refine va_get (D := G.1) (ci := 10) (v := .ref (t4 0)) (C := RX10) (T := TX10) (N := 11) hx hb ht twX10 hown hK.1 hP 0 rfl rfl 7 (by decide) (ht _ kfl_X10_61) (fun _ h9 => h9) rfl dX10_explains_37 ?_
        refine lv_iload_n hx hb dX10_explains_40 rfl (lv_at hl 2 rfl) ?_
        refine lv_iconst (v := 2) hx hb dX10_explains_41 (by decide) ?_
        obtain ⟨q8, r8, hf⟩ := bd_s hf
        refine ro_V (n := 2) (As := [.int a2, .int (2 : Int32)]) (rest := [.int a1, .ref (t0 0)]) (c_X4_markOf l G t4 t4_marks t4_beds t4_isKept a2 (2 : Int32) q8 r8) C hK (hP.sub [3, 4] rfl) hl kcode_X4_markOf kml_X10_223 kim_X4_markOf ksel_X4_markOf kini_X4 (by decide +kernel) ⟨⟨rfl, rfl⟩, Nat.le_of_ble_eq_true rfl, Nat.le_of_ble_eq_true rfl⟩ ⟨Nat.zero_le _, Nat.zero_le _⟩ rfl rfl rfl rfl rfl (Nat.le_of_ble_eq_true rfl) dX10_explains_42 rfl ?_
        refine lv_aload_n hx hb dX10_explains_45 rfl (lv_at hl 0 rfl) ?_
        refine va_get (D := G.1) (ci := 10) (v := .ref (t4 0)) (C := RX10) (T := TX10) (N := 11) hx hb ht twX10 hown hK.1 hP 0 rfl rfl 7 (by decide) (ht _ kfl_X10_61) (fun _ h9 => h9) rfl dX10_explains_46 ?_
        refine lv_iload_n hx hb dX10_explains_49 rfl (lv_at hl 2 rfl) ?_
        refine lv_iconst (v := 3) hx hb dX10_explains_50 (by decide) ?_
        obtain ⟨q9, r9, hf⟩ := bd_s hf
        refine ro_V (n := 2) (As := [.int a2, .int (3 : Int32)]) (rest := [.int q8, .int a1, .ref (t0 0)]) (c_X4_markOf l G t4 t4_marks t4_beds t4_isKept a2 (3 : Int32) q9 r9) C hK (hP.sub [3, 4] rfl) hl kcode_X4_markOf kml_X10_223 kim_X4_markOf ksel_X4_markOf kini_X4 (by decide +kernel) ⟨⟨rfl, rfl⟩, Nat.le_of_ble_eq_true rfl, Nat.le_of_ble_eq_true rfl⟩ ⟨Nat.zero_le _, Nat.zero_le _⟩ rfl rfl rfl rfl rfl (Nat.le_of_ble_eq_true rfl) dX10_explains_51 rfl ?_
        obtain ⟨q10, r10, hf⟩ := bd_s hf
        refine ro_V (n := 3) (As := [.int a1, .int q8, .int q9]) (rest := []) (c_X0_someIce l G t0 t0_ice a1 q8 q9 q10 r10) C hK (hP.sub [1, 2] rfl) hl kcode_X0_someIce kml_X10_226 kim_X0_someIce ksel_X0_someIce kini_X0 (by decide +kernel) ⟨⟨rfl, rfl⟩, Nat.le_of_ble_eq_true rfl, Nat.le_of_ble_eq_true rfl⟩ ⟨Nat.zero_le _, Nat.zero_le _⟩ rfl rfl rfl rfl rfl (Nat.le_of_ble_eq_true rfl) dX10_explains_54 rfl ?_
        refine lv_istore_n (lv' := [(3, .int q10), (0, .ref (x 0)), (1, .int a1), (2, .int a2)]) hx hb dX10_explains_57 rfl hl (by decide) rfl (fun ls hl => ?_)
        refine lv_iload_n hx hb dX10_explains_58 rfl (lv_at hl 0 rfl) ?_
        refine lv_aload_n hx hb dX10_explains_59 rfl (lv_at hl 1 rfl) ?_
        refine va_get (D := G.1) (ci := 10) (v := .ref (t4 0)) (C := RX10) (T := TX10) (N := 11) hx hb ht twX10 hown hK.1 hP 0 rfl rfl 7 (by decide) (ht _ kfl_X10_61) (fun _ h9 => h9) rfl dX10_explains_60 ?_
        refine lv_iload_n hx hb dX10_explains_63 rfl (lv_at hl 3 rfl) ?_
        refine lv_iconst (v := 4) hx hb dX10_explains_64 (by decide) ?_
        obtain ⟨q11, r11, hf⟩ := bd_s hf
        refine ro_V (n := 2) (As := [.int a2, .int (4 : Int32)]) (rest := [.int q10]) (c_X4_markOf l G t4 t4_marks t4_beds t4_isKept a2 (4 : Int32) q11 r11) C hK (hP.sub [3, 4] rfl) hl kcode_X4_markOf kml_X10_223 kim_X4_markOf ksel_X4_markOf kini_X4 (by decide +kernel) ⟨⟨rfl, rfl⟩, Nat.le_of_ble_eq_true rfl, Nat.le_of_ble_eq_true rfl⟩ ⟨Nat.zero_le _, Nat.zero_le _⟩ rfl rfl rfl rfl rfl (Nat.le_of_ble_eq_true rfl) dX10_explains_65 rfl ?_
        obtain ⟨q12, r12, hf⟩ := bd_s hf
        refine ro_S (n := 2) (As := [.int q10, .int q11]) (rest := []) (c_X10_hasIce l G q10 q11 q12 r12) C hK (hP.sub [] rfl) hl kcode_X10_hasIce kml_X10_229 kst_X10_hasIce kini_X10 (by decide +kernel) ⟨⟨rfl, rfl⟩, Nat.le_of_ble_eq_true rfl, Nat.le_of_ble_eq_true rfl⟩ ⟨Nat.zero_le _, Nat.zero_le _⟩ rfl rfl (Nat.le_of_ble_eq_true rfl) dX10_explains_68 rfl ?_
        refine lv_if_eq (tgt := 76) hx hb dX10_explains_71 (by decide) (fun c13 => ?_) (fun c13 => ?_)
        · have hf := o_t c13 hf
          refine lv_iload_n hx hb dX10_explains_76 rfl (lv_at hl 0 rfl) ?_
          refine lv_if_eq (tgt := 84) hx hb dX10_explains_77 (by decide) (fun c14 => ?_) (fun c14 => ?_)
          · have hf := o_t c14 hf
            refine lv_iconst (v := 0) hx hb dX10_explains_84 (by decide) ?_
            have h9 := Option.some.inj hf
            subst h9
            exact ro_iret C rfl dX10_explains_85
          · have hf := o_f c14 hf
            refine lv_iconst (v := 1) hx hb dX10_explains_80 (by decide) ?_
            refine lv_goto (tgt := 85) hx hb dX10_explains_81 (by decide) ?_
            have h9 := Option.some.inj hf
            subst h9
            exact ro_iret C rfl dX10_explains_85
        · have hf := o_f c13 hf
          refine lv_iconst (v := 2) hx hb dX10_explains_74 (by decide) ?_
          have h9 := Option.some.inj hf
          subst h9
          exact ro_iret C rfl dX10_explains_75
      · have hf := o_t c7 hf
        refine lv_bipush (v := -3) hx hb dX10_explains_28 (by decide) ?_
        have h9 := Option.some.inj hf
        subst h9
        exact ro_iret C rfl dX10_explains_30
    · have hf := o_t c5 hf
      refine lv_iconst (v := -1) hx hb dX10_explains_15 (by decide) ?_
      have h9 := Option.some.inj hf
      subst h9
      exact ro_iret C rfl dX10_explains_16
abbrev Wc_X10_greatestCommon (l : Launch) (G : TG) (a0 : Int64) (a2 : Int64) (R : Int64) (p : Program) (e : Env) (s : State) (m : MethodId) (below : List Frame) (meth : Method) (c : Code) (H : Heap) (locs : List Loc) (g : JFrame) : Prop := W p l e ({ frames := 0, cells := 0, slots := 0, locals := 0 }) s m ([.long a0, .long a2] : List Value).toArray below meth c H locs 0 0 (MQ below (roQ (some (.long R))) ([.long a0, .long a2] : List Value).toArray s 0 0 (fun _ => False)) g
set_option maxHeartbeats 4000000 in
set_option maxRecDepth 100000 in
theorem c_X10_greatestCommon (l : Launch) (G : TG) (a0 : Int64) (a2 : Int64) (R : Int64) (hf : f_X10_greatestCommon a0 a2 = some R) : RO l yX10_greatestCommon cX10_greatestCommon 11 (some .long) ({ frames := 0, cells := 0, slots := 0, locals := 0 }) G [.long a0, .long a2] [] (some (.long R)) := by
  refine RO.mk (by decide +kernel) (Nat.le_of_ble_eq_true rfl) ?_
  intro p e s m below meth c ls C hP hK hl
  have hx := C.1
  have hb := C.2.1
  have hown : s.vm.findClass RX10 = some m.cls := C.2.2.2.2.2.1
  have ht := C.2.2.2.2.2.2
  have hl : lv_has ls 11 [(0, .long a0), (2, .long a2)] := hl
  show Wc_X10_greatestCommon l G a0 a2 R p e s m below meth c s.heap [] (F0 m 0 ls [])
  refine lv_lload_n hx hb dX10_greatestCommon_0 rfl (lv_at hl 0 rfl) ?_
  refine lv_lstore (lv' := [(4, .long a0), (0, .long a0), (2, .long a2)]) hx hb dX10_greatestCommon_1 hl (by decide) rfl (fun ls hl => ?_)
  refine lv_lload_n hx hb dX10_greatestCommon_3 rfl (lv_at hl 2 rfl) ?_
  refine lv_lstore (lv' := [(6, .long a2), (4, .long a0), (0, .long a0), (2, .long a2)]) hx hb dX10_greatestCommon_4 hl (by decide) rfl (fun ls hl => ?_)
  refine lv_iconst (v := 0) hx hb dX10_greatestCommon_6 (by decide) ?_
  refine lv_istore (lv' := [(8, .int (0 : Int32)), (6, .long a2), (4, .long a0), (0, .long a0), (2, .long a2)]) hx hb dX10_greatestCommon_7 hl (by decide) rfl (fun ls hl => ?_)
  have hx44_1 : ∀ (v4 : Int64) (ls : Array Slot), f_X10_greatestCommon_x44_1 v4 = some R → lv_has ls 11 [(4, .long v4)] → Wc_X10_greatestCommon l G a0 a2 R p e s m below meth c s.heap [] (F0 m 44 ls []) := by
    intro v4 ls hf hl
    refine lv_lload hx hb dX10_greatestCommon_44 (lv_at hl 0 rfl) ?_
    have h9 := Option.some.inj hf
    subst h9
    exact ro_lret C rfl dX10_greatestCommon_46
  obtain ⟨rL1, hL1, hk1⟩ := bd_s hf
  refine lp_W (P := fun st => ∀ (ls : Array Slot), lv_has ls 11 [(4, .long st.1), (6, .long st.2.1), (8, .int st.2.2)] → Wc_X10_greatestCommon l G a0 a2 R p e s m below meth c s.heap [] (F0 m 9 ls [])) ?_ FU (a0, a2, (0 : Int32)) hL1 ls (lv_sub hl [2, 1, 0] rfl)
  intro ⟨v4, v6, v8⟩ oc1 hf hI hE ls hl
  have hl : lv_has ls 11 [(4, .long v4), (6, .long v6), (8, .int v8)] := hl
  have hf : f_X10_greatestCommon_b9 v4 v6 v8 = some oc1 := hf
  refine lv_iload hx hb dX10_greatestCommon_9 (lv_at hl 2 rfl) ?_
  refine lv_bipush (v := 100) hx hb dX10_greatestCommon_11 (by decide) ?_
  refine lv_icmp_ge (tgt := 44) hx hb dX10_greatestCommon_13 (by decide) (fun c3 => ?_) (fun c3 => ?_)
  · have hf := o_t c3 hf
    cases hf
    have hf : f_X10_greatestCommon_x44_1 v4 = some R := by have h9 := hk1; rw [← hE _ rfl] at h9; exact h9
    exact hx44_1 v4 ls hf (lv_sub hl [0] rfl)
  · have hf := o_f c3 hf
    refine lv_lload hx hb dX10_greatestCommon_16 (lv_at hl 1 rfl) ?_
    refine lv_lconst (v := 0) hx hb dX10_greatestCommon_18 (by decide) ?_
    refine W.lcmp hx hb dX10_greatestCommon_19 ?_
    refine lv_if_eq (tgt := 44) hx hb dX10_greatestCommon_20 (by decide) (fun c4 => ?_) (fun c4 => ?_)
    · have hf := o_t c4 hf
      cases hf
      have hf : f_X10_greatestCommon_x44_1 v4 = some R := by have h9 := hk1; rw [← hE _ rfl] at h9; exact h9
      exact hx44_1 v4 ls hf (lv_sub hl [0] rfl)
    · have hf := o_f c4 hf
      refine lv_lload hx hb dX10_greatestCommon_23 (lv_at hl 0 rfl) ?_
      refine lv_lload hx hb dX10_greatestCommon_25 (lv_at hl 1 rfl) ?_
      obtain ⟨n5, hf⟩ := dzL_s hf
      refine lv_lrem hx hb dX10_greatestCommon_27 n5 ?_
      refine lv_lstore (lv' := [(9, .long (v4 - v4 / v6 * v6)), (4, .long v4), (6, .long v6), (8, .int v8)]) hx hb dX10_greatestCommon_28 hl (by decide) rfl (fun ls hl => ?_)
      refine lv_lload hx hb dX10_greatestCommon_30 (lv_at hl 2 rfl) ?_
      refine lv_lstore (lv' := [(4, .long v6), (9, .long (v4 - v4 / v6 * v6)), (6, .long v6), (8, .int v8)]) hx hb dX10_greatestCommon_32 hl (by decide) rfl (fun ls hl => ?_)
      refine lv_lload hx hb dX10_greatestCommon_34 (lv_at hl 1 rfl) ?_
      refine lv_lstore (lv' := [(6, .long (v4 - v4 / v6 * v6)), (4, .long v6), (9, .long (v4 - v4 / v6 * v6)), (8, .int v8)]) hx hb dX10_greatestCommon_36 hl (by decide) rfl (fun ls hl => ?_)
      refine lv_iinc (v := (v8 + (1 : Int32))) (lv' := [(8, .int (v8 + (1 : Int32))), (6, .long (v4 - v4 / v6 * v6)), (4, .long v6), (9, .long (v4 - v4 / v6 * v6))]) hx hb dX10_greatestCommon_38 hl (k := 3) rfl (by rfl) (by decide) rfl (fun ls hl => ?_)
      refine lv_goto (tgt := 9) hx hb dX10_greatestCommon_41 (by decide) ?_
      cases hf
      exact hI _ rfl ls (lv_sub hl [2, 1, 0] rfl)
abbrev Wc_X10_told (l : Launch) (G : TG) (a0 : Int64) (a2 : Int64) (a4 : Int32) (R : Int64) (p : Program) (e : Env) (s : State) (m : MethodId) (below : List Frame) (meth : Method) (c : Code) (H : Heap) (locs : List Loc) (g : JFrame) : Prop := W p l e ({ frames := 1, cells := 0, slots := 0, locals := 30 }) s m ([.long a0, .long a2, .int a4] : List Value).toArray below meth c H locs 0 0 (MQ below (roQ (some (.long R))) ([.long a0, .long a2, .int a4] : List Value).toArray s 0 0 (fun _ => False)) g
set_option maxHeartbeats 4000000 in
set_option maxRecDepth 100000 in
theorem c_X10_told (l : Launch) (G : TG) (a0 : Int64) (a2 : Int64) (a4 : Int32) (R : Int64) (hf : f_X10_told a0 a2 a4 = some R) : RO l yX10_told cX10_told 7 (some .long) ({ frames := 1, cells := 0, slots := 0, locals := 30 }) G [.long a0, .long a2, .int a4] [] (some (.long R)) := by
  refine RO.mk (by decide +kernel) (Nat.le_of_ble_eq_true rfl) ?_
  intro p e s m below meth c ls C hP hK hl
  have hx := C.1
  have hb := C.2.1
  have hown : s.vm.findClass RX10 = some m.cls := C.2.2.2.2.2.1
  have ht := C.2.2.2.2.2.2
  have hl : lv_has ls 7 [(0, .long a0), (2, .long a2), (4, .int a4)] := hl
  show Wc_X10_told l G a0 a2 a4 R p e s m below meth c s.heap [] (F0 m 0 ls [])
  refine lv_lload_n hx hb dX10_told_0 rfl (lv_at hl 0 rfl) ?_
  refine lv_lload_n hx hb dX10_told_1 rfl (lv_at hl 1 rfl) ?_
  obtain ⟨q1, r1, hf⟩ := bd_s hf
  refine ro_S (n := 2) (As := [.long a0, .long a2]) (rest := []) (c_X10_greatestCommon l G a0 a2 q1 r1) C hK (hP.sub [] rfl) hl kcode_X10_greatestCommon kml_X10_313 kst_X10_greatestCommon kini_X10 (by decide +kernel) ⟨⟨rfl, rfl⟩, Nat.le_of_ble_eq_true rfl, Nat.le_of_ble_eq_true rfl⟩ ⟨Nat.zero_le _, Nat.zero_le _⟩ rfl rfl (Nat.le_of_ble_eq_true rfl) dX10_told_2 rfl ?_
  refine lv_lstore (lv' := [(5, .long q1), (0, .long a0), (2, .long a2), (4, .int a4)]) hx hb dX10_told_5 hl (by decide) rfl (fun ls hl => ?_)
  refine lv_lload hx hb dX10_told_7 (lv_at hl 0 rfl) ?_
  refine lv_lconst (v := 0) hx hb dX10_told_9 (by decide) ?_
  refine W.lcmp hx hb dX10_told_10 ?_
  refine lv_if_gt (tgt := 18) hx hb dX10_told_11 (by decide) (fun c2 => ?_) (fun c2 => ?_)
  · have hf := o_t c2 hf
    refine lv_iload hx hb dX10_told_18 (lv_at hl 3 rfl) ?_
    refine lv_if_eq (tgt := 30) hx hb dX10_told_20 (by decide) (fun c3 => ?_) (fun c3 => ?_)
    · have hf := o_t c3 hf
      refine lv_lload_n hx hb dX10_told_30 rfl (lv_at hl 2 rfl) ?_
      refine lv_lload hx hb dX10_told_31 (lv_at hl 0 rfl) ?_
      obtain ⟨n4, hf⟩ := dzL_s hf
      refine lv_ldiv hx hb dX10_told_33 n4 ?_
      have h9 := Option.some.inj hf
      subst h9
      exact ro_lret C rfl dX10_told_34
    · have hf := o_f c3 hf
      refine lv_lload_n hx hb dX10_told_23 rfl (lv_at hl 1 rfl) ?_
      refine lv_lload hx hb dX10_told_24 (lv_at hl 0 rfl) ?_
      obtain ⟨n6, hf⟩ := dzL_s hf
      refine lv_ldiv hx hb dX10_told_26 n6 ?_
      refine lv_goto (tgt := 34) hx hb dX10_told_27 (by decide) ?_
      have h9 := Option.some.inj hf
      subst h9
      exact ro_lret C rfl dX10_told_34
  · have hf := o_f c2 hf
    refine lv_ldc2 hx hb hown (ht _ kcL_X10_317) dX10_told_14 ?_
    have h9 := Option.some.inj hf
    subst h9
    exact ro_lret C rfl dX10_told_17
abbrev Wc_X10_chance (l : Launch) (G : TG) (x : Nat → Nat) (t9 : Nat → Nat) (t6 : Nat → Nat) (t8 : Nat → Nat) (t3 : Nat → Nat) (t7 : Nat → Nat) (t1 : Nat → Nat) (t0 : Nat → Nat) (t4 : Nat → Nat) (t5 : Nat → Nat) (t2 : Nat → Nat) (t0_ice : Nat → Int32) (t4_marks : Nat → Int32) (t4_beds : Int32) (t4_isKept : Int32) (a1 : Int32) (a2 : Int32) (a3 : Int32) (R : Int64) (p : Program) (e : Env) (s : State) (m : MethodId) (below : List Frame) (meth : Method) (c : Code) (H : Heap) (locs : List Loc) (g : JFrame) : Prop := W p l e ({ frames := 5, cells := 0, slots := 0, locals := 118 }) s m ([.ref (x 0), .int a1, .int a2, .int a3] : List Value).toArray below meth c H locs 0 0 (MQ below (roQ (some (.long R))) ([.ref (x 0), .int a1, .int a2, .int a3] : List Value).toArray s 0 0 (fun _ => False)) g
set_option maxHeartbeats 4000000 in
set_option maxRecDepth 100000 in
theorem c_X10_chance (l : Launch) (G : TG) (x : Nat → Nat) (t9 : Nat → Nat) (t6 : Nat → Nat) (t8 : Nat → Nat) (t3 : Nat → Nat) (t7 : Nat → Nat) (t1 : Nat → Nat) (t0 : Nat → Nat) (t4 : Nat → Nat) (t5 : Nat → Nat) (t2 : Nat → Nat) (t0_ice : Nat → Int32) (t4_marks : Nat → Int32) (t4_beds : Int32) (t4_isKept : Int32) (a1 : Int32) (a2 : Int32) (a3 : Int32) (R : Int64) (hf : f_X10_chance t0_ice t4_marks t4_beds a1 a2 a3 = some R) : RO l yX10_chance cX10_chance 4 (some .long) ({ frames := 5, cells := 0, slots := 0, locals := 118 }) G [.ref (x 0), .int a1, .int a2, .int a3] [(oX10 x t9 t6 t8 t3 t7 t1 t0 t4 t5 t2), (oX0 t0), (wI G (t0 1) 400 t0_ice), (oX4 t4 t4_beds t4_isKept), (wI G (t4 1) 48 t4_marks)] (some (.long R)) := by
  refine RO.mk (by decide +kernel) (Nat.le_of_ble_eq_true rfl) ?_
  intro p e s m below meth c ls C hP hK hl
  have hx := C.1
  have hb := C.2.1
  have hown : s.vm.findClass RX10 = some m.cls := C.2.2.2.2.2.1
  have ht := C.2.2.2.2.2.2
  have hl : lv_has ls 4 [(0, .ref (x 0)), (1, .int a1), (2, .int a2), (3, .int a3)] := hl
  show Wc_X10_chance l G x t9 t6 t8 t3 t7 t1 t0 t4 t5 t2 t0_ice t4_marks t4_beds t4_isKept a1 a2 a3 R p e s m below meth c s.heap [] (F0 m 0 ls [])
  have hj15 : ∀ (ls : Array Slot), f_X10_chance_j15 = some R → lv_has ls 4 [] → Wc_X10_chance l G x t9 t6 t8 t3 t7 t1 t0 t4 t5 t2 t0_ice t4_marks t4_beds t4_isKept a1 a2 a3 R p e s m below meth c s.heap [] (F0 m 15 ls []) := by
    intro ls hf hl
    refine lv_ldc2 hx hb hown (ht _ kcL_X10_232) dX10_chance_15 ?_
    have h9 := Option.some.inj hf
    subst h9
    exact ro_lret C rfl dX10_chance_18
  refine lv_iload_n hx hb dX10_chance_0 rfl (lv_at hl 1 rfl) ?_
  obtain ⟨q2, r2, hf⟩ := bd_s hf
  refine ro_S (n := 1) (As := [.int a1]) (rest := []) (c_X10_isStory l G a1 q2 r2) C hK (hP.sub [] rfl) hl kcode_X10_isStory kml_X10_115 kst_X10_isStory kini_X10 (by decide +kernel) ⟨⟨rfl, rfl⟩, Nat.le_of_ble_eq_true rfl, Nat.le_of_ble_eq_true rfl⟩ ⟨Nat.zero_le _, Nat.zero_le _⟩ rfl rfl (Nat.le_of_ble_eq_true rfl) dX10_chance_1 rfl ?_
  refine lv_if_eq (tgt := 15) hx hb dX10_chance_4 (by decide) (fun c3 => ?_) (fun c3 => ?_)
  · have hf := o_t c3 hf
    exact hj15 ls hf (lv_sub hl [] rfl)
  · have hf := o_f c3 hf
    refine lv_aload_n hx hb dX10_chance_7 rfl (lv_at hl 0 rfl) ?_
    refine lv_iload_n hx hb dX10_chance_8 rfl (lv_at hl 2 rfl) ?_
    obtain ⟨q4, r4, hf⟩ := bd_s hf
    refine ro_V (n := 1) (As := [.int a2]) (rest := []) (c_X10_isBed l G x t9 t6 t8 t3 t7 t1 t0 t4 t5 t2 t4_beds t4_isKept a2 q4 r4) C hK (hP.sub [0, 3] rfl) hl kcode_X10_isBed kml_X10_214 kim_X10_isBed ksel_X10_isBed kini_X10 (by decide +kernel) ⟨⟨rfl, rfl⟩, Nat.le_of_ble_eq_true rfl, Nat.le_of_ble_eq_true rfl⟩ ⟨Nat.zero_le _, Nat.zero_le _⟩ rfl rfl rfl rfl rfl (Nat.le_of_ble_eq_true rfl) dX10_chance_9 rfl ?_
    refine lv_if_ne (tgt := 19) hx hb dX10_chance_12 (by decide) (fun c5 => ?_) (fun c5 => ?_)
    · have hf := o_f c5 hf
      refine lv_aload_n hx hb dX10_chance_19 rfl (lv_at hl 0 rfl) ?_
      refine va_get (D := G.1) (ci := 10) (v := .ref (t0 0)) (C := RX10) (T := TX10) (N := 11) hx hb ht twX10 hown hK.1 hP 0 rfl rfl 6 (by decide) (ht _ kfl_X10_54) (fun _ h9 => h9) rfl dX10_chance_20 ?_
      refine lv_aload_n hx hb dX10_chance_23 rfl (lv_at hl 0 rfl) ?_
      refine va_get (D := G.1) (ci := 10) (v := .ref (t4 0)) (C := RX10) (T := TX10) (N := 11) hx hb ht twX10 hown hK.1 hP 0 rfl rfl 7 (by decide) (ht _ kfl_X10_61) (fun _ h9 => h9) rfl dX10_chance_24 ?_
      refine lv_iload_n hx hb dX10_chance_27 rfl (lv_at hl 1 rfl) ?_
      refine lv_iload_n hx hb dX10_chance_28 rfl (lv_at hl 2 rfl) ?_
      obtain ⟨q6, r6, hf⟩ := bd_s hf
      refine ro_S (n := 4) (As := [.ref (t0 0), .ref (t4 0), .int a1, .int a2]) (rest := []) (c_X5_hundredths l G t0 t4 t0_ice t4_marks t4_beds t4_isKept a1 a2 q6 r6) C hK (hP.sub [1, 2, 3, 4] rfl) hl kcode_X5_hundredths kml_X10_234 kst_X5_hundredths kini_X5 (by decide +kernel) ⟨⟨rfl, rfl⟩, Nat.le_of_ble_eq_true rfl, Nat.le_of_ble_eq_true rfl⟩ ⟨Nat.zero_le _, Nat.zero_le _⟩ rfl rfl (Nat.le_of_ble_eq_true rfl) dX10_chance_29 rfl ?_
      refine lv_i2l (v := (q6.toInt64)) hx hb dX10_chance_32 rfl ?_
      refine lv_ldc2 hx hb hown (ht _ kcL_X10_238) dX10_chance_33 ?_
      refine lv_iload_n hx hb dX10_chance_36 rfl (lv_at hl 3 rfl) ?_
      obtain ⟨q7, r7, hf⟩ := bd_s hf
      refine ro_S (n := 3) (As := [.long (q6.toInt64), .long (100 : Int64), .int a3]) (rest := []) (c_X10_told l G (q6.toInt64) (100 : Int64) a3 q7 r7) C hK (hP.sub [] rfl) hl kcode_X10_told kml_X10_240 kst_X10_told kini_X10 (by decide +kernel) ⟨⟨rfl, rfl⟩, Nat.le_of_ble_eq_true rfl, Nat.le_of_ble_eq_true rfl⟩ ⟨Nat.zero_le _, Nat.zero_le _⟩ rfl rfl (Nat.le_of_ble_eq_true rfl) dX10_chance_37 rfl ?_
      have h9 := Option.some.inj hf
      subst h9
      exact ro_lret C rfl dX10_chance_40
    · have hf := o_t c5 hf
      exact hj15 ls hf (lv_sub hl [] rfl)
