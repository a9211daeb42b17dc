abbrev Wc_X10_within (l : Launch) (G : TG) (a0 : Int32) (a1 : Int32) (a2 : Int32) (R : Int32) (p : Program) (e : Env) (s : State) (m : MethodId) (below : List Frame) (meth : Method) (c : Code) (H : Heap) (locs : List Loc) (g : JFrame) : Prop := W p l e ({ frames := 0, cells := 0, slots := 0, locals := 0 }) s m ([.int a0, .int a1, .int a2] : List Value).toArray below meth c H locs 0 0 (MQ below (roQ (some (.int R))) ([.int a0, .int a1, .int a2] : List Value).toArray s 0 0 (fun _ => False)) g
set_option maxHeartbeats 4000000 in
set_option maxRecDepth 100000 in
theorem c_X10_within (l : Launch) (G : TG) (a0 : Int32) (a1 : Int32) (a2 : Int32) (R : Int32) (hf : f_X10_within a0 a1 a2 = some R) : RO l yX10_within cX10_within 3 (some .boolean) ({ frames := 0, cells := 0, slots := 0, locals := 0 }) G [.int a0, .int a1, .int a2] [] (some (.int R)) := by
  refine RO.mk (by decide +kernel) (Nat.le_of_ble_eq_true rfl) ?_
  intro p e s m below meth c ls C hP hK hl
  have hx := C.1
  have hb := C.2.1
  have hown : s.vm.findClass RX10 = some m.cls := C.2.2.2.2.2.1
  have ht := C.2.2.2.2.2.2
  have hl : lv_has ls 3 [(0, .int a0), (1, .int a1), (2, .int a2)] := hl
  show Wc_X10_within l G a0 a1 a2 R p e s m below meth c s.heap [] (F0 m 0 ls [])
  refine lv_iload_n hx hb dX10_within_0 rfl (lv_at hl 0 rfl) ?_
  refine lv_iload_n hx hb dX10_within_1 rfl (lv_at hl 1 rfl) ?_
  refine lv_icmp_lt (tgt := 14) hx hb dX10_within_2 (by decide) (fun c1 => ?_) (fun c1 => ?_)
  · have hf := o_t c1 hf
    refine lv_iconst (v := 0) hx hb dX10_within_14 (by decide) ?_
    have h9 := Option.some.inj hf
    subst h9
    exact ro_zret C (Or.inl rfl) rfl dX10_within_15
  · have hf := o_f c1 hf
    refine lv_iload_n hx hb dX10_within_5 rfl (lv_at hl 0 rfl) ?_
    refine lv_iload_n hx hb dX10_within_6 rfl (lv_at hl 2 rfl) ?_
    refine lv_icmp_gt (tgt := 14) hx hb dX10_within_7 (by decide) (fun c3 => ?_) (fun c3 => ?_)
    · have hf := o_t c3 hf
      refine lv_iconst (v := 0) hx hb dX10_within_14 (by decide) ?_
      have h9 := Option.some.inj hf
      subst h9
      exact ro_zret C (Or.inl rfl) rfl dX10_within_15
    · have hf := o_f c3 hf
      refine lv_iconst (v := 1) hx hb dX10_within_10 (by decide) ?_
      refine lv_goto (tgt := 15) hx hb dX10_within_11 (by decide) ?_
      have h9 := Option.some.inj hf
      subst h9
      exact ro_zret C (Or.inr rfl) rfl dX10_within_15
abbrev Wc_X10_isStory (l : Launch) (G : TG) (a0 : Int32) (R : Int32) (p : Program) (e : Env) (s : State) (m : MethodId) (below : List Frame) (meth : Method) (c : Code) (H : Heap) (locs : List Loc) (g : JFrame) : Prop := W p l e ({ frames := 1, cells := 0, slots := 0, locals := 22 }) s m ([.int a0] : List Value).toArray below meth c H locs 0 0 (MQ below (roQ (some (.int R))) ([.int a0] : List Value).toArray s 0 0 (fun _ => False)) g
set_option maxHeartbeats 4000000 in
set_option maxRecDepth 100000 in
theorem c_X10_isStory (l : Launch) (G : TG) (a0 : Int32) (R : Int32) (hf : f_X10_isStory a0 = some R) : RO l yX10_isStory cX10_isStory 1 (some .boolean) ({ frames := 1, cells := 0, slots := 0, locals := 22 }) G [.int a0] [] (some (.int R)) := by
  refine RO.mk (by decide +kernel) (Nat.le_of_ble_eq_true rfl) ?_
  intro p e s m below meth c ls C hP hK hl
  have hx := C.1
  have hb := C.2.1
  have hown : s.vm.findClass RX10 = some m.cls := C.2.2.2.2.2.1
  have ht := C.2.2.2.2.2.2
  have hl : lv_has ls 1 [(0, .int a0)] := hl
  show Wc_X10_isStory l G a0 R p e s m below meth c s.heap [] (F0 m 0 ls [])
  refine lv_iload_n hx hb dX10_isStory_0 rfl (lv_at hl 0 rfl) ?_
  refine lv_iconst (v := 0) hx hb dX10_isStory_1 (by decide) ?_
  refine lv_iconst (v := 3) hx hb dX10_isStory_2 (by decide) ?_
  obtain ⟨q1, r1, hf⟩ := bd_s hf
  refine ro_S (n := 3) (As := [.int a0, .int (0 : Int32), .int (3 : Int32)]) (rest := []) (c_X10_within l G a0 (0 : Int32) (3 : Int32) q1 r1) C hK (hP.sub [] rfl) hl kcode_X10_within kml_X10_83 kst_X10_within kini_X10 (by decide +kernel) ⟨⟨rfl, rfl⟩, Nat.le_of_ble_eq_true rfl, Nat.le_of_ble_eq_true rfl⟩ ⟨Nat.zero_le _, Nat.zero_le _⟩ rfl rfl (Nat.le_of_ble_eq_true rfl) dX10_isStory_3 rfl ?_
  obtain ⟨z2, hf⟩ := zb_s hf
  have h9 := Option.some.inj hf
  subst h9
  exact ro_zret C z2 rfl dX10_isStory_6
abbrev Wc_X10_isRound (l : Launch) (G : TG) (a0 : Int32) (R : Int32) (p : Program) (e : Env) (s : State) (m : MethodId) (below : List Frame) (meth : Method) (c : Code) (H : Heap) (locs : List Loc) (g : JFrame) : Prop := W p l e ({ frames := 1, cells := 0, slots := 0, locals := 22 }) s m ([.int a0] : List Value).toArray below meth c H locs 0 0 (MQ below (roQ (some (.int R))) ([.int a0] : List Value).toArray s 0 0 (fun _ => False)) g
set_option maxHeartbeats 4000000 in
set_option maxRecDepth 100000 in
theorem c_X10_isRound (l : Launch) (G : TG) (a0 : Int32) (R : Int32) (hf : f_X10_isRound a0 = some R) : RO l yX10_isRound cX10_isRound 1 (some .boolean) ({ frames := 1, cells := 0, slots := 0, locals := 22 }) G [.int a0] [] (some (.int R)) := by
  refine RO.mk (by decide +kernel) (Nat.le_of_ble_eq_true rfl) ?_
  intro p e s m below meth c ls C hP hK hl
  have hx := C.1
  have hb := C.2.1
  have hown : s.vm.findClass RX10 = some m.cls := C.2.2.2.2.2.1
  have ht := C.2.2.2.2.2.2
  have hl : lv_has ls 1 [(0, .int a0)] := hl
  show Wc_X10_isRound l G a0 R p e s m below meth c s.heap [] (F0 m 0 ls [])
  refine lv_iload_n hx hb dX10_isRound_0 rfl (lv_at hl 0 rfl) ?_
  refine lv_iconst (v := 0) hx hb dX10_isRound_1 (by decide) ?_
  refine lv_bipush (v := 99) hx hb dX10_isRound_2 (by decide) ?_
  obtain ⟨q1, r1, hf⟩ := bd_s hf
  refine ro_S (n := 3) (As := [.int a0, .int (0 : Int32), .int (99 : Int32)]) (rest := []) (c_X10_within l G a0 (0 : Int32) (99 : Int32) q1 r1) C hK (hP.sub [] rfl) hl kcode_X10_within kml_X10_83 kst_X10_within kini_X10 (by decide +kernel) ⟨⟨rfl, rfl⟩, Nat.le_of_ble_eq_true rfl, Nat.le_of_ble_eq_true rfl⟩ ⟨Nat.zero_le _, Nat.zero_le _⟩ rfl rfl (Nat.le_of_ble_eq_true rfl) dX10_isRound_4 rfl ?_
  obtain ⟨z2, hf⟩ := zb_s hf
  have h9 := Option.some.inj hf
  subst h9
  exact ro_zret C z2 rfl dX10_isRound_7
abbrev Wc_X0_tell (l : Launch) (G : TG) (o : Nat → Nat) (o_ice : Nat → Int32) (a1 : Int32) (a2 : Int32) (a3 : Int32) (R : (Nat → Int32)) (p : Program) (e : Env) (s : State) (m : MethodId) (below : List Frame) (meth : Method) (c : Code) (A : Nat → Prop) (H : Heap) (locs : List Loc) (g : JFrame) : Prop := W p l e ({ frames := 2, cells := 0, slots := 0, locals := 42 }) s m ([.ref (o 0), .int a1, .int a2, .int a3] : List Value).toArray below meth c H locs 0 0 (MQ below (rwQ G none [(oX0 o), (wI G (o 1) 400 R)] A) ([.ref (o 0), .int a1, .int a2, .int a3] : List Value).toArray s 0 0 A) g
set_option maxHeartbeats 4000000 in
set_option maxRecDepth 100000 in
theorem c_X0_tell (l : Launch) (G : TG) (o : Nat → Nat) (o_ice : Nat → Int32) (a1 : Int32) (a2 : Int32) (a3 : Int32) (R : (Nat → Int32)) (hf : f_X0_tell o_ice a1 a2 a3 = some R) : RW l yX0_tell cX0_tell 4 none ({ frames := 2, cells := 0, slots := 0, locals := 42 }) G [.ref (o 0), .int a1, .int a2, .int a3] [(oX0 o), (wI G (o 1) 400 o_ice)] none [(oX0 o), (wI G (o 1) 400 R)] := by
  refine RW.mk (by decide +kernel) (Nat.le_of_ble_eq_true rfl) ?_
  intro p e s m below meth c ls A C hP hD hA hz hK hl hS
  have hx := C.1
  have hb := C.2.1
  have hown : s.vm.findClass RX0 = some m.cls := C.2.2.2.2.2.1
  have ht := C.2.2.2.2.2.2
  have hl : lv_has ls 4 [(0, .ref (o 0)), (1, .int a1), (2, .int a2), (3, .int a3)] := hl
  show Wc_X0_tell l G o o_ice a1 a2 a3 R p e s m below meth c A s.heap [] (F0 m 0 ls [])
  obtain ⟨H, eH, hP, hS⟩ : ∃ H, H = s.heap ∧ va_P G.1 vwCl [(oX0 o), (wI G (o 1) 400 o_ice)] H ∧ va_S A s.heap H [] := ⟨_, rfl, hP, hS⟩
  obtain ⟨locs, el, hS⟩ : ∃ locs : List Loc, locs = [] ∧ va_S A s.heap H locs := ⟨_, rfl, hS⟩
  have key : Wc_X0_tell l G o o_ice a1 a2 a3 R p e s m below meth c A H locs (F0 m 0 ls []) := by
    refine lv_iload_n hx hb dX0_tell_0 rfl (lv_at hl 1 rfl) ?_
    obtain ⟨q1, r1, hf⟩ := bd_s hf
    refine ro_SN (n := 1) (As := [.int a1]) (rest := []) (c_X10_isStory l G a1 q1 r1) C (hK.at hS hz) (hP.sub [] rfl) hl kcode_X10_isStory kmln_X0_15 kst_X10_isStory kini_X10 (by decide +kernel) ⟨⟨rfl, rfl⟩, Nat.le_of_ble_eq_true rfl, Nat.le_of_ble_eq_true rfl⟩ ⟨Nat.zero_le _, Nat.zero_le _⟩ rfl rfl (Nat.le_of_ble_eq_true rfl) dX0_tell_1 rfl ?_
    refine lv_if_eq (tgt := 26) hx hb dX0_tell_4 (by decide) (fun c2 => ?_) (fun c2 => ?_)
    · have hf := o_t c2 hf
      have h9 := Option.some.inj hf
      subst h9
      exact rw_vret C hP hD hS dX0_tell_26
    · have hf := o_f c2 hf
      refine lv_iload_n hx hb dX0_tell_7 rfl (lv_at hl 2 rfl) ?_
      obtain ⟨q4, r4, hf⟩ := bd_s hf
      refine ro_SN (n := 1) (As := [.int a2]) (rest := []) (c_X10_isRound l G a2 q4 r4) C (hK.at hS hz) (hP.sub [] rfl) hl kcode_X10_isRound kmln_X0_19 kst_X10_isRound kini_X10 (by decide +kernel) ⟨⟨rfl, rfl⟩, Nat.le_of_ble_eq_true rfl, Nat.le_of_ble_eq_true rfl⟩ ⟨Nat.zero_le _, Nat.zero_le _⟩ rfl rfl (Nat.le_of_ble_eq_true rfl) dX0_tell_8 rfl ?_
      refine lv_if_eq (tgt := 26) hx hb dX0_tell_11 (by decide) (fun c5 => ?_) (fun c5 => ?_)
      · have hf := o_t c5 hf
        have h9 := Option.some.inj hf
        subst h9
        exact rw_vret C hP hD hS dX0_tell_26
      · have hf := o_f c5 hf
        refine lv_aload_n hx hb dX0_tell_14 rfl (lv_at hl 0 rfl) ?_
        refine va_get (D := G.1) (ci := 0) (v := .ref (o 1)) (C := RX0) (T := TX0) (N := 1) hx hb ht twX0 hown hK.1 hP 0 rfl rfl 0 (by decide) (ht _ kfl_X0_9) (fun _ h9 => h9) rfl dX0_tell_15 ?_
        refine lv_iload_n hx hb dX0_tell_18 rfl (lv_at hl 1 rfl) ?_
        refine lv_bipush (v := 100) hx hb dX0_tell_19 (by decide) ?_
        refine lv_imul hx hb dX0_tell_21 ?_
        refine lv_iload_n hx hb dX0_tell_22 rfl (lv_at hl 2 rfl) ?_
        refine lv_iadd hx hb dX0_tell_23 ?_
        refine lv_iload_n hx hb dX0_tell_24 rfl (lv_at hl 3 rfl) ?_
        obtain ⟨g7, hf⟩ := gd_s hf
        refine va_iast hx hb hK.1 hP hD hS 1 0 rfl rfl g7 dX0_tell_25 (fun H locs hP hD hS => ?_)
        have hP : va_P G.1 vwCl [(oX0 o), (wI G (o 1) 400 (upd o_ice ((a1 * (100 : Int32)) + a2).toNatClampNeg a3))] H := hP
        have hD : va_D A [(oX0 o), (wI G (o 1) 400 (upd o_ice ((a1 * (100 : Int32)) + a2).toNatClampNeg a3))] := hD
        have h9 := Option.some.inj hf
        subst h9
        exact rw_vret C hP hD hS dX0_tell_26
  rw [eH, el] at key
  exact key
abbrev Wc_X0_iceOf (l : Launch) (G : TG) (o : Nat → Nat) (o_ice : Nat → Int32) (a1 : Int32) (a2 : Int32) (R : Int32) (p : Program) (e : Env) (s : State) (m : MethodId) (below : List Frame) (meth : Method) (c : Code) (H : Heap) (locs : List Loc) (g : JFrame) : Prop := W p l e ({ frames := 2, cells := 0, slots := 0, locals := 42 }) s m ([.ref (o 0), .int a1, .int a2] : List Value).toArray below meth c H locs 0 0 (MQ below (roQ (some (.int R))) ([.ref (o 0), .int a1, .int a2] : List Value).toArray s 0 0 (fun _ => False)) g
set_option maxHeartbeats 4000000 in
set_option maxRecDepth 100000 in
theorem c_X0_iceOf (l : Launch) (G : TG) (o : Nat → Nat) (o_ice : Nat → Int32) (a1 : Int32) (a2 : Int32) (R : Int32) (hf : f_X0_iceOf o_ice a1 a2 = some R) : RO l yX0_iceOf cX0_iceOf 3 (some .int) ({ frames := 2, cells := 0, slots := 0, locals := 42 }) G [.ref (o 0), .int a1, .int a2] [(oX0 o), (wI G (o 1) 400 o_ice)] (some (.int R)) := by
  refine RO.mk (by decide +kernel) (Nat.le_of_ble_eq_true rfl) ?_
  intro p e s m below meth c ls C hP hK hl
  have hx := C.1
  have hb := C.2.1
  have hown : s.vm.findClass RX0 = some m.cls := C.2.2.2.2.2.1
  have ht := C.2.2.2.2.2.2
  have hl : lv_has ls 3 [(0, .ref (o 0)), (1, .int a1), (2, .int a2)] := hl
  show Wc_X0_iceOf l G o o_ice a1 a2 R p e s m below meth c s.heap [] (F0 m 0 ls [])
  refine lv_iload_n hx hb dX0_iceOf_0 rfl (lv_at hl 1 rfl) ?_
  obtain ⟨q1, r1, hf⟩ := bd_s hf
  refine ro_SN (n := 1) (As := [.int a1]) (rest := []) (c_X10_isStory l G a1 q1 r1) C hK (hP.sub [] rfl) hl kcode_X10_isStory kmln_X0_15 kst_X10_isStory kini_X10 (by decide +kernel) ⟨⟨rfl, rfl⟩, Nat.le_of_ble_eq_true rfl, Nat.le_of_ble_eq_true rfl⟩ ⟨Nat.zero_le _, Nat.zero_le _⟩ rfl rfl (Nat.le_of_ble_eq_true rfl) dX0_iceOf_1 rfl ?_
  refine lv_if_eq (tgt := 28) hx hb dX0_iceOf_4 (by decide) (fun c2 => ?_) (fun c2 => ?_)
  · have hf := o_t c2 hf
    refine lv_iconst (v := 0) hx hb dX0_iceOf_28 (by decide) ?_
    have h9 := Option.some.inj hf
    subst h9
    exact ro_iret C rfl dX0_iceOf_29
  · have hf := o_f c2 hf
    refine lv_iload_n hx hb dX0_iceOf_7 rfl (lv_at hl 2 rfl) ?_
    obtain ⟨q4, r4, hf⟩ := bd_s hf
    refine ro_SN (n := 1) (As := [.int a2]) (rest := []) (c_X10_isRound l G a2 q4 r4) C hK (hP.sub [] rfl) hl kcode_X10_isRound kmln_X0_19 kst_X10_isRound kini_X10 (by decide +kernel) ⟨⟨rfl, rfl⟩, Nat.le_of_ble_eq_true rfl, Nat.le_of_ble_eq_true rfl⟩ ⟨Nat.zero_le _, Nat.zero_le _⟩ rfl rfl (Nat.le_of_ble_eq_true rfl) dX0_iceOf_8 rfl ?_
    refine lv_if_eq (tgt := 28) hx hb dX0_iceOf_11 (by decide) (fun c5 => ?_) (fun c5 => ?_)
    · have hf := o_t c5 hf
      refine lv_iconst (v := 0) hx hb dX0_iceOf_28 (by decide) ?_
      have h9 := Option.some.inj hf
      subst h9
      exact ro_iret C rfl dX0_iceOf_29
    · have hf := o_f c5 hf
      refine lv_aload_n hx hb dX0_iceOf_14 rfl (lv_at hl 0 rfl) ?_
      refine va_get (D := G.1) (ci := 0) (v := .ref (o 1)) (C := RX0) (T := TX0) (N := 1) hx hb ht twX0 hown hK.1 hP 0 rfl rfl 0 (by decide) (ht _ kfl_X0_9) (fun _ h9 => h9) rfl dX0_iceOf_15 ?_
      refine lv_iload_n hx hb dX0_iceOf_18 rfl (lv_at hl 1 rfl) ?_
      refine lv_bipush (v := 100) hx hb dX0_iceOf_19 (by decide) ?_
      refine lv_imul hx hb dX0_iceOf_21 ?_
      refine lv_iload_n hx hb dX0_iceOf_22 rfl (lv_at hl 2 rfl) ?_
      refine lv_iadd hx hb dX0_iceOf_23 ?_
      obtain ⟨g7, hf⟩ := gd_s hf
      refine va_iald hx hb hK.1 hP 1 0 rfl rfl g7 dX0_iceOf_24 ?_
      refine lv_goto (tgt := 29) hx hb dX0_iceOf_25 (by decide) ?_
      have h9 := Option.some.inj hf
      subst h9
      exact ro_iret C rfl dX0_iceOf_29
abbrev Wc_X0_someIce (l : Launch) (G : TG) (o : Nat → Nat) (o_ice : Nat → Int32) (a1 : Int32) (a2 : Int32) (a3 : Int32) (R : Int32) (p : Program) (e : Env) (s : State) (m : MethodId) (below : List Frame) (meth : Method) (c : Code) (H : Heap) (locs : List Loc) (g : JFrame) : Prop := W p l e ({ frames := 3, cells := 0, slots := 0, locals := 64 }) s m ([.ref (o 0), .int a1, .int a2, .int a3] : List Value).toArray below meth c H locs 0 0 (MQ below (roQ (some (.int R))) ([.ref (o 0), .int a1, .int a2, .int a3] : List Value).toArray s 0 0 (fun _ => False)) g
set_option maxHeartbeats 4000000 in
set_option maxRecDepth 100000 in
theorem c_X0_someIce (l : Launch) (G : TG) (o : Nat → Nat) (o_ice : Nat → Int32) (a1 : Int32) (a2 : Int32) (a3 : Int32) (R : Int32) (hf : f_X0_someIce o_ice a1 a2 a3 = some R) : RO l yX0_someIce cX0_someIce 6 (some .int) ({ frames := 3, cells := 0, slots := 0, locals := 64 }) G [.ref (o 0), .int a1, .int a2, .int a3] [(oX0 o), (wI G (o 1) 400 o_ice)] (some (.int R)) := by
  refine RO.mk (by decide +kernel) (Nat.le_of_ble_eq_true rfl) ?_
  intro p e s m below meth c ls C hP hK hl
  have hx := C.1
  have hb := C.2.1
  have hown : s.vm.findClass RX0 = some m.cls := C.2.2.2.2.2.1
  have ht := C.2.2.2.2.2.2
  have hl : lv_has ls 6 [(0, .ref (o 0)), (1, .int a1), (2, .int a2), (3, .int a3)] := hl
  show Wc_X0_someIce l G o o_ice a1 a2 a3 R p e s m below meth c s.heap [] (F0 m 0 ls [])
  refine lv_iconst (v := 0) hx hb dX0_someIce_0 (by decide) ?_
  refine lv_istore (lv' := [(4, .int (0 : Int32)), (0, .ref (o 0)), (1, .int a1), (2, .int a2), (3, .int a3)]) hx hb dX0_someIce_1 hl (by decide) rfl (fun ls hl => ?_)
  refine lv_iload_n hx hb dX0_someIce_3 rfl (lv_at hl 3 rfl) ?_
  refine lv_istore (lv' := [(5, .int a2), (4, .int (0 : Int32)), (0, .ref (o 0)), (1, .int a1), (2, .int a2), (3, .int a3)]) hx hb dX0_someIce_4 hl (by decide) rfl (fun ls hl => ?_)
  have hx30_1 : ∀ (v4 : Int32) (ls : Array Slot), f_X0_someIce_x30_1 v4 = some R → lv_has ls 6 [(4, .int v4)] → Wc_X0_someIce l G o o_ice a1 a2 a3 R p e s m below meth c s.heap [] (F0 m 30 ls []) := by
    intro v4 ls hf hl
    refine lv_iload hx hb dX0_someIce_30 (lv_at hl 0 rfl) ?_
    have h9 := Option.some.inj hf
    subst h9
    exact ro_iret C rfl dX0_someIce_32
  obtain ⟨rL1, hL1, hk1⟩ := bd_s hf
  refine lp_W (P := fun st => ∀ (ls : Array Slot), lv_has ls 6 [(0, .ref (o 0)), (1, .int a1), (3, .int a3), (4, .int st.1), (5, .int st.2)] → Wc_X0_someIce l G o o_ice a1 a2 a3 R p e s m below meth c s.heap [] (F0 m 6 ls [])) ?_ FU ((0 : Int32), a2) hL1 ls (lv_sub hl [2, 3, 5, 1, 0] rfl)
  intro ⟨v4, v5⟩ oc1 hf hI hE ls hl
  have hl : lv_has ls 6 [(0, .ref (o 0)), (1, .int a1), (3, .int a3), (4, .int v4), (5, .int v5)] := hl
  have hf : f_X0_someIce_b6 o_ice a1 a3 v4 v5 = some oc1 := hf
  refine lv_iload hx hb dX0_someIce_6 (lv_at hl 4 rfl) ?_
  refine lv_iload_n hx hb dX0_someIce_8 rfl (lv_at hl 2 rfl) ?_
  refine lv_icmp_gt (tgt := 30) hx hb dX0_someIce_9 (by decide) (fun c3 => ?_) (fun c3 => ?_)
  · have hf := o_t c3 hf
    cases hf
    have hf : f_X0_someIce_x30_1 v4 = some R := by have h9 := hk1; rw [← hE _ rfl] at h9; exact h9
    exact hx30_1 v4 ls hf (lv_sub hl [3] rfl)
  · have hf := o_f c3 hf
    refine lv_iload hx hb dX0_someIce_12 (lv_at hl 3 rfl) ?_
    refine lv_aload_n hx hb dX0_someIce_14 rfl (lv_at hl 0 rfl) ?_
    refine lv_iload_n hx hb dX0_someIce_15 rfl (lv_at hl 1 rfl) ?_
    refine lv_iload hx hb dX0_someIce_16 (lv_at hl 4 rfl) ?_
    obtain ⟨q4, r4, hf⟩ := bd_s hf
    refine ro_V (n := 2) (As := [.int a1, .int v5]) (rest := [.int v4]) (c_X0_iceOf l G o o_ice a1 v5 q4 r4) C hK (hP.sub [0, 1] rfl) hl kcode_X0_iceOf kml_X0_22 kim_X0_iceOf ksel_X0_iceOf kini_X0 (by decide +kernel) ⟨⟨rfl, rfl⟩, Nat.le_of_ble_eq_true rfl, Nat.le_of_ble_eq_true rfl⟩ ⟨Nat.zero_le _, Nat.zero_le _⟩ rfl rfl rfl rfl rfl (Nat.le_of_ble_eq_true rfl) dX0_someIce_18 rfl ?_
    refine lv_ior hx hb dX0_someIce_21 ?_
    refine lv_istore (lv' := [(4, .int (v4 ||| q4)), (0, .ref (o 0)), (1, .int a1), (3, .int a3), (5, .int v5)]) hx hb dX0_someIce_22 hl (by decide) rfl (fun ls hl => ?_)
    refine lv_iinc (v := (v5 + (1 : Int32))) (lv' := [(5, .int (v5 + (1 : Int32))), (4, .int (v4 ||| q4)), (0, .ref (o 0)), (1, .int a1), (3, .int a3)]) hx hb dX0_someIce_24 hl (k := 4) rfl (by rfl) (by decide) rfl (fun ls hl => ?_)
    refine lv_goto (tgt := 6) hx hb dX0_someIce_27 (by decide) ?_
    cases hf
    exact hI _ rfl ls (lv_sub hl [2, 3, 4, 1, 0] rfl)
abbrev Wc_X0_lastingIce (l : Launch) (G : TG) (o : Nat → Nat) (o_ice : Nat → Int32) (a1 : Int32) (a2 : Int32) (a3 : Int32) (R : Int32) (p : Program) (e : Env) (s : State) (m : MethodId) (below : List Frame) (meth : Method) (c : Code) (H : Heap) (locs : List Loc) (g : JFrame) : Prop := W p l e ({ frames := 3, cells := 0, slots := 0, locals := 64 }) s m ([.ref (o 0), .int a1, .int a2, .int a3] : List Value).toArray below meth c H locs 0 0 (MQ below (roQ (some (.int R))) ([.ref (o 0), .int a1, .int a2, .int a3] : List Value).toArray s 0 0 (fun _ => False)) g
set_option maxHeartbeats 4000000 in
set_option maxRecDepth 100000 in
theorem c_X0_lastingIce (l : Launch) (G : TG) (o : Nat → Nat) (o_ice : Nat → Int32) (a1 : Int32) (a2 : Int32) (a3 : Int32) (R : Int32) (hf : f_X0_lastingIce o_ice a1 a2 a3 = some R) : RO l yX0_lastingIce cX0_lastingIce 6 (some .int) ({ frames := 3, cells := 0, slots := 0, locals := 64 }) G [.ref (o 0), .int a1, .int a2, .int a3] [(oX0 o), (wI G (o 1) 400 o_ice)] (some (.int R)) := by
  refine RO.mk (by decide +kernel) (Nat.le_of_ble_eq_true rfl) ?_
  intro p e s m below meth c ls C hP hK hl
  have hx := C.1
  have hb := C.2.1
  have hown : s.vm.findClass RX0 = some m.cls := C.2.2.2.2.2.1
  have ht := C.2.2.2.2.2.2
  have hl : lv_has ls 6 [(0, .ref (o 0)), (1, .int a1), (2, .int a2), (3, .int a3)] := hl
  show Wc_X0_lastingIce l G o o_ice a1 a2 a3 R p e s m below meth c s.heap [] (F0 m 0 ls [])
  refine lv_bipush (v := 63) hx hb dX0_lastingIce_0 (by decide) ?_
  refine lv_istore (lv' := [(4, .int (63 : Int32)), (0, .ref (o 0)), (1, .int a1), (2, .int a2), (3, .int a3)]) hx hb dX0_lastingIce_2 hl (by decide) rfl (fun ls hl => ?_)
  refine lv_iload_n hx hb dX0_lastingIce_4 rfl (lv_at hl 3 rfl) ?_
  refine lv_istore (lv' := [(5, .int a2), (4, .int (63 : Int32)), (0, .ref (o 0)), (1, .int a1), (2, .int a2), (3, .int a3)]) hx hb dX0_lastingIce_5 hl (by decide) rfl (fun ls hl => ?_)
  have hx31_1 : ∀ (v4 : Int32) (ls : Array Slot), f_X0_lastingIce_x31_1 v4 = some R → lv_has ls 6 [(4, .int v4)] → Wc_X0_lastingIce l G o o_ice a1 a2 a3 R p e s m below meth c s.heap [] (F0 m 31 ls []) := by
    intro v4 ls hf hl
    refine lv_iload hx hb dX0_lastingIce_31 (lv_at hl 0 rfl) ?_
    have h9 := Option.some.inj hf
    subst h9
    exact ro_iret C rfl dX0_lastingIce_33
  obtain ⟨rL1, hL1, hk1⟩ := bd_s hf
  refine lp_W (P := fun st => ∀ (ls : Array Slot), lv_has ls 6 [(0, .ref (o 0)), (1, .int a1), (3, .int a3), (4, .int st.1), (5, .int st.2)] → Wc_X0_lastingIce l G o o_ice a1 a2 a3 R p e s m below meth c s.heap [] (F0 m 7 ls [])) ?_ FU ((63 : Int32), a2) hL1 ls (lv_sub hl [2, 3, 5, 1, 0] rfl)
  intro ⟨v4, v5⟩ oc1 hf hI hE ls hl
  have hl : lv_has ls 6 [(0, .ref (o 0)), (1, .int a1), (3, .int a3), (4, .int v4), (5, .int v5)] := hl
  have hf : f_X0_lastingIce_b7 o_ice a1 a3 v4 v5 = some oc1 := hf
  refine lv_iload hx hb dX0_lastingIce_7 (lv_at hl 4 rfl) ?_
  refine lv_iload_n hx hb dX0_lastingIce_9 rfl (lv_at hl 2 rfl) ?_
  refine lv_icmp_gt (tgt := 31) hx hb dX0_lastingIce_10 (by decide) (fun c3 => ?_) (fun c3 => ?_)
  · have hf := o_t c3 hf
    cases hf
    have hf : f_X0_lastingIce_x31_1 v4 = some R := by have h9 := hk1; rw [← hE _ rfl] at h9; exact h9
    exact hx31_1 v4 ls hf (lv_sub hl [3] rfl)
  · have hf := o_f c3 hf
    refine lv_iload hx hb dX0_lastingIce_13 (lv_at hl 3 rfl) ?_
    refine lv_aload_n hx hb dX0_lastingIce_15 rfl (lv_at hl 0 rfl) ?_
    refine lv_iload_n hx hb dX0_lastingIce_16 rfl (lv_at hl 1 rfl) ?_
    refine lv_iload hx hb dX0_lastingIce_17 (lv_at hl 4 rfl) ?_
    obtain ⟨q4, r4, hf⟩ := bd_s hf
    refine ro_V (n := 2) (As := [.int a1, .int v5]) (rest := [.int v4]) (c_X0_iceOf l G o o_ice a1 v5 q4 r4) C hK (hP.sub [0, 1] rfl) hl kcode_X0_iceOf kml_X0_22 kim_X0_iceOf ksel_X0_iceOf kini_X0 (by decide +kernel) ⟨⟨rfl, rfl⟩, Nat.le_of_ble_eq_true rfl, Nat.le_of_ble_eq_true rfl⟩ ⟨Nat.zero_le _, Nat.zero_le _⟩ rfl rfl rfl rfl rfl (Nat.le_of_ble_eq_true rfl) dX0_lastingIce_19 rfl ?_
    refine lv_iand hx hb dX0_lastingIce_22 ?_
    refine lv_istore (lv' := [(4, .int (v4 &&& q4)), (0, .ref (o 0)), (1, .int a1), (3, .int a3), (5, .int v5)]) hx hb dX0_lastingIce_23 hl (by decide) rfl (fun ls hl => ?_)
    refine lv_iinc (v := (v5 + (1 : Int32))) (lv' := [(5, .int (v5 + (1 : Int32))), (4, .int (v4 &&& q4)), (0, .ref (o 0)), (1, .int a1), (3, .int a3)]) hx hb dX0_lastingIce_25 hl (k := 4) rfl (by rfl) (by decide) rfl (fun ls hl => ?_)
    refine lv_goto (tgt := 7) hx hb dX0_lastingIce_28 (by decide) ?_
    cases hf
    exact hI _ rfl ls (lv_sub hl [2, 3, 4, 1, 0] rfl)
abbrev Wc_X10_hasIce (l : Launch) (G : TG) (a0 : Int32) (a1 : Int32) (R : Int32) (p : Program) (e : Env) (s : State) (m : MethodId) (below : List Frame) (meth : Method) (c : Code) (H : Heap) (locs : List Loc) (g : JFrame) : Prop := W p l e ({ frames := 0, cells := 0, slots := 0, locals := 0 }) s m ([.int a0, .int a1] : List Value).toArray below meth c H locs 0 0 (MQ below (roQ (some (.int R))) ([.int a0, .int a1] : List Value).toArray s 0 0 (fun _ => False)) g
set_option maxHeartbeats 4000000 in
set_option maxRecDepth 100000 in
theorem c_X10_hasIce (l : Launch) (G : TG) (a0 : Int32) (a1 : Int32) (R : Int32) (hf : f_X10_hasIce a0 a1 = some R) : RO l yX10_hasIce cX10_hasIce 2 (some .boolean) ({ frames := 0, cells := 0, slots := 0, locals := 0 }) G [.int a0, .int a1] [] (some (.int R)) := by
  refine RO.mk (by decide +kernel) (Nat.le_of_ble_eq_true rfl) ?_
  intro p e s m below meth c ls C hP hK hl
  have hx := C.1
  have hb := C.2.1
  have hown : s.vm.findClass RX10 = some m.cls := C.2.2.2.2.2.1
  have ht := C.2.2.2.2.2.2
  have hl : lv_has ls 2 [(0, .int a0), (1, .int a1)] := hl
  show Wc_X10_hasIce l G a0 a1 R p e s m below meth c s.heap [] (F0 m 0 ls [])
  refine lv_iload_n hx hb dX10_hasIce_0 rfl (lv_at hl 0 rfl) ?_
  refine lv_iload_n hx hb dX10_hasIce_1 rfl (lv_at hl 1 rfl) ?_
  refine lv_ishr hx hb dX10_hasIce_2 ?_
  refine lv_iconst (v := 1) hx hb dX10_hasIce_3 (by decide) ?_
  refine lv_iand hx hb dX10_hasIce_4 ?_
  refine lv_iconst (v := 1) hx hb dX10_hasIce_5 (by decide) ?_
  refine lv_icmp_ne (tgt := 13) hx hb dX10_hasIce_6 (by decide) (fun c1 => ?_) (fun c1 => ?_)
  · have hf := o_f c1 hf
    refine lv_iconst (v := 0) hx hb dX10_hasIce_13 (by decide) ?_
    have h9 := Option.some.inj hf
    subst h9
    exact ro_zret C (Or.inl rfl) rfl dX10_hasIce_14
  · have hf := o_t c1 hf
    refine lv_iconst (v := 1) hx hb dX10_hasIce_9 (by decide) ?_
    refine lv_goto (tgt := 14) hx hb dX10_hasIce_10 (by decide) ?_
    have h9 := Option.some.inj hf
    subst h9
    exact ro_zret C (Or.inr rfl) rfl dX10_hasIce_14
abbrev Wc_X3_takenBy (l : Launch) (G : TG) (o : Nat → Nat) (o_law : Nat → Int32) (a1 : Int32) (a2 : Int32) (R : Int32) (p : Program) (e : Env) (s : State) (m : MethodId) (below : List Frame) (meth : Method) (c : Code) (H : Heap) (locs : List Loc) (g : JFrame) : Prop := W p l e ({ frames := 1, cells := 0, slots := 0, locals := 21 }) s m ([.ref (o 0), .int a1, .int a2] : List Value).toArray below meth c H locs 0 0 (MQ below (roQ (some (.int R))) ([.ref (o 0), .int a1, .int a2] : List Value).toArray s 0 0 (fun _ => False)) g
set_option maxHeartbeats 4000000 in
set_option maxRecDepth 100000 in
theorem c_X3_takenBy (l : Launch) (G : TG) (o : Nat → Nat) (o_law : Nat → Int32) (a1 : Int32) (a2 : Int32) (R : Int32) (hf : f_X3_takenBy o_law a1 a2 = some R) : RO l yX3_takenBy cX3_takenBy 3 (some .int) ({ frames := 1, cells := 0, slots := 0, locals := 21 }) G [.ref (o 0), .int a1, .int a2] [(oX3 o), (wI G (o 1) 12 o_law)] (some (.int R)) := by
  refine RO.mk (by decide +kernel) (Nat.le_of_ble_eq_true rfl) ?_
  intro p e s m below meth c ls C hP hK hl
  have hx := C.1
  have hb := C.2.1
  have hown : s.vm.findClass RX3 = some m.cls := C.2.2.2.2.2.1
  have ht := C.2.2.2.2.2.2
  have hl : lv_has ls 3 [(0, .ref (o 0)), (1, .int a1), (2, .int a2)] := hl
  show Wc_X3_takenBy l G o o_law a1 a2 R p e s m below meth c s.heap [] (F0 m 0 ls [])
  refine lv_iload_n hx hb dX3_takenBy_0 rfl (lv_at hl 1 rfl) ?_
  refine lv_if_lt (tgt := 10) hx hb dX3_takenBy_1 (by decide) (fun c1 => ?_) (fun c1 => ?_)
  · have hf := o_t c1 hf
    refine lv_iconst (v := 0) hx hb dX3_takenBy_10 (by decide) ?_
    have h9 := Option.some.inj hf
    subst h9
    exact ro_iret C rfl dX3_takenBy_11
  · have hf := o_f c1 hf
    refine lv_iload_n hx hb dX3_takenBy_4 rfl (lv_at hl 1 rfl) ?_
    refine lv_bipush (v := 6) hx hb dX3_takenBy_5 (by decide) ?_
    refine lv_icmp_lt (tgt := 12) hx hb dX3_takenBy_7 (by decide) (fun c3 => ?_) (fun c3 => ?_)
    · have hf := o_t c3 hf
      refine lv_aload_n hx hb dX3_takenBy_12 rfl (lv_at hl 0 rfl) ?_
      refine va_get (D := G.1) (ci := 3) (v := .ref (o 1)) (C := RX3) (T := TX3) (N := 1) hx hb ht twX3 hown hK.1 hP 0 rfl rfl 0 (by decide) (ht _ kfl_X3_11) (fun _ h9 => h9) rfl dX3_takenBy_13 ?_
      refine lv_iload_n hx hb dX3_takenBy_16 rfl (lv_at hl 1 rfl) ?_
      obtain ⟨g4, hf⟩ := gd_s hf
      refine va_iald hx hb hK.1 hP 1 0 rfl rfl g4 dX3_takenBy_17 ?_
      refine lv_iload_n hx hb dX3_takenBy_18 rfl (lv_at hl 2 rfl) ?_
      refine lv_iload_n hx hb dX3_takenBy_19 rfl (lv_at hl 1 rfl) ?_
      obtain ⟨q5, r5, hf⟩ := bd_s hf
      refine ro_SN (n := 2) (As := [.int a2, .int a1]) (rest := [.int (o_law a1.toNatClampNeg)]) (c_X10_hasIce l G a2 a1 q5 r5) C hK (hP.sub [] rfl) hl kcode_X10_hasIce kmln_X3_15 kst_X10_hasIce kini_X10 (by decide +kernel) ⟨⟨rfl, rfl⟩, Nat.le_of_ble_eq_true rfl, Nat.le_of_ble_eq_true rfl⟩ ⟨Nat.zero_le _, Nat.zero_le _⟩ rfl rfl (Nat.le_of_ble_eq_true rfl) dX3_takenBy_20 rfl ?_
      refine lv_if_eq (tgt := 39) hx hb dX3_takenBy_23 (by decide) (fun c6 => ?_) (fun c6 => ?_)
      · have hf := o_t c6 hf
        refine lv_bipush (v := 10) hx hb dX3_takenBy_39 (by decide) ?_
        refine lv_imul hx hb dX3_takenBy_41 ?_
        have h9 := Option.some.inj hf
        subst h9
        exact ro_iret C rfl dX3_takenBy_42
      · have hf := o_f c6 hf
        refine lv_bipush (v := 10) hx hb dX3_takenBy_26 (by decide) ?_
        refine lv_aload_n hx hb dX3_takenBy_28 rfl (lv_at hl 0 rfl) ?_
        refine va_get (D := G.1) (ci := 3) (v := .ref (o 1)) (C := RX3) (T := TX3) (N := 1) hx hb ht twX3 hown hK.1 hP 0 rfl rfl 0 (by decide) (ht _ kfl_X3_11) (fun _ h9 => h9) rfl dX3_takenBy_29 ?_
        refine lv_bipush (v := 6) hx hb dX3_takenBy_32 (by decide) ?_
        obtain ⟨g8, hf⟩ := gd_s hf
        refine va_iald hx hb hK.1 hP 1 0 rfl rfl g8 dX3_takenBy_34 ?_
        refine lv_isub hx hb dX3_takenBy_35 ?_
        refine lv_goto (tgt := 41) hx hb dX3_takenBy_36 (by decide) ?_
        refine lv_imul hx hb dX3_takenBy_41 ?_
        have h9 := Option.some.inj hf
        subst h9
        exact ro_iret C rfl dX3_takenBy_42
    · have hf := o_f c3 hf
      refine lv_iconst (v := 0) hx hb dX3_takenBy_10 (by decide) ?_
      have h9 := Option.some.inj hf
      subst h9
      exact ro_iret C rfl dX3_takenBy_11
abbrev Wc_X3_fortyWarmth (l : Launch) (G : TG) (o : Nat → Nat) (o_law : Nat → Int32) (a1 : Int32) (a2 : Int32) (a3 : Int32) (R : Int32) (p : Program) (e : Env) (s : State) (m : MethodId) (below : List Frame) (meth : Method) (c : Code) (H : Heap) (locs : List Loc) (g : JFrame) : Prop := W p l e ({ frames := 2, cells := 0, slots := 0, locals := 43 }) s m ([.ref (o 0), .int a1, .int a2, .int a3] : List Value).toArray below meth c H locs 0 0 (MQ below (roQ (some (.int R))) ([.ref (o 0), .int a1, .int a2, .int a3] : List Value).toArray s 0 0 (fun _ => False)) g
set_option maxHeartbeats 4000000 in
set_option maxRecDepth 100000 in
theorem c_X3_fortyWarmth (l : Launch) (G : TG) (o : Nat → Nat) (o_law : Nat → Int32) (a1 : Int32) (a2 : Int32) (a3 : Int32) (R : Int32) (hf : f_X3_fortyWarmth o_law a1 a2 a3 = some R) : RO l yX3_fortyWarmth cX3_fortyWarmth 7 (some .int) ({ frames := 2, cells := 0, slots := 0, locals := 43 }) G [.ref (o 0), .int a1, .int a2, .int a3] [(oX3 o), (wI G (o 1) 12 o_law)] (some (.int R)) := by
  refine RO.mk (by decide +kernel) (Nat.le_of_ble_eq_true rfl) ?_
  intro p e s m below meth c ls C hP hK hl
  have hx := C.1
  have hb := C.2.1
  have hown : s.vm.findClass RX3 = some m.cls := C.2.2.2.2.2.1
  have ht := C.2.2.2.2.2.2
  have hl : lv_has ls 7 [(0, .ref (o 0)), (1, .int a1), (2, .int a2), (3, .int a3)] := hl
  show Wc_X3_fortyWarmth l G o o_law a1 a2 a3 R p e s m below meth c s.heap [] (F0 m 0 ls [])
  refine lv_iload_n hx hb dX3_fortyWarmth_0 rfl (lv_at hl 1 rfl) ?_
  refine lv_iconst (v := 1) hx hb dX3_fortyWarmth_1 (by decide) ?_
  refine lv_isub hx hb dX3_fortyWarmth_2 ?_
  refine lv_iconst (v := 0) hx hb dX3_fortyWarmth_3 (by decide) ?_
  refine va_mmax hx hb (C.2.2.1.trans hl.1.symm) hown (ht _ kml_X3_19) (ht _ kst_J9_max_7cf53) (ht _ kini_J9) (ht _ kcode_J9_max_7cf53) (Nat.le_of_ble_eq_true rfl) (Nat.le_of_ble_eq_true rfl) (Nat.zero_le _) (Nat.zero_le _) dX3_fortyWarmth_4 ?_
  obtain ⟨u1, e1, hf⟩ := bd_s hf
  refine lv_re (Option.some.inj e1).symm ?_
  refine lv_istore (lv' := [(4, .int u1), (0, .ref (o 0)), (1, .int a1), (2, .int a2), (3, .int a3)]) hx hb dX3_fortyWarmth_7 hl (by decide) rfl (fun ls hl => ?_)
  refine lv_iload_n hx hb dX3_fortyWarmth_9 rfl (lv_at hl 2 rfl) ?_
  refine lv_iconst (v := 1) hx hb dX3_fortyWarmth_10 (by decide) ?_
  refine lv_iadd hx hb dX3_fortyWarmth_11 ?_
  refine lv_iconst (v := 5) hx hb dX3_fortyWarmth_12 (by decide) ?_
  refine va_mmin hx hb (C.2.2.1.trans hl.1.symm) hown (ht _ kml_X3_25) (ht _ kst_J9_min_7cf53) (ht _ kini_J9) (ht _ kcode_J9_min_7cf53) (Nat.le_of_ble_eq_true rfl) (Nat.le_of_ble_eq_true rfl) (Nat.zero_le _) (Nat.zero_le _) dX3_fortyWarmth_13 ?_
  obtain ⟨u2, e2, hf⟩ := bd_s hf
  refine lv_re (Option.some.inj e2).symm ?_
  refine lv_istore (lv' := [(5, .int u2), (4, .int u1), (0, .ref (o 0)), (1, .int a1), (2, .int a2), (3, .int a3)]) hx hb dX3_fortyWarmth_16 hl (by decide) rfl (fun ls hl => ?_)
  refine lv_iconst (v := 2) hx hb dX3_fortyWarmth_18 (by decide) ?_
  refine lv_aload_n hx hb dX3_fortyWarmth_19 rfl (lv_at hl 2 rfl) ?_
  refine lv_iload_n hx hb dX3_fortyWarmth_20 rfl (lv_at hl 3 rfl) ?_
  refine lv_iload_n hx hb dX3_fortyWarmth_21 rfl (lv_at hl 4 rfl) ?_
  obtain ⟨q3, r3, hf⟩ := bd_s hf
  refine ro_V (n := 2) (As := [.int a1, .int a2]) (rest := [.int (2 : Int32)]) (c_X3_takenBy l G o o_law a1 a2 q3 r3) C hK (hP.sub [0, 1] rfl) hl kcode_X3_takenBy kml_X3_28 kim_X3_takenBy ksel_X3_takenBy kini_X3 (by decide +kernel) ⟨⟨rfl, rfl⟩, Nat.le_of_ble_eq_true rfl, Nat.le_of_ble_eq_true rfl⟩ ⟨Nat.zero_le _, Nat.zero_le _⟩ rfl rfl rfl rfl rfl (Nat.le_of_ble_eq_true rfl) dX3_fortyWarmth_22 rfl ?_
  refine lv_imul hx hb dX3_fortyWarmth_25 ?_
  refine lv_aload_n hx hb dX3_fortyWarmth_26 rfl (lv_at hl 2 rfl) ?_
  refine lv_iload hx hb dX3_fortyWarmth_27 (lv_at hl 1 rfl) ?_
  refine lv_iload_n hx hb dX3_fortyWarmth_29 rfl (lv_at hl 4 rfl) ?_
  obtain ⟨q4, r4, hf⟩ := bd_s hf
  refine ro_V (n := 2) (As := [.int u1, .int a2]) (rest := [.int ((2 : Int32) * q3)]) (c_X3_takenBy l G o o_law u1 a2 q4 r4) C hK (hP.sub [0, 1] rfl) hl kcode_X3_takenBy kml_X3_28 kim_X3_takenBy ksel_X3_takenBy kini_X3 (by decide +kernel) ⟨⟨rfl, rfl⟩, Nat.le_of_ble_eq_true rfl, Nat.le_of_ble_eq_true rfl⟩ ⟨Nat.zero_le _, Nat.zero_le _⟩ rfl rfl rfl rfl rfl (Nat.le_of_ble_eq_true rfl) dX3_fortyWarmth_30 rfl ?_
  refine lv_iadd hx hb dX3_fortyWarmth_33 ?_
  refine lv_aload_n hx hb dX3_fortyWarmth_34 rfl (lv_at hl 2 rfl) ?_
  refine lv_iload hx hb dX3_fortyWarmth_35 (lv_at hl 0 rfl) ?_
  refine lv_iload_n hx hb dX3_fortyWarmth_37 rfl (lv_at hl 4 rfl) ?_
  obtain ⟨q5, r5, hf⟩ := bd_s hf
  refine ro_V (n := 2) (As := [.int u2, .int a2]) (rest := [.int (((2 : Int32) * q3) + q4)]) (c_X3_takenBy l G o o_law u2 a2 q5 r5) C hK (hP.sub [0, 1] rfl) hl kcode_X3_takenBy kml_X3_28 kim_X3_takenBy ksel_X3_takenBy kini_X3 (by decide +kernel) ⟨⟨rfl, rfl⟩, Nat.le_of_ble_eq_true rfl, Nat.le_of_ble_eq_true rfl⟩ ⟨Nat.zero_le _, Nat.zero_le _⟩ rfl rfl rfl rfl rfl (Nat.le_of_ble_eq_true rfl) dX3_fortyWarmth_38 rfl ?_
  refine lv_iadd hx hb dX3_fortyWarmth_41 ?_
  refine lv_istore (lv' := [(6, .int ((((2 : Int32) * q3) + q4) + q5)), (5, .int u2), (4, .int u1), (0, .ref (o 0)), (1, .int a1), (2, .int a2), (3, .int a3)]) hx hb dX3_fortyWarmth_42 hl (by decide) rfl (fun ls hl => ?_)
  refine lv_iload hx hb dX3_fortyWarmth_44 (lv_at hl 0 rfl) ?_
  refine lv_bipush (v := 40) hx hb dX3_fortyWarmth_46 (by decide) ?_
  refine lv_aload_n hx hb dX3_fortyWarmth_48 rfl (lv_at hl 3 rfl) ?_
  refine va_get (D := G.1) (ci := 3) (v := .ref (o 1)) (C := RX3) (T := TX3) (N := 1) hx hb ht twX3 hown hK.1 hP 0 rfl rfl 0 (by decide) (ht _ kfl_X3_11) (fun _ h9 => h9) rfl dX3_fortyWarmth_49 ?_
  refine lv_bipush (v := 7) hx hb dX3_fortyWarmth_52 (by decide) ?_
  obtain ⟨g6, hf⟩ := gd_s hf
  refine va_iald hx hb hK.1 hP 1 0 rfl rfl g6 dX3_fortyWarmth_54 ?_
  refine lv_imul hx hb dX3_fortyWarmth_55 ?_
  refine lv_iload_n hx hb dX3_fortyWarmth_56 rfl (lv_at hl 6 rfl) ?_
  refine lv_imul hx hb dX3_fortyWarmth_57 ?_
  refine lv_iadd hx hb dX3_fortyWarmth_58 ?_
  have h9 := Option.some.inj hf
  subst h9
  exact ro_iret C rfl dX3_fortyWarmth_59
abbrev Wc_X3_iceAfter (l : Launch) (G : TG) (o : Nat → Nat) (o_law : Nat → Int32) (a1 : Int32) (a2 : Int32) (R : Int32) (p : Program) (e : Env) (s : State) (m : MethodId) (below : List Frame) (meth : Method) (c : Code) (H : Heap) (locs : List Loc) (g : JFrame) : Prop := W p l e ({ frames := 3, cells := 0, slots := 0, locals := 69 }) s m ([.ref (o 0), .int a1, .int a2] : List Value).toArray below meth c H locs 0 0 (MQ below (roQ (some (.int R))) ([.ref (o 0), .int a1, .int a2] : List Value).toArray s 0 0 (fun _ => False)) g
set_option maxHeartbeats 4000000 in
set_option maxRecDepth 100000 in
theorem c_X3_iceAfter (l : Launch) (G : TG) (o : Nat → Nat) (o_law : Nat → Int32) (a1 : Int32) (a2 : Int32) (R : Int32) (hf : f_X3_iceAfter o_law a1 a2 = some R) : RO l yX3_iceAfter cX3_iceAfter 8 (some .int) ({ frames := 3, cells := 0, slots := 0, locals := 69 }) G [.ref (o 0), .int a1, .int a2] [(oX3 o), (wI G (o 1) 12 o_law)] (some (.int R)) := by
  refine RO.mk (by decide +kernel) (Nat.le_of_ble_eq_true rfl) ?_
  intro p e s m below meth c ls C hP hK hl
  have hx := C.1
  have hb := C.2.1
  have hown : s.vm.findClass RX3 = some m.cls := C.2.2.2.2.2.1
  have ht := C.2.2.2.2.2.2
  have hl : lv_has ls 8 [(0, .ref (o 0)), (1, .int a1), (2, .int a2)] := hl
  show Wc_X3_iceAfter l G o o_law a1 a2 R p e s m below meth c s.heap [] (F0 m 0 ls [])
  refine lv_bipush (v := 40) hx hb dX3_iceAfter_0 (by decide) ?_
  refine lv_aload_n hx hb dX3_iceAfter_2 rfl (lv_at hl 0 rfl) ?_
  refine va_get (D := G.1) (ci := 3) (v := .ref (o 1)) (C := RX3) (T := TX3) (N := 1) hx hb ht twX3 hown hK.1 hP 0 rfl rfl 0 (by decide) (ht _ kfl_X3_11) (fun _ h9 => h9) rfl dX3_iceAfter_3 ?_
  refine lv_bipush (v := 8) hx hb dX3_iceAfter_6 (by decide) ?_
  obtain ⟨g1, hf⟩ := gd_s hf
  refine va_iald hx hb hK.1 hP 1 0 rfl rfl g1 dX3_iceAfter_8 ?_
  refine lv_imul hx hb dX3_iceAfter_9 ?_
  obtain ⟨u2, e2, hf⟩ := bd_s hf
  refine lv_re (Option.some.inj e2).symm ?_
  refine lv_istore_n (lv' := [(3, .int u2), (0, .ref (o 0)), (1, .int a1), (2, .int a2)]) hx hb dX3_iceAfter_10 rfl hl (by decide) rfl (fun ls hl => ?_)
  refine lv_iload_n hx hb dX3_iceAfter_11 rfl (lv_at hl 0 rfl) ?_
  refine lv_bipush (v := 40) hx hb dX3_iceAfter_12 (by decide) ?_
  refine lv_aload_n hx hb dX3_iceAfter_14 rfl (lv_at hl 1 rfl) ?_
  refine va_get (D := G.1) (ci := 3) (v := .ref (o 1)) (C := RX3) (T := TX3) (N := 1) hx hb ht twX3 hown hK.1 hP 0 rfl rfl 0 (by decide) (ht _ kfl_X3_11) (fun _ h9 => h9) rfl dX3_iceAfter_15 ?_
  refine lv_bipush (v := 9) hx hb dX3_iceAfter_18 (by decide) ?_
  obtain ⟨g3, hf⟩ := gd_s hf
  refine va_iald hx hb hK.1 hP 1 0 rfl rfl g3 dX3_iceAfter_20 ?_
  refine lv_imul hx hb dX3_iceAfter_21 ?_
  refine lv_iadd hx hb dX3_iceAfter_22 ?_
  obtain ⟨u4, e4, hf⟩ := bd_s hf
  refine lv_re (Option.some.inj e4).symm ?_
  refine lv_istore (lv' := [(4, .int u4), (3, .int u2), (0, .ref (o 0)), (1, .int a1), (2, .int a2)]) hx hb dX3_iceAfter_23 hl (by decide) rfl (fun ls hl => ?_)
  refine lv_iconst (v := 0) hx hb dX3_iceAfter_25 (by decide) ?_
  refine lv_istore (lv' := [(5, .int (0 : Int32)), (4, .int u4), (3, .int u2), (0, .ref (o 0)), (1, .int a1), (2, .int a2)]) hx hb dX3_iceAfter_26 hl (by decide) rfl (fun ls hl => ?_)
  refine lv_iconst (v := 0) hx hb dX3_iceAfter_28 (by decide) ?_
  refine lv_istore (lv' := [(6, .int (0 : Int32)), (5, .int (0 : Int32)), (4, .int u4), (3, .int u2), (0, .ref (o 0)), (1, .int a1), (2, .int a2)]) hx hb dX3_iceAfter_29 hl (by decide) rfl (fun ls hl => ?_)
  have hx85_5 : ∀ (v5 : Int32) (ls : Array Slot), f_X3_iceAfter_x85_5 v5 = some R → lv_has ls 8 [(5, .int v5)] → Wc_X3_iceAfter l G o o_law a1 a2 R p e s m below meth c s.heap [] (F0 m 85 ls []) := by
    intro v5 ls hf hl
    refine lv_iload hx hb dX3_iceAfter_85 (lv_at hl 0 rfl) ?_
    have h9 := Option.some.inj hf
    subst h9
    exact ro_iret C rfl dX3_iceAfter_87
  obtain ⟨rL5, hL5, hk5⟩ := bd_s hf
  refine lp_W (P := fun st => ∀ (ls : Array Slot), lv_has ls 8 [(0, .ref (o 0)), (1, .int a1), (2, .int a2), (3, .int u2), (4, .int u4), (5, .int st.1), (6, .int st.2)] → Wc_X3_iceAfter l G o o_law a1 a2 R p e s m below meth c s.heap [] (F0 m 31 ls [])) ?_ FU ((0 : Int32), (0 : Int32)) hL5 ls (lv_sub hl [4, 5, 6, 3, 2, 1, 0] rfl)
  intro ⟨v5, v6⟩ oc5 hf hI hE ls hl
  have hl : lv_has ls 8 [(0, .ref (o 0)), (1, .int a1), (2, .int a2), (3, .int u2), (4, .int u4), (5, .int v5), (6, .int v6)] := hl
  have hf : f_X3_iceAfter_b31 o_law a1 a2 u2 u4 v5 v6 = some oc5 := hf
  have hj70 : ∀ (v5 : Int32) (v6 : Int32) (ls : Array Slot), f_X3_iceAfter_j70 v5 v6 = some oc5 → lv_has ls 8 [(0, .ref (o 0)), (1, .int a1), (2, .int a2), (3, .int u2), (4, .int u4), (5, .int v5), (6, .int v6)] → Wc_X3_iceAfter l G o o_law a1 a2 R p e s m below meth c s.heap [] (F0 m 70 ls []) := by
    intro v5 v6 ls hf hl
    refine lv_iload hx hb dX3_iceAfter_70 (lv_at hl 5 rfl) ?_
    refine lv_iconst (v := 1) hx hb dX3_iceAfter_72 (by decide) ?_
    refine lv_iload hx hb dX3_iceAfter_73 (lv_at hl 6 rfl) ?_
    refine lv_ishl hx hb dX3_iceAfter_75 ?_
    refine lv_ior hx hb dX3_iceAfter_76 ?_
    obtain ⟨u7, e7, hf⟩ := bd_s hf
    refine lv_re (Option.some.inj e7).symm ?_
    refine lv_istore (lv' := [(5, .int u7), (0, .ref (o 0)), (1, .int a1), (2, .int a2), (3, .int u2), (4, .int u4), (6, .int v6)]) hx hb dX3_iceAfter_77 hl (by decide) rfl (fun ls hl => ?_)
    refine lv_iinc (v := (v6 + (1 : Int32))) (lv' := [(6, .int (v6 + (1 : Int32))), (5, .int u7), (0, .ref (o 0)), (1, .int a1), (2, .int a2), (3, .int u2), (4, .int u4)]) hx hb dX3_iceAfter_79 hl (k := 6) rfl (by rfl) (by decide) rfl (fun ls hl => ?_)
    refine lv_goto (tgt := 31) hx hb dX3_iceAfter_82 (by decide) ?_
    cases hf
    exact hI _ rfl ls (lv_sub hl [2, 3, 4, 5, 6, 1, 0] rfl)
  refine lv_iload hx hb dX3_iceAfter_31 (lv_at hl 6 rfl) ?_
  refine lv_bipush (v := 6) hx hb dX3_iceAfter_33 (by decide) ?_
  refine lv_icmp_ge (tgt := 85) hx hb dX3_iceAfter_35 (by decide) (fun c8 => ?_) (fun c8 => ?_)
  · have hf := o_t c8 hf
    cases hf
    have hf : f_X3_iceAfter_x85_5 v5 = some R := by have h9 := hk5; rw [← hE _ rfl] at h9; exact h9
    exact hx85_5 v5 ls hf (lv_sub hl [5] rfl)
  · have hf := o_f c8 hf
    refine lv_aload_n hx hb dX3_iceAfter_38 rfl (lv_at hl 0 rfl) ?_
    refine lv_iload hx hb dX3_iceAfter_39 (lv_at hl 6 rfl) ?_
    refine lv_iload_n hx hb dX3_iceAfter_41 rfl (lv_at hl 1 rfl) ?_
    refine lv_iload_n hx hb dX3_iceAfter_42 rfl (lv_at hl 2 rfl) ?_
    obtain ⟨q9, r9, hf⟩ := bd_s hf
    refine ro_V (n := 3) (As := [.int v6, .int a1, .int a2]) (rest := []) (c_X3_fortyWarmth l G o o_law v6 a1 a2 q9 r9) C hK (hP.sub [0, 1] rfl) hl kcode_X3_fortyWarmth kml_X3_31 kim_X3_fortyWarmth ksel_X3_fortyWarmth kini_X3 (by decide +kernel) ⟨⟨rfl, rfl⟩, Nat.le_of_ble_eq_true rfl, Nat.le_of_ble_eq_true rfl⟩ ⟨Nat.zero_le _, Nat.zero_le _⟩ rfl rfl rfl rfl rfl (Nat.le_of_ble_eq_true rfl) dX3_iceAfter_43 rfl ?_
    refine lv_istore (lv' := [(7, .int q9), (0, .ref (o 0)), (1, .int a1), (2, .int a2), (3, .int u2), (4, .int u4), (5, .int v5), (6, .int v6)]) hx hb dX3_iceAfter_46 hl (by decide) rfl (fun ls hl => ?_)
    refine lv_iload hx hb dX3_iceAfter_48 (lv_at hl 0 rfl) ?_
    refine lv_iload_n hx hb dX3_iceAfter_50 rfl (lv_at hl 4 rfl) ?_
    refine lv_icmp_lt (tgt := 70) hx hb dX3_iceAfter_51 (by decide) (fun c10 => ?_) (fun c10 => ?_)
    · have hf := o_t c10 hf
      exact hj70 v5 v6 ls hf (lv_sub hl [1, 2, 3, 4, 5, 6, 7] rfl)
    · have hf := o_f c10 hf
      refine lv_iload hx hb dX3_iceAfter_54 (lv_at hl 0 rfl) ?_
      refine lv_iload hx hb dX3_iceAfter_56 (lv_at hl 5 rfl) ?_
      refine lv_icmp_ge (tgt := 79) hx hb dX3_iceAfter_58 (by decide) (fun c11 => ?_) (fun c11 => ?_)
      · have hf := o_t c11 hf
        refine lv_iinc (v := (v6 + (1 : Int32))) (lv' := [(6, .int (v6 + (1 : Int32))), (7, .int q9), (0, .ref (o 0)), (1, .int a1), (2, .int a2), (3, .int u2), (4, .int u4), (5, .int v5)]) hx hb dX3_iceAfter_79 hl (k := 7) rfl (by rfl) (by decide) rfl (fun ls hl => ?_)
        refine lv_goto (tgt := 31) hx hb dX3_iceAfter_82 (by decide) ?_
        cases hf
        exact hI _ rfl ls (lv_sub hl [2, 3, 4, 5, 6, 7, 0] rfl)
      · have hf := o_f c11 hf
        refine lv_iload_n hx hb dX3_iceAfter_61 rfl (lv_at hl 2 rfl) ?_
        refine lv_iload hx hb dX3_iceAfter_62 (lv_at hl 7 rfl) ?_
        obtain ⟨q12, r12, hf⟩ := bd_s hf
        refine ro_SN (n := 2) (As := [.int a1, .int v6]) (rest := []) (c_X10_hasIce l G a1 v6 q12 r12) C hK (hP.sub [] rfl) hl kcode_X10_hasIce kmln_X3_15 kst_X10_hasIce kini_X10 (by decide +kernel) ⟨⟨rfl, rfl⟩, Nat.le_of_ble_eq_true rfl, Nat.le_of_ble_eq_true rfl⟩ ⟨Nat.zero_le _, Nat.zero_le _⟩ rfl rfl (Nat.le_of_ble_eq_true rfl) dX3_iceAfter_64 rfl ?_
        refine lv_if_eq (tgt := 79) hx hb dX3_iceAfter_67 (by decide) (fun c13 => ?_) (fun c13 => ?_)
        · have hf := o_t c13 hf
          refine lv_iinc (v := (v6 + (1 : Int32))) (lv' := [(6, .int (v6 + (1 : Int32))), (7, .int q9), (0, .ref (o 0)), (1, .int a1), (2, .int a2), (3, .int u2), (4, .int u4), (5, .int v5)]) hx hb dX3_iceAfter_79 hl (k := 7) rfl (by rfl) (by decide) rfl (fun ls hl => ?_)
          refine lv_goto (tgt := 31) hx hb dX3_iceAfter_82 (by decide) ?_
          cases hf
          exact hI _ rfl ls (lv_sub hl [2, 3, 4, 5, 6, 7, 0] rfl)
        · have hf := o_f c13 hf
          exact hj70 v5 v6 ls hf (lv_sub hl [1, 2, 3, 4, 5, 6, 7] rfl)
abbrev Wc_X3_settled (l : Launch) (G : TG) (o : Nat → Nat) (o_law : Nat → Int32) (a1 : Int32) (a2 : Int32) (R : Int32) (p : Program) (e : Env) (s : State) (m : MethodId) (below : List Frame) (meth : Method) (c : Code) (H : Heap) (locs : List Loc) (g : JFrame) : Prop := W p l e ({ frames := 4, cells := 0, slots := 0, locals := 96 }) s m ([.ref (o 0), .int a1, .int a2] : List Value).toArray below meth c H locs 0 0 (MQ below (roQ (some (.int R))) ([.ref (o 0), .int a1, .int a2] : List Value).toArray s 0 0 (fun _ => False)) g
set_option maxHeartbeats 4000000 in
set_option maxRecDepth 100000 in
theorem c_X3_settled (l : Launch) (G : TG) (o : Nat → Nat) (o_law : Nat → Int32) (a1 : Int32) (a2 : Int32) (R : Int32) (hf : f_X3_settled o_law a1 a2 = some R) : RO l yX3_settled cX3_settled 6 (some .int) ({ frames := 4, cells := 0, slots := 0, locals := 96 }) G [.ref (o 0), .int a1, .int a2] [(oX3 o), (wI G (o 1) 12 o_law)] (some (.int R)) := by
  refine RO.mk (by decide +kernel) (Nat.le_of_ble_eq_true rfl) ?_
  intro p e s m below meth c ls C hP hK hl
  have hx := C.1
  have hb := C.2.1
  have hown : s.vm.findClass RX3 = some m.cls := C.2.2.2.2.2.1
  have ht := C.2.2.2.2.2.2
  have hl : lv_has ls 6 [(0, .ref (o 0)), (1, .int a1), (2, .int a2)] := hl
  show Wc_X3_settled l G o o_law a1 a2 R p e s m below meth c s.heap [] (F0 m 0 ls [])
  refine lv_iload_n hx hb dX3_settled_0 rfl (lv_at hl 1 rfl) ?_
  refine lv_istore_n (lv' := [(3, .int a1), (0, .ref (o 0)), (1, .int a1), (2, .int a2)]) hx hb dX3_settled_1 rfl hl (by decide) rfl (fun ls hl => ?_)
  refine lv_iconst (v := 0) hx hb dX3_settled_2 (by decide) ?_
  refine lv_istore (lv' := [(4, .int (0 : Int32)), (3, .int a1), (0, .ref (o 0)), (1, .int a1), (2, .int a2)]) hx hb dX3_settled_3 hl (by decide) rfl (fun ls hl => ?_)
  have hx37_1 : ∀ (ls : Array Slot), f_X3_settled_x37_1 = some R → lv_has ls 6 [] → Wc_X3_settled l G o o_law a1 a2 R p e s m below meth c s.heap [] (F0 m 37 ls []) := by
    intro ls hf hl
    refine lv_bipush (v := -9) hx hb dX3_settled_37 (by decide) ?_
    have h9 := Option.some.inj hf
    subst h9
    exact ro_iret C rfl dX3_settled_39
  obtain ⟨rL1, hL1, hk1⟩ := bd_s hf
  refine lp_W (P := fun st => ∀ (ls : Array Slot), lv_has ls 6 [(0, .ref (o 0)), (2, .int a2), (3, .int st.1), (4, .int st.2)] → Wc_X3_settled l G o o_law a1 a2 R p e s m below meth c s.heap [] (F0 m 5 ls [])) ?_ FU (a1, (0 : Int32)) hL1 ls (lv_sub hl [2, 4, 1, 0] rfl)
  intro ⟨v3, v4⟩ oc1 hf hI hE ls hl
  have hl : lv_has ls 6 [(0, .ref (o 0)), (2, .int a2), (3, .int v3), (4, .int v4)] := hl
  have hf : f_X3_settled_b5 o_law a2 v3 v4 = some oc1 := hf
  refine lv_iload hx hb dX3_settled_5 (lv_at hl 3 rfl) ?_
  refine lv_bipush (v := 63) hx hb dX3_settled_7 (by decide) ?_
  refine lv_icmp_gt (tgt := 37) hx hb dX3_settled_9 (by decide) (fun c3 => ?_) (fun c3 => ?_)
  · have hf := o_t c3 hf
    cases hf
    have hf : f_X3_settled_x37_1 = some R := by have h9 := hk1; rw [← hE _ rfl] at h9; exact h9
    exact hx37_1 ls hf (lv_sub hl [] rfl)
  · have hf := o_f c3 hf
    refine lv_aload_n hx hb dX3_settled_12 rfl (lv_at hl 0 rfl) ?_
    refine lv_iload_n hx hb dX3_settled_13 rfl (lv_at hl 2 rfl) ?_
    refine lv_iload_n hx hb dX3_settled_14 rfl (lv_at hl 1 rfl) ?_
    obtain ⟨q4, r4, hf⟩ := bd_s hf
    refine ro_V (n := 2) (As := [.int v3, .int a2]) (rest := []) (c_X3_iceAfter l G o o_law v3 a2 q4 r4) C hK (hP.sub [0, 1] rfl) hl kcode_X3_iceAfter kml_X3_47 kim_X3_iceAfter ksel_X3_iceAfter kini_X3 (by decide +kernel) ⟨⟨rfl, rfl⟩, Nat.le_of_ble_eq_true rfl, Nat.le_of_ble_eq_true rfl⟩ ⟨Nat.zero_le _, Nat.zero_le _⟩ rfl rfl rfl rfl rfl (Nat.le_of_ble_eq_true rfl) dX3_settled_15 rfl ?_
    refine lv_istore (lv' := [(5, .int q4), (0, .ref (o 0)), (2, .int a2), (3, .int v3), (4, .int v4)]) hx hb dX3_settled_18 hl (by decide) rfl (fun ls hl => ?_)
    refine lv_iload hx hb dX3_settled_20 (lv_at hl 0 rfl) ?_
    refine lv_iload_n hx hb dX3_settled_22 rfl (lv_at hl 3 rfl) ?_
    refine lv_icmp_ne (tgt := 28) hx hb dX3_settled_23 (by decide) (fun c5 => ?_) (fun c5 => ?_)
    · have hf := o_f c5 hf
      refine lv_iload hx hb dX3_settled_28 (lv_at hl 0 rfl) ?_
      refine lv_istore_n (lv' := [(3, .int q4), (5, .int q4), (0, .ref (o 0)), (2, .int a2), (4, .int v4)]) hx hb dX3_settled_30 rfl hl (by decide) rfl (fun ls hl => ?_)
      refine lv_iinc (v := (v4 + (1 : Int32))) (lv' := [(4, .int (v4 + (1 : Int32))), (3, .int q4), (5, .int q4), (0, .ref (o 0)), (2, .int a2)]) hx hb dX3_settled_31 hl (k := 4) rfl (by rfl) (by decide) rfl (fun ls hl => ?_)
      refine lv_goto (tgt := 5) hx hb dX3_settled_34 (by decide) ?_
      cases hf
      exact hI _ rfl ls (lv_sub hl [3, 4, 1, 0] rfl)
    · have hf := o_t c5 hf
      refine lv_iload_n hx hb dX3_settled_26 rfl (lv_at hl 3 rfl) ?_
      cases hf
      have hf : some v3 = some R := by have h9 := hk1; rw [← hE _ rfl] at h9; exact h9
      have h9 := Option.some.inj hf
      subst h9
      exact ro_iret C rfl dX3_settled_27
abbrev Wc_J6_bitCount_0f7a4 (l : Launch) (G : TG) (a0 : Int32) (R : Int32) (p : Program) (e : Env) (s : State) (m : MethodId) (below : List Frame) (meth : Method) (c : Code) (H : Heap) (locs : List Loc) (g : JFrame) : Prop := W p l e ({ frames := 0, cells := 0, slots := 0, locals := 0 }) s m ([.int a0] : List Value).toArray below meth c H locs 0 0 (MQ below (roQ (some (.int R))) ([.int a0] : List Value).toArray s 0 0 (fun _ => False)) g
set_option maxHeartbeats 4000000 in
set_option maxRecDepth 100000 in
theorem c_J6_bitCount_0f7a4 (l : Launch) (G : TG) (a0 : Int32) (R : Int32) (hf : f_J6_bitCount_0f7a4 a0 = some R) : RO l yJ6_bitCount_0f7a4 cJ6_bitCount_0f7a4 1 (some .int) ({ frames := 0, cells := 0, slots := 0, locals := 0 }) G [.int a0] [] (some (.int R)) := by
  refine RO.mk (by decide +kernel) (Nat.le_of_ble_eq_true rfl) ?_
  intro p e s m below meth c ls C hP hK hl
  have hx := C.1
  have hb := C.2.1
  have hown : s.vm.findClass RJ6 = some m.cls := C.2.2.2.2.2.1
  have ht := C.2.2.2.2.2.2
  have hl : lv_has ls 1 [(0, .int a0)] := hl
  show Wc_J6_bitCount_0f7a4 l G a0 R p e s m below meth c s.heap [] (F0 m 0 ls [])
  refine lv_iload_n hx hb dJ6_bitCount_0f7a4_0 rfl (lv_at hl 0 rfl) ?_
  refine lv_iload_n hx hb dJ6_bitCount_0f7a4_1 rfl (lv_at hl 0 rfl) ?_
  refine lv_iconst (v := 1) hx hb dJ6_bitCount_0f7a4_2 (by decide) ?_
  refine lv_iushr (v := ((a0.toUInt32 >>> ((1 : Int32).toUInt32 &&& Int32.toUInt32 31)).toInt32)) hx hb dJ6_bitCount_0f7a4_3 rfl ?_
  refine lv_ldcw hx hb hown (ht _ kcI_J6_265) dJ6_bitCount_0f7a4_4 ?_
  refine lv_iand hx hb dJ6_bitCount_0f7a4_7 ?_
  refine lv_isub hx hb dJ6_bitCount_0f7a4_8 ?_
  obtain ⟨u1, e1, hf⟩ := bd_s hf
  refine lv_re (Option.some.inj e1).symm ?_
  refine lv_istore_n (lv' := [(0, .int u1)]) hx hb dJ6_bitCount_0f7a4_9 rfl hl (by decide) rfl (fun ls hl => ?_)
  refine lv_iload_n hx hb dJ6_bitCount_0f7a4_10 rfl (lv_at hl 0 rfl) ?_
  refine lv_ldcw hx hb hown (ht _ kcI_J6_266) dJ6_bitCount_0f7a4_11 ?_
  refine lv_iand hx hb dJ6_bitCount_0f7a4_14 ?_
  refine lv_iload_n hx hb dJ6_bitCount_0f7a4_15 rfl (lv_at hl 0 rfl) ?_
  refine lv_iconst (v := 2) hx hb dJ6_bitCount_0f7a4_16 (by decide) ?_
  refine lv_iushr (v := ((u1.toUInt32 >>> ((2 : Int32).toUInt32 &&& Int32.toUInt32 31)).toInt32)) hx hb dJ6_bitCount_0f7a4_17 rfl ?_
  refine lv_ldcw hx hb hown (ht _ kcI_J6_266) dJ6_bitCount_0f7a4_18 ?_
  refine lv_iand hx hb dJ6_bitCount_0f7a4_21 ?_
  refine lv_iadd hx hb dJ6_bitCount_0f7a4_22 ?_
  obtain ⟨u2, e2, hf⟩ := bd_s hf
  refine lv_re (Option.some.inj e2).symm ?_
  refine lv_istore_n (lv' := [(0, .int u2)]) hx hb dJ6_bitCount_0f7a4_23 rfl hl (by decide) rfl (fun ls hl => ?_)
  refine lv_iload_n hx hb dJ6_bitCount_0f7a4_24 rfl (lv_at hl 0 rfl) ?_
  refine lv_iload_n hx hb dJ6_bitCount_0f7a4_25 rfl (lv_at hl 0 rfl) ?_
  refine lv_iconst (v := 4) hx hb dJ6_bitCount_0f7a4_26 (by decide) ?_
  refine lv_iushr (v := ((u2.toUInt32 >>> ((4 : Int32).toUInt32 &&& Int32.toUInt32 31)).toInt32)) hx hb dJ6_bitCount_0f7a4_27 rfl ?_
  refine lv_iadd hx hb dJ6_bitCount_0f7a4_28 ?_
  refine lv_ldcw hx hb hown (ht _ kcI_J6_267) dJ6_bitCount_0f7a4_29 ?_
  refine lv_iand hx hb dJ6_bitCount_0f7a4_32 ?_
  obtain ⟨u3, e3, hf⟩ := bd_s hf
  refine lv_re (Option.some.inj e3).symm ?_
  refine lv_istore_n (lv' := [(0, .int u3)]) hx hb dJ6_bitCount_0f7a4_33 rfl hl (by decide) rfl (fun ls hl => ?_)
  refine lv_iload_n hx hb dJ6_bitCount_0f7a4_34 rfl (lv_at hl 0 rfl) ?_
  refine lv_iload_n hx hb dJ6_bitCount_0f7a4_35 rfl (lv_at hl 0 rfl) ?_
  refine lv_bipush (v := 8) hx hb dJ6_bitCount_0f7a4_36 (by decide) ?_
  refine lv_iushr (v := ((u3.toUInt32 >>> ((8 : Int32).toUInt32 &&& Int32.toUInt32 31)).toInt32)) hx hb dJ6_bitCount_0f7a4_38 rfl ?_
  refine lv_iadd hx hb dJ6_bitCount_0f7a4_39 ?_
  obtain ⟨u4, e4, hf⟩ := bd_s hf
  refine lv_re (Option.some.inj e4).symm ?_
  refine lv_istore_n (lv' := [(0, .int u4)]) hx hb dJ6_bitCount_0f7a4_40 rfl hl (by decide) rfl (fun ls hl => ?_)
  refine lv_iload_n hx hb dJ6_bitCount_0f7a4_41 rfl (lv_at hl 0 rfl) ?_
  refine lv_iload_n hx hb dJ6_bitCount_0f7a4_42 rfl (lv_at hl 0 rfl) ?_
  refine lv_bipush (v := 16) hx hb dJ6_bitCount_0f7a4_43 (by decide) ?_
  refine lv_iushr (v := ((u4.toUInt32 >>> ((16 : Int32).toUInt32 &&& Int32.toUInt32 31)).toInt32)) hx hb dJ6_bitCount_0f7a4_45 rfl ?_
  refine lv_iadd hx hb dJ6_bitCount_0f7a4_46 ?_
  obtain ⟨u5, e5, hf⟩ := bd_s hf
  refine lv_re (Option.some.inj e5).symm ?_
  refine lv_istore_n (lv' := [(0, .int u5)]) hx hb dJ6_bitCount_0f7a4_47 rfl hl (by decide) rfl (fun ls hl => ?_)
  refine lv_iload_n hx hb dJ6_bitCount_0f7a4_48 rfl (lv_at hl 0 rfl) ?_
  refine lv_bipush (v := 63) hx hb dJ6_bitCount_0f7a4_49 (by decide) ?_
  refine lv_iand hx hb dJ6_bitCount_0f7a4_51 ?_
  have h9 := Option.some.inj hf
  subst h9
  exact ro_iret C rfl dJ6_bitCount_0f7a4_52
abbrev Wc_X1_isJump (l : Launch) (G : TG) (a0 : Int32) (a1 : Int32) (R : Int32) (p : Program) (e : Env) (s : State) (m : MethodId) (below : List Frame) (meth : Method) (c : Code) (H : Heap) (locs : List Loc) (g : JFrame) : Prop := W p l e ({ frames := 1, cells := 0, slots := 0, locals := 40 }) s m ([.int a0, .int a1] : List Value).toArray below meth c H locs 0 0 (MQ below (roQ (some (.int R))) ([.int a0, .int a1] : List Value).toArray s 0 0 (fun _ => False)) g
set_option maxHeartbeats 4000000 in
set_option maxRecDepth 100000 in
theorem c_X1_isJump (l : Launch) (G : TG) (a0 : Int32) (a1 : Int32) (R : Int32) (hf : f_X1_isJump a0 a1 = some R) : RO l yX1_isJump cX1_isJump 2 (some .boolean) ({ frames := 1, cells := 0, slots := 0, locals := 40 }) G [.int a0, .int a1] [] (some (.int R)) := by
  refine RO.mk (by decide +kernel) (Nat.le_of_ble_eq_true rfl) ?_
  intro p e s m below meth c ls C hP hK hl
  have hx := C.1
  have hb := C.2.1
  have hown : s.vm.findClass RX1 = some m.cls := C.2.2.2.2.2.1
  have ht := C.2.2.2.2.2.2
  have hl : lv_has ls 2 [(0, .int a0), (1, .int a1)] := hl
  show Wc_X1_isJump l G a0 a1 R p e s m below meth c s.heap [] (F0 m 0 ls [])
  refine lv_iload_n hx hb dX1_isJump_0 rfl (lv_at hl 0 rfl) ?_
  obtain ⟨q1, r1, hf⟩ := bd_s hf
  refine ro_S (n := 1) (As := [.int a0]) (rest := []) (c_J6_bitCount_0f7a4 l G a0 q1 r1) C hK (hP.sub [] rfl) hl kcode_J6_bitCount_0f7a4 kml_X1_46 kst_J6_bitCount_0f7a4 kini_J6 (by decide +kernel) ⟨⟨rfl, rfl⟩, Nat.le_of_ble_eq_true rfl, Nat.le_of_ble_eq_true rfl⟩ ⟨Nat.zero_le _, Nat.zero_le _⟩ rfl rfl (Nat.le_of_ble_eq_true rfl) dX1_isJump_1 rfl ?_
  refine lv_iload_n hx hb dX1_isJump_4 rfl (lv_at hl 1 rfl) ?_
  obtain ⟨q2, r2, hf⟩ := bd_s hf
  refine ro_S (n := 1) (As := [.int a1]) (rest := [.int q1]) (c_J6_bitCount_0f7a4 l G a1 q2 r2) C hK (hP.sub [] rfl) hl kcode_J6_bitCount_0f7a4 kml_X1_46 kst_J6_bitCount_0f7a4 kini_J6 (by decide +kernel) ⟨⟨rfl, rfl⟩, Nat.le_of_ble_eq_true rfl, Nat.le_of_ble_eq_true rfl⟩ ⟨Nat.zero_le _, Nat.zero_le _⟩ rfl rfl (Nat.le_of_ble_eq_true rfl) dX1_isJump_5 rfl ?_
  refine lv_isub hx hb dX1_isJump_8 ?_
  refine va_mabs hx hb (C.2.2.1.trans hl.1.symm) hown (ht _ kml_X1_15) (ht _ kst_J9_abs_0f7a4) (ht _ kini_J9) (ht _ kcode_J9_abs_0f7a4) (Nat.le_of_ble_eq_true rfl) (Nat.le_of_ble_eq_true rfl) (Nat.zero_le _) (Nat.zero_le _) dX1_isJump_9 ?_
  refine lv_iconst (v := 2) hx hb dX1_isJump_12 (by decide) ?_
  refine lv_icmp_lt (tgt := 20) hx hb dX1_isJump_13 (by decide) (fun c3 => ?_) (fun c3 => ?_)
  · have hf := o_t c3 hf
    refine lv_iconst (v := 0) hx hb dX1_isJump_20 (by decide) ?_
    have h9 := Option.some.inj hf
    subst h9
    exact ro_zret C (Or.inl rfl) rfl dX1_isJump_21
  · have hf := o_f c3 hf
    refine lv_iconst (v := 1) hx hb dX1_isJump_16 (by decide) ?_
    refine lv_goto (tgt := 21) hx hb dX1_isJump_17 (by decide) ?_
    have h9 := Option.some.inj hf
    subst h9
    exact ro_zret C (Or.inr rfl) rfl dX1_isJump_21
abbrev Wc_X1_add (l : Launch) (G : TG) (o : Nat → Nat) (o_airs : Nat → Int32) (o_found : Int32) (o_end : Int32) (a1 : Int32) (R : (Nat → Int32) × Int32) (p : Program) (e : Env) (s : State) (m : MethodId) (below : List Frame) (meth : Method) (c : Code) (A : Nat → Prop) (H : Heap) (locs : List Loc) (g : JFrame) : Prop := W p l e ({ frames := 0, cells := 0, slots := 0, locals := 0 }) s m ([.ref (o 0), .int a1] : List Value).toArray below meth c H locs 0 0 (MQ below (rwQ G none [(oX1 o R.2 o_end), (wI G (o 1) 100 R.1)] A) ([.ref (o 0), .int a1] : List Value).toArray s 0 0 A) g
set_option maxHeartbeats 4000000 in
set_option maxRecDepth 100000 in
theorem c_X1_add (l : Launch) (G : TG) (o : Nat → Nat) (o_airs : Nat → Int32) (o_found : Int32) (o_end : Int32) (a1 : Int32) (R : (Nat → Int32) × Int32) (hf : f_X1_add o_airs o_found a1 = some R) : RW l yX1_add cX1_add 2 none ({ frames := 0, cells := 0, slots := 0, locals := 0 }) G [.ref (o 0), .int a1] [(oX1 o o_found o_end), (wI G (o 1) 100 o_airs)] none [(oX1 o R.2 o_end), (wI G (o 1) 100 R.1)] := by
  refine RW.mk (by decide +kernel) (Nat.le_of_ble_eq_true rfl) ?_
  intro p e s m below meth c ls A C hP hD hA hz hK hl hS
  have hx := C.1
  have hb := C.2.1
  have hown : s.vm.findClass RX1 = some m.cls := C.2.2.2.2.2.1
  have ht := C.2.2.2.2.2.2
  have hl : lv_has ls 2 [(0, .ref (o 0)), (1, .int a1)] := hl
  show Wc_X1_add l G o o_airs o_found o_end a1 R p e s m below meth c A s.heap [] (F0 m 0 ls [])
  obtain ⟨H, eH, hP, hS⟩ : ∃ H, H = s.heap ∧ va_P G.1 vwCl [(oX1 o o_found o_end), (wI G (o 1) 100 o_airs)] H ∧ va_S A s.heap H [] := ⟨_, rfl, hP, hS⟩
  obtain ⟨locs, el, hS⟩ : ∃ locs : List Loc, locs = [] ∧ va_S A s.heap H locs := ⟨_, rfl, hS⟩
  have key : Wc_X1_add l G o o_airs o_found o_end a1 R p e s m below meth c A H locs (F0 m 0 ls []) := by
    refine lv_aload_n hx hb dX1_add_0 rfl (lv_at hl 0 rfl) ?_
    refine va_get (D := G.1) (ci := 1) (v := .int o_found) (C := RX1) (T := TX1) (N := 3) hx hb ht twX1 hown hK.1 hP 0 rfl rfl 1 (by decide) (ht _ kfl_X1_21) (fun _ h9 => h9) rfl dX1_add_1 ?_
    refine lv_bipush (v := 100) hx hb dX1_add_4 (by decide) ?_
    refine lv_icmp_ge (tgt := 29) hx hb dX1_add_6 (by decide) (fun c1 => ?_) (fun c1 => ?_)
    · have hf := o_t c1 hf
      have h9 := Option.some.inj hf
      subst h9
      exact rw_vret C hP hD hS dX1_add_29
    · have hf := o_f c1 hf
      refine lv_aload_n hx hb dX1_add_9 rfl (lv_at hl 0 rfl) ?_
      refine va_get (D := G.1) (ci := 1) (v := .ref (o 1)) (C := RX1) (T := TX1) (N := 3) hx hb ht twX1 hown hK.1 hP 0 rfl rfl 0 (by decide) (ht _ kfl_X1_9) (fun _ h9 => h9) rfl dX1_add_10 ?_
      refine lv_aload_n hx hb dX1_add_13 rfl (lv_at hl 0 rfl) ?_
      refine va_get (D := G.1) (ci := 1) (v := .int o_found) (C := RX1) (T := TX1) (N := 3) hx hb ht twX1 hown hK.1 hP 0 rfl rfl 1 (by decide) (ht _ kfl_X1_21) (fun _ h9 => h9) rfl dX1_add_14 ?_
      refine lv_iload_n hx hb dX1_add_17 rfl (lv_at hl 1 rfl) ?_
      obtain ⟨g3, hf⟩ := gd_s hf
      refine va_iast hx hb hK.1 hP hD hS 1 0 rfl rfl g3 dX1_add_18 (fun H locs hP hD hS => ?_)
      have hP : va_P G.1 vwCl [(oX1 o o_found o_end), (wI G (o 1) 100 (upd o_airs o_found.toNatClampNeg a1))] H := hP
      have hD : va_D A [(oX1 o o_found o_end), (wI G (o 1) 100 (upd o_airs o_found.toNatClampNeg a1))] := hD
      refine lv_aload_n hx hb dX1_add_19 rfl (lv_at hl 0 rfl) ?_
      refine lv_dup hx hb dX1_add_20 rfl ?_
      refine va_get (D := G.1) (ci := 1) (v := .int o_found) (C := RX1) (T := TX1) (N := 3) hx hb ht twX1 hown hK.1 hP 0 rfl rfl 1 (by decide) (ht _ kfl_X1_21) (fun _ h9 => h9) rfl dX1_add_21 ?_
      refine lv_iconst (v := 1) hx hb dX1_add_24 (by decide) ?_
      refine lv_iadd hx hb dX1_add_25 ?_
      refine va_put (D := G.1) (ci := 1) (v := .int (o_found + (1 : Int32))) (ty := .int) (C := RX1) (T := TX1) (N := 3) hx hb ht twX1 tyX1 tyX1_ok nmX1 hown hK.1 hP hD hS 0 rfl rfl 1 (by decide) (ht _ kfl_X1_21) (fun _ h9 => h9) rfl (by decide +kernel) rfl rfl (Nat.le_of_ble_eq_true rfl) dX1_add_26 (fun H locs hP hD hS => ?_)
      have hP : va_P G.1 vwCl [(oX1 o (o_found + (1 : Int32)) o_end), (wI G (o 1) 100 (upd o_airs o_found.toNatClampNeg a1))] H := hP
      have hD : va_D A [(oX1 o (o_found + (1 : Int32)) o_end), (wI G (o 1) 100 (upd o_airs o_found.toNatClampNeg a1))] := hD
      have h9 := Option.some.inj hf
      subst h9
      exact rw_vret C hP hD hS dX1_add_29
  rw [eH, el] at key
  exact key
abbrev Wc_X1_follow (l : Launch) (G : TG) (o : Nat → Nat) (p1 : Nat → Nat) (o_airs : Nat → Int32) (o_found : Int32) (o_end : Int32) (p1_law : Nat → Int32) (a2 : Int32) (a3 : Int32) (a4 : Int32) (R : (Nat → Int32) × Int32 × Int32) (p : Program) (e : Env) (s : State) (m : MethodId) (below : List Frame) (meth : Method) (c : Code) (A : Nat → Prop) (H : Heap) (locs : List Loc) (g : JFrame) : Prop := W p l e ({ frames := 5, cells := 0, slots := 0, locals := 121 }) s m ([.ref (o 0), .ref (p1 0), .int a2, .int a3, .int a4] : List Value).toArray below meth c H locs 0 0 (MQ below (rwQ G none [(oX1 o R.2.1 R.2.2), (wI G (o 1) 100 R.1), (oX3 p1), (wI G (p1 1) 12 p1_law)] A) ([.ref (o 0), .ref (p1 0), .int a2, .int a3, .int a4] : List Value).toArray s 0 0 A) g
set_option maxHeartbeats 4000000 in
set_option maxRecDepth 100000 in
theorem c_X1_follow (l : Launch) (G : TG) (o : Nat → Nat) (p1 : Nat → Nat) (o_airs : Nat → Int32) (o_found : Int32) (o_end : Int32) (p1_law : Nat → Int32) (a2 : Int32) (a3 : Int32) (a4 : Int32) (R : (Nat → Int32) × Int32 × Int32) (hf : f_X1_follow o_airs p1_law a2 a3 a4 = some R) : RW l yX1_follow cX1_follow 9 none ({ frames := 5, cells := 0, slots := 0, locals := 121 }) G [.ref (o 0), .ref (p1 0), .int a2, .int a3, .int a4] [(oX1 o o_found o_end), (wI G (o 1) 100 o_airs), (oX3 p1), (wI G (p1 1) 12 p1_law)] none [(oX1 o R.2.1 R.2.2), (wI G (o 1) 100 R.1), (oX3 p1), (wI G (p1 1) 12 p1_law)] := by
  refine RW.mk (by decide +kernel) (Nat.le_of_ble_eq_true rfl) ?_
  intro p e s m below meth c ls A C hP hD hA hz hK hl hS
  have hx := C.1
  have hb := C.2.1
  have hown : s.vm.findClass RX1 = some m.cls := C.2.2.2.2.2.1
  have ht := C.2.2.2.2.2.2
  have hl : lv_has ls 9 [(0, .ref (o 0)), (1, .ref (p1 0)), (2, .int a2), (3, .int a3), (4, .int a4)] := hl
  show Wc_X1_follow l G o p1 o_airs o_found o_end p1_law a2 a3 a4 R p e s m below meth c A s.heap [] (F0 m 0 ls [])
  obtain ⟨H, eH, hP, hS⟩ : ∃ H, H = s.heap ∧ va_P G.1 vwCl [(oX1 o o_found o_end), (wI G (o 1) 100 o_airs), (oX3 p1), (wI G (p1 1) 12 p1_law)] H ∧ va_S A s.heap H [] := ⟨_, rfl, hP, hS⟩
  obtain ⟨locs, el, hS⟩ : ∃ locs : List Loc, locs = [] ∧ va_S A s.heap H locs := ⟨_, rfl, hS⟩
  have key : Wc_X1_follow l G o p1 o_airs o_found o_end p1_law a2 a3 a4 R p e s m below meth c A H locs (F0 m 0 ls []) := by
    have hj11 : ∀ (k0 : Int32) (o_airs : Nat → Int32) (o_found : Int32) (o_end : Int32) (H : Heap) (locs : List Loc) (ls : Array Slot), f_X1_follow_j11 p1_law a2 a3 a4 k0 o_airs = some R → va_P G.1 vwCl [(oX1 o o_found o_end), (wI G (o 1) 100 o_airs), (oX3 p1), (wI G (p1 1) 12 p1_law)] H → va_D A [(oX1 o o_found o_end), (wI G (o 1) 100 o_airs), (oX3 p1), (wI G (p1 1) 12 p1_law)] → va_S A s.heap H locs → lv_has ls 9 [(0, .ref (o 0)), (1, .ref (p1 0)), (2, .int a2), (3, .int a3), (4, .int a4)] → Wc_X1_follow l G o p1 o_airs o_found o_end p1_law a2 a3 a4 R p e s m below meth c A H locs (F0 m 11 ls [.int k0]) := by
      intro k0 o_airs o_found o_end H locs ls hf hP hD hS hl
      refine lv_istore (lv' := [(5, .int k0), (0, .ref (o 0)), (1, .ref (p1 0)), (2, .int a2), (3, .int a3), (4, .int a4)]) hx hb dX1_follow_11 hl (by decide) rfl (fun ls hl => ?_)
      refine lv_iload hx hb dX1_follow_13 (lv_at hl 5 rfl) ?_
      refine lv_iload_n hx hb dX1_follow_15 rfl (lv_at hl 4 rfl) ?_
      refine lv_isub hx hb dX1_follow_16 ?_
      refine va_mabs hx hb (C.2.2.1.trans hl.1.symm) hown (ht _ kml_X1_15) (ht _ kst_J9_abs_0f7a4) (ht _ kini_J9) (ht _ kcode_J9_abs_0f7a4) (Nat.le_of_ble_eq_true rfl) (Nat.le_of_ble_eq_true rfl) (Nat.zero_le _) (Nat.zero_le _) dX1_follow_17 ?_
      obtain ⟨u1, e1, hf⟩ := bd_s hf
      refine lv_re (Option.some.inj e1).symm ?_
      refine lv_istore (lv' := [(6, .int u1), (5, .int k0), (0, .ref (o 0)), (1, .ref (p1 0)), (2, .int a2), (3, .int a3), (4, .int a4)]) hx hb dX1_follow_20 hl (by decide) rfl (fun ls hl => ?_)
      refine lv_aload_n hx hb dX1_follow_22 rfl (lv_at hl 2 rfl) ?_
      refine lv_iconst (v := 0) hx hb dX1_follow_23 (by decide) ?_
      refine va_put (D := G.1) (ci := 1) (v := .int (0 : Int32)) (ty := .int) (C := RX1) (T := TX1) (N := 3) hx hb ht twX1 tyX1 tyX1_ok nmX1 hown hK.1 hP hD hS 0 rfl rfl 1 (by decide) (ht _ kfl_X1_21) (fun _ h9 => h9) rfl (by decide +kernel) rfl rfl (Nat.le_of_ble_eq_true rfl) dX1_follow_24 (fun H locs hP hD hS => ?_)
      have hP : va_P G.1 vwCl [(oX1 o (0 : Int32) o_end), (wI G (o 1) 100 o_airs), (oX3 p1), (wI G (p1 1) 12 p1_law)] H := hP
      have hD : va_D A [(oX1 o (0 : Int32) o_end), (wI G (o 1) 100 o_airs), (oX3 p1), (wI G (p1 1) 12 p1_law)] := hD
      refine lv_aload_n hx hb dX1_follow_27 rfl (lv_at hl 2 rfl) ?_
      refine lv_iload_n hx hb dX1_follow_28 rfl (lv_at hl 4 rfl) ?_
      refine va_put (D := G.1) (ci := 1) (v := .int a2) (ty := .int) (C := RX1) (T := TX1) (N := 3) hx hb ht twX1 tyX1 tyX1_ok nmX1 hown hK.1 hP hD hS 0 rfl rfl 2 (by decide) (ht _ kfl_X1_25) (fun _ h9 => h9) rfl (by decide +kernel) rfl rfl (Nat.le_of_ble_eq_true rfl) dX1_follow_29 (fun H locs hP hD hS => ?_)
      have hP : va_P G.1 vwCl [(oX1 o (0 : Int32) a2), (wI G (o 1) 100 o_airs), (oX3 p1), (wI G (p1 1) 12 p1_law)] H := hP
      have hD : va_D A [(oX1 o (0 : Int32) a2), (wI G (o 1) 100 o_airs), (oX3 p1), (wI G (p1 1) 12 p1_law)] := hD
      refine lv_iconst (v := 0) hx hb dX1_follow_32 (by decide) ?_
      refine lv_istore (lv' := [(7, .int (0 : Int32)), (6, .int u1), (5, .int k0), (0, .ref (o 0)), (1, .ref (p1 0)), (2, .int a2), (3, .int a3), (4, .int a4)]) hx hb dX1_follow_33 hl (by decide) rfl (fun ls hl => ?_)
      have hx110_2 : ∀ (o_airs : Nat → Int32) (o_found : Int32) (o_end : Int32) (H : Heap) (locs : List Loc) (ls : Array Slot), f_X1_follow_x110_2 o_airs o_found o_end = some R → va_P G.1 vwCl [(oX1 o o_found o_end), (wI G (o 1) 100 o_airs), (oX3 p1), (wI G (p1 1) 12 p1_law)] H → va_D A [(oX1 o o_found o_end), (wI G (o 1) 100 o_airs), (oX3 p1), (wI G (p1 1) 12 p1_law)] → va_S A s.heap H locs → lv_has ls 9 [] → Wc_X1_follow l G o p1 o_airs o_found o_end p1_law a2 a3 a4 R p e s m below meth c A H locs (F0 m 110 ls []) := by
        intro o_airs o_found o_end H locs ls hf hP hD hS hl
        have h9 := Option.some.inj hf
        subst h9
        exact rw_vret C hP hD hS dX1_follow_110
      obtain ⟨rL2, hL2, hk2⟩ := bd_s hf
      refine lp_W (P := fun st => ∀ (H : Heap) (locs : List Loc) (ls : Array Slot), va_P G.1 vwCl [(oX1 o st.2.2.1 st.2.2.2), (wI G (o 1) 100 st.2.1), (oX3 p1), (wI G (p1 1) 12 p1_law)] H → va_D A [(oX1 o st.2.2.1 st.2.2.2), (wI G (o 1) 100 st.2.1), (oX3 p1), (wI G (p1 1) 12 p1_law)] → va_S A s.heap H locs → lv_has ls 9 [(0, .ref (o 0)), (1, .ref (p1 0)), (3, .int a3), (5, .int k0), (6, .int u1), (7, .int st.1)] → Wc_X1_follow l G o p1 o_airs o_found o_end p1_law a2 a3 a4 R p e s m below meth c A H locs (F0 m 35 ls [])) ?_ FU ((0 : Int32), o_airs, (0 : Int32), a2) hL2 H locs ls hP hD hS (lv_sub hl [3, 4, 6, 2, 1, 0] rfl)
      intro ⟨v7, o_airs, o_found, o_end⟩ oc2 hf hI hE H locs ls hP hD hS hl
      have hP : va_P G.1 vwCl [(oX1 o o_found o_end), (wI G (o 1) 100 o_airs), (oX3 p1), (wI G (p1 1) 12 p1_law)] H := hP
      have hD : va_D A [(oX1 o o_found o_end), (wI G (o 1) 100 o_airs), (oX3 p1), (wI G (p1 1) 12 p1_law)] := hD
      have hl : lv_has ls 9 [(0, .ref (o 0)), (1, .ref (p1 0)), (3, .int a3), (5, .int k0), (6, .int u1), (7, .int v7)] := hl
      have hf : f_X1_follow_b35 p1_law a3 k0 u1 v7 o_airs o_found o_end = some oc2 := hf
      have hj98 : ∀ (v7 : Int32) (v8 : Int32) (o_airs : Nat → Int32) (o_found : Int32) (o_end : Int32) (H : Heap) (locs : List Loc) (ls : Array Slot), f_X1_follow_j98 v7 v8 o_airs o_found = some oc2 → va_P G.1 vwCl [(oX1 o o_found o_end), (wI G (o 1) 100 o_airs), (oX3 p1), (wI G (p1 1) 12 p1_law)] H → va_D A [(oX1 o o_found o_end), (wI G (o 1) 100 o_airs), (oX3 p1), (wI G (p1 1) 12 p1_law)] → va_S A s.heap H locs → lv_has ls 9 [(0, .ref (o 0)), (1, .ref (p1 0)), (3, .int a3), (5, .int k0), (6, .int u1), (7, .int v7), (8, .int v8)] → Wc_X1_follow l G o p1 o_airs o_found o_end p1_law a2 a3 a4 R p e s m below meth c A H locs (F0 m 98 ls []) := by
        intro v7 v8 o_airs o_found o_end H locs ls hf hP hD hS hl
        refine lv_aload_n hx hb dX1_follow_98 rfl (lv_at hl 0 rfl) ?_
        refine lv_iload hx hb dX1_follow_99 (lv_at hl 6 rfl) ?_
        refine va_put (D := G.1) (ci := 1) (v := .int v8) (ty := .int) (C := RX1) (T := TX1) (N := 3) hx hb ht twX1 tyX1 tyX1_ok nmX1 hown hK.1 hP hD hS 0 rfl rfl 2 (by decide) (ht _ kfl_X1_25) (fun _ h9 => h9) rfl (by decide +kernel) rfl rfl (Nat.le_of_ble_eq_true rfl) dX1_follow_101 (fun H locs hP hD hS => ?_)
        have hP : va_P G.1 vwCl [(oX1 o o_found v8), (wI G (o 1) 100 o_airs), (oX3 p1), (wI G (p1 1) 12 p1_law)] H := hP
        have hD : va_D A [(oX1 o o_found v8), (wI G (o 1) 100 o_airs), (oX3 p1), (wI G (p1 1) 12 p1_law)] := hD
        refine lv_iinc (v := (v7 + (1 : Int32))) (lv' := [(7, .int (v7 + (1 : Int32))), (0, .ref (o 0)), (1, .ref (p1 0)), (3, .int a3), (5, .int k0), (6, .int u1), (8, .int v8)]) hx hb dX1_follow_104 hl (k := 5) rfl (by rfl) (by decide) rfl (fun ls hl => ?_)
        refine lv_goto (tgt := 35) hx hb dX1_follow_107 (by decide) ?_
        cases hf
        exact hI _ rfl H locs ls hP hD hS (lv_sub hl [1, 2, 3, 4, 5, 0] rfl)
      refine lv_iload hx hb dX1_follow_35 (lv_at hl 5 rfl) ?_
      refine lv_iload hx hb dX1_follow_37 (lv_at hl 4 rfl) ?_
      refine lv_icmp_gt (tgt := 110) hx hb dX1_follow_39 (by decide) (fun c4 => ?_) (fun c4 => ?_)
      · have hf := o_t c4 hf
        cases hf
        have hf : f_X1_follow_x110_2 o_airs o_found o_end = some R := by have h9 := hk2; rw [← hE _ rfl] at h9; exact h9
        exact hx110_2 o_airs o_found o_end H locs ls hf hP hD hS (lv_sub hl [] rfl)
      · have hf := o_f c4 hf
        refine lv_aload_n hx hb dX1_follow_42 rfl (lv_at hl 0 rfl) ?_
        refine va_get (D := G.1) (ci := 1) (v := .int o_end) (C := RX1) (T := TX1) (N := 3) hx hb ht twX1 hown hK.1 hP 0 rfl rfl 2 (by decide) (ht _ kfl_X1_25) (fun _ h9 => h9) rfl dX1_follow_43 ?_
        refine lv_bipush (v := -9) hx hb dX1_follow_46 (by decide) ?_
        refine lv_icmp_eq (tgt := 110) hx hb dX1_follow_48 (by decide) (fun c5 => ?_) (fun c5 => ?_)
        · have hf := o_t c5 hf
          cases hf
          have hf : f_X1_follow_x110_2 o_airs o_found o_end = some R := by have h9 := hk2; rw [← hE _ rfl] at h9; exact h9
          exact hx110_2 o_airs o_found o_end H locs ls hf hP hD hS (lv_sub hl [] rfl)
        · have hf := o_f c5 hf
          refine lv_aload_n hx hb dX1_follow_51 rfl (lv_at hl 1 rfl) ?_
          refine lv_aload_n hx hb dX1_follow_52 rfl (lv_at hl 0 rfl) ?_
          refine va_get (D := G.1) (ci := 1) (v := .int o_end) (C := RX1) (T := TX1) (N := 3) hx hb ht twX1 hown hK.1 hP 0 rfl rfl 2 (by decide) (ht _ kfl_X1_25) (fun _ h9 => h9) rfl dX1_follow_53 ?_
          refine lv_iload_n hx hb dX1_follow_56 rfl (lv_at hl 2 rfl) ?_
          refine lv_iload hx hb dX1_follow_57 (lv_at hl 3 rfl) ?_
          refine lv_iload hx hb dX1_follow_59 (lv_at hl 5 rfl) ?_
          refine lv_imul hx hb dX1_follow_61 ?_
          refine lv_iadd hx hb dX1_follow_62 ?_
          obtain ⟨q6, r6, hf⟩ := bd_s hf
          refine ro_V (n := 2) (As := [.int o_end, .int (a3 + (k0 * v7))]) (rest := []) (c_X3_settled l G p1 p1_law o_end (a3 + (k0 * v7)) q6 r6) C (hK.at hS hz) (hP.sub [2, 3] rfl) hl kcode_X3_settled kml_X1_28 kim_X3_settled ksel_X3_settled kini_X3 (by decide +kernel) ⟨⟨rfl, rfl⟩, Nat.le_of_ble_eq_true rfl, Nat.le_of_ble_eq_true rfl⟩ ⟨Nat.zero_le _, Nat.zero_le _⟩ rfl rfl rfl rfl rfl (Nat.le_of_ble_eq_true rfl) dX1_follow_63 rfl ?_
          refine lv_istore (lv' := [(8, .int q6), (0, .ref (o 0)), (1, .ref (p1 0)), (3, .int a3), (5, .int k0), (6, .int u1), (7, .int v7)]) hx hb dX1_follow_66 hl (by decide) rfl (fun ls hl => ?_)
          refine lv_iload hx hb dX1_follow_68 (lv_at hl 0 rfl) ?_
          refine lv_bipush (v := -9) hx hb dX1_follow_70 (by decide) ?_
          refine lv_icmp_eq (tgt := 98) hx hb dX1_follow_72 (by decide) (fun c7 => ?_) (fun c7 => ?_)
          · have hf := o_t c7 hf
            exact hj98 v7 q6 o_airs o_found o_end H locs ls hf hP hD hS (lv_sub hl [1, 2, 3, 4, 5, 6, 0] rfl)
          · have hf := o_f c7 hf
            refine lv_aload_n hx hb dX1_follow_75 rfl (lv_at hl 1 rfl) ?_
            refine va_get (D := G.1) (ci := 1) (v := .int o_end) (C := RX1) (T := TX1) (N := 3) hx hb ht twX1 hown hK.1 hP 0 rfl rfl 2 (by decide) (ht _ kfl_X1_25) (fun _ h9 => h9) rfl dX1_follow_76 ?_
            refine lv_iload hx hb dX1_follow_79 (lv_at hl 0 rfl) ?_
            obtain ⟨q8, r8, hf⟩ := bd_s hf
            refine ro_S (n := 2) (As := [.int o_end, .int q6]) (rest := []) (c_X1_isJump l G o_end q6 q8 r8) C (hK.at hS hz) (hP.sub [] rfl) hl kcode_X1_isJump kml_X1_34 kst_X1_isJump kini_X1 (by decide +kernel) ⟨⟨rfl, rfl⟩, Nat.le_of_ble_eq_true rfl, Nat.le_of_ble_eq_true rfl⟩ ⟨Nat.zero_le _, Nat.zero_le _⟩ rfl rfl (Nat.le_of_ble_eq_true rfl) dX1_follow_81 rfl ?_
            refine lv_if_eq (tgt := 98) hx hb dX1_follow_84 (by decide) (fun c9 => ?_) (fun c9 => ?_)
            · have hf := o_t c9 hf
              exact hj98 v7 q6 o_airs o_found o_end H locs ls hf hP hD hS (lv_sub hl [1, 2, 3, 4, 5, 6, 0] rfl)
            · have hf := o_f c9 hf
              refine lv_aload_n hx hb dX1_follow_87 rfl (lv_at hl 1 rfl) ?_
              refine lv_iload_n hx hb dX1_follow_88 rfl (lv_at hl 3 rfl) ?_
              refine lv_iload hx hb dX1_follow_89 (lv_at hl 4 rfl) ?_
              refine lv_iload hx hb dX1_follow_91 (lv_at hl 6 rfl) ?_
              refine lv_imul hx hb dX1_follow_93 ?_
              refine lv_iadd hx hb dX1_follow_94 ?_
              obtain ⟨q10, r10, hf⟩ := bd_s hf
              refine rw_V (n := 1) (As := [.int (a3 + (k0 * v7))]) (rest := []) (wr := [(oX3 p1), (wI G (p1 1) 12 p1_law)]) (ws2 := [(oX1 o q10.2 o_end), (wI G (o 1) 100 q10.1), (oX3 p1), (wI G (p1 1) 12 p1_law)]) (c_X1_add l G o o_airs o_found o_end (a3 + (k0 * v7)) q10 r10) C hK hP hD hS hA hz hl [0, 1] [2, 3] [2, 3, 0, 1] rfl rfl rfl rfl rfl (by decide) rfl rfl rfl kcode_X1_add kml_X1_38 kim_X1_add ksel_X1_add kini_X1 (by decide +kernel) ⟨⟨rfl, rfl⟩, Nat.le_of_ble_eq_true rfl, Nat.le_of_ble_eq_true rfl⟩ ⟨Nat.zero_le _, Nat.zero_le _⟩ rfl rfl rfl rfl rfl (Nat.le_of_ble_eq_true rfl) dX1_follow_95 rfl (fun H locs hP hD hS => ?_)
              exact hj98 v7 q6 q10.1 q10.2 o_end H locs ls hf hP hD hS (lv_sub hl [1, 2, 3, 4, 5, 6, 0] rfl)
    refine lv_iload hx hb dX1_follow_0 (lv_at hl 4 rfl) ?_
    refine lv_iload_n hx hb dX1_follow_2 rfl (lv_at hl 3 rfl) ?_
    refine lv_icmp_ge (tgt := 10) hx hb dX1_follow_3 (by decide) (fun c11 => ?_) (fun c11 => ?_)
    · have hf := o_t c11 hf
      refine lv_iconst (v := 1) hx hb dX1_follow_10 (by decide) ?_
      exact hj11 (1 : Int32) o_airs o_found o_end H locs ls hf hP hD hS (lv_sub hl [0, 1, 2, 3, 4] rfl)
    · have hf := o_f c11 hf
      refine lv_iconst (v := -1) hx hb dX1_follow_6 (by decide) ?_
      refine lv_goto (tgt := 11) hx hb dX1_follow_7 (by decide) ?_
      exact hj11 (-1 : Int32) o_airs o_found o_end H locs ls hf hP hD hS (lv_sub hl [0, 1, 2, 3, 4] rfl)
  rw [eH, el] at key
  exact key
abbrev Wc_X1_airOf (l : Launch) (G : TG) (o : Nat → Nat) (o_airs : Nat → Int32) (o_found : Int32) (o_end : Int32) (a1 : Int32) (R : Int32) (p : Program) (e : Env) (s : State) (m : MethodId) (below : List Frame) (meth : Method) (c : Code) (H : Heap) (locs : List Loc) (g : JFrame) : Prop := W p l e ({ frames := 1, cells := 0, slots := 0, locals := 22 }) s m ([.ref (o 0), .int a1] : List Value).toArray below meth c H locs 0 0 (MQ below (roQ (some (.int R))) ([.ref (o 0), .int a1] : List Value).toArray s 0 0 (fun _ => False)) g
set_option maxHeartbeats 4000000 in
set_option maxRecDepth 100000 in
theorem c_X1_airOf (l : Launch) (G : TG) (o : Nat → Nat) (o_airs : Nat → Int32) (o_found : Int32) (o_end : Int32) (a1 : Int32) (R : Int32) (hf : f_X1_airOf o_airs o_found a1 = some R) : RO l yX1_airOf cX1_airOf 2 (some .int) ({ frames := 1, cells := 0, slots := 0, locals := 22 }) G [.ref (o 0), .int a1] [(oX1 o o_found o_end), (wI G (o 1) 100 o_airs)] (some (.int R)) := by
  refine RO.mk (by decide +kernel) (Nat.le_of_ble_eq_true rfl) ?_
  intro p e s m below meth c ls C hP hK hl
  have hx := C.1
  have hb := C.2.1
  have hown : s.vm.findClass RX1 = some m.cls := C.2.2.2.2.2.1
  have ht := C.2.2.2.2.2.2
  have hl : lv_has ls 2 [(0, .ref (o 0)), (1, .int a1)] := hl
  show Wc_X1_airOf l G o o_airs o_found o_end a1 R p e s m below meth c s.heap [] (F0 m 0 ls [])
  refine lv_iload_n hx hb dX1_airOf_0 rfl (lv_at hl 1 rfl) ?_
  refine lv_iconst (v := 0) hx hb dX1_airOf_1 (by decide) ?_
  refine lv_aload_n hx hb dX1_airOf_2 rfl (lv_at hl 0 rfl) ?_
  refine va_get (D := G.1) (ci := 1) (v := .int o_found) (C := RX1) (T := TX1) (N := 3) hx hb ht twX1 hown hK.1 hP 0 rfl rfl 1 (by decide) (ht _ kfl_X1_21) (fun _ h9 => h9) rfl dX1_airOf_3 ?_
  refine lv_iconst (v := 1) hx hb dX1_airOf_6 (by decide) ?_
  refine lv_isub hx hb dX1_airOf_7 ?_
  obtain ⟨q1, r1, hf⟩ := bd_s hf
  refine ro_SN (n := 3) (As := [.int a1, .int (0 : Int32), .int (o_found - (1 : Int32))]) (rest := []) (c_X10_within l G a1 (0 : Int32) (o_found - (1 : Int32)) q1 r1) C hK (hP.sub [] rfl) hl kcode_X10_within kmln_X1_42 kst_X10_within kini_X10 (by decide +kernel) ⟨⟨rfl, rfl⟩, Nat.le_of_ble_eq_true rfl, Nat.le_of_ble_eq_true rfl⟩ ⟨Nat.zero_le _, Nat.zero_le _⟩ rfl rfl (Nat.le_of_ble_eq_true rfl) dX1_airOf_8 rfl ?_
  refine lv_if_eq (tgt := 23) hx hb dX1_airOf_11 (by decide) (fun c2 => ?_) (fun c2 => ?_)
  · have hf := o_t c2 hf
    refine lv_bipush (v := -9) hx hb dX1_airOf_23 (by decide) ?_
    have h9 := Option.some.inj hf
    subst h9
    exact ro_iret C rfl dX1_airOf_25
  · have hf := o_f c2 hf
    refine lv_aload_n hx hb dX1_airOf_14 rfl (lv_at hl 0 rfl) ?_
    refine va_get (D := G.1) (ci := 1) (v := .ref (o 1)) (C := RX1) (T := TX1) (N := 3) hx hb ht twX1 hown hK.1 hP 0 rfl rfl 0 (by decide) (ht _ kfl_X1_9) (fun _ h9 => h9) rfl dX1_airOf_15 ?_
    refine lv_iload_n hx hb dX1_airOf_18 rfl (lv_at hl 1 rfl) ?_
    obtain ⟨g4, hf⟩ := gd_s hf
    refine va_iald hx hb hK.1 hP 1 0 rfl rfl g4 dX1_airOf_19 ?_
    refine lv_goto (tgt := 25) hx hb dX1_airOf_20 (by decide) ?_
    have h9 := Option.some.inj hf
    subst h9
    exact ro_iret C rfl dX1_airOf_25
abbrev Wc_X4_markOf (l : Launch) (G : TG) (o : Nat → Nat) (o_marks : Nat → Int32) (o_beds : Int32) (o_isKept : Int32) (a1 : Int32) (a2 : Int32) (R : Int32) (p : Program) (e : Env) (s : State) (m : MethodId) (below : List Frame) (meth : Method) (c : Code) (H : Heap) (locs : List Loc) (g : JFrame) : Prop := W p l e ({ frames := 1, cells := 0, slots := 0, locals := 22 }) s m ([.ref (o 0), .int a1, .int a2] : List Value).toArray below meth c H locs 0 0 (MQ below (roQ (some (.int R))) ([.ref (o 0), .int a1, .int a2] : List Value).toArray s 0 0 (fun _ => False)) g
set_option maxHeartbeats 4000000 in
set_option maxRecDepth 100000 in
theorem c_X4_markOf (l : Launch) (G : TG) (o : Nat → Nat) (o_marks : Nat → Int32) (o_beds : Int32) (o_isKept : Int32) (a1 : Int32) (a2 : Int32) (R : Int32) (hf : f_X4_markOf o_marks a1 a2 = some R) : RO l yX4_markOf cX4_markOf 4 (some .int) ({ frames := 1, cells := 0, slots := 0, locals := 22 }) G [.ref (o 0), .int a1, .int a2] [(oX4 o o_beds o_isKept), (wI G (o 1) 48 o_marks)] (some (.int R)) := by
  refine RO.mk (by decide +kernel) (Nat.le_of_ble_eq_true rfl) ?_
  intro p e s m below meth c ls C hP hK hl
  have hx := C.1
  have hb := C.2.1
  have hown : s.vm.findClass RX4 = some m.cls := C.2.2.2.2.2.1
  have ht := C.2.2.2.2.2.2
  have hl : lv_has ls 4 [(0, .ref (o 0)), (1, .int a1), (2, .int a2)] := hl
  show Wc_X4_markOf l G o o_marks o_beds o_isKept a1 a2 R p e s m below meth c s.heap [] (F0 m 0 ls [])
  have hj24 : ∀ (k0 : Int32) (ls : Array Slot), f_X4_markOf_j24 o_marks a1 a2 k0 = some R → lv_has ls 4 [(0, .ref (o 0)), (1, .int a1), (2, .int a2)] → Wc_X4_markOf l G o o_marks o_beds o_isKept a1 a2 R p e s m below meth c s.heap [] (F0 m 24 ls [.int k0]) := by
    intro k0 ls hf hl
    refine lv_istore_n (lv' := [(3, .int k0), (0, .ref (o 0)), (1, .int a1), (2, .int a2)]) hx hb dX4_markOf_24 rfl hl (by decide) rfl (fun ls hl => ?_)
    refine lv_iload_n hx hb dX4_markOf_25 rfl (lv_at hl 0 rfl) ?_
    refine lv_if_eq (tgt := 43) hx hb dX4_markOf_26 (by decide) (fun c1 => ?_) (fun c1 => ?_)
    · have hf := o_t c1 hf
      refine lv_iconst (v := 0) hx hb dX4_markOf_43 (by decide) ?_
      have h9 := Option.some.inj hf
      subst h9
      exact ro_iret C rfl dX4_markOf_44
    · have hf := o_f c1 hf
      refine lv_aload_n hx hb dX4_markOf_29 rfl (lv_at hl 1 rfl) ?_
      refine va_get (D := G.1) (ci := 4) (v := .ref (o 1)) (C := RX4) (T := TX4) (N := 4) hx hb ht twX4 hown hK.1 hP 0 rfl rfl 0 (by decide) (ht _ kfl_X4_11) (fun _ h9 => h9) rfl dX4_markOf_30 ?_
      refine lv_iload_n hx hb dX4_markOf_33 rfl (lv_at hl 2 rfl) ?_
      refine lv_bipush (v := 6) hx hb dX4_markOf_34 (by decide) ?_
      refine lv_imul hx hb dX4_markOf_36 ?_
      refine lv_iload_n hx hb dX4_markOf_37 rfl (lv_at hl 3 rfl) ?_
      refine lv_iadd hx hb dX4_markOf_38 ?_
      obtain ⟨g3, hf⟩ := gd_s hf
      refine va_iald hx hb hK.1 hP 1 0 rfl rfl g3 dX4_markOf_39 ?_
      refine lv_goto (tgt := 44) hx hb dX4_markOf_40 (by decide) ?_
      have h9 := Option.some.inj hf
      subst h9
      exact ro_iret C rfl dX4_markOf_44
  have hj23 : ∀ (ls : Array Slot), f_X4_markOf_j23 o_marks a1 a2 = some R → lv_has ls 4 [(0, .ref (o 0)), (1, .int a1), (2, .int a2)] → Wc_X4_markOf l G o o_marks o_beds o_isKept a1 a2 R p e s m below meth c s.heap [] (F0 m 23 ls []) := by
    intro ls hf hl
    refine lv_iconst (v := 0) hx hb dX4_markOf_23 (by decide) ?_
    exact hj24 (0 : Int32) ls hf (lv_sub hl [0, 1, 2] rfl)
  refine lv_iload_n hx hb dX4_markOf_0 rfl (lv_at hl 1 rfl) ?_
  refine lv_iconst (v := 0) hx hb dX4_markOf_1 (by decide) ?_
  refine lv_bipush (v := 7) hx hb dX4_markOf_2 (by decide) ?_
  obtain ⟨q5, r5, hf⟩ := bd_s hf
  refine ro_SN (n := 3) (As := [.int a1, .int (0 : Int32), .int (7 : Int32)]) (rest := []) (c_X10_within l G a1 (0 : Int32) (7 : Int32) q5 r5) C hK (hP.sub [] rfl) hl kcode_X10_within kmln_X4_18 kst_X10_within kini_X10 (by decide +kernel) ⟨⟨rfl, rfl⟩, Nat.le_of_ble_eq_true rfl, Nat.le_of_ble_eq_true rfl⟩ ⟨Nat.zero_le _, Nat.zero_le _⟩ rfl rfl (Nat.le_of_ble_eq_true rfl) dX4_markOf_4 rfl ?_
  refine lv_if_eq (tgt := 23) hx hb dX4_markOf_7 (by decide) (fun c6 => ?_) (fun c6 => ?_)
  · have hf := o_t c6 hf
    exact hj23 ls hf (lv_sub hl [0, 1, 2] rfl)
  · have hf := o_f c6 hf
    refine lv_iload_n hx hb dX4_markOf_10 rfl (lv_at hl 2 rfl) ?_
    refine lv_iconst (v := 0) hx hb dX4_markOf_11 (by decide) ?_
    refine lv_iconst (v := 5) hx hb dX4_markOf_12 (by decide) ?_
    obtain ⟨q7, r7, hf⟩ := bd_s hf
    refine ro_SN (n := 3) (As := [.int a2, .int (0 : Int32), .int (5 : Int32)]) (rest := []) (c_X10_within l G a2 (0 : Int32) (5 : Int32) q7 r7) C hK (hP.sub [] rfl) hl kcode_X10_within kmln_X4_18 kst_X10_within kini_X10 (by decide +kernel) ⟨⟨rfl, rfl⟩, Nat.le_of_ble_eq_true rfl, Nat.le_of_ble_eq_true rfl⟩ ⟨Nat.zero_le _, Nat.zero_le _⟩ rfl rfl (Nat.le_of_ble_eq_true rfl) dX4_markOf_13 rfl ?_
    refine lv_if_eq (tgt := 23) hx hb dX4_markOf_16 (by decide) (fun c8 => ?_) (fun c8 => ?_)
    · have hf := o_t c8 hf
      exact hj23 ls hf (lv_sub hl [0, 1, 2] rfl)
    · have hf := o_f c8 hf
      refine lv_iconst (v := 1) hx hb dX4_markOf_19 (by decide) ?_
      refine lv_goto (tgt := 24) hx hb dX4_markOf_20 (by decide) ?_
      exact hj24 (1 : Int32) ls hf (lv_sub hl [0, 1, 2] rfl)
abbrev Wc_X4_hasSign (l : Launch) (G : TG) (o : Nat → Nat) (o_marks : Nat → Int32) (o_beds : Int32) (o_isKept : Int32) (a1 : Int32) (a2 : Int32) (R : Int32) (p : Program) (e : Env) (s : State) (m : MethodId) (below : List Frame) (meth : Method) (c : Code) (H : Heap) (locs : List Loc) (g : JFrame) : Prop := W p l e ({ frames := 2, cells := 0, slots := 0, locals := 45 }) s m ([.ref (o 0), .int a1, .int a2] : List Value).toArray below meth c H locs 0 0 (MQ below (roQ (some (.int R))) ([.ref (o 0), .int a1, .int a2] : List Value).toArray s 0 0 (fun _ => False)) g
set_option maxHeartbeats 4000000 in
set_option maxRecDepth 100000 in
theorem c_X4_hasSign (l : Launch) (G : TG) (o : Nat → Nat) (o_marks : Nat → Int32) (o_beds : Int32) (o_isKept : Int32) (a1 : Int32) (a2 : Int32) (R : Int32) (hf : f_X4_hasSign o_marks a1 a2 = some R) : RO l yX4_hasSign cX4_hasSign 3 (some .boolean) ({ frames := 2, cells := 0, slots := 0, locals := 45 }) G [.ref (o 0), .int a1, .int a2] [(oX4 o o_beds o_isKept), (wI G (o 1) 48 o_marks)] (some (.int R)) := by
  refine RO.mk (by decide +kernel) (Nat.le_of_ble_eq_true rfl) ?_
  intro p e s m below meth c ls C hP hK hl
  have hx := C.1
  have hb := C.2.1
  have hown : s.vm.findClass RX4 = some m.cls := C.2.2.2.2.2.1
  have ht := C.2.2.2.2.2.2
  have hl : lv_has ls 3 [(0, .ref (o 0)), (1, .int a1), (2, .int a2)] := hl
  show Wc_X4_hasSign l G o o_marks o_beds o_isKept a1 a2 R p e s m below meth c s.heap [] (F0 m 0 ls [])
  refine lv_aload_n hx hb dX4_hasSign_0 rfl (lv_at hl 0 rfl) ?_
  refine lv_iload_n hx hb dX4_hasSign_1 rfl (lv_at hl 1 rfl) ?_
  refine lv_iconst (v := 1) hx hb dX4_hasSign_2 (by decide) ?_
  obtain ⟨q1, r1, hf⟩ := bd_s hf
  refine ro_V (n := 2) (As := [.int a1, .int (1 : Int32)]) (rest := []) (c_X4_markOf l G o o_marks o_beds o_isKept a1 (1 : Int32) q1 r1) C hK (hP.sub [0, 1] rfl) hl kcode_X4_markOf kml_X4_22 kim_X4_markOf ksel_X4_markOf kini_X4 (by decide +kernel) ⟨⟨rfl, rfl⟩, Nat.le_of_ble_eq_true rfl, Nat.le_of_ble_eq_true rfl⟩ ⟨Nat.zero_le _, Nat.zero_le _⟩ rfl rfl rfl rfl rfl (Nat.le_of_ble_eq_true rfl) dX4_hasSign_3 rfl ?_
  refine lv_iload_n hx hb dX4_hasSign_6 rfl (lv_at hl 2 rfl) ?_
  refine lv_iand hx hb dX4_hasSign_7 ?_
  refine lv_if_eq (tgt := 15) hx hb dX4_hasSign_8 (by decide) (fun c2 => ?_) (fun c2 => ?_)
  · have hf := o_t c2 hf
    refine lv_iconst (v := 0) hx hb dX4_hasSign_15 (by decide) ?_
    have h9 := Option.some.inj hf
    subst h9
    exact ro_zret C (Or.inl rfl) rfl dX4_hasSign_16
  · have hf := o_f c2 hf
    refine lv_iconst (v := 1) hx hb dX4_hasSign_11 (by decide) ?_
    refine lv_goto (tgt := 16) hx hb dX4_hasSign_12 (by decide) ?_
    have h9 := Option.some.inj hf
    subst h9
    exact ro_zret C (Or.inr rfl) rfl dX4_hasSign_16
abbrev Wc_X4_isIcy (l : Launch) (G : TG) (o : Nat → Nat) (o_marks : Nat → Int32) (o_beds : Int32) (o_isKept : Int32) (a1 : Int32) (R : Int32) (p : Program) (e : Env) (s : State) (m : MethodId) (below : List Frame) (meth : Method) (c : Code) (H : Heap) (locs : List Loc) (g : JFrame) : Prop := W p l e ({ frames := 3, cells := 0, slots := 0, locals := 67 }) s m ([.ref (o 0), .int a1] : List Value).toArray below meth c H locs 0 0 (MQ below (roQ (some (.int R))) ([.ref (o 0), .int a1] : List Value).toArray s 0 0 (fun _ => False)) g
set_option maxHeartbeats 4000000 in
set_option maxRecDepth 100000 in
theorem c_X4_isIcy (l : Launch) (G : TG) (o : Nat → Nat) (o_marks : Nat → Int32) (o_beds : Int32) (o_isKept : Int32) (a1 : Int32) (R : Int32) (hf : f_X4_isIcy o_marks a1 = some R) : RO l yX4_isIcy cX4_isIcy 2 (some .boolean) ({ frames := 3, cells := 0, slots := 0, locals := 67 }) G [.ref (o 0), .int a1] [(oX4 o o_beds o_isKept), (wI G (o 1) 48 o_marks)] (some (.int R)) := by
  refine RO.mk (by decide +kernel) (Nat.le_of_ble_eq_true rfl) ?_
  intro p e s m below meth c ls C hP hK hl
  have hx := C.1
  have hb := C.2.1
  have hown : s.vm.findClass RX4 = some m.cls := C.2.2.2.2.2.1
  have ht := C.2.2.2.2.2.2
  have hl : lv_has ls 2 [(0, .ref (o 0)), (1, .int a1)] := hl
  show Wc_X4_isIcy l G o o_marks o_beds o_isKept a1 R p e s m below meth c s.heap [] (F0 m 0 ls [])
  refine lv_aload_n hx hb dX4_isIcy_0 rfl (lv_at hl 0 rfl) ?_
  refine lv_iload_n hx hb dX4_isIcy_1 rfl (lv_at hl 1 rfl) ?_
  refine lv_iconst (v := 3) hx hb dX4_isIcy_2 (by decide) ?_
  obtain ⟨q1, r1, hf⟩ := bd_s hf
  refine ro_V (n := 2) (As := [.int a1, .int (3 : Int32)]) (rest := []) (c_X4_hasSign l G o o_marks o_beds o_isKept a1 (3 : Int32) q1 r1) C hK (hP.sub [0, 1] rfl) hl kcode_X4_hasSign kml_X4_26 kim_X4_hasSign ksel_X4_hasSign kini_X4 (by decide +kernel) ⟨⟨rfl, rfl⟩, Nat.le_of_ble_eq_true rfl, Nat.le_of_ble_eq_true rfl⟩ ⟨Nat.zero_le _, Nat.zero_le _⟩ rfl rfl rfl rfl rfl (Nat.le_of_ble_eq_true rfl) dX4_isIcy_3 rfl ?_
  obtain ⟨z2, hf⟩ := zb_s hf
  have h9 := Option.some.inj hf
  subst h9
  exact ro_zret C z2 rfl dX4_isIcy_6
abbrev Wc_X2_firstCommonRound (l : Launch) (G : TG) (p0 : Nat → Nat) (p0_marks : Nat → Int32) (p0_beds : Int32) (p0_isKept : Int32) (R : Int32) (p : Program) (e : Env) (s : State) (m : MethodId) (below : List Frame) (meth : Method) (c : Code) (H : Heap) (locs : List Loc) (g : JFrame) : Prop := W p l e ({ frames := 4, cells := 0, slots := 0, locals := 88 }) s m ([.ref (p0 0)] : List Value).toArray below meth c H locs 0 0 (MQ below (roQ (some (.int R))) ([.ref (p0 0)] : List Value).toArray s 0 0 (fun _ => False)) g
set_option maxHeartbeats 4000000 in
set_option maxRecDepth 100000 in
theorem c_X2_firstCommonRound (l : Launch) (G : TG) (p0 : Nat → Nat) (p0_marks : Nat → Int32) (p0_beds : Int32) (p0_isKept : Int32) (R : Int32) (hf : f_X2_firstCommonRound p0_marks p0_beds = some R) : RO l yX2_firstCommonRound cX2_firstCommonRound 4 (some .int) ({ frames := 4, cells := 0, slots := 0, locals := 88 }) G [.ref (p0 0)] [(oX4 p0 p0_beds p0_isKept), (wI G (p0 1) 48 p0_marks)] (some (.int R)) := by
  refine RO.mk (by decide +kernel) (Nat.le_of_ble_eq_true rfl) ?_
  intro p e s m below meth c ls C hP hK hl
  have hx := C.1
  have hb := C.2.1
  have hown : s.vm.findClass RX2 = some m.cls := C.2.2.2.2.2.1
  have ht := C.2.2.2.2.2.2
  have hl : lv_has ls 4 [(0, .ref (p0 0))] := hl
  show Wc_X2_firstCommonRound l G p0 p0_marks p0_beds p0_isKept R p e s m below meth c s.heap [] (F0 m 0 ls [])
  refine lv_bipush (v := -9) hx hb dX2_firstCommonRound_0 (by decide) ?_
  refine lv_istore_n (lv' := [(1, .int (-9 : Int32)), (0, .ref (p0 0))]) hx hb dX2_firstCommonRound_2 rfl hl (by decide) rfl (fun ls hl => ?_)
  refine lv_bipush (v := 100) hx hb dX2_firstCommonRound_3 (by decide) ?_
  refine lv_istore_n (lv' := [(2, .int (100 : Int32)), (1, .int (-9 : Int32)), (0, .ref (p0 0))]) hx hb dX2_firstCommonRound_5 rfl hl (by decide) rfl (fun ls hl => ?_)
  refine lv_iconst (v := 0) hx hb dX2_firstCommonRound_6 (by decide) ?_
  refine lv_istore_n (lv' := [(3, .int (0 : Int32)), (2, .int (100 : Int32)), (1, .int (-9 : Int32)), (0, .ref (p0 0))]) hx hb dX2_firstCommonRound_7 rfl hl (by decide) rfl (fun ls hl => ?_)
  have hx52_1 : ∀ (v1 : Int32) (v2 : Int32) (ls : Array Slot), f_X2_firstCommonRound_x52_1 v1 v2 = some R → lv_has ls 4 [(1, .int v1), (2, .int v2)] → Wc_X2_firstCommonRound l G p0 p0_marks p0_beds p0_isKept R p e s m below meth c s.heap [] (F0 m 52 ls []) := by
    intro v1 v2 ls hf hl
    refine lv_iload_n hx hb dX2_firstCommonRound_52 rfl (lv_at hl 0 rfl) ?_
    refine lv_iload_n hx hb dX2_firstCommonRound_53 rfl (lv_at hl 1 rfl) ?_
    refine lv_icmp_gt (tgt := 61) hx hb dX2_firstCommonRound_54 (by decide) (fun c2 => ?_) (fun c2 => ?_)
    · have hf := o_t c2 hf
      refine lv_bipush (v := -9) hx hb dX2_firstCommonRound_61 (by decide) ?_
      have h9 := Option.some.inj hf
      subst h9
      exact ro_iret C rfl dX2_firstCommonRound_63
    · have hf := o_f c2 hf
      refine lv_iload_n hx hb dX2_firstCommonRound_57 rfl (lv_at hl 0 rfl) ?_
      refine lv_goto (tgt := 63) hx hb dX2_firstCommonRound_58 (by decide) ?_
      have h9 := Option.some.inj hf
      subst h9
      exact ro_iret C rfl dX2_firstCommonRound_63
  obtain ⟨rL1, hL1, hk1⟩ := bd_s hf
  refine lp_W (P := fun st => ∀ (ls : Array Slot), lv_has ls 4 [(0, .ref (p0 0)), (1, .int st.1), (2, .int st.2.1), (3, .int st.2.2)] → Wc_X2_firstCommonRound l G p0 p0_marks p0_beds p0_isKept R p e s m below meth c s.heap [] (F0 m 8 ls [])) ?_ FU ((-9 : Int32), (100 : Int32), (0 : Int32)) hL1 ls (lv_sub hl [3, 2, 1, 0] rfl)
  intro ⟨v1, v2, v3⟩ oc1 hf hI hE ls hl
  have hl : lv_has ls 4 [(0, .ref (p0 0)), (1, .int v1), (2, .int v2), (3, .int v3)] := hl
  have hf : f_X2_firstCommonRound_b8 p0_marks p0_beds v1 v2 v3 = some oc1 := hf
  refine lv_iload_n hx hb dX2_firstCommonRound_8 rfl (lv_at hl 3 rfl) ?_
  refine lv_aload_n hx hb dX2_firstCommonRound_9 rfl (lv_at hl 0 rfl) ?_
  refine va_get (D := G.1) (ci := 4) (v := .int p0_beds) (C := RX4) (T := TX4) (N := 4) hx hb ht twX4 hown hK.1 hP 0 rfl rfl 2 (by decide) (ht _ kfl_X2_17) (fun _ h9 => h9) rfl dX2_firstCommonRound_10 ?_
  refine lv_icmp_ge (tgt := 52) hx hb dX2_firstCommonRound_13 (by decide) (fun c5 => ?_) (fun c5 => ?_)
  · have hf := o_t c5 hf
    cases hf
    have hf : f_X2_firstCommonRound_x52_1 v1 v2 = some R := by have h9 := hk1; rw [← hE _ rfl] at h9; exact h9
    exact hx52_1 v1 v2 ls hf (lv_sub hl [1, 2] rfl)
  · have hf := o_f c5 hf
    refine lv_aload_n hx hb dX2_firstCommonRound_16 rfl (lv_at hl 0 rfl) ?_
    refine lv_iload_n hx hb dX2_firstCommonRound_17 rfl (lv_at hl 3 rfl) ?_
    obtain ⟨q6, r6, hf⟩ := bd_s hf
    refine ro_V (n := 1) (As := [.int v3]) (rest := []) (c_X4_isIcy l G p0 p0_marks p0_beds p0_isKept v3 q6 r6) C hK (hP.sub [0, 1] rfl) hl kcode_X4_isIcy kml_X2_21 kim_X4_isIcy ksel_X4_isIcy kini_X4 (by decide +kernel) ⟨⟨rfl, rfl⟩, Nat.le_of_ble_eq_true rfl, Nat.le_of_ble_eq_true rfl⟩ ⟨Nat.zero_le _, Nat.zero_le _⟩ rfl rfl rfl rfl rfl (Nat.le_of_ble_eq_true rfl) dX2_firstCommonRound_18 rfl ?_
    refine lv_if_eq (tgt := 46) hx hb dX2_firstCommonRound_21 (by decide) (fun c7 => ?_) (fun c7 => ?_)
    · have hf := o_t c7 hf
      refine lv_iinc (v := (v3 + (1 : Int32))) (lv' := [(3, .int (v3 + (1 : Int32))), (0, .ref (p0 0)), (1, .int v1), (2, .int v2)]) hx hb dX2_firstCommonRound_46 hl (k := 3) rfl (by rfl) (by decide) rfl (fun ls hl => ?_)
      refine lv_goto (tgt := 8) hx hb dX2_firstCommonRound_49 (by decide) ?_
      cases hf
      exact hI _ rfl ls (lv_sub hl [1, 2, 3, 0] rfl)
    · have hf := o_f c7 hf
      refine lv_iload_n hx hb dX2_firstCommonRound_24 rfl (lv_at hl 1 rfl) ?_
      refine lv_aload_n hx hb dX2_firstCommonRound_25 rfl (lv_at hl 0 rfl) ?_
      refine lv_iload_n hx hb dX2_firstCommonRound_26 rfl (lv_at hl 3 rfl) ?_
      refine lv_iconst (v := 2) hx hb dX2_firstCommonRound_27 (by decide) ?_
      obtain ⟨q8, r8, hf⟩ := bd_s hf
      refine ro_V (n := 2) (As := [.int v3, .int (2 : Int32)]) (rest := [.int v1]) (c_X4_markOf l G p0 p0_marks p0_beds p0_isKept v3 (2 : Int32) q8 r8) C hK (hP.sub [0, 1] rfl) hl kcode_X4_markOf kml_X2_25 kim_X4_markOf ksel_X4_markOf kini_X4 (by decide +kernel) ⟨⟨rfl, rfl⟩, Nat.le_of_ble_eq_true rfl, Nat.le_of_ble_eq_true rfl⟩ ⟨Nat.zero_le _, Nat.zero_le _⟩ rfl rfl rfl rfl rfl (Nat.le_of_ble_eq_true rfl) dX2_firstCommonRound_28 rfl ?_
      refine va_mmax hx hb (C.2.2.1.trans hl.1.symm) hown (ht _ kml_X2_29) (ht _ kst_J9_max_7cf53) (ht _ kini_J9) (ht _ kcode_J9_max_7cf53) (Nat.le_of_ble_eq_true rfl) (Nat.le_of_ble_eq_true rfl) (Nat.zero_le _) (Nat.zero_le _) dX2_firstCommonRound_31 ?_
      refine lv_istore_n (lv' := [(1, .int (if v1 < q8 then q8 else v1)), (0, .ref (p0 0)), (2, .int v2), (3, .int v3)]) hx hb dX2_firstCommonRound_34 rfl hl (by decide) rfl (fun ls hl => ?_)
      refine lv_iload_n hx hb dX2_firstCommonRound_35 rfl (lv_at hl 2 rfl) ?_
      refine lv_aload_n hx hb dX2_firstCommonRound_36 rfl (lv_at hl 1 rfl) ?_
      refine lv_iload_n hx hb dX2_firstCommonRound_37 rfl (lv_at hl 3 rfl) ?_
      refine lv_iconst (v := 3) hx hb dX2_firstCommonRound_38 (by decide) ?_
      obtain ⟨q9, r9, hf⟩ := bd_s hf
      refine ro_V (n := 2) (As := [.int v3, .int (3 : Int32)]) (rest := [.int v2]) (c_X4_markOf l G p0 p0_marks p0_beds p0_isKept v3 (3 : Int32) q9 r9) C hK (hP.sub [0, 1] rfl) hl kcode_X4_markOf kml_X2_25 kim_X4_markOf ksel_X4_markOf kini_X4 (by decide +kernel) ⟨⟨rfl, rfl⟩, Nat.le_of_ble_eq_true rfl, Nat.le_of_ble_eq_true rfl⟩ ⟨Nat.zero_le _, Nat.zero_le _⟩ rfl rfl rfl rfl rfl (Nat.le_of_ble_eq_true rfl) dX2_firstCommonRound_39 rfl ?_
      refine va_mmin hx hb (C.2.2.1.trans hl.1.symm) hown (ht _ kml_X2_34) (ht _ kst_J9_min_7cf53) (ht _ kini_J9) (ht _ kcode_J9_min_7cf53) (Nat.le_of_ble_eq_true rfl) (Nat.le_of_ble_eq_true rfl) (Nat.zero_le _) (Nat.zero_le _) dX2_firstCommonRound_42 ?_
      refine lv_istore_n (lv' := [(2, .int (if q9 < v2 then q9 else v2)), (1, .int (if v1 < q8 then q8 else v1)), (0, .ref (p0 0)), (3, .int v3)]) hx hb dX2_firstCommonRound_45 rfl hl (by decide) rfl (fun ls hl => ?_)
      refine lv_iinc (v := (v3 + (1 : Int32))) (lv' := [(3, .int (v3 + (1 : Int32))), (2, .int (if q9 < v2 then q9 else v2)), (1, .int (if v1 < q8 then q8 else v1)), (0, .ref (p0 0))]) hx hb dX2_firstCommonRound_46 hl (k := 3) rfl (by rfl) (by decide) rfl (fun ls hl => ?_)
      refine lv_goto (tgt := 8) hx hb dX2_firstCommonRound_49 (by decide) ?_
      cases hf
      exact hI _ rfl ls (lv_sub hl [3, 2, 1, 0] rfl)
abbrev Wc_X2_firstEndBehind (l : Launch) (G : TG) (p0 : Nat → Nat) (p0_marks : Nat → Int32) (p0_beds : Int32) (p0_isKept : Int32) (a1 : Int32) (R : Int32) (p : Program) (e : Env) (s : State) (m : MethodId) (below : List Frame) (meth : Method) (c : Code) (H : Heap) (locs : List Loc) (g : JFrame) : Prop := W p l e ({ frames := 4, cells := 0, slots := 0, locals := 88 }) s m ([.ref (p0 0), .int a1] : List Value).toArray below meth c H locs 0 0 (MQ below (roQ (some (.int R))) ([.ref (p0 0), .int a1] : List Value).toArray s 0 0 (fun _ => False)) g
set_option maxHeartbeats 4000000 in
set_option maxRecDepth 100000 in
theorem c_X2_firstEndBehind (l : Launch) (G : TG) (p0 : Nat → Nat) (p0_marks : Nat → Int32) (p0_beds : Int32) (p0_isKept : Int32) (a1 : Int32) (R : Int32) (hf : f_X2_firstEndBehind p0_marks p0_beds a1 = some R) : RO l yX2_firstEndBehind cX2_firstEndBehind 6 (some .int) ({ frames := 4, cells := 0, slots := 0, locals := 88 }) G [.ref (p0 0), .int a1] [(oX4 p0 p0_beds p0_isKept), (wI G (p0 1) 48 p0_marks)] (some (.int R)) := by
  refine RO.mk (by decide +kernel) (Nat.le_of_ble_eq_true rfl) ?_
  intro p e s m below meth c ls C hP hK hl
  have hx := C.1
  have hb := C.2.1
  have hown : s.vm.findClass RX2 = some m.cls := C.2.2.2.2.2.1
  have ht := C.2.2.2.2.2.2
  have hl : lv_has ls 6 [(0, .ref (p0 0)), (1, .int a1)] := hl
  show Wc_X2_firstEndBehind l G p0 p0_marks p0_beds p0_isKept a1 R p e s m below meth c s.heap [] (F0 m 0 ls [])
  refine lv_bipush (v := -9) hx hb dX2_firstEndBehind_0 (by decide) ?_
  refine lv_istore_n (lv' := [(2, .int (-9 : Int32)), (0, .ref (p0 0)), (1, .int a1)]) hx hb dX2_firstEndBehind_2 rfl hl (by decide) rfl (fun ls hl => ?_)
  refine lv_iconst (v := 0) hx hb dX2_firstEndBehind_3 (by decide) ?_
  refine lv_istore_n (lv' := [(3, .int (0 : Int32)), (2, .int (-9 : Int32)), (0, .ref (p0 0)), (1, .int a1)]) hx hb dX2_firstEndBehind_4 rfl hl (by decide) rfl (fun ls hl => ?_)
  have hx72_1 : ∀ (v2 : Int32) (ls : Array Slot), f_X2_firstEndBehind_x72_1 v2 = some R → lv_has ls 6 [(2, .int v2)] → Wc_X2_firstEndBehind l G p0 p0_marks p0_beds p0_isKept a1 R p e s m below meth c s.heap [] (F0 m 72 ls []) := by
    intro v2 ls hf hl
    refine lv_iload_n hx hb dX2_firstEndBehind_72 rfl (lv_at hl 0 rfl) ?_
    have h9 := Option.some.inj hf
    subst h9
    exact ro_iret C rfl dX2_firstEndBehind_73
  obtain ⟨rL1, hL1, hk1⟩ := bd_s hf
  refine lp_W (P := fun st => ∀ (ls : Array Slot), lv_has ls 6 [(0, .ref (p0 0)), (1, .int a1), (2, .int st.1), (3, .int st.2)] → Wc_X2_firstEndBehind l G p0 p0_marks p0_beds p0_isKept a1 R p e s m below meth c s.heap [] (F0 m 5 ls [])) ?_ FU ((-9 : Int32), (0 : Int32)) hL1 ls (lv_sub hl [2, 3, 1, 0] rfl)
  intro ⟨v2, v3⟩ oc1 hf hI hE ls hl
  have hl : lv_has ls 6 [(0, .ref (p0 0)), (1, .int a1), (2, .int v2), (3, .int v3)] := hl
  have hf : f_X2_firstEndBehind_b5 p0_marks p0_beds a1 v2 v3 = some oc1 := hf
  have hj44 : ∀ (v2 : Int32) (v3 : Int32) (v4 : Int32) (k0 : Int32) (ls : Array Slot), f_X2_firstEndBehind_j44 v2 v3 v4 k0 = some oc1 → lv_has ls 6 [(0, .ref (p0 0)), (1, .int a1), (2, .int v2), (3, .int v3), (4, .int v4)] → Wc_X2_firstEndBehind l G p0 p0_marks p0_beds p0_isKept a1 R p e s m below meth c s.heap [] (F0 m 44 ls [.int k0]) := by
    intro v2 v3 v4 k0 ls hf hl
    refine lv_istore (lv' := [(5, .int k0), (0, .ref (p0 0)), (1, .int a1), (2, .int v2), (3, .int v3), (4, .int v4)]) hx hb dX2_firstEndBehind_44 hl (by decide) rfl (fun ls hl => ?_)
    refine lv_iload hx hb dX2_firstEndBehind_46 (lv_at hl 0 rfl) ?_
    refine lv_if_eq (tgt := 66) hx hb dX2_firstEndBehind_48 (by decide) (fun c3 => ?_) (fun c3 => ?_)
    · have hf := o_t c3 hf
      refine lv_iinc (v := (v3 + (1 : Int32))) (lv' := [(3, .int (v3 + (1 : Int32))), (5, .int k0), (0, .ref (p0 0)), (1, .int a1), (2, .int v2), (4, .int v4)]) hx hb dX2_firstEndBehind_66 hl (k := 4) rfl (by rfl) (by decide) rfl (fun ls hl => ?_)
      refine lv_goto (tgt := 5) hx hb dX2_firstEndBehind_69 (by decide) ?_
      cases hf
      exact hI _ rfl ls (lv_sub hl [2, 3, 4, 0] rfl)
    · have hf := o_f c3 hf
      refine lv_iload_n hx hb dX2_firstEndBehind_51 rfl (lv_at hl 3 rfl) ?_
      refine lv_bipush (v := -9) hx hb dX2_firstEndBehind_52 (by decide) ?_
      refine lv_icmp_eq (tgt := 63) hx hb dX2_firstEndBehind_54 (by decide) (fun c4 => ?_) (fun c4 => ?_)
      · have hf := o_t c4 hf
        refine lv_iload hx hb dX2_firstEndBehind_63 (lv_at hl 5 rfl) ?_
        refine lv_istore_n (lv' := [(2, .int v4), (5, .int k0), (0, .ref (p0 0)), (1, .int a1), (3, .int v3), (4, .int v4)]) hx hb dX2_firstEndBehind_65 rfl hl (by decide) rfl (fun ls hl => ?_)
        refine lv_iinc (v := (v3 + (1 : Int32))) (lv' := [(3, .int (v3 + (1 : Int32))), (2, .int v4), (5, .int k0), (0, .ref (p0 0)), (1, .int a1), (4, .int v4)]) hx hb dX2_firstEndBehind_66 hl (k := 4) rfl (by rfl) (by decide) rfl (fun ls hl => ?_)
        refine lv_goto (tgt := 5) hx hb dX2_firstEndBehind_69 (by decide) ?_
        cases hf
        exact hI _ rfl ls (lv_sub hl [3, 4, 1, 0] rfl)
      · have hf := o_f c4 hf
        refine lv_iload hx hb dX2_firstEndBehind_57 (lv_at hl 5 rfl) ?_
        refine lv_iload_n hx hb dX2_firstEndBehind_59 rfl (lv_at hl 3 rfl) ?_
        refine lv_icmp_ge (tgt := 66) hx hb dX2_firstEndBehind_60 (by decide) (fun c5 => ?_) (fun c5 => ?_)
        · have hf := o_t c5 hf
          refine lv_iinc (v := (v3 + (1 : Int32))) (lv' := [(3, .int (v3 + (1 : Int32))), (5, .int k0), (0, .ref (p0 0)), (1, .int a1), (2, .int v2), (4, .int v4)]) hx hb dX2_firstEndBehind_66 hl (k := 4) rfl (by rfl) (by decide) rfl (fun ls hl => ?_)
          refine lv_goto (tgt := 5) hx hb dX2_firstEndBehind_69 (by decide) ?_
          cases hf
          exact hI _ rfl ls (lv_sub hl [2, 3, 4, 0] rfl)
        · have hf := o_f c5 hf
          refine lv_iload hx hb dX2_firstEndBehind_63 (lv_at hl 5 rfl) ?_
          refine lv_istore_n (lv' := [(2, .int v4), (5, .int k0), (0, .ref (p0 0)), (1, .int a1), (3, .int v3), (4, .int v4)]) hx hb dX2_firstEndBehind_65 rfl hl (by decide) rfl (fun ls hl => ?_)
          refine lv_iinc (v := (v3 + (1 : Int32))) (lv' := [(3, .int (v3 + (1 : Int32))), (2, .int v4), (5, .int k0), (0, .ref (p0 0)), (1, .int a1), (4, .int v4)]) hx hb dX2_firstEndBehind_66 hl (k := 4) rfl (by rfl) (by decide) rfl (fun ls hl => ?_)
          refine lv_goto (tgt := 5) hx hb dX2_firstEndBehind_69 (by decide) ?_
          cases hf
          exact hI _ rfl ls (lv_sub hl [3, 4, 1, 0] rfl)
  have hj43 : ∀ (v2 : Int32) (v3 : Int32) (v4 : Int32) (ls : Array Slot), f_X2_firstEndBehind_j43 v2 v3 v4 = some oc1 → lv_has ls 6 [(0, .ref (p0 0)), (1, .int a1), (2, .int v2), (3, .int v3), (4, .int v4)] → Wc_X2_firstEndBehind l G p0 p0_marks p0_beds p0_isKept a1 R p e s m below meth c s.heap [] (F0 m 43 ls []) := by
    intro v2 v3 v4 ls hf hl
    refine lv_iconst (v := 0) hx hb dX2_firstEndBehind_43 (by decide) ?_
    exact hj44 v2 v3 v4 (0 : Int32) ls hf (lv_sub hl [0, 1, 2, 3, 4] rfl)
  refine lv_iload_n hx hb dX2_firstEndBehind_5 rfl (lv_at hl 3 rfl) ?_
  refine lv_aload_n hx hb dX2_firstEndBehind_6 rfl (lv_at hl 0 rfl) ?_
  refine va_get (D := G.1) (ci := 4) (v := .int p0_beds) (C := RX4) (T := TX4) (N := 4) hx hb ht twX4 hown hK.1 hP 0 rfl rfl 2 (by decide) (ht _ kfl_X2_17) (fun _ h9 => h9) rfl dX2_firstEndBehind_7 ?_
  refine lv_icmp_ge (tgt := 72) hx hb dX2_firstEndBehind_10 (by decide) (fun c6 => ?_) (fun c6 => ?_)
  · have hf := o_t c6 hf
    cases hf
    have hf : f_X2_firstEndBehind_x72_1 v2 = some R := by have h9 := hk1; rw [← hE _ rfl] at h9; exact h9
    exact hx72_1 v2 ls hf (lv_sub hl [2] rfl)
  · have hf := o_f c6 hf
    refine lv_aload_n hx hb dX2_firstEndBehind_13 rfl (lv_at hl 0 rfl) ?_
    refine lv_iload_n hx hb dX2_firstEndBehind_14 rfl (lv_at hl 3 rfl) ?_
    refine lv_iconst (v := 3) hx hb dX2_firstEndBehind_15 (by decide) ?_
    obtain ⟨q7, r7, hf⟩ := bd_s hf
    refine ro_V (n := 2) (As := [.int v3, .int (3 : Int32)]) (rest := []) (c_X4_markOf l G p0 p0_marks p0_beds p0_isKept v3 (3 : Int32) q7 r7) C hK (hP.sub [0, 1] rfl) hl kcode_X4_markOf kml_X2_25 kim_X4_markOf ksel_X4_markOf kini_X4 (by decide +kernel) ⟨⟨rfl, rfl⟩, Nat.le_of_ble_eq_true rfl, Nat.le_of_ble_eq_true rfl⟩ ⟨Nat.zero_le _, Nat.zero_le _⟩ rfl rfl rfl rfl rfl (Nat.le_of_ble_eq_true rfl) dX2_firstEndBehind_16 rfl ?_
    refine lv_istore (lv' := [(4, .int q7), (0, .ref (p0 0)), (1, .int a1), (2, .int v2), (3, .int v3)]) hx hb dX2_firstEndBehind_19 hl (by decide) rfl (fun ls hl => ?_)
    refine lv_aload_n hx hb dX2_firstEndBehind_21 rfl (lv_at hl 1 rfl) ?_
    refine lv_iload_n hx hb dX2_firstEndBehind_22 rfl (lv_at hl 4 rfl) ?_
    obtain ⟨q8, r8, hf⟩ := bd_s hf
    refine ro_V (n := 1) (As := [.int v3]) (rest := []) (c_X4_isIcy l G p0 p0_marks p0_beds p0_isKept v3 q8 r8) C hK (hP.sub [0, 1] rfl) hl kcode_X4_isIcy kml_X2_21 kim_X4_isIcy ksel_X4_isIcy kini_X4 (by decide +kernel) ⟨⟨rfl, rfl⟩, Nat.le_of_ble_eq_true rfl, Nat.le_of_ble_eq_true rfl⟩ ⟨Nat.zero_le _, Nat.zero_le _⟩ rfl rfl rfl rfl rfl (Nat.le_of_ble_eq_true rfl) dX2_firstEndBehind_23 rfl ?_
    refine lv_if_eq (tgt := 43) hx hb dX2_firstEndBehind_26 (by decide) (fun c9 => ?_) (fun c9 => ?_)
    · have hf := o_t c9 hf
      exact hj43 v2 v3 q7 ls hf (lv_sub hl [1, 2, 3, 4, 0] rfl)
    · have hf := o_f c9 hf
      refine lv_aload_n hx hb dX2_firstEndBehind_29 rfl (lv_at hl 1 rfl) ?_
      refine lv_iload_n hx hb dX2_firstEndBehind_30 rfl (lv_at hl 4 rfl) ?_
      refine lv_iconst (v := 2) hx hb dX2_firstEndBehind_31 (by decide) ?_
      obtain ⟨q10, r10, hf⟩ := bd_s hf
      refine ro_V (n := 2) (As := [.int v3, .int (2 : Int32)]) (rest := []) (c_X4_markOf l G p0 p0_marks p0_beds p0_isKept v3 (2 : Int32) q10 r10) C hK (hP.sub [0, 1] rfl) hl kcode_X4_markOf kml_X2_25 kim_X4_markOf ksel_X4_markOf kini_X4 (by decide +kernel) ⟨⟨rfl, rfl⟩, Nat.le_of_ble_eq_true rfl, Nat.le_of_ble_eq_true rfl⟩ ⟨Nat.zero_le _, Nat.zero_le _⟩ rfl rfl rfl rfl rfl (Nat.le_of_ble_eq_true rfl) dX2_firstEndBehind_32 rfl ?_
      refine lv_iload_n hx hb dX2_firstEndBehind_35 rfl (lv_at hl 2 rfl) ?_
      refine lv_icmp_le (tgt := 43) hx hb dX2_firstEndBehind_36 (by decide) (fun c11 => ?_) (fun c11 => ?_)
      · have hf := o_t c11 hf
        exact hj43 v2 v3 q7 ls hf (lv_sub hl [1, 2, 3, 4, 0] rfl)
      · have hf := o_f c11 hf
        refine lv_iconst (v := 1) hx hb dX2_firstEndBehind_39 (by decide) ?_
        refine lv_goto (tgt := 44) hx hb dX2_firstEndBehind_40 (by decide) ?_
        exact hj44 v2 v3 q7 (1 : Int32) ls hf (lv_sub hl [1, 2, 3, 4, 0] rfl)
abbrev Wc_X2_part (l : Launch) (G : TG) (o : Nat → Nat) (p1 : Nat → Nat) (o_rounds : Nat → Int32) (o_found : Int32) (p1_marks : Nat → Int32) (p1_beds : Int32) (p1_isKept : Int32) (R : (Nat → Int32) × Int32) (p : Program) (e : Env) (s : State) (m : MethodId) (below : List Frame) (meth : Method) (c : Code) (A : Nat → Prop) (H : Heap) (locs : List Loc) (g : JFrame) : Prop := W p l e ({ frames := 5, cells := 0, slots := 0, locals := 113 }) s m ([.ref (o 0), .ref (p1 0)] : List Value).toArray below meth c H locs 0 0 (MQ below (rwQ G none [(oX2 o R.2), (wI G (o 1) 8 R.1), (oX4 p1 p1_beds p1_isKept), (wI G (p1 1) 48 p1_marks)] A) ([.ref (o 0), .ref (p1 0)] : List Value).toArray s 0 0 A) g
set_option maxHeartbeats 4000000 in
set_option maxRecDepth 100000 in
theorem c_X2_part (l : Launch) (G : TG) (o : Nat → Nat) (p1 : Nat → Nat) (o_rounds : Nat → Int32) (o_found : Int32) (p1_marks : Nat → Int32) (p1_beds : Int32) (p1_isKept : Int32) (R : (Nat → Int32) × Int32) (hf : f_X2_part o_rounds p1_marks p1_beds = some R) : RW l yX2_part cX2_part 5 none ({ frames := 5, cells := 0, slots := 0, locals := 113 }) G [.ref (o 0), .ref (p1 0)] [(oX2 o o_found), (wI G (o 1) 8 o_rounds), (oX4 p1 p1_beds p1_isKept), (wI G (p1 1) 48 p1_marks)] none [(oX2 o R.2), (wI G (o 1) 8 R.1), (oX4 p1 p1_beds p1_isKept), (wI G (p1 1) 48 p1_marks)] := by
  refine RW.mk (by decide +kernel) (Nat.le_of_ble_eq_true rfl) ?_
  intro p e s m below meth c ls A C hP hD hA hz hK hl hS
  have hx := C.1
  have hb := C.2.1
  have hown : s.vm.findClass RX2 = some m.cls := C.2.2.2.2.2.1
  have ht := C.2.2.2.2.2.2
  have hl : lv_has ls 5 [(0, .ref (o 0)), (1, .ref (p1 0))] := hl
  show Wc_X2_part l G o p1 o_rounds o_found p1_marks p1_beds p1_isKept R p e s m below meth c A s.heap [] (F0 m 0 ls [])
  obtain ⟨H, eH, hP, hS⟩ : ∃ H, H = s.heap ∧ va_P G.1 vwCl [(oX2 o o_found), (wI G (o 1) 8 o_rounds), (oX4 p1 p1_beds p1_isKept), (wI G (p1 1) 48 p1_marks)] H ∧ va_S A s.heap H [] := ⟨_, rfl, hP, hS⟩
  obtain ⟨locs, el, hS⟩ : ∃ locs : List Loc, locs = [] ∧ va_S A s.heap H locs := ⟨_, rfl, hS⟩
  have key : Wc_X2_part l G o p1 o_rounds o_found p1_marks p1_beds p1_isKept R p e s m below meth c A H locs (F0 m 0 ls []) := by
    refine lv_aload_n hx hb dX2_part_0 rfl (lv_at hl 0 rfl) ?_
    refine lv_iconst (v := 0) hx hb dX2_part_1 (by decide) ?_
    refine va_put (D := G.1) (ci := 2) (v := .int (0 : Int32)) (ty := .int) (C := RX2) (T := TX2) (N := 2) hx hb ht twX2 tyX2 tyX2_ok nmX2 hown hK.1 hP hD hS 0 rfl rfl 1 (by decide) (ht _ kfl_X2_37) (fun _ h9 => h9) rfl (by decide +kernel) rfl rfl (Nat.le_of_ble_eq_true rfl) dX2_part_2 (fun H locs hP hD hS => ?_)
    have hP : va_P G.1 vwCl [(oX2 o (0 : Int32)), (wI G (o 1) 8 o_rounds), (oX4 p1 p1_beds p1_isKept), (wI G (p1 1) 48 p1_marks)] H := hP
    have hD : va_D A [(oX2 o (0 : Int32)), (wI G (o 1) 8 o_rounds), (oX4 p1 p1_beds p1_isKept), (wI G (p1 1) 48 p1_marks)] := hD
    refine lv_iconst (v := -1) hx hb dX2_part_5 (by decide) ?_
    refine lv_istore_n (lv' := [(2, .int (-1 : Int32)), (0, .ref (o 0)), (1, .ref (p1 0))]) hx hb dX2_part_6 rfl hl (by decide) rfl (fun ls hl => ?_)
    refine lv_iconst (v := 0) hx hb dX2_part_7 (by decide) ?_
    refine lv_istore_n (lv' := [(3, .int (0 : Int32)), (2, .int (-1 : Int32)), (0, .ref (o 0)), (1, .ref (p1 0))]) hx hb dX2_part_8 rfl hl (by decide) rfl (fun ls hl => ?_)
    have hx62_1 : ∀ (o_rounds : Nat → Int32) (o_found : Int32) (H : Heap) (locs : List Loc) (ls : Array Slot), f_X2_part_x62_1 o_rounds o_found = some R → va_P G.1 vwCl [(oX2 o o_found), (wI G (o 1) 8 o_rounds), (oX4 p1 p1_beds p1_isKept), (wI G (p1 1) 48 p1_marks)] H → va_D A [(oX2 o o_found), (wI G (o 1) 8 o_rounds), (oX4 p1 p1_beds p1_isKept), (wI G (p1 1) 48 p1_marks)] → va_S A s.heap H locs → lv_has ls 5 [] → Wc_X2_part l G o p1 o_rounds o_found p1_marks p1_beds p1_isKept R p e s m below meth c A H locs (F0 m 62 ls []) := by
      intro o_rounds o_found H locs ls hf hP hD hS hl
      have h9 := Option.some.inj hf
      subst h9
      exact rw_vret C hP hD hS dX2_part_62
    obtain ⟨rL1, hL1, hk1⟩ := bd_s hf
    refine lp_W (P := fun st => ∀ (H : Heap) (locs : List Loc) (ls : Array Slot), va_P G.1 vwCl [(oX2 o st.2.2.2), (wI G (o 1) 8 st.2.2.1), (oX4 p1 p1_beds p1_isKept), (wI G (p1 1) 48 p1_marks)] H → va_D A [(oX2 o st.2.2.2), (wI G (o 1) 8 st.2.2.1), (oX4 p1 p1_beds p1_isKept), (wI G (p1 1) 48 p1_marks)] → va_S A s.heap H locs → lv_has ls 5 [(0, .ref (o 0)), (1, .ref (p1 0)), (2, .int st.1), (3, .int st.2.1)] → Wc_X2_part l G o p1 o_rounds o_found p1_marks p1_beds p1_isKept R p e s m below meth c A H locs (F0 m 9 ls [])) ?_ FU ((-1 : Int32), (0 : Int32), o_rounds, (0 : Int32)) hL1 H locs ls hP hD hS (lv_sub hl [2, 3, 1, 0] rfl)
    intro ⟨v2, v3, o_rounds, o_found⟩ oc1 hf hI hE H locs ls hP hD hS hl
    have hP : va_P G.1 vwCl [(oX2 o o_found), (wI G (o 1) 8 o_rounds), (oX4 p1 p1_beds p1_isKept), (wI G (p1 1) 48 p1_marks)] H := hP
    have hD : va_D A [(oX2 o o_found), (wI G (o 1) 8 o_rounds), (oX4 p1 p1_beds p1_isKept), (wI G (p1 1) 48 p1_marks)] := hD
    have hl : lv_has ls 5 [(0, .ref (o 0)), (1, .ref (p1 0)), (2, .int v2), (3, .int v3)] := hl
    have hf : f_X2_part_b9 p1_marks p1_beds v2 v3 o_rounds o_found = some oc1 := hf
    refine lv_iload_n hx hb dX2_part_9 rfl (lv_at hl 3 rfl) ?_
    refine lv_bipush (v := 8) hx hb dX2_part_10 (by decide) ?_
    refine lv_icmp_ge (tgt := 62) hx hb dX2_part_12 (by decide) (fun c3 => ?_) (fun c3 => ?_)
    · have hf := o_t c3 hf
      cases hf
      have hf : f_X2_part_x62_1 o_rounds o_found = some R := by have h9 := hk1; rw [← hE _ rfl] at h9; exact h9
      exact hx62_1 o_rounds o_found H locs ls hf hP hD hS (lv_sub hl [] rfl)
    · have hf := o_f c3 hf
      refine lv_aload_n hx hb dX2_part_15 rfl (lv_at hl 1 rfl) ?_
      refine lv_iload_n hx hb dX2_part_16 rfl (lv_at hl 2 rfl) ?_
      obtain ⟨q4, r4, hf⟩ := bd_s hf
      refine ro_S (n := 2) (As := [.ref (p1 0), .int v2]) (rest := []) (c_X2_firstEndBehind l G p1 p1_marks p1_beds p1_isKept v2 q4 r4) C (hK.at hS hz) (hP.sub [2, 3] rfl) hl kcode_X2_firstEndBehind kml_X2_40 kst_X2_firstEndBehind kini_X2 (by decide +kernel) ⟨⟨rfl, rfl⟩, Nat.le_of_ble_eq_true rfl, Nat.le_of_ble_eq_true rfl⟩ ⟨Nat.zero_le _, Nat.zero_le _⟩ rfl rfl (Nat.le_of_ble_eq_true rfl) dX2_part_17 rfl ?_
      refine lv_istore (lv' := [(4, .int q4), (0, .ref (o 0)), (1, .ref (p1 0)), (2, .int v2), (3, .int v3)]) hx hb dX2_part_20 hl (by decide) rfl (fun ls hl => ?_)
      refine lv_iload hx hb dX2_part_22 (lv_at hl 0 rfl) ?_
      refine lv_bipush (v := -9) hx hb dX2_part_24 (by decide) ?_
      refine lv_icmp_ne (tgt := 32) hx hb dX2_part_26 (by decide) (fun c5 => ?_) (fun c5 => ?_)
      · have hf := o_f c5 hf
        refine lv_aload_n hx hb dX2_part_32 rfl (lv_at hl 1 rfl) ?_
        refine va_get (D := G.1) (ci := 2) (v := .ref (o 1)) (C := RX2) (T := TX2) (N := 2) hx hb ht twX2 hown hK.1 hP 0 rfl rfl 0 (by decide) (ht _ kfl_X2_11) (fun _ h9 => h9) rfl dX2_part_33 ?_
        refine lv_aload_n hx hb dX2_part_36 rfl (lv_at hl 1 rfl) ?_
        refine va_get (D := G.1) (ci := 2) (v := .int o_found) (C := RX2) (T := TX2) (N := 2) hx hb ht twX2 hown hK.1 hP 0 rfl rfl 1 (by decide) (ht _ kfl_X2_37) (fun _ h9 => h9) rfl dX2_part_37 ?_
        refine lv_iload hx hb dX2_part_40 (lv_at hl 0 rfl) ?_
        obtain ⟨g6, hf⟩ := gd_s hf
        refine va_iast hx hb hK.1 hP hD hS 1 0 rfl rfl g6 dX2_part_42 (fun H locs hP hD hS => ?_)
        have hP : va_P G.1 vwCl [(oX2 o o_found), (wI G (o 1) 8 (upd o_rounds o_found.toNatClampNeg q4)), (oX4 p1 p1_beds p1_isKept), (wI G (p1 1) 48 p1_marks)] H := hP
        have hD : va_D A [(oX2 o o_found), (wI G (o 1) 8 (upd o_rounds o_found.toNatClampNeg q4)), (oX4 p1 p1_beds p1_isKept), (wI G (p1 1) 48 p1_marks)] := hD
        refine lv_aload_n hx hb dX2_part_43 rfl (lv_at hl 1 rfl) ?_
        refine lv_dup hx hb dX2_part_44 rfl ?_
        refine va_get (D := G.1) (ci := 2) (v := .int o_found) (C := RX2) (T := TX2) (N := 2) hx hb ht twX2 hown hK.1 hP 0 rfl rfl 1 (by decide) (ht _ kfl_X2_37) (fun _ h9 => h9) rfl dX2_part_45 ?_
        refine lv_iconst (v := 1) hx hb dX2_part_48 (by decide) ?_
        refine lv_iadd hx hb dX2_part_49 ?_
        refine va_put (D := G.1) (ci := 2) (v := .int (o_found + (1 : Int32))) (ty := .int) (C := RX2) (T := TX2) (N := 2) hx hb ht twX2 tyX2 tyX2_ok nmX2 hown hK.1 hP hD hS 0 rfl rfl 1 (by decide) (ht _ kfl_X2_37) (fun _ h9 => h9) rfl (by decide +kernel) rfl rfl (Nat.le_of_ble_eq_true rfl) dX2_part_50 (fun H locs hP hD hS => ?_)
        have hP : va_P G.1 vwCl [(oX2 o (o_found + (1 : Int32))), (wI G (o 1) 8 (upd o_rounds o_found.toNatClampNeg q4)), (oX4 p1 p1_beds p1_isKept), (wI G (p1 1) 48 p1_marks)] H := hP
        have hD : va_D A [(oX2 o (o_found + (1 : Int32))), (wI G (o 1) 8 (upd o_rounds o_found.toNatClampNeg q4)), (oX4 p1 p1_beds p1_isKept), (wI G (p1 1) 48 p1_marks)] := hD
        refine lv_iload hx hb dX2_part_53 (lv_at hl 0 rfl) ?_
        refine lv_istore_n (lv' := [(2, .int q4), (4, .int q4), (0, .ref (o 0)), (1, .ref (p1 0)), (3, .int v3)]) hx hb dX2_part_55 rfl hl (by decide) rfl (fun ls hl => ?_)
        refine lv_iinc (v := (v3 + (1 : Int32))) (lv' := [(3, .int (v3 + (1 : Int32))), (2, .int q4), (4, .int q4), (0, .ref (o 0)), (1, .ref (p1 0))]) hx hb dX2_part_56 hl (k := 4) rfl (by rfl) (by decide) rfl (fun ls hl => ?_)
        refine lv_goto (tgt := 9) hx hb dX2_part_59 (by decide) ?_
        cases hf
        exact hI _ rfl H locs ls hP hD hS (lv_sub hl [3, 4, 1, 0] rfl)
      · have hf := o_t c5 hf
        refine lv_goto (tgt := 62) hx hb dX2_part_29 (by decide) ?_
        cases hf
        have hf : f_X2_part_x62_1 o_rounds o_found = some R := by have h9 := hk1; rw [← hE _ rfl] at h9; exact h9
        exact hx62_1 o_rounds o_found H locs ls hf hP hD hS (lv_sub hl [] rfl)
  rw [eH, el] at key
  exact key
abbrev Wc_X2_roundOf (l : Launch) (G : TG) (o : Nat → Nat) (o_rounds : Nat → Int32) (o_found : Int32) (a1 : Int32) (R : Int32) (p : Program) (e : Env) (s : State) (m : MethodId) (below : List Frame) (meth : Method) (c : Code) (H : Heap) (locs : List Loc) (g : JFrame) : Prop := W p l e ({ frames := 1, cells := 0, slots := 0, locals := 22 }) s m ([.ref (o 0), .int a1] : List Value).toArray below meth c H locs 0 0 (MQ below (roQ (some (.int R))) ([.ref (o 0), .int a1] : List Value).toArray s 0 0 (fun _ => False)) g
set_option maxHeartbeats 4000000 in
set_option maxRecDepth 100000 in
theorem c_X2_roundOf (l : Launch) (G : TG) (o : Nat → Nat) (o_rounds : Nat → Int32) (o_found : Int32) (a1 : Int32) (R : Int32) (hf : f_X2_roundOf o_rounds o_found a1 = some R) : RO l yX2_roundOf cX2_roundOf 2 (some .int) ({ frames := 1, cells := 0, slots := 0, locals := 22 }) G [.ref (o 0), .int a1] [(oX2 o o_found), (wI G (o 1) 8 o_rounds)] (some (.int R)) := by
  refine RO.mk (by decide +kernel) (Nat.le_of_ble_eq_true rfl) ?_
  intro p e s m below meth c ls C hP hK hl
  have hx := C.1
  have hb := C.2.1
  have hown : s.vm.findClass RX2 = some m.cls := C.2.2.2.2.2.1
  have ht := C.2.2.2.2.2.2
  have hl : lv_has ls 2 [(0, .ref (o 0)), (1, .int a1)] := hl
  show Wc_X2_roundOf l G o o_rounds o_found a1 R p e s m below meth c s.heap [] (F0 m 0 ls [])
  refine lv_iload_n hx hb dX2_roundOf_0 rfl (lv_at hl 1 rfl) ?_
  refine lv_iconst (v := 0) hx hb dX2_roundOf_1 (by decide) ?_
  refine lv_aload_n hx hb dX2_roundOf_2 rfl (lv_at hl 0 rfl) ?_
  refine va_get (D := G.1) (ci := 2) (v := .int o_found) (C := RX2) (T := TX2) (N := 2) hx hb ht twX2 hown hK.1 hP 0 rfl rfl 1 (by decide) (ht _ kfl_X2_37) (fun _ h9 => h9) rfl dX2_roundOf_3 ?_
  refine lv_iconst (v := 1) hx hb dX2_roundOf_6 (by decide) ?_
  refine lv_isub hx hb dX2_roundOf_7 ?_
  obtain ⟨q1, r1, hf⟩ := bd_s hf
  refine ro_SN (n := 3) (As := [.int a1, .int (0 : Int32), .int (o_found - (1 : Int32))]) (rest := []) (c_X10_within l G a1 (0 : Int32) (o_found - (1 : Int32)) q1 r1) C hK (hP.sub [] rfl) hl kcode_X10_within kmln_X2_44 kst_X10_within kini_X10 (by decide +kernel) ⟨⟨rfl, rfl⟩, Nat.le_of_ble_eq_true rfl, Nat.le_of_ble_eq_true rfl⟩ ⟨Nat.zero_le _, Nat.zero_le _⟩ rfl rfl (Nat.le_of_ble_eq_true rfl) dX2_roundOf_8 rfl ?_
  refine lv_if_eq (tgt := 23) hx hb dX2_roundOf_11 (by decide) (fun c2 => ?_) (fun c2 => ?_)
  · have hf := o_t c2 hf
    refine lv_bipush (v := -9) hx hb dX2_roundOf_23 (by decide) ?_
    have h9 := Option.some.inj hf
    subst h9
    exact ro_iret C rfl dX2_roundOf_25
  · have hf := o_f c2 hf
    refine lv_aload_n hx hb dX2_roundOf_14 rfl (lv_at hl 0 rfl) ?_
    refine va_get (D := G.1) (ci := 2) (v := .ref (o 1)) (C := RX2) (T := TX2) (N := 2) hx hb ht twX2 hown hK.1 hP 0 rfl rfl 0 (by decide) (ht _ kfl_X2_11) (fun _ h9 => h9) rfl dX2_roundOf_15 ?_
    refine lv_iload_n hx hb dX2_roundOf_18 rfl (lv_at hl 1 rfl) ?_
    obtain ⟨g4, hf⟩ := gd_s hf
    refine va_iald hx hb hK.1 hP 1 0 rfl rfl g4 dX2_roundOf_19 ?_
    refine lv_goto (tgt := 25) hx hb dX2_roundOf_20 (by decide) ?_
    have h9 := Option.some.inj hf
    subst h9
    exact ro_iret C rfl dX2_roundOf_25
abbrev Wc_X4_liesIn (l : Launch) (G : TG) (o : Nat → Nat) (o_marks : Nat → Int32) (o_beds : Int32) (o_isKept : Int32) (a1 : Int32) (a2 : Int32) (R : Int32) (p : Program) (e : Env) (s : State) (m : MethodId) (below : List Frame) (meth : Method) (c : Code) (H : Heap) (locs : List Loc) (g : JFrame) : Prop := W p l e ({ frames := 2, cells := 0, slots := 0, locals := 45 }) s m ([.ref (o 0), .int a1, .int a2] : List Value).toArray below meth c H locs 0 0 (MQ below (roQ (some (.int R))) ([.ref (o 0), .int a1, .int a2] : List Value).toArray s 0 0 (fun _ => False)) g
set_option maxHeartbeats 4000000 in
set_option maxRecDepth 100000 in
theorem c_X4_liesIn (l : Launch) (G : TG) (o : Nat → Nat) (o_marks : Nat → Int32) (o_beds : Int32) (o_isKept : Int32) (a1 : Int32) (a2 : Int32) (R : Int32) (hf : f_X4_liesIn o_marks a1 a2 = some R) : RO l yX4_liesIn cX4_liesIn 3 (some .boolean) ({ frames := 2, cells := 0, slots := 0, locals := 45 }) G [.ref (o 0), .int a1, .int a2] [(oX4 o o_beds o_isKept), (wI G (o 1) 48 o_marks)] (some (.int R)) := by
  refine RO.mk (by decide +kernel) (Nat.le_of_ble_eq_true rfl) ?_
  intro p e s m below meth c ls C hP hK hl
  have hx := C.1
  have hb := C.2.1
  have hown : s.vm.findClass RX4 = some m.cls := C.2.2.2.2.2.1
  have ht := C.2.2.2.2.2.2
  have hl : lv_has ls 3 [(0, .ref (o 0)), (1, .int a1), (2, .int a2)] := hl
  show Wc_X4_liesIn l G o o_marks o_beds o_isKept a1 a2 R p e s m below meth c s.heap [] (F0 m 0 ls [])
  refine lv_aload_n hx hb dX4_liesIn_0 rfl (lv_at hl 0 rfl) ?_
  refine lv_iload_n hx hb dX4_liesIn_1 rfl (lv_at hl 1 rfl) ?_
  refine lv_iconst (v := 0) hx hb dX4_liesIn_2 (by decide) ?_
  obtain ⟨q1, r1, hf⟩ := bd_s hf
  refine ro_V (n := 2) (As := [.int a1, .int (0 : Int32)]) (rest := []) (c_X4_markOf l G o o_marks o_beds o_isKept a1 (0 : Int32) q1 r1) C hK (hP.sub [0, 1] rfl) hl kcode_X4_markOf kml_X4_22 kim_X4_markOf ksel_X4_markOf kini_X4 (by decide +kernel) ⟨⟨rfl, rfl⟩, Nat.le_of_ble_eq_true rfl, Nat.le_of_ble_eq_true rfl⟩ ⟨Nat.zero_le _, Nat.zero_le _⟩ rfl rfl rfl rfl rfl (Nat.le_of_ble_eq_true rfl) dX4_liesIn_3 rfl ?_
  refine lv_iload_n hx hb dX4_liesIn_6 rfl (lv_at hl 2 rfl) ?_
  refine lv_icmp_ne (tgt := 14) hx hb dX4_liesIn_7 (by decide) (fun c2 => ?_) (fun c2 => ?_)
  · have hf := o_f c2 hf
    refine lv_iconst (v := 0) hx hb dX4_liesIn_14 (by decide) ?_
    have h9 := Option.some.inj hf
    subst h9
    exact ro_zret C (Or.inl rfl) rfl dX4_liesIn_15
  · have hf := o_t c2 hf
    refine lv_iconst (v := 1) hx hb dX4_liesIn_10 (by decide) ?_
    refine lv_goto (tgt := 15) hx hb dX4_liesIn_11 (by decide) ?_
    have h9 := Option.some.inj hf
    subst h9
    exact ro_zret C (Or.inr rfl) rfl dX4_liesIn_15
abbrev Wc_X2_isInOrder (l : Launch) (G : TG) (p0 : Nat → Nat) (p0_marks : Nat → Int32) (p0_beds : Int32) (p0_isKept : Int32) (a1 : Int32) (R : Int32) (p : Program) (e : Env) (s : State) (m : MethodId) (below : List Frame) (meth : Method) (c : Code) (H : Heap) (locs : List Loc) (g : JFrame) : Prop := W p l e ({ frames := 3, cells := 0, slots := 0, locals := 67 }) s m ([.ref (p0 0), .int a1] : List Value).toArray below meth c H locs 0 0 (MQ below (roQ (some (.int R))) ([.ref (p0 0), .int a1] : List Value).toArray s 0 0 (fun _ => False)) g
set_option maxHeartbeats 4000000 in
set_option maxRecDepth 100000 in
theorem c_X2_isInOrder (l : Launch) (G : TG) (p0 : Nat → Nat) (p0_marks : Nat → Int32) (p0_beds : Int32) (p0_isKept : Int32) (a1 : Int32) (R : Int32) (hf : f_X2_isInOrder p0_marks p0_beds a1 = some R) : RO l yX2_isInOrder cX2_isInOrder 4 (some .boolean) ({ frames := 3, cells := 0, slots := 0, locals := 67 }) G [.ref (p0 0), .int a1] [(oX4 p0 p0_beds p0_isKept), (wI G (p0 1) 48 p0_marks)] (some (.int R)) := by
  refine RO.mk (by decide +kernel) (Nat.le_of_ble_eq_true rfl) ?_
  intro p e s m below meth c ls C hP hK hl
  have hx := C.1
  have hb := C.2.1
  have hown : s.vm.findClass RX2 = some m.cls := C.2.2.2.2.2.1
  have ht := C.2.2.2.2.2.2
  have hl : lv_has ls 4 [(0, .ref (p0 0)), (1, .int a1)] := hl
  show Wc_X2_isInOrder l G p0 p0_marks p0_beds p0_isKept a1 R p e s m below meth c s.heap [] (F0 m 0 ls [])
  refine lv_iconst (v := 0) hx hb dX2_isInOrder_0 (by decide) ?_
  refine lv_istore_n (lv' := [(2, .int (0 : Int32)), (0, .ref (p0 0)), (1, .int a1)]) hx hb dX2_isInOrder_1 rfl hl (by decide) rfl (fun ls hl => ?_)
  refine lv_iconst (v := 0) hx hb dX2_isInOrder_2 (by decide) ?_
  refine lv_istore_n (lv' := [(3, .int (0 : Int32)), (2, .int (0 : Int32)), (0, .ref (p0 0)), (1, .int a1)]) hx hb dX2_isInOrder_3 rfl hl (by decide) rfl (fun ls hl => ?_)
  have hx50_1 : ∀ (ls : Array Slot), f_X2_isInOrder_x50_1 = some R → lv_has ls 4 [] → Wc_X2_isInOrder l G p0 p0_marks p0_beds p0_isKept a1 R p e s m below meth c s.heap [] (F0 m 50 ls []) := by
    intro ls hf hl
    refine lv_iconst (v := 1) hx hb dX2_isInOrder_50 (by decide) ?_
    have h9 := Option.some.inj hf
    subst h9
    exact ro_zret C (Or.inr rfl) rfl dX2_isInOrder_51
  obtain ⟨rL1, hL1, hk1⟩ := bd_s hf
  refine lp_W (P := fun st => ∀ (ls : Array Slot), lv_has ls 4 [(0, .ref (p0 0)), (1, .int a1), (2, .int st.1), (3, .int st.2)] → Wc_X2_isInOrder l G p0 p0_marks p0_beds p0_isKept a1 R p e s m below meth c s.heap [] (F0 m 4 ls [])) ?_ FU ((0 : Int32), (0 : Int32)) hL1 ls (lv_sub hl [2, 3, 1, 0] rfl)
  intro ⟨v2, v3⟩ oc1 hf hI hE ls hl
  have hl : lv_has ls 4 [(0, .ref (p0 0)), (1, .int a1), (2, .int v2), (3, .int v3)] := hl
  have hf : f_X2_isInOrder_b4 p0_marks p0_beds a1 v2 v3 = some oc1 := hf
  refine lv_iload_n hx hb dX2_isInOrder_4 rfl (lv_at hl 3 rfl) ?_
  refine lv_aload_n hx hb dX2_isInOrder_5 rfl (lv_at hl 0 rfl) ?_
  refine va_get (D := G.1) (ci := 4) (v := .int p0_beds) (C := RX4) (T := TX4) (N := 4) hx hb ht twX4 hown hK.1 hP 0 rfl rfl 2 (by decide) (ht _ kfl_X2_17) (fun _ h9 => h9) rfl dX2_isInOrder_6 ?_
  refine lv_icmp_ge (tgt := 50) hx hb dX2_isInOrder_9 (by decide) (fun c3 => ?_) (fun c3 => ?_)
  · have hf := o_t c3 hf
    cases hf
    have hf : f_X2_isInOrder_x50_1 = some R := by have h9 := hk1; rw [← hE _ rfl] at h9; exact h9
    exact hx50_1 ls hf (lv_sub hl [] rfl)
  · have hf := o_f c3 hf
    refine lv_aload_n hx hb dX2_isInOrder_12 rfl (lv_at hl 0 rfl) ?_
    refine lv_iload_n hx hb dX2_isInOrder_13 rfl (lv_at hl 3 rfl) ?_
    refine lv_iload_n hx hb dX2_isInOrder_14 rfl (lv_at hl 1 rfl) ?_
    obtain ⟨q4, r4, hf⟩ := bd_s hf
    refine ro_V (n := 2) (As := [.int v3, .int a1]) (rest := []) (c_X4_liesIn l G p0 p0_marks p0_beds p0_isKept v3 a1 q4 r4) C hK (hP.sub [0, 1] rfl) hl kcode_X4_liesIn kml_X2_48 kim_X4_liesIn ksel_X4_liesIn kini_X4 (by decide +kernel) ⟨⟨rfl, rfl⟩, Nat.le_of_ble_eq_true rfl, Nat.le_of_ble_eq_true rfl⟩ ⟨Nat.zero_le _, Nat.zero_le _⟩ rfl rfl rfl rfl rfl (Nat.le_of_ble_eq_true rfl) dX2_isInOrder_15 rfl ?_
    refine lv_if_eq (tgt := 44) hx hb dX2_isInOrder_18 (by decide) (fun c5 => ?_) (fun c5 => ?_)
    · have hf := o_t c5 hf
      refine lv_iinc (v := (v3 + (1 : Int32))) (lv' := [(3, .int (v3 + (1 : Int32))), (0, .ref (p0 0)), (1, .int a1), (2, .int v2)]) hx hb dX2_isInOrder_44 hl (k := 3) rfl (by rfl) (by decide) rfl (fun ls hl => ?_)
      refine lv_goto (tgt := 4) hx hb dX2_isInOrder_47 (by decide) ?_
      cases hf
      exact hI _ rfl ls (lv_sub hl [1, 2, 3, 0] rfl)
    · have hf := o_f c5 hf
      refine lv_iload_n hx hb dX2_isInOrder_21 rfl (lv_at hl 2 rfl) ?_
      refine lv_aload_n hx hb dX2_isInOrder_22 rfl (lv_at hl 0 rfl) ?_
      refine lv_iload_n hx hb dX2_isInOrder_23 rfl (lv_at hl 3 rfl) ?_
      refine lv_iconst (v := 2) hx hb dX2_isInOrder_24 (by decide) ?_
      obtain ⟨q6, r6, hf⟩ := bd_s hf
      refine ro_V (n := 2) (As := [.int v3, .int (2 : Int32)]) (rest := [.int v2]) (c_X4_markOf l G p0 p0_marks p0_beds p0_isKept v3 (2 : Int32) q6 r6) C hK (hP.sub [0, 1] rfl) hl kcode_X4_markOf kml_X2_25 kim_X4_markOf ksel_X4_markOf kini_X4 (by decide +kernel) ⟨⟨rfl, rfl⟩, Nat.le_of_ble_eq_true rfl, Nat.le_of_ble_eq_true rfl⟩ ⟨Nat.zero_le _, Nat.zero_le _⟩ rfl rfl rfl rfl rfl (Nat.le_of_ble_eq_true rfl) dX2_isInOrder_25 rfl ?_
      refine va_mmax hx hb (C.2.2.1.trans hl.1.symm) hown (ht _ kml_X2_29) (ht _ kst_J9_max_7cf53) (ht _ kini_J9) (ht _ kcode_J9_max_7cf53) (Nat.le_of_ble_eq_true rfl) (Nat.le_of_ble_eq_true rfl) (Nat.zero_le _) (Nat.zero_le _) dX2_isInOrder_28 ?_
      refine lv_istore_n (lv' := [(2, .int (if v2 < q6 then q6 else v2)), (0, .ref (p0 0)), (1, .int a1), (3, .int v3)]) hx hb dX2_isInOrder_31 rfl hl (by decide) rfl (fun ls hl => ?_)
      refine lv_iload_n hx hb dX2_isInOrder_32 rfl (lv_at hl 0 rfl) ?_
      refine lv_aload_n hx hb dX2_isInOrder_33 rfl (lv_at hl 1 rfl) ?_
      refine lv_iload_n hx hb dX2_isInOrder_34 rfl (lv_at hl 3 rfl) ?_
      refine lv_iconst (v := 3) hx hb dX2_isInOrder_35 (by decide) ?_
      obtain ⟨q7, r7, hf⟩ := bd_s hf
      refine ro_V (n := 2) (As := [.int v3, .int (3 : Int32)]) (rest := [.int (if v2 < q6 then q6 else v2)]) (c_X4_markOf l G p0 p0_marks p0_beds p0_isKept v3 (3 : Int32) q7 r7) C hK (hP.sub [0, 1] rfl) hl kcode_X4_markOf kml_X2_25 kim_X4_markOf ksel_X4_markOf kini_X4 (by decide +kernel) ⟨⟨rfl, rfl⟩, Nat.le_of_ble_eq_true rfl, Nat.le_of_ble_eq_true rfl⟩ ⟨Nat.zero_le _, Nat.zero_le _⟩ rfl rfl rfl rfl rfl (Nat.le_of_ble_eq_true rfl) dX2_isInOrder_36 rfl ?_
      refine lv_icmp_le (tgt := 44) hx hb dX2_isInOrder_39 (by decide) (fun c8 => ?_) (fun c8 => ?_)
      · have hf := o_t c8 hf
        refine lv_iinc (v := (v3 + (1 : Int32))) (lv' := [(3, .int (v3 + (1 : Int32))), (2, .int (if v2 < q6 then q6 else v2)), (0, .ref (p0 0)), (1, .int a1)]) hx hb dX2_isInOrder_44 hl (k := 3) rfl (by rfl) (by decide) rfl (fun ls hl => ?_)
        refine lv_goto (tgt := 4) hx hb dX2_isInOrder_47 (by decide) ?_
        cases hf
        exact hI _ rfl ls (lv_sub hl [2, 3, 1, 0] rfl)
      · have hf := o_f c8 hf
        refine lv_iconst (v := 0) hx hb dX2_isInOrder_42 (by decide) ?_
        cases hf
        have hf : some (0 : Int32) = some R := by have h9 := hk1; rw [← hE _ rfl] at h9; exact h9
        have h9 := Option.some.inj hf
        subst h9
        exact ro_zret C (Or.inl rfl) rfl dX2_isInOrder_43
abbrev Wc_X2_earliestBelow (l : Launch) (G : TG) (p0 : Nat → Nat) (p0_marks : Nat → Int32) (p0_beds : Int32) (p0_isKept : Int32) (a1 : Int32) (a2 : Int32) (R : Int32) (p : Program) (e : Env) (s : State) (m : MethodId) (below : List Frame) (meth : Method) (c : Code) (H : Heap) (locs : List Loc) (g : JFrame) : Prop := W p l e ({ frames := 3, cells := 0, slots := 0, locals := 67 }) s m ([.ref (p0 0), .int a1, .int a2] : List Value).toArray below meth c H locs 0 0 (MQ below (roQ (some (.int R))) ([.ref (p0 0), .int a1, .int a2] : List Value).toArray s 0 0 (fun _ => False)) g
set_option maxHeartbeats 4000000 in
set_option maxRecDepth 100000 in
theorem c_X2_earliestBelow (l : Launch) (G : TG) (p0 : Nat → Nat) (p0_marks : Nat → Int32) (p0_beds : Int32) (p0_isKept : Int32) (a1 : Int32) (a2 : Int32) (R : Int32) (hf : f_X2_earliestBelow p0_marks a1 a2 = some R) : RO l yX2_earliestBelow cX2_earliestBelow 5 (some .int) ({ frames := 3, cells := 0, slots := 0, locals := 67 }) G [.ref (p0 0), .int a1, .int a2] [(oX4 p0 p0_beds p0_isKept), (wI G (p0 1) 48 p0_marks)] (some (.int R)) := by
  refine RO.mk (by decide +kernel) (Nat.le_of_ble_eq_true rfl) ?_
  intro p e s m below meth c ls C hP hK hl
  have hx := C.1
  have hb := C.2.1
  have hown : s.vm.findClass RX2 = some m.cls := C.2.2.2.2.2.1
  have ht := C.2.2.2.2.2.2
  have hl : lv_has ls 5 [(0, .ref (p0 0)), (1, .int a1), (2, .int a2)] := hl
  show Wc_X2_earliestBelow l G p0 p0_marks p0_beds p0_isKept a1 a2 R p e s m below meth c s.heap [] (F0 m 0 ls [])
  refine lv_bipush (v := -9) hx hb dX2_earliestBelow_0 (by decide) ?_
  refine lv_istore_n (lv' := [(3, .int (-9 : Int32)), (0, .ref (p0 0)), (1, .int a1), (2, .int a2)]) hx hb dX2_earliestBelow_2 rfl hl (by decide) rfl (fun ls hl => ?_)
  refine lv_iconst (v := 0) hx hb dX2_earliestBelow_3 (by decide) ?_
  refine lv_istore (lv' := [(4, .int (0 : Int32)), (3, .int (-9 : Int32)), (0, .ref (p0 0)), (1, .int a1), (2, .int a2)]) hx hb dX2_earliestBelow_4 hl (by decide) rfl (fun ls hl => ?_)
  have hx40_1 : ∀ (v3 : Int32) (ls : Array Slot), f_X2_earliestBelow_x40_1 v3 = some R → lv_has ls 5 [(3, .int v3)] → Wc_X2_earliestBelow l G p0 p0_marks p0_beds p0_isKept a1 a2 R p e s m below meth c s.heap [] (F0 m 40 ls []) := by
    intro v3 ls hf hl
    refine lv_iload_n hx hb dX2_earliestBelow_40 rfl (lv_at hl 0 rfl) ?_
    have h9 := Option.some.inj hf
    subst h9
    exact ro_iret C rfl dX2_earliestBelow_41
  obtain ⟨rL1, hL1, hk1⟩ := bd_s hf
  refine lp_W (P := fun st => ∀ (ls : Array Slot), lv_has ls 5 [(0, .ref (p0 0)), (1, .int a1), (2, .int a2), (3, .int st.1), (4, .int st.2)] → Wc_X2_earliestBelow l G p0 p0_marks p0_beds p0_isKept a1 a2 R p e s m below meth c s.heap [] (F0 m 6 ls [])) ?_ FU ((-9 : Int32), (0 : Int32)) hL1 ls (lv_sub hl [2, 3, 4, 1, 0] rfl)
  intro ⟨v3, v4⟩ oc1 hf hI hE ls hl
  have hl : lv_has ls 5 [(0, .ref (p0 0)), (1, .int a1), (2, .int a2), (3, .int v3), (4, .int v4)] := hl
  have hf : f_X2_earliestBelow_b6 p0_marks a1 a2 v3 v4 = some oc1 := hf
  refine lv_iload hx hb dX2_earliestBelow_6 (lv_at hl 4 rfl) ?_
  refine lv_iload_n hx hb dX2_earliestBelow_8 rfl (lv_at hl 2 rfl) ?_
  refine lv_icmp_ge (tgt := 40) hx hb dX2_earliestBelow_9 (by decide) (fun c3 => ?_) (fun c3 => ?_)
  · have hf := o_t c3 hf
    cases hf
    have hf : f_X2_earliestBelow_x40_1 v3 = some R := by have h9 := hk1; rw [← hE _ rfl] at h9; exact h9
    exact hx40_1 v3 ls hf (lv_sub hl [3] rfl)
  · have hf := o_f c3 hf
    refine lv_aload_n hx hb dX2_earliestBelow_12 rfl (lv_at hl 0 rfl) ?_
    refine lv_iload hx hb dX2_earliestBelow_13 (lv_at hl 4 rfl) ?_
    refine lv_iload_n hx hb dX2_earliestBelow_15 rfl (lv_at hl 1 rfl) ?_
    obtain ⟨q4, r4, hf⟩ := bd_s hf
    refine ro_V (n := 2) (As := [.int v4, .int a1]) (rest := []) (c_X4_liesIn l G p0 p0_marks p0_beds p0_isKept v4 a1 q4 r4) C hK (hP.sub [0, 1] rfl) hl kcode_X4_liesIn kml_X2_48 kim_X4_liesIn ksel_X4_liesIn kini_X4 (by decide +kernel) ⟨⟨rfl, rfl⟩, Nat.le_of_ble_eq_true rfl, Nat.le_of_ble_eq_true rfl⟩ ⟨Nat.zero_le _, Nat.zero_le _⟩ rfl rfl rfl rfl rfl (Nat.le_of_ble_eq_true rfl) dX2_earliestBelow_16 rfl ?_
    refine lv_if_eq (tgt := 34) hx hb dX2_earliestBelow_19 (by decide) (fun c5 => ?_) (fun c5 => ?_)
    · have hf := o_t c5 hf
      refine lv_iinc (v := (v4 + (1 : Int32))) (lv' := [(4, .int (v4 + (1 : Int32))), (0, .ref (p0 0)), (1, .int a1), (2, .int a2), (3, .int v3)]) hx hb dX2_earliestBelow_34 hl (k := 4) rfl (by rfl) (by decide) rfl (fun ls hl => ?_)
      refine lv_goto (tgt := 6) hx hb dX2_earliestBelow_37 (by decide) ?_
      cases hf
      exact hI _ rfl ls (lv_sub hl [1, 2, 3, 4, 0] rfl)
    · have hf := o_f c5 hf
      refine lv_iload_n hx hb dX2_earliestBelow_22 rfl (lv_at hl 3 rfl) ?_
      refine lv_aload_n hx hb dX2_earliestBelow_23 rfl (lv_at hl 0 rfl) ?_
      refine lv_iload hx hb dX2_earliestBelow_24 (lv_at hl 4 rfl) ?_
      refine lv_iconst (v := 2) hx hb dX2_earliestBelow_26 (by decide) ?_
      obtain ⟨q6, r6, hf⟩ := bd_s hf
      refine ro_V (n := 2) (As := [.int v4, .int (2 : Int32)]) (rest := [.int v3]) (c_X4_markOf l G p0 p0_marks p0_beds p0_isKept v4 (2 : Int32) q6 r6) C hK (hP.sub [0, 1] rfl) hl kcode_X4_markOf kml_X2_25 kim_X4_markOf ksel_X4_markOf kini_X4 (by decide +kernel) ⟨⟨rfl, rfl⟩, Nat.le_of_ble_eq_true rfl, Nat.le_of_ble_eq_true rfl⟩ ⟨Nat.zero_le _, Nat.zero_le _⟩ rfl rfl rfl rfl rfl (Nat.le_of_ble_eq_true rfl) dX2_earliestBelow_27 rfl ?_
      refine va_mmax hx hb (C.2.2.1.trans hl.1.symm) hown (ht _ kml_X2_29) (ht _ kst_J9_max_7cf53) (ht _ kini_J9) (ht _ kcode_J9_max_7cf53) (Nat.le_of_ble_eq_true rfl) (Nat.le_of_ble_eq_true rfl) (Nat.zero_le _) (Nat.zero_le _) dX2_earliestBelow_30 ?_
      refine lv_istore_n (lv' := [(3, .int (if v3 < q6 then q6 else v3)), (0, .ref (p0 0)), (1, .int a1), (2, .int a2), (4, .int v4)]) hx hb dX2_earliestBelow_33 rfl hl (by decide) rfl (fun ls hl => ?_)
      refine lv_iinc (v := (v4 + (1 : Int32))) (lv' := [(4, .int (v4 + (1 : Int32))), (3, .int (if v3 < q6 then q6 else v3)), (0, .ref (p0 0)), (1, .int a1), (2, .int a2)]) hx hb dX2_earliestBelow_34 hl (k := 4) rfl (by rfl) (by decide) rfl (fun ls hl => ?_)
      refine lv_goto (tgt := 6) hx hb dX2_earliestBelow_37 (by decide) ?_
      cases hf
      exact hI _ rfl ls (lv_sub hl [2, 3, 4, 1, 0] rfl)
abbrev Wc_X2_latestFrom (l : Launch) (G : TG) (p0 : Nat → Nat) (p0_marks : Nat → Int32) (p0_beds : Int32) (p0_isKept : Int32) (a1 : Int32) (a2 : Int32) (R : Int32) (p : Program) (e : Env) (s : State) (m : MethodId) (below : List Frame) (meth : Method) (c : Code) (H : Heap) (locs : List Loc) (g : JFrame) : Prop := W p l e ({ frames := 3, cells := 0, slots := 0, locals := 67 }) s m ([.ref (p0 0), .int a1, .int a2] : List Value).toArray below meth c H locs 0 0 (MQ below (roQ (some (.int R))) ([.ref (p0 0), .int a1, .int a2] : List Value).toArray s 0 0 (fun _ => False)) g
set_option maxHeartbeats 4000000 in
set_option maxRecDepth 100000 in
theorem c_X2_latestFrom (l : Launch) (G : TG) (p0 : Nat → Nat) (p0_marks : Nat → Int32) (p0_beds : Int32) (p0_isKept : Int32) (a1 : Int32) (a2 : Int32) (R : Int32) (hf : f_X2_latestFrom p0_marks p0_beds a1 a2 = some R) : RO l yX2_latestFrom cX2_latestFrom 5 (some .int) ({ frames := 3, cells := 0, slots := 0, locals := 67 }) G [.ref (p0 0), .int a1, .int a2] [(oX4 p0 p0_beds p0_isKept), (wI G (p0 1) 48 p0_marks)] (some (.int R)) := by
  refine RO.mk (by decide +kernel) (Nat.le_of_ble_eq_true rfl) ?_
  intro p e s m below meth c ls C hP hK hl
  have hx := C.1
  have hb := C.2.1
  have hown : s.vm.findClass RX2 = some m.cls := C.2.2.2.2.2.1
  have ht := C.2.2.2.2.2.2
  have hl : lv_has ls 5 [(0, .ref (p0 0)), (1, .int a1), (2, .int a2)] := hl
  show Wc_X2_latestFrom l G p0 p0_marks p0_beds p0_isKept a1 a2 R p e s m below meth c s.heap [] (F0 m 0 ls [])
  refine lv_bipush (v := 99) hx hb dX2_latestFrom_0 (by decide) ?_
  refine lv_istore_n (lv' := [(3, .int (99 : Int32)), (0, .ref (p0 0)), (1, .int a1), (2, .int a2)]) hx hb dX2_latestFrom_2 rfl hl (by decide) rfl (fun ls hl => ?_)
  refine lv_iload_n hx hb dX2_latestFrom_3 rfl (lv_at hl 3 rfl) ?_
  refine lv_istore (lv' := [(4, .int a2), (3, .int (99 : Int32)), (0, .ref (p0 0)), (1, .int a1), (2, .int a2)]) hx hb dX2_latestFrom_4 hl (by decide) rfl (fun ls hl => ?_)
  have hx43_1 : ∀ (v3 : Int32) (ls : Array Slot), f_X2_latestFrom_x43_1 v3 = some R → lv_has ls 5 [(3, .int v3)] → Wc_X2_latestFrom l G p0 p0_marks p0_beds p0_isKept a1 a2 R p e s m below meth c s.heap [] (F0 m 43 ls []) := by
    intro v3 ls hf hl
    refine lv_iload_n hx hb dX2_latestFrom_43 rfl (lv_at hl 0 rfl) ?_
    have h9 := Option.some.inj hf
    subst h9
    exact ro_iret C rfl dX2_latestFrom_44
  obtain ⟨rL1, hL1, hk1⟩ := bd_s hf
  refine lp_W (P := fun st => ∀ (ls : Array Slot), lv_has ls 5 [(0, .ref (p0 0)), (1, .int a1), (3, .int st.1), (4, .int st.2)] → Wc_X2_latestFrom l G p0 p0_marks p0_beds p0_isKept a1 a2 R p e s m below meth c s.heap [] (F0 m 6 ls [])) ?_ FU ((99 : Int32), a2) hL1 ls (lv_sub hl [2, 3, 1, 0] rfl)
  intro ⟨v3, v4⟩ oc1 hf hI hE ls hl
  have hl : lv_has ls 5 [(0, .ref (p0 0)), (1, .int a1), (3, .int v3), (4, .int v4)] := hl
  have hf : f_X2_latestFrom_b6 p0_marks p0_beds a1 v3 v4 = some oc1 := hf
  refine lv_iload hx hb dX2_latestFrom_6 (lv_at hl 3 rfl) ?_
  refine lv_aload_n hx hb dX2_latestFrom_8 rfl (lv_at hl 0 rfl) ?_
  refine va_get (D := G.1) (ci := 4) (v := .int p0_beds) (C := RX4) (T := TX4) (N := 4) hx hb ht twX4 hown hK.1 hP 0 rfl rfl 2 (by decide) (ht _ kfl_X2_17) (fun _ h9 => h9) rfl dX2_latestFrom_9 ?_
  refine lv_icmp_ge (tgt := 43) hx hb dX2_latestFrom_12 (by decide) (fun c3 => ?_) (fun c3 => ?_)
  · have hf := o_t c3 hf
    cases hf
    have hf : f_X2_latestFrom_x43_1 v3 = some R := by have h9 := hk1; rw [← hE _ rfl] at h9; exact h9
    exact hx43_1 v3 ls hf (lv_sub hl [2] rfl)
  · have hf := o_f c3 hf
    refine lv_aload_n hx hb dX2_latestFrom_15 rfl (lv_at hl 0 rfl) ?_
    refine lv_iload hx hb dX2_latestFrom_16 (lv_at hl 3 rfl) ?_
    refine lv_iload_n hx hb dX2_latestFrom_18 rfl (lv_at hl 1 rfl) ?_
    obtain ⟨q4, r4, hf⟩ := bd_s hf
    refine ro_V (n := 2) (As := [.int v4, .int a1]) (rest := []) (c_X4_liesIn l G p0 p0_marks p0_beds p0_isKept v4 a1 q4 r4) C hK (hP.sub [0, 1] rfl) hl kcode_X4_liesIn kml_X2_48 kim_X4_liesIn ksel_X4_liesIn kini_X4 (by decide +kernel) ⟨⟨rfl, rfl⟩, Nat.le_of_ble_eq_true rfl, Nat.le_of_ble_eq_true rfl⟩ ⟨Nat.zero_le _, Nat.zero_le _⟩ rfl rfl rfl rfl rfl (Nat.le_of_ble_eq_true rfl) dX2_latestFrom_19 rfl ?_
    refine lv_if_eq (tgt := 37) hx hb dX2_latestFrom_22 (by decide) (fun c5 => ?_) (fun c5 => ?_)
    · have hf := o_t c5 hf
      refine lv_iinc (v := (v4 + (1 : Int32))) (lv' := [(4, .int (v4 + (1 : Int32))), (0, .ref (p0 0)), (1, .int a1), (3, .int v3)]) hx hb dX2_latestFrom_37 hl (k := 3) rfl (by rfl) (by decide) rfl (fun ls hl => ?_)
      refine lv_goto (tgt := 6) hx hb dX2_latestFrom_40 (by decide) ?_
      cases hf
      exact hI _ rfl ls (lv_sub hl [1, 2, 3, 0] rfl)
    · have hf := o_f c5 hf
      refine lv_iload_n hx hb dX2_latestFrom_25 rfl (lv_at hl 2 rfl) ?_
      refine lv_aload_n hx hb dX2_latestFrom_26 rfl (lv_at hl 0 rfl) ?_
      refine lv_iload hx hb dX2_latestFrom_27 (lv_at hl 3 rfl) ?_
      refine lv_iconst (v := 3) hx hb dX2_latestFrom_29 (by decide) ?_
      obtain ⟨q6, r6, hf⟩ := bd_s hf
      refine ro_V (n := 2) (As := [.int v4, .int (3 : Int32)]) (rest := [.int v3]) (c_X4_markOf l G p0 p0_marks p0_beds p0_isKept v4 (3 : Int32) q6 r6) C hK (hP.sub [0, 1] rfl) hl kcode_X4_markOf kml_X2_25 kim_X4_markOf ksel_X4_markOf kini_X4 (by decide +kernel) ⟨⟨rfl, rfl⟩, Nat.le_of_ble_eq_true rfl, Nat.le_of_ble_eq_true rfl⟩ ⟨Nat.zero_le _, Nat.zero_le _⟩ rfl rfl rfl rfl rfl (Nat.le_of_ble_eq_true rfl) dX2_latestFrom_30 rfl ?_
      refine va_mmin hx hb (C.2.2.1.trans hl.1.symm) hown (ht _ kml_X2_34) (ht _ kst_J9_min_7cf53) (ht _ kini_J9) (ht _ kcode_J9_min_7cf53) (Nat.le_of_ble_eq_true rfl) (Nat.le_of_ble_eq_true rfl) (Nat.zero_le _) (Nat.zero_le _) dX2_latestFrom_33 ?_
      refine lv_istore_n (lv' := [(3, .int (if q6 < v3 then q6 else v3)), (0, .ref (p0 0)), (1, .int a1), (4, .int v4)]) hx hb dX2_latestFrom_36 rfl hl (by decide) rfl (fun ls hl => ?_)
      refine lv_iinc (v := (v4 + (1 : Int32))) (lv' := [(4, .int (v4 + (1 : Int32))), (3, .int (if q6 < v3 then q6 else v3)), (0, .ref (p0 0)), (1, .int a1)]) hx hb dX2_latestFrom_37 hl (k := 3) rfl (by rfl) (by decide) rfl (fun ls hl => ?_)
      refine lv_goto (tgt := 6) hx hb dX2_latestFrom_40 (by decide) ?_
      cases hf
      exact hI _ rfl ls (lv_sub hl [2, 3, 1, 0] rfl)
abbrev Wc_X3_stateOf (l : Launch) (G : TG) (a0 : Int32) (a1 : Int32) (R : Int32) (p : Program) (e : Env) (s : State) (m : MethodId) (below : List Frame) (meth : Method) (c : Code) (H : Heap) (locs : List Loc) (g : JFrame) : Prop := W p l e ({ frames := 0, cells := 0, slots := 0, locals := 0 }) s m ([.int a0, .int a1] : List Value).toArray below meth c H locs 0 0 (MQ below (roQ (some (.int R))) ([.int a0, .int a1] : List Value).toArray s 0 0 (fun _ => False)) g
set_option maxHeartbeats 4000000 in
set_option maxRecDepth 100000 in
theorem c_X3_stateOf (l : Launch) (G : TG) (a0 : Int32) (a1 : Int32) (R : Int32) (hf : f_X3_stateOf a0 a1 = some R) : RO l yX3_stateOf cX3_stateOf 2 (some .int) ({ frames := 0, cells := 0, slots := 0, locals := 0 }) G [.int a0, .int a1] [] (some (.int R)) := by
  refine RO.mk (by decide +kernel) (Nat.le_of_ble_eq_true rfl) ?_
  intro p e s m below meth c ls C hP hK hl
  have hx := C.1
  have hb := C.2.1
  have hown : s.vm.findClass RX3 = some m.cls := C.2.2.2.2.2.1
  have ht := C.2.2.2.2.2.2
  have hl : lv_has ls 2 [(0, .int a0), (1, .int a1)] := hl
  show Wc_X3_stateOf l G a0 a1 R p e s m below meth c s.heap [] (F0 m 0 ls [])
  refine lv_bipush (v := 100) hx hb dX3_stateOf_0 (by decide) ?_
  refine lv_iload_n hx hb dX3_stateOf_2 rfl (lv_at hl 0 rfl) ?_
  refine lv_imul hx hb dX3_stateOf_3 ?_
  refine lv_iload_n hx hb dX3_stateOf_4 rfl (lv_at hl 1 rfl) ?_
  refine lv_iadd hx hb dX3_stateOf_5 ?_
  have h9 := Option.some.inj hf
  subst h9
  exact ro_iret C rfl dX3_stateOf_6
abbrev Wc_X3_iceIn (l : Launch) (G : TG) (a0 : Int32) (R : Int32) (p : Program) (e : Env) (s : State) (m : MethodId) (below : List Frame) (meth : Method) (c : Code) (H : Heap) (locs : List Loc) (g : JFrame) : Prop := W p l e ({ frames := 0, cells := 0, slots := 0, locals := 0 }) s m ([.int a0] : List Value).toArray below meth c H locs 0 0 (MQ below (roQ (some (.int R))) ([.int a0] : List Value).toArray s 0 0 (fun _ => False)) g
set_option maxHeartbeats 4000000 in
set_option maxRecDepth 100000 in
theorem c_X3_iceIn (l : Launch) (G : TG) (a0 : Int32) (R : Int32) (hf : f_X3_iceIn a0 = some R) : RO l yX3_iceIn cX3_iceIn 1 (some .int) ({ frames := 0, cells := 0, slots := 0, locals := 0 }) G [.int a0] [] (some (.int R)) := by
  refine RO.mk (by decide +kernel) (Nat.le_of_ble_eq_true rfl) ?_
  intro p e s m below meth c ls C hP hK hl
  have hx := C.1
  have hb := C.2.1
  have hown : s.vm.findClass RX3 = some m.cls := C.2.2.2.2.2.1
  have ht := C.2.2.2.2.2.2
  have hl : lv_has ls 1 [(0, .int a0)] := hl
  show Wc_X3_iceIn l G a0 R p e s m below meth c s.heap [] (F0 m 0 ls [])
  refine lv_iload_n hx hb dX3_iceIn_0 rfl (lv_at hl 0 rfl) ?_
  refine lv_bipush (v := 100) hx hb dX3_iceIn_1 (by decide) ?_
  obtain ⟨n1, hf⟩ := dz_s hf
  refine lv_idiv hx hb dX3_iceIn_3 n1 ?_
  have h9 := Option.some.inj hf
  subst h9
  exact ro_iret C rfl dX3_iceIn_4
abbrev Wc_X3_airIn (l : Launch) (G : TG) (a0 : Int32) (R : Int32) (p : Program) (e : Env) (s : State) (m : MethodId) (below : List Frame) (meth : Method) (c : Code) (H : Heap) (locs : List Loc) (g : JFrame) : Prop := W p l e ({ frames := 0, cells := 0, slots := 0, locals := 0 }) s m ([.int a0] : List Value).toArray below meth c H locs 0 0 (MQ below (roQ (some (.int R))) ([.int a0] : List Value).toArray s 0 0 (fun _ => False)) g
set_option maxHeartbeats 4000000 in
set_option maxRecDepth 100000 in
theorem c_X3_airIn (l : Launch) (G : TG) (a0 : Int32) (R : Int32) (hf : f_X3_airIn a0 = some R) : RO l yX3_airIn cX3_airIn 1 (some .int) ({ frames := 0, cells := 0, slots := 0, locals := 0 }) G [.int a0] [] (some (.int R)) := by
  refine RO.mk (by decide +kernel) (Nat.le_of_ble_eq_true rfl) ?_
  intro p e s m below meth c ls C hP hK hl
  have hx := C.1
  have hb := C.2.1
  have hown : s.vm.findClass RX3 = some m.cls := C.2.2.2.2.2.1
  have ht := C.2.2.2.2.2.2
  have hl : lv_has ls 1 [(0, .int a0)] := hl
  show Wc_X3_airIn l G a0 R p e s m below meth c s.heap [] (F0 m 0 ls [])
  refine lv_iload_n hx hb dX3_airIn_0 rfl (lv_at hl 0 rfl) ?_
  refine lv_bipush (v := 100) hx hb dX3_airIn_1 (by decide) ?_
  obtain ⟨n1, hf⟩ := dz_s hf
  refine lv_irem hx hb dX3_airIn_3 n1 ?_
  have h9 := Option.some.inj hf
  subst h9
  exact ro_iret C rfl dX3_airIn_4
abbrev Wc_X3_airAfter (l : Launch) (G : TG) (o : Nat → Nat) (o_law : Nat → Int32) (a1 : Int32) (a2 : Int32) (R : Int32) (p : Program) (e : Env) (s : State) (m : MethodId) (below : List Frame) (meth : Method) (c : Code) (H : Heap) (locs : List Loc) (g : JFrame) : Prop := W p l e ({ frames := 1, cells := 0, slots := 0, locals := 40 }) s m ([.ref (o 0), .int a1, .int a2] : List Value).toArray below meth c H locs 0 0 (MQ below (roQ (some (.int R))) ([.ref (o 0), .int a1, .int a2] : List Value).toArray s 0 0 (fun _ => False)) g
set_option maxHeartbeats 4000000 in
set_option maxRecDepth 100000 in
theorem c_X3_airAfter (l : Launch) (G : TG) (o : Nat → Nat) (o_law : Nat → Int32) (a1 : Int32) (a2 : Int32) (R : Int32) (hf : f_X3_airAfter o_law a1 a2 = some R) : RO l yX3_airAfter cX3_airAfter 5 (some .int) ({ frames := 1, cells := 0, slots := 0, locals := 40 }) G [.ref (o 0), .int a1, .int a2] [(oX3 o), (wI G (o 1) 12 o_law)] (some (.int R)) := by
  refine RO.mk (by decide +kernel) (Nat.le_of_ble_eq_true rfl) ?_
  intro p e s m below meth c ls C hP hK hl
  have hx := C.1
  have hb := C.2.1
  have hown : s.vm.findClass RX3 = some m.cls := C.2.2.2.2.2.1
  have ht := C.2.2.2.2.2.2
  have hl : lv_has ls 5 [(0, .ref (o 0)), (1, .int a1), (2, .int a2)] := hl
  show Wc_X3_airAfter l G o o_law a1 a2 R p e s m below meth c s.heap [] (F0 m 0 ls [])
  refine lv_bipush (v := 6) hx hb dX3_airAfter_0 (by decide) ?_
  refine lv_iload_n hx hb dX3_airAfter_2 rfl (lv_at hl 1 rfl) ?_
  obtain ⟨q1, r1, hf⟩ := bd_s hf
  refine ro_S (n := 1) (As := [.int a1]) (rest := [.int (6 : Int32)]) (c_J6_bitCount_0f7a4 l G a1 q1 r1) C hK (hP.sub [] rfl) hl kcode_J6_bitCount_0f7a4 kml_X3_35 kst_J6_bitCount_0f7a4 kini_J6 (by decide +kernel) ⟨⟨rfl, rfl⟩, Nat.le_of_ble_eq_true rfl, Nat.le_of_ble_eq_true rfl⟩ ⟨Nat.zero_le _, Nat.zero_le _⟩ rfl rfl (Nat.le_of_ble_eq_true rfl) dX3_airAfter_3 rfl ?_
  refine lv_isub hx hb dX3_airAfter_6 ?_
  refine lv_istore_n (lv' := [(3, .int ((6 : Int32) - q1)), (0, .ref (o 0)), (1, .int a1), (2, .int a2)]) hx hb dX3_airAfter_7 rfl hl (by decide) rfl (fun ls hl => ?_)
  refine lv_iload_n hx hb dX3_airAfter_8 rfl (lv_at hl 3 rfl) ?_
  refine lv_aload_n hx hb dX3_airAfter_9 rfl (lv_at hl 1 rfl) ?_
  refine va_get (D := G.1) (ci := 3) (v := .ref (o 1)) (C := RX3) (T := TX3) (N := 1) hx hb ht twX3 hown hK.1 hP 0 rfl rfl 0 (by decide) (ht _ kfl_X3_11) (fun _ h9 => h9) rfl dX3_airAfter_10 ?_
  refine lv_bipush (v := 10) hx hb dX3_airAfter_13 (by decide) ?_
  obtain ⟨g2, hf⟩ := gd_s hf
  refine va_iald hx hb hK.1 hP 1 0 rfl rfl g2 dX3_airAfter_15 ?_
  refine lv_iadd hx hb dX3_airAfter_16 ?_
  refine lv_aload_n hx hb dX3_airAfter_17 rfl (lv_at hl 1 rfl) ?_
  refine va_get (D := G.1) (ci := 3) (v := .ref (o 1)) (C := RX3) (T := TX3) (N := 1) hx hb ht twX3 hown hK.1 hP 0 rfl rfl 0 (by decide) (ht _ kfl_X3_11) (fun _ h9 => h9) rfl dX3_airAfter_18 ?_
  refine lv_bipush (v := 11) hx hb dX3_airAfter_21 (by decide) ?_
  obtain ⟨g3, hf⟩ := gd_s hf
  refine va_iald hx hb hK.1 hP 1 0 rfl rfl g3 dX3_airAfter_23 ?_
  refine lv_iload_n hx hb dX3_airAfter_24 rfl (lv_at hl 0 rfl) ?_
  refine lv_imul hx hb dX3_airAfter_25 ?_
  refine lv_isub hx hb dX3_airAfter_26 ?_
  obtain ⟨u4, e4, hf⟩ := bd_s hf
  refine lv_re (Option.some.inj e4).symm ?_
  refine lv_istore (lv' := [(4, .int u4), (3, .int ((6 : Int32) - q1)), (0, .ref (o 0)), (1, .int a1), (2, .int a2)]) hx hb dX3_airAfter_27 hl (by decide) rfl (fun ls hl => ?_)
  refine lv_iconst (v := 0) hx hb dX3_airAfter_29 (by decide) ?_
  refine lv_bipush (v := 99) hx hb dX3_airAfter_30 (by decide) ?_
  refine lv_iload hx hb dX3_airAfter_32 (lv_at hl 0 rfl) ?_
  refine va_mmin hx hb (C.2.2.1.trans hl.1.symm) hown (ht _ kml_X3_25) (ht _ kst_J9_min_7cf53) (ht _ kini_J9) (ht _ kcode_J9_min_7cf53) (Nat.le_of_ble_eq_true rfl) (Nat.le_of_ble_eq_true rfl) (Nat.zero_le _) (Nat.zero_le _) dX3_airAfter_34 ?_
  refine va_mmax hx hb (C.2.2.1.trans hl.1.symm) hown (ht _ kml_X3_19) (ht _ kst_J9_max_7cf53) (ht _ kini_J9) (ht _ kcode_J9_max_7cf53) (Nat.le_of_ble_eq_true rfl) (Nat.le_of_ble_eq_true rfl) (Nat.zero_le _) (Nat.zero_le _) dX3_airAfter_37 ?_
  have h9 := Option.some.inj hf
  subst h9
  exact ro_iret C rfl dX3_airAfter_40
abbrev Wc_X3_stateAfter (l : Launch) (G : TG) (o : Nat → Nat) (o_law : Nat → Int32) (a1 : Int32) (R : Int32) (p : Program) (e : Env) (s : State) (m : MethodId) (below : List Frame) (meth : Method) (c : Code) (H : Heap) (locs : List Loc) (g : JFrame) : Prop := W p l e ({ frames := 4, cells := 0, slots := 0, locals := 96 }) s m ([.ref (o 0), .int a1] : List Value).toArray below meth c H locs 0 0 (MQ below (roQ (some (.int R))) ([.ref (o 0), .int a1] : List Value).toArray s 0 0 (fun _ => False)) g
set_option maxHeartbeats 4000000 in
set_option maxRecDepth 100000 in
theorem c_X3_stateAfter (l : Launch) (G : TG) (o : Nat → Nat) (o_law : Nat → Int32) (a1 : Int32) (R : Int32) (hf : f_X3_stateAfter o_law a1 = some R) : RO l yX3_stateAfter cX3_stateAfter 4 (some .int) ({ frames := 4, cells := 0, slots := 0, locals := 96 }) G [.ref (o 0), .int a1] [(oX3 o), (wI G (o 1) 12 o_law)] (some (.int R)) := by
  refine RO.mk (by decide +kernel) (Nat.le_of_ble_eq_true rfl) ?_
  intro p e s m below meth c ls C hP hK hl
  have hx := C.1
  have hb := C.2.1
  have hown : s.vm.findClass RX3 = some m.cls := C.2.2.2.2.2.1
  have ht := C.2.2.2.2.2.2
  have hl : lv_has ls 4 [(0, .ref (o 0)), (1, .int a1)] := hl
  show Wc_X3_stateAfter l G o o_law a1 R p e s m below meth c s.heap [] (F0 m 0 ls [])
  refine lv_iload_n hx hb dX3_stateAfter_0 rfl (lv_at hl 1 rfl) ?_
  obtain ⟨q1, r1, hf⟩ := bd_s hf
  refine ro_S (n := 1) (As := [.int a1]) (rest := []) (c_X3_iceIn l G a1 q1 r1) C hK (hP.sub [] rfl) hl kcode_X3_iceIn kml_X3_41 kst_X3_iceIn kini_X3 (by decide +kernel) ⟨⟨rfl, rfl⟩, Nat.le_of_ble_eq_true rfl, Nat.le_of_ble_eq_true rfl⟩ ⟨Nat.zero_le _, Nat.zero_le _⟩ rfl rfl (Nat.le_of_ble_eq_true rfl) dX3_stateAfter_1 rfl ?_
  refine lv_istore_n (lv' := [(2, .int q1), (0, .ref (o 0)), (1, .int a1)]) hx hb dX3_stateAfter_4 rfl hl (by decide) rfl (fun ls hl => ?_)
  refine lv_iload_n hx hb dX3_stateAfter_5 rfl (lv_at hl 2 rfl) ?_
  obtain ⟨q2, r2, hf⟩ := bd_s hf
  refine ro_S (n := 1) (As := [.int a1]) (rest := []) (c_X3_airIn l G a1 q2 r2) C hK (hP.sub [] rfl) hl kcode_X3_airIn kml_X3_44 kst_X3_airIn kini_X3 (by decide +kernel) ⟨⟨rfl, rfl⟩, Nat.le_of_ble_eq_true rfl, Nat.le_of_ble_eq_true rfl⟩ ⟨Nat.zero_le _, Nat.zero_le _⟩ rfl rfl (Nat.le_of_ble_eq_true rfl) dX3_stateAfter_6 rfl ?_
  refine lv_istore_n (lv' := [(3, .int q2), (2, .int q1), (0, .ref (o 0)), (1, .int a1)]) hx hb dX3_stateAfter_9 rfl hl (by decide) rfl (fun ls hl => ?_)
  refine lv_aload_n hx hb dX3_stateAfter_10 rfl (lv_at hl 2 rfl) ?_
  refine lv_iload_n hx hb dX3_stateAfter_11 rfl (lv_at hl 1 rfl) ?_
  refine lv_iload_n hx hb dX3_stateAfter_12 rfl (lv_at hl 0 rfl) ?_
  obtain ⟨q3, r3, hf⟩ := bd_s hf
  refine ro_V (n := 2) (As := [.int q1, .int q2]) (rest := []) (c_X3_iceAfter l G o o_law q1 q2 q3 r3) C hK (hP.sub [0, 1] rfl) hl kcode_X3_iceAfter kml_X3_47 kim_X3_iceAfter ksel_X3_iceAfter kini_X3 (by decide +kernel) ⟨⟨rfl, rfl⟩, Nat.le_of_ble_eq_true rfl, Nat.le_of_ble_eq_true rfl⟩ ⟨Nat.zero_le _, Nat.zero_le _⟩ rfl rfl rfl rfl rfl (Nat.le_of_ble_eq_true rfl) dX3_stateAfter_13 rfl ?_
  refine lv_aload_n hx hb dX3_stateAfter_16 rfl (lv_at hl 2 rfl) ?_
  refine lv_iload_n hx hb dX3_stateAfter_17 rfl (lv_at hl 1 rfl) ?_
  refine lv_iload_n hx hb dX3_stateAfter_18 rfl (lv_at hl 0 rfl) ?_
  obtain ⟨q4, r4, hf⟩ := bd_s hf
  refine ro_V (n := 2) (As := [.int q1, .int q2]) (rest := [.int q3]) (c_X3_airAfter l G o o_law q1 q2 q4 r4) C hK (hP.sub [0, 1] rfl) hl kcode_X3_airAfter kml_X3_50 kim_X3_airAfter ksel_X3_airAfter kini_X3 (by decide +kernel) ⟨⟨rfl, rfl⟩, Nat.le_of_ble_eq_true rfl, Nat.le_of_ble_eq_true rfl⟩ ⟨Nat.zero_le _, Nat.zero_le _⟩ rfl rfl rfl rfl rfl (Nat.le_of_ble_eq_true rfl) dX3_stateAfter_19 rfl ?_
  obtain ⟨q5, r5, hf⟩ := bd_s hf
  refine ro_S (n := 2) (As := [.int q3, .int q4]) (rest := []) (c_X3_stateOf l G q3 q4 q5 r5) C hK (hP.sub [] rfl) hl kcode_X3_stateOf kml_X3_53 kst_X3_stateOf kini_X3 (by decide +kernel) ⟨⟨rfl, rfl⟩, Nat.le_of_ble_eq_true rfl, Nat.le_of_ble_eq_true rfl⟩ ⟨Nat.zero_le _, Nat.zero_le _⟩ rfl rfl (Nat.le_of_ble_eq_true rfl) dX3_stateAfter_22 rfl ?_
  have h9 := Option.some.inj hf
  subst h9
  exact ro_iret C rfl dX3_stateAfter_25
abbrev Wc_X3_isRest (l : Launch) (G : TG) (o : Nat → Nat) (o_law : Nat → Int32) (a1 : Int32) (a2 : Int32) (R : Int32) (p : Program) (e : Env) (s : State) (m : MethodId) (below : List Frame) (meth : Method) (c : Code) (H : Heap) (locs : List Loc) (g : JFrame) : Prop := W p l e ({ frames := 4, cells := 0, slots := 0, locals := 96 }) s m ([.ref (o 0), .int a1, .int a2] : List Value).toArray below meth c H locs 0 0 (MQ below (roQ (some (.int R))) ([.ref (o 0), .int a1, .int a2] : List Value).toArray s 0 0 (fun _ => False)) g
set_option maxHeartbeats 4000000 in
set_option maxRecDepth 100000 in
theorem c_X3_isRest (l : Launch) (G : TG) (o : Nat → Nat) (o_law : Nat → Int32) (a1 : Int32) (a2 : Int32) (R : Int32) (hf : f_X3_isRest o_law a1 a2 = some R) : RO l yX3_isRest cX3_isRest 3 (some .boolean) ({ frames := 4, cells := 0, slots := 0, locals := 96 }) G [.ref (o 0), .int a1, .int a2] [(oX3 o), (wI G (o 1) 12 o_law)] (some (.int R)) := by
  refine RO.mk (by decide +kernel) (Nat.le_of_ble_eq_true rfl) ?_
  intro p e s m below meth c ls C hP hK hl
  have hx := C.1
  have hb := C.2.1
  have hown : s.vm.findClass RX3 = some m.cls := C.2.2.2.2.2.1
  have ht := C.2.2.2.2.2.2
  have hl : lv_has ls 3 [(0, .ref (o 0)), (1, .int a1), (2, .int a2)] := hl
  show Wc_X3_isRest l G o o_law a1 a2 R p e s m below meth c s.heap [] (F0 m 0 ls [])
  refine lv_aload_n hx hb dX3_isRest_0 rfl (lv_at hl 0 rfl) ?_
  refine lv_iload_n hx hb dX3_isRest_1 rfl (lv_at hl 1 rfl) ?_
  refine lv_iload_n hx hb dX3_isRest_2 rfl (lv_at hl 2 rfl) ?_
  obtain ⟨q1, r1, hf⟩ := bd_s hf
  refine ro_V (n := 2) (As := [.int a1, .int a2]) (rest := []) (c_X3_iceAfter l G o o_law a1 a2 q1 r1) C hK (hP.sub [0, 1] rfl) hl kcode_X3_iceAfter kml_X3_47 kim_X3_iceAfter ksel_X3_iceAfter kini_X3 (by decide +kernel) ⟨⟨rfl, rfl⟩, Nat.le_of_ble_eq_true rfl, Nat.le_of_ble_eq_true rfl⟩ ⟨Nat.zero_le _, Nat.zero_le _⟩ rfl rfl rfl rfl rfl (Nat.le_of_ble_eq_true rfl) dX3_isRest_3 rfl ?_
  refine lv_iload_n hx hb dX3_isRest_6 rfl (lv_at hl 1 rfl) ?_
  refine lv_icmp_ne (tgt := 14) hx hb dX3_isRest_7 (by decide) (fun c2 => ?_) (fun c2 => ?_)
  · have hf := o_f c2 hf
    refine lv_iconst (v := 0) hx hb dX3_isRest_14 (by decide) ?_
    have h9 := Option.some.inj hf
    subst h9
    exact ro_zret C (Or.inl rfl) rfl dX3_isRest_15
  · have hf := o_t c2 hf
    refine lv_iconst (v := 1) hx hb dX3_isRest_10 (by decide) ?_
    refine lv_goto (tgt := 15) hx hb dX3_isRest_11 (by decide) ?_
    have h9 := Option.some.inj hf
    subst h9
    exact ro_zret C (Or.inr rfl) rfl dX3_isRest_15
abbrev Wc_X4_mark (l : Launch) (G : TG) (o : Nat → Nat) (o_marks : Nat → Int32) (o_beds : Int32) (o_isKept : Int32) (a1 : Int32) (a2 : Int32) (a3 : Int32) (R : (Nat → Int32)) (p : Program) (e : Env) (s : State) (m : MethodId) (below : List Frame) (meth : Method) (c : Code) (A : Nat → Prop) (H : Heap) (locs : List Loc) (g : JFrame) : Prop := W p l e ({ frames := 1, cells := 0, slots := 0, locals := 22 }) s m ([.ref (o 0), .int a1, .int a2, .int a3] : List Value).toArray below meth c H locs 0 0 (MQ below (rwQ G none [(oX4 o o_beds o_isKept), (wI G (o 1) 48 R)] A) ([.ref (o 0), .int a1, .int a2, .int a3] : List Value).toArray s 0 0 A) g
set_option maxHeartbeats 4000000 in
set_option maxRecDepth 100000 in
theorem c_X4_mark (l : Launch) (G : TG) (o : Nat → Nat) (o_marks : Nat → Int32) (o_beds : Int32) (o_isKept : Int32) (a1 : Int32) (a2 : Int32) (a3 : Int32) (R : (Nat → Int32)) (hf : f_X4_mark o_marks a1 a2 a3 = some R) : RW l yX4_mark cX4_mark 4 none ({ frames := 1, cells := 0, slots := 0, locals := 22 }) G [.ref (o 0), .int a1, .int a2, .int a3] [(oX4 o o_beds o_isKept), (wI G (o 1) 48 o_marks)] none [(oX4 o o_beds o_isKept), (wI G (o 1) 48 R)] := by
  refine RW.mk (by decide +kernel) (Nat.le_of_ble_eq_true rfl) ?_
  intro p e s m below meth c ls A C hP hD hA hz hK hl hS
  have hx := C.1
  have hb := C.2.1
  have hown : s.vm.findClass RX4 = some m.cls := C.2.2.2.2.2.1
  have ht := C.2.2.2.2.2.2
  have hl : lv_has ls 4 [(0, .ref (o 0)), (1, .int a1), (2, .int a2), (3, .int a3)] := hl
  show Wc_X4_mark l G o o_marks o_beds o_isKept a1 a2 a3 R p e s m below meth c A s.heap [] (F0 m 0 ls [])
  obtain ⟨H, eH, hP, hS⟩ : ∃ H, H = s.heap ∧ va_P G.1 vwCl [(oX4 o o_beds o_isKept), (wI G (o 1) 48 o_marks)] H ∧ va_S A s.heap H [] := ⟨_, rfl, hP, hS⟩
  obtain ⟨locs, el, hS⟩ : ∃ locs : List Loc, locs = [] ∧ va_S A s.heap H locs := ⟨_, rfl, hS⟩
  have key : Wc_X4_mark l G o o_marks o_beds o_isKept a1 a2 a3 R p e s m below meth c A H locs (F0 m 0 ls []) := by
    refine lv_iload_n hx hb dX4_mark_0 rfl (lv_at hl 1 rfl) ?_
    refine lv_iconst (v := 0) hx hb dX4_mark_1 (by decide) ?_
    refine lv_bipush (v := 7) hx hb dX4_mark_2 (by decide) ?_
    obtain ⟨q1, r1, hf⟩ := bd_s hf
    refine ro_SN (n := 3) (As := [.int a1, .int (0 : Int32), .int (7 : Int32)]) (rest := []) (c_X10_within l G a1 (0 : Int32) (7 : Int32) q1 r1) C (hK.at hS hz) (hP.sub [] rfl) hl kcode_X10_within kmln_X4_18 kst_X10_within kini_X10 (by decide +kernel) ⟨⟨rfl, rfl⟩, Nat.le_of_ble_eq_true rfl, Nat.le_of_ble_eq_true rfl⟩ ⟨Nat.zero_le _, Nat.zero_le _⟩ rfl rfl (Nat.le_of_ble_eq_true rfl) dX4_mark_4 rfl ?_
    refine lv_if_eq (tgt := 31) hx hb dX4_mark_7 (by decide) (fun c2 => ?_) (fun c2 => ?_)
    · have hf := o_t c2 hf
      have h9 := Option.some.inj hf
      subst h9
      exact rw_vret C hP hD hS dX4_mark_31
    · have hf := o_f c2 hf
      refine lv_iload_n hx hb dX4_mark_10 rfl (lv_at hl 2 rfl) ?_
      refine lv_iconst (v := 0) hx hb dX4_mark_11 (by decide) ?_
      refine lv_iconst (v := 5) hx hb dX4_mark_12 (by decide) ?_
      obtain ⟨q4, r4, hf⟩ := bd_s hf
      refine ro_SN (n := 3) (As := [.int a2, .int (0 : Int32), .int (5 : Int32)]) (rest := []) (c_X10_within l G a2 (0 : Int32) (5 : Int32) q4 r4) C (hK.at hS hz) (hP.sub [] rfl) hl kcode_X10_within kmln_X4_18 kst_X10_within kini_X10 (by decide +kernel) ⟨⟨rfl, rfl⟩, Nat.le_of_ble_eq_true rfl, Nat.le_of_ble_eq_true rfl⟩ ⟨Nat.zero_le _, Nat.zero_le _⟩ rfl rfl (Nat.le_of_ble_eq_true rfl) dX4_mark_13 rfl ?_
      refine lv_if_eq (tgt := 31) hx hb dX4_mark_16 (by decide) (fun c5 => ?_) (fun c5 => ?_)
      · have hf := o_t c5 hf
        have h9 := Option.some.inj hf
        subst h9
        exact rw_vret C hP hD hS dX4_mark_31
      · have hf := o_f c5 hf
        refine lv_aload_n hx hb dX4_mark_19 rfl (lv_at hl 0 rfl) ?_
        refine va_get (D := G.1) (ci := 4) (v := .ref (o 1)) (C := RX4) (T := TX4) (N := 4) hx hb ht twX4 hown hK.1 hP 0 rfl rfl 0 (by decide) (ht _ kfl_X4_11) (fun _ h9 => h9) rfl dX4_mark_20 ?_
        refine lv_iload_n hx hb dX4_mark_23 rfl (lv_at hl 1 rfl) ?_
        refine lv_bipush (v := 6) hx hb dX4_mark_24 (by decide) ?_
        refine lv_imul hx hb dX4_mark_26 ?_
        refine lv_iload_n hx hb dX4_mark_27 rfl (lv_at hl 2 rfl) ?_
        refine lv_iadd hx hb dX4_mark_28 ?_
        refine lv_iload_n hx hb dX4_mark_29 rfl (lv_at hl 3 rfl) ?_
        obtain ⟨g7, hf⟩ := gd_s hf
        refine va_iast hx hb hK.1 hP hD hS 1 0 rfl rfl g7 dX4_mark_30 (fun H locs hP hD hS => ?_)
        have hP : va_P G.1 vwCl [(oX4 o o_beds o_isKept), (wI G (o 1) 48 (upd o_marks ((a1 * (6 : Int32)) + a2).toNatClampNeg a3))] H := hP
        have hD : va_D A [(oX4 o o_beds o_isKept), (wI G (o 1) 48 (upd o_marks ((a1 * (6 : Int32)) + a2).toNatClampNeg a3))] := hD
        have h9 := Option.some.inj hf
        subst h9
        exact rw_vret C hP hD hS dX4_mark_31
  rw [eH, el] at key
  exact key
abbrev Wc_X4_slideTenths (l : Launch) (G : TG) (o : Nat → Nat) (o_marks : Nat → Int32) (o_beds : Int32) (o_isKept : Int32) (a1 : Int32) (R : Int32) (p : Program) (e : Env) (s : State) (m : MethodId) (below : List Frame) (meth : Method) (c : Code) (H : Heap) (locs : List Loc) (g : JFrame) : Prop := W p l e ({ frames := 3, cells := 0, slots := 0, locals := 67 }) s m ([.ref (o 0), .int a1] : List Value).toArray below meth c H locs 0 0 (MQ below (roQ (some (.int R))) ([.ref (o 0), .int a1] : List Value).toArray s 0 0 (fun _ => False)) g
set_option maxHeartbeats 4000000 in
set_option maxRecDepth 100000 in
theorem c_X4_slideTenths (l : Launch) (G : TG) (o : Nat → Nat) (o_marks : Nat → Int32) (o_beds : Int32) (o_isKept : Int32) (a1 : Int32) (R : Int32) (hf : f_X4_slideTenths o_marks a1 = some R) : RO l yX4_slideTenths cX4_slideTenths 3 (some .int) ({ frames := 3, cells := 0, slots := 0, locals := 67 }) G [.ref (o 0), .int a1] [(oX4 o o_beds o_isKept), (wI G (o 1) 48 o_marks)] (some (.int R)) := by
  refine RO.mk (by decide +kernel) (Nat.le_of_ble_eq_true rfl) ?_
  intro p e s m below meth c ls C hP hK hl
  have hx := C.1
  have hb := C.2.1
  have hown : s.vm.findClass RX4 = some m.cls := C.2.2.2.2.2.1
  have ht := C.2.2.2.2.2.2
  have hl : lv_has ls 3 [(0, .ref (o 0)), (1, .int a1)] := hl
  show Wc_X4_slideTenths l G o o_marks o_beds o_isKept a1 R p e s m below meth c s.heap [] (F0 m 0 ls [])
  have hj29 : ∀ (v2 : Int32) (ls : Array Slot), f_X4_slideTenths_j29 o_marks a1 v2 = some R → lv_has ls 3 [(0, .ref (o 0)), (1, .int a1), (2, .int v2)] → Wc_X4_slideTenths l G o o_marks o_beds o_isKept a1 R p e s m below meth c s.heap [] (F0 m 29 ls []) := by
    intro v2 ls hf hl
    refine lv_aload_n hx hb dX4_slideTenths_29 rfl (lv_at hl 0 rfl) ?_
    refine lv_iload_n hx hb dX4_slideTenths_30 rfl (lv_at hl 1 rfl) ?_
    refine lv_iconst (v := 4) hx hb dX4_slideTenths_31 (by decide) ?_
    obtain ⟨q1, r1, hf⟩ := bd_s hf
    refine ro_V (n := 2) (As := [.int a1, .int (4 : Int32)]) (rest := []) (c_X4_hasSign l G o o_marks o_beds o_isKept a1 (4 : Int32) q1 r1) C hK (hP.sub [0, 1] rfl) hl kcode_X4_hasSign kml_X4_26 kim_X4_hasSign ksel_X4_hasSign kini_X4 (by decide +kernel) ⟨⟨rfl, rfl⟩, Nat.le_of_ble_eq_true rfl, Nat.le_of_ble_eq_true rfl⟩ ⟨Nat.zero_le _, Nat.zero_le _⟩ rfl rfl rfl rfl rfl (Nat.le_of_ble_eq_true rfl) dX4_slideTenths_32 rfl ?_
    refine lv_if_eq (tgt := 41) hx hb dX4_slideTenths_35 (by decide) (fun c2 => ?_) (fun c2 => ?_)
    · have hf := o_t c2 hf
      refine lv_iload_n hx hb dX4_slideTenths_41 rfl (lv_at hl 2 rfl) ?_
      have h9 := Option.some.inj hf
      subst h9
      exact ro_iret C rfl dX4_slideTenths_42
    · have hf := o_f c2 hf
      refine lv_iinc (v := (v2 + (-1 : Int32))) (lv' := [(2, .int (v2 + (-1 : Int32))), (0, .ref (o 0)), (1, .int a1)]) hx hb dX4_slideTenths_38 hl (k := 2) rfl (by rfl) (by decide) rfl (fun ls hl => ?_)
      refine lv_iload_n hx hb dX4_slideTenths_41 rfl (lv_at hl 0 rfl) ?_
      have h9 := Option.some.inj hf
      subst h9
      exact ro_iret C rfl dX4_slideTenths_42
  have hj16 : ∀ (k0 : Int32) (ls : Array Slot), f_X4_slideTenths_j16 o_marks a1 k0 = some R → lv_has ls 3 [(0, .ref (o 0)), (1, .int a1)] → Wc_X4_slideTenths l G o o_marks o_beds o_isKept a1 R p e s m below meth c s.heap [] (F0 m 16 ls [.int k0]) := by
    intro k0 ls hf hl
    refine lv_istore_n (lv' := [(2, .int k0), (0, .ref (o 0)), (1, .int a1)]) hx hb dX4_slideTenths_16 rfl hl (by decide) rfl (fun ls hl => ?_)
    refine lv_aload_n hx hb dX4_slideTenths_17 rfl (lv_at hl 1 rfl) ?_
    refine lv_iload_n hx hb dX4_slideTenths_18 rfl (lv_at hl 2 rfl) ?_
    refine lv_iconst (v := 2) hx hb dX4_slideTenths_19 (by decide) ?_
    obtain ⟨q5, r5, hf⟩ := bd_s hf
    refine ro_V (n := 2) (As := [.int a1, .int (2 : Int32)]) (rest := []) (c_X4_hasSign l G o o_marks o_beds o_isKept a1 (2 : Int32) q5 r5) C hK (hP.sub [0, 1] rfl) hl kcode_X4_hasSign kml_X4_26 kim_X4_hasSign ksel_X4_hasSign kini_X4 (by decide +kernel) ⟨⟨rfl, rfl⟩, Nat.le_of_ble_eq_true rfl, Nat.le_of_ble_eq_true rfl⟩ ⟨Nat.zero_le _, Nat.zero_le _⟩ rfl rfl rfl rfl rfl (Nat.le_of_ble_eq_true rfl) dX4_slideTenths_20 rfl ?_
    refine lv_if_eq (tgt := 29) hx hb dX4_slideTenths_23 (by decide) (fun c6 => ?_) (fun c6 => ?_)
    · have hf := o_t c6 hf
      exact hj29 k0 ls hf (lv_sub hl [1, 2, 0] rfl)
    · have hf := o_f c6 hf
      refine lv_iinc (v := (k0 + (-1 : Int32))) (lv' := [(2, .int (k0 + (-1 : Int32))), (0, .ref (o 0)), (1, .int a1)]) hx hb dX4_slideTenths_26 hl (k := 0) rfl (by rfl) (by decide) rfl (fun ls hl => ?_)
      exact hj29 (k0 + (-1 : Int32)) ls hf (lv_sub hl [1, 2, 0] rfl)
  refine lv_aload_n hx hb dX4_slideTenths_0 rfl (lv_at hl 0 rfl) ?_
  refine lv_iload_n hx hb dX4_slideTenths_1 rfl (lv_at hl 1 rfl) ?_
  refine lv_bipush (v := 8) hx hb dX4_slideTenths_2 (by decide) ?_
  obtain ⟨q7, r7, hf⟩ := bd_s hf
  refine ro_V (n := 2) (As := [.int a1, .int (8 : Int32)]) (rest := []) (c_X4_hasSign l G o o_marks o_beds o_isKept a1 (8 : Int32) q7 r7) C hK (hP.sub [0, 1] rfl) hl kcode_X4_hasSign kml_X4_26 kim_X4_hasSign ksel_X4_hasSign kini_X4 (by decide +kernel) ⟨⟨rfl, rfl⟩, Nat.le_of_ble_eq_true rfl, Nat.le_of_ble_eq_true rfl⟩ ⟨Nat.zero_le _, Nat.zero_le _⟩ rfl rfl rfl rfl rfl (Nat.le_of_ble_eq_true rfl) dX4_slideTenths_4 rfl ?_
  refine lv_if_eq (tgt := 15) hx hb dX4_slideTenths_7 (by decide) (fun c8 => ?_) (fun c8 => ?_)
  · have hf := o_t c8 hf
    refine lv_iconst (v := 2) hx hb dX4_slideTenths_15 (by decide) ?_
    exact hj16 (2 : Int32) ls hf (lv_sub hl [0, 1] rfl)
  · have hf := o_f c8 hf
    refine lv_bipush (v := 6) hx hb dX4_slideTenths_10 (by decide) ?_
    refine lv_goto (tgt := 16) hx hb dX4_slideTenths_12 (by decide) ?_
    exact hj16 (6 : Int32) ls hf (lv_sub hl [0, 1] rfl)
abbrev Wc_X4_icyBeds (l : Launch) (G : TG) (o : Nat → Nat) (o_marks : Nat → Int32) (o_beds : Int32) (o_isKept : Int32) (R : Int32) (p : Program) (e : Env) (s : State) (m : MethodId) (below : List Frame) (meth : Method) (c : Code) (H : Heap) (locs : List Loc) (g : JFrame) : Prop := W p l e ({ frames := 4, cells := 0, slots := 0, locals := 88 }) s m ([.ref (o 0)] : List Value).toArray below meth c H locs 0 0 (MQ below (roQ (some (.int R))) ([.ref (o 0)] : List Value).toArray s 0 0 (fun _ => False)) g
set_option maxHeartbeats 4000000 in
set_option maxRecDepth 100000 in
theorem c_X4_icyBeds (l : Launch) (G : TG) (o : Nat → Nat) (o_marks : Nat → Int32) (o_beds : Int32) (o_isKept : Int32) (R : Int32) (hf : f_X4_icyBeds o_marks o_beds = some R) : RO l yX4_icyBeds cX4_icyBeds 3 (some .int) ({ frames := 4, cells := 0, slots := 0, locals := 88 }) G [.ref (o 0)] [(oX4 o o_beds o_isKept), (wI G (o 1) 48 o_marks)] (some (.int R)) := by
  refine RO.mk (by decide +kernel) (Nat.le_of_ble_eq_true rfl) ?_
  intro p e s m below meth c ls C hP hK hl
  have hx := C.1
  have hb := C.2.1
  have hown : s.vm.findClass RX4 = some m.cls := C.2.2.2.2.2.1
  have ht := C.2.2.2.2.2.2
  have hl : lv_has ls 3 [(0, .ref (o 0))] := hl
  show Wc_X4_icyBeds l G o o_marks o_beds o_isKept R p e s m below meth c s.heap [] (F0 m 0 ls [])
  refine lv_iconst (v := 0) hx hb dX4_icyBeds_0 (by decide) ?_
  refine lv_istore_n (lv' := [(1, .int (0 : Int32)), (0, .ref (o 0))]) hx hb dX4_icyBeds_1 rfl hl (by decide) rfl (fun ls hl => ?_)
  refine lv_iconst (v := 0) hx hb dX4_icyBeds_2 (by decide) ?_
  refine lv_istore_n (lv' := [(2, .int (0 : Int32)), (1, .int (0 : Int32)), (0, .ref (o 0))]) hx hb dX4_icyBeds_3 rfl hl (by decide) rfl (fun ls hl => ?_)
  have hx29_1 : ∀ (v1 : Int32) (ls : Array Slot), f_X4_icyBeds_x29_1 v1 = some R → lv_has ls 3 [(1, .int v1)] → Wc_X4_icyBeds l G o o_marks o_beds o_isKept R p e s m below meth c s.heap [] (F0 m 29 ls []) := by
    intro v1 ls hf hl
    refine lv_iload_n hx hb dX4_icyBeds_29 rfl (lv_at hl 0 rfl) ?_
    have h9 := Option.some.inj hf
    subst h9
    exact ro_iret C rfl dX4_icyBeds_30
  obtain ⟨rL1, hL1, hk1⟩ := bd_s hf
  refine lp_W (P := fun st => ∀ (ls : Array Slot), lv_has ls 3 [(0, .ref (o 0)), (1, .int st.1), (2, .int st.2)] → Wc_X4_icyBeds l G o o_marks o_beds o_isKept R p e s m below meth c s.heap [] (F0 m 4 ls [])) ?_ FU ((0 : Int32), (0 : Int32)) hL1 ls (lv_sub hl [2, 1, 0] rfl)
  intro ⟨v1, v2⟩ oc1 hf hI hE ls hl
  have hl : lv_has ls 3 [(0, .ref (o 0)), (1, .int v1), (2, .int v2)] := hl
  have hf : f_X4_icyBeds_b4 o_marks o_beds v1 v2 = some oc1 := hf
  refine lv_iload_n hx hb dX4_icyBeds_4 rfl (lv_at hl 2 rfl) ?_
  refine lv_aload_n hx hb dX4_icyBeds_5 rfl (lv_at hl 0 rfl) ?_
  refine va_get (D := G.1) (ci := 4) (v := .int o_beds) (C := RX4) (T := TX4) (N := 4) hx hb ht twX4 hown hK.1 hP 0 rfl rfl 2 (by decide) (ht _ kfl_X4_30) (fun _ h9 => h9) rfl dX4_icyBeds_6 ?_
  refine lv_icmp_ge (tgt := 29) hx hb dX4_icyBeds_9 (by decide) (fun c3 => ?_) (fun c3 => ?_)
  · have hf := o_t c3 hf
    cases hf
    have hf : f_X4_icyBeds_x29_1 v1 = some R := by have h9 := hk1; rw [← hE _ rfl] at h9; exact h9
    exact hx29_1 v1 ls hf (lv_sub hl [1] rfl)
  · have hf := o_f c3 hf
    refine lv_aload_n hx hb dX4_icyBeds_12 rfl (lv_at hl 0 rfl) ?_
    refine lv_iload_n hx hb dX4_icyBeds_13 rfl (lv_at hl 2 rfl) ?_
    obtain ⟨q4, r4, hf⟩ := bd_s hf
    refine ro_V (n := 1) (As := [.int v2]) (rest := []) (c_X4_isIcy l G o o_marks o_beds o_isKept v2 q4 r4) C hK (hP.sub [0, 1] rfl) hl kcode_X4_isIcy kml_X4_34 kim_X4_isIcy ksel_X4_isIcy kini_X4 (by decide +kernel) ⟨⟨rfl, rfl⟩, Nat.le_of_ble_eq_true rfl, Nat.le_of_ble_eq_true rfl⟩ ⟨Nat.zero_le _, Nat.zero_le _⟩ rfl rfl rfl rfl rfl (Nat.le_of_ble_eq_true rfl) dX4_icyBeds_14 rfl ?_
    refine lv_if_eq (tgt := 23) hx hb dX4_icyBeds_17 (by decide) (fun c5 => ?_) (fun c5 => ?_)
    · have hf := o_t c5 hf
      refine lv_iinc (v := (v2 + (1 : Int32))) (lv' := [(2, .int (v2 + (1 : Int32))), (0, .ref (o 0)), (1, .int v1)]) hx hb dX4_icyBeds_23 hl (k := 2) rfl (by rfl) (by decide) rfl (fun ls hl => ?_)
      refine lv_goto (tgt := 4) hx hb dX4_icyBeds_26 (by decide) ?_
      cases hf
      exact hI _ rfl ls (lv_sub hl [1, 2, 0] rfl)
    · have hf := o_f c5 hf
      refine lv_iinc (v := (v1 + (1 : Int32))) (lv' := [(1, .int (v1 + (1 : Int32))), (0, .ref (o 0)), (2, .int v2)]) hx hb dX4_icyBeds_20 hl (k := 1) rfl (by rfl) (by decide) rfl (fun ls hl => ?_)
      refine lv_iinc (v := (v2 + (1 : Int32))) (lv' := [(2, .int (v2 + (1 : Int32))), (1, .int (v1 + (1 : Int32))), (0, .ref (o 0))]) hx hb dX4_icyBeds_23 hl (k := 2) rfl (by rfl) (by decide) rfl (fun ls hl => ?_)
      refine lv_goto (tgt := 4) hx hb dX4_icyBeds_26 (by decide) ?_
      cases hf
      exact hI _ rfl ls (lv_sub hl [2, 1, 0] rfl)
abbrev Wc_X4_weightsTogether (l : Launch) (G : TG) (o : Nat → Nat) (o_weights : Nat → Int32) (o_beds : Int32) (o_isKept : Int32) (R : Int32) (p : Program) (e : Env) (s : State) (m : MethodId) (below : List Frame) (meth : Method) (c : Code) (H : Heap) (locs : List Loc) (g : JFrame) : Prop := W p l e ({ frames := 0, cells := 0, slots := 0, locals := 0 }) s m ([.ref (o 0)] : List Value).toArray below meth c H locs 0 0 (MQ below (roQ (some (.int R))) ([.ref (o 0)] : List Value).toArray s 0 0 (fun _ => False)) g
set_option maxHeartbeats 4000000 in
set_option maxRecDepth 100000 in
theorem c_X4_weightsTogether (l : Launch) (G : TG) (o : Nat → Nat) (o_weights : Nat → Int32) (o_beds : Int32) (o_isKept : Int32) (R : Int32) (hf : f_X4_weightsTogether o_weights = some R) : RO l yX4_weightsTogether cX4_weightsTogether 3 (some .int) ({ frames := 0, cells := 0, slots := 0, locals := 0 }) G [.ref (o 0)] [(oX4 o o_beds o_isKept), (wI G (o 2) 4 o_weights)] (some (.int R)) := by
  refine RO.mk (by decide +kernel) (Nat.le_of_ble_eq_true rfl) ?_
  intro p e s m below meth c ls C hP hK hl
  have hx := C.1
  have hb := C.2.1
  have hown : s.vm.findClass RX4 = some m.cls := C.2.2.2.2.2.1
  have ht := C.2.2.2.2.2.2
  have hl : lv_has ls 3 [(0, .ref (o 0))] := hl
  show Wc_X4_weightsTogether l G o o_weights o_beds o_isKept R p e s m below meth c s.heap [] (F0 m 0 ls [])
  refine lv_iconst (v := 0) hx hb dX4_weightsTogether_0 (by decide) ?_
  refine lv_istore_n (lv' := [(1, .int (0 : Int32)), (0, .ref (o 0))]) hx hb dX4_weightsTogether_1 rfl hl (by decide) rfl (fun ls hl => ?_)
  refine lv_iconst (v := 0) hx hb dX4_weightsTogether_2 (by decide) ?_
  refine lv_istore_n (lv' := [(2, .int (0 : Int32)), (1, .int (0 : Int32)), (0, .ref (o 0))]) hx hb dX4_weightsTogether_3 rfl hl (by decide) rfl (fun ls hl => ?_)
  have hx24_1 : ∀ (v1 : Int32) (ls : Array Slot), f_X4_weightsTogether_x24_1 v1 = some R → lv_has ls 3 [(1, .int v1)] → Wc_X4_weightsTogether l G o o_weights o_beds o_isKept R p e s m below meth c s.heap [] (F0 m 24 ls []) := by
    intro v1 ls hf hl
    refine lv_iload_n hx hb dX4_weightsTogether_24 rfl (lv_at hl 0 rfl) ?_
    have h9 := Option.some.inj hf
    subst h9
    exact ro_iret C rfl dX4_weightsTogether_25
  obtain ⟨rL1, hL1, hk1⟩ := bd_s hf
  refine lp_W (P := fun st => ∀ (ls : Array Slot), lv_has ls 3 [(0, .ref (o 0)), (1, .int st.1), (2, .int st.2)] → Wc_X4_weightsTogether l G o o_weights o_beds o_isKept R p e s m below meth c s.heap [] (F0 m 4 ls [])) ?_ FU ((0 : Int32), (0 : Int32)) hL1 ls (lv_sub hl [2, 1, 0] rfl)
  intro ⟨v1, v2⟩ oc1 hf hI hE ls hl
  have hl : lv_has ls 3 [(0, .ref (o 0)), (1, .int v1), (2, .int v2)] := hl
  have hf : f_X4_weightsTogether_b4 o_weights v1 v2 = some oc1 := hf
  refine lv_iload_n hx hb dX4_weightsTogether_4 rfl (lv_at hl 2 rfl) ?_
  refine lv_iconst (v := 4) hx hb dX4_weightsTogether_5 (by decide) ?_
  refine lv_icmp_ge (tgt := 24) hx hb dX4_weightsTogether_6 (by decide) (fun c3 => ?_) (fun c3 => ?_)
  · have hf := o_t c3 hf
    cases hf
    have hf : f_X4_weightsTogether_x24_1 v1 = some R := by have h9 := hk1; rw [← hE _ rfl] at h9; exact h9
    exact hx24_1 v1 ls hf (lv_sub hl [1] rfl)
  · have hf := o_f c3 hf
    refine lv_iload_n hx hb dX4_weightsTogether_9 rfl (lv_at hl 1 rfl) ?_
    refine lv_aload_n hx hb dX4_weightsTogether_10 rfl (lv_at hl 0 rfl) ?_
    refine va_get (D := G.1) (ci := 4) (v := .ref (o 2)) (C := RX4) (T := TX4) (N := 4) hx hb ht twX4 hown hK.1 hP 0 rfl rfl 1 (by decide) (ht _ kfl_X4_15) (fun _ h9 => h9) rfl dX4_weightsTogether_11 ?_
    refine lv_iload_n hx hb dX4_weightsTogether_14 rfl (lv_at hl 2 rfl) ?_
    obtain ⟨g4, hf⟩ := gd_s hf
    refine va_iald hx hb hK.1 hP 1 0 rfl rfl g4 dX4_weightsTogether_15 ?_
    refine lv_iadd hx hb dX4_weightsTogether_16 ?_
    refine lv_istore_n (lv' := [(1, .int (v1 + (o_weights v2.toNatClampNeg))), (0, .ref (o 0)), (2, .int v2)]) hx hb dX4_weightsTogether_17 rfl hl (by decide) rfl (fun ls hl => ?_)
    refine lv_iinc (v := (v2 + (1 : Int32))) (lv' := [(2, .int (v2 + (1 : Int32))), (1, .int (v1 + (o_weights v2.toNatClampNeg))), (0, .ref (o 0))]) hx hb dX4_weightsTogether_18 hl (k := 2) rfl (by rfl) (by decide) rfl (fun ls hl => ?_)
    refine lv_goto (tgt := 4) hx hb dX4_weightsTogether_21 (by decide) ?_
    cases hf
    exact hI _ rfl ls (lv_sub hl [2, 1, 0] rfl)
abbrev Wc_X4_copyFrom (l : Launch) (G : TG) (o : Nat → Nat) (p1 : Nat → Nat) (o_marks : Nat → Int32) (o_weights : Nat → Int32) (o_beds : Int32) (o_isKept : Int32) (p1_marks : Nat → Int32) (p1_weights : Nat → Int32) (p1_beds : Int32) (p1_isKept : Int32) (R : (Nat → Int32) × (Nat → Int32) × Int32) (p : Program) (e : Env) (s : State) (m : MethodId) (below : List Frame) (meth : Method) (c : Code) (A : Nat → Prop) (H : Heap) (locs : List Loc) (g : JFrame) : Prop := W p l e ({ frames := 1, cells := 0, slots := 0, locals := 40 }) s m ([.ref (o 0), .ref (p1 0)] : List Value).toArray below meth c H locs 0 0 (MQ below (rwQ G none [(oX4 o R.2.2 o_isKept), (wI G (o 1) 48 R.1), (wI G (o 2) 4 R.2.1), (oX4 p1 p1_beds p1_isKept), (wI G (p1 1) 48 p1_marks), (wI G (p1 2) 4 p1_weights)] A) ([.ref (o 0), .ref (p1 0)] : List Value).toArray s 0 0 A) g
set_option maxHeartbeats 4000000 in
set_option maxRecDepth 100000 in
theorem c_X4_copyFrom (l : Launch) (G : TG) (o : Nat → Nat) (p1 : Nat → Nat) (o_marks : Nat → Int32) (o_weights : Nat → Int32) (o_beds : Int32) (o_isKept : Int32) (p1_marks : Nat → Int32) (p1_weights : Nat → Int32) (p1_beds : Int32) (p1_isKept : Int32) (R : (Nat → Int32) × (Nat → Int32) × Int32) (hf : f_X4_copyFrom o_marks o_weights p1_marks p1_weights p1_beds = some R) : RW l yX4_copyFrom cX4_copyFrom 2 none ({ frames := 1, cells := 0, slots := 0, locals := 40 }) G [.ref (o 0), .ref (p1 0)] [(oX4 o o_beds o_isKept), (wI G (o 1) 48 o_marks), (wI G (o 2) 4 o_weights), (oX4 p1 p1_beds p1_isKept), (wI G (p1 1) 48 p1_marks), (wI G (p1 2) 4 p1_weights)] none [(oX4 o R.2.2 o_isKept), (wI G (o 1) 48 R.1), (wI G (o 2) 4 R.2.1), (oX4 p1 p1_beds p1_isKept), (wI G (p1 1) 48 p1_marks), (wI G (p1 2) 4 p1_weights)] := by
  refine RW.mk (by decide +kernel) (Nat.le_of_ble_eq_true rfl) ?_
  intro p e s m below meth c ls A C hP hD hA hz hK hl hS
  have hx := C.1
  have hb := C.2.1
  have hown : s.vm.findClass RX4 = some m.cls := C.2.2.2.2.2.1
  have ht := C.2.2.2.2.2.2
  have hl : lv_has ls 2 [(0, .ref (o 0)), (1, .ref (p1 0))] := hl
  show Wc_X4_copyFrom l G o p1 o_marks o_weights o_beds o_isKept p1_marks p1_weights p1_beds p1_isKept R p e s m below meth c A s.heap [] (F0 m 0 ls [])
  obtain ⟨H, eH, hP, hS⟩ : ∃ H, H = s.heap ∧ va_P G.1 vwCl [(oX4 o o_beds o_isKept), (wI G (o 1) 48 o_marks), (wI G (o 2) 4 o_weights), (oX4 p1 p1_beds p1_isKept), (wI G (p1 1) 48 p1_marks), (wI G (p1 2) 4 p1_weights)] H ∧ va_S A s.heap H [] := ⟨_, rfl, hP, hS⟩
  obtain ⟨locs, el, hS⟩ : ∃ locs : List Loc, locs = [] ∧ va_S A s.heap H locs := ⟨_, rfl, hS⟩
  have key : Wc_X4_copyFrom l G o p1 o_marks o_weights o_beds o_isKept p1_marks p1_weights p1_beds p1_isKept R p e s m below meth c A H locs (F0 m 0 ls []) := by
    refine lv_aload_n hx hb dX4_copyFrom_0 rfl (lv_at hl 1 rfl) ?_
    refine va_get (D := G.1) (ci := 4) (v := .ref (p1 1)) (C := RX4) (T := TX4) (N := 4) hx hb ht twX4 hown hK.1 hP 3 rfl rfl 0 (by decide) (ht _ kfl_X4_11) (fun _ h9 => h9) rfl dX4_copyFrom_1 ?_
    refine lv_iconst (v := 0) hx hb dX4_copyFrom_4 (by decide) ?_
    refine lv_aload_n hx hb dX4_copyFrom_5 rfl (lv_at hl 0 rfl) ?_
    refine va_get (D := G.1) (ci := 4) (v := .ref (o 1)) (C := RX4) (T := TX4) (N := 4) hx hb ht twX4 hown hK.1 hP 0 rfl rfl 0 (by decide) (ht _ kfl_X4_11) (fun _ h9 => h9) rfl dX4_copyFrom_6 ?_
    refine lv_iconst (v := 0) hx hb dX4_copyFrom_9 (by decide) ?_
    refine lv_bipush (v := 48) hx hb dX4_copyFrom_10 (by decide) ?_
    refine va_copyi hx hb (C.2.2.1.trans hl.1.symm) hown (ht _ kml_X4_38) (ht _ knat_java_lang_System_arraycopy__Ljava_lang_Object_ILjava_lang_Object_II_V) (ht _ kst_java_lang_System_arraycopy__Ljava_lang_Object_ILjava_lang_Object_II_V) (ht _ kini_J10) hK.1 hP hD hS 4 1 0 0 rfl rfl rfl rfl rfl (by decide) (by decide) (by decide) (by decide) (by decide) (fun _ _ => rfl) (Nat.le_of_ble_eq_true rfl) (by decide) dX4_copyFrom_12 (fun H locs hP hD hS => ?_)
    have hP : va_P G.1 vwCl [(oX4 o o_beds o_isKept), (wI G (o 1) 48 (va_cpy p1_marks o_marks (0 : Int32).toNatClampNeg (0 : Int32).toNatClampNeg (48 : Int32).toNatClampNeg)), (wI G (o 2) 4 o_weights), (oX4 p1 p1_beds p1_isKept), (wI G (p1 1) 48 p1_marks), (wI G (p1 2) 4 p1_weights)] H := hP
    have hD : va_D A [(oX4 o o_beds o_isKept), (wI G (o 1) 48 (va_cpy p1_marks o_marks (0 : Int32).toNatClampNeg (0 : Int32).toNatClampNeg (48 : Int32).toNatClampNeg)), (wI G (o 2) 4 o_weights), (oX4 p1 p1_beds p1_isKept), (wI G (p1 1) 48 p1_marks), (wI G (p1 2) 4 p1_weights)] := hD
    refine lv_aload_n hx hb dX4_copyFrom_15 rfl (lv_at hl 1 rfl) ?_
    refine va_get (D := G.1) (ci := 4) (v := .ref (p1 2)) (C := RX4) (T := TX4) (N := 4) hx hb ht twX4 hown hK.1 hP 3 rfl rfl 1 (by decide) (ht _ kfl_X4_15) (fun _ h9 => h9) rfl dX4_copyFrom_16 ?_
    refine lv_iconst (v := 0) hx hb dX4_copyFrom_19 (by decide) ?_
    refine lv_aload_n hx hb dX4_copyFrom_20 rfl (lv_at hl 0 rfl) ?_
    refine va_get (D := G.1) (ci := 4) (v := .ref (o 2)) (C := RX4) (T := TX4) (N := 4) hx hb ht twX4 hown hK.1 hP 0 rfl rfl 1 (by decide) (ht _ kfl_X4_15) (fun _ h9 => h9) rfl dX4_copyFrom_21 ?_
    refine lv_iconst (v := 0) hx hb dX4_copyFrom_24 (by decide) ?_
    refine lv_iconst (v := 4) hx hb dX4_copyFrom_25 (by decide) ?_
    refine va_copyi hx hb (C.2.2.1.trans hl.1.symm) hown (ht _ kml_X4_38) (ht _ knat_java_lang_System_arraycopy__Ljava_lang_Object_ILjava_lang_Object_II_V) (ht _ kst_java_lang_System_arraycopy__Ljava_lang_Object_ILjava_lang_Object_II_V) (ht _ kini_J10) hK.1 hP hD hS 5 2 0 0 rfl rfl rfl rfl rfl (by decide) (by decide) (by decide) (by decide) (by decide) (fun _ _ => rfl) (Nat.le_of_ble_eq_true rfl) (by decide) dX4_copyFrom_26 (fun H locs hP hD hS => ?_)
    have hP : va_P G.1 vwCl [(oX4 o o_beds o_isKept), (wI G (o 1) 48 (va_cpy p1_marks o_marks (0 : Int32).toNatClampNeg (0 : Int32).toNatClampNeg (48 : Int32).toNatClampNeg)), (wI G (o 2) 4 (va_cpy p1_weights o_weights (0 : Int32).toNatClampNeg (0 : Int32).toNatClampNeg (4 : Int32).toNatClampNeg)), (oX4 p1 p1_beds p1_isKept), (wI G (p1 1) 48 p1_marks), (wI G (p1 2) 4 p1_weights)] H := hP
    have hD : va_D A [(oX4 o o_beds o_isKept), (wI G (o 1) 48 (va_cpy p1_marks o_marks (0 : Int32).toNatClampNeg (0 : Int32).toNatClampNeg (48 : Int32).toNatClampNeg)), (wI G (o 2) 4 (va_cpy p1_weights o_weights (0 : Int32).toNatClampNeg (0 : Int32).toNatClampNeg (4 : Int32).toNatClampNeg)), (oX4 p1 p1_beds p1_isKept), (wI G (p1 1) 48 p1_marks), (wI G (p1 2) 4 p1_weights)] := hD
    refine lv_aload_n hx hb dX4_copyFrom_29 rfl (lv_at hl 0 rfl) ?_
    refine lv_aload_n hx hb dX4_copyFrom_30 rfl (lv_at hl 1 rfl) ?_
    refine va_get (D := G.1) (ci := 4) (v := .int p1_beds) (C := RX4) (T := TX4) (N := 4) hx hb ht twX4 hown hK.1 hP 3 rfl rfl 2 (by decide) (ht _ kfl_X4_30) (fun _ h9 => h9) rfl dX4_copyFrom_31 ?_
    refine va_put (D := G.1) (ci := 4) (v := .int p1_beds) (ty := .int) (C := RX4) (T := TX4) (N := 4) hx hb ht twX4 tyX4 tyX4_ok nmX4 hown hK.1 hP hD hS 0 rfl rfl 2 (by decide) (ht _ kfl_X4_30) (fun _ h9 => h9) rfl (by decide +kernel) rfl rfl (Nat.le_of_ble_eq_true rfl) dX4_copyFrom_34 (fun H locs hP hD hS => ?_)
    have hP : va_P G.1 vwCl [(oX4 o p1_beds o_isKept), (wI G (o 1) 48 (va_cpy p1_marks o_marks (0 : Int32).toNatClampNeg (0 : Int32).toNatClampNeg (48 : Int32).toNatClampNeg)), (wI G (o 2) 4 (va_cpy p1_weights o_weights (0 : Int32).toNatClampNeg (0 : Int32).toNatClampNeg (4 : Int32).toNatClampNeg)), (oX4 p1 p1_beds p1_isKept), (wI G (p1 1) 48 p1_marks), (wI G (p1 2) 4 p1_weights)] H := hP
    have hD : va_D A [(oX4 o p1_beds o_isKept), (wI G (o 1) 48 (va_cpy p1_marks o_marks (0 : Int32).toNatClampNeg (0 : Int32).toNatClampNeg (48 : Int32).toNatClampNeg)), (wI G (o 2) 4 (va_cpy p1_weights o_weights (0 : Int32).toNatClampNeg (0 : Int32).toNatClampNeg (4 : Int32).toNatClampNeg)), (oX4 p1 p1_beds p1_isKept), (wI G (p1 1) 48 p1_marks), (wI G (p1 2) 4 p1_weights)] := hD
    have h9 := Option.some.inj hf
    subst h9
    exact rw_vret C hP hD hS dX4_copyFrom_37
  rw [eH, el] at key
  exact key
abbrev Wc_X5_hundredths (l : Launch) (G : TG) (p0 : Nat → Nat) (p1 : Nat → Nat) (p0_ice : Nat → Int32) (p1_marks : Nat → Int32) (p1_beds : Int32) (p1_isKept : Int32) (a2 : Int32) (a3 : Int32) (R : Int32) (p : Program) (e : Env) (s : State) (m : MethodId) (below : List Frame) (meth : Method) (c : Code) (H : Heap) (locs : List Loc) (g : JFrame) : Prop := W p l e ({ frames := 4, cells := 0, slots := 0, locals := 89 }) s m ([.ref (p0 0), .ref (p1 0), .int a2, .int a3] : List Value).toArray below meth c H locs 0 0 (MQ below (roQ (some (.int R))) ([.ref (p0 0), .ref (p1 0), .int a2, .int a3] : List Value).toArray s 0 0 (fun _ => False)) g
set_option maxHeartbeats 4000000 in
set_option maxRecDepth 100000 in
theorem c_X5_hundredths (l : Launch) (G : TG) (p0 : Nat → Nat) (p1 : Nat → Nat) (p0_ice : Nat → Int32) (p1_marks : Nat → Int32) (p1_beds : Int32) (p1_isKept : Int32) (a2 : Int32) (a3 : Int32) (R : Int32) (hf : f_X5_hundredths p0_ice p1_marks a2 a3 = some R) : RO l yX5_hundredths cX5_hundredths 10 (some .int) ({ frames := 4, cells := 0, slots := 0, locals := 89 }) G [.ref (p0 0), .ref (p1 0), .int a2, .int a3] [(oX0 p0), (wI G (p0 1) 400 p0_ice), (oX4 p1 p1_beds p1_isKept), (wI G (p1 1) 48 p1_marks)] (some (.int R)) := by
  refine RO.mk (by decide +kernel) (Nat.le_of_ble_eq_true rfl) ?_
  intro p e s m below meth c ls C hP hK hl
  have hx := C.1
  have hb := C.2.1
  have hown : s.vm.findClass RX5 = some m.cls := C.2.2.2.2.2.1
  have ht := C.2.2.2.2.2.2
  have hl : lv_has ls 10 [(0, .ref (p0 0)), (1, .ref (p1 0)), (2, .int a2), (3, .int a3)] := hl
  show Wc_X5_hundredths l G p0 p1 p0_ice p1_marks p1_beds p1_isKept a2 a3 R p e s m below meth c s.heap [] (F0 m 0 ls [])
  have hj117 : ∀ (v7 : Int32) (v8 : Int32) (v9 : Int32) (k0 : Int32) (k1 : Int32) (ls : Array Slot), f_X5_hundredths_j117 v7 v8 v9 k0 k1 = some R → lv_has ls 10 [(7, .int v7), (8, .int v8), (9, .int v9)] → Wc_X5_hundredths l G p0 p1 p0_ice p1_marks p1_beds p1_isKept a2 a3 R p e s m below meth c s.heap [] (F0 m 117 ls [.int k1, .int k0]) := by
    intro v7 v8 v9 k0 k1 ls hf hl
    refine lv_imul hx hb dX5_hundredths_117 ?_
    refine lv_bipush (v := 10) hx hb dX5_hundredths_118 (by decide) ?_
    refine lv_iload hx hb dX5_hundredths_120 (lv_at hl 0 rfl) ?_
    refine lv_isub hx hb dX5_hundredths_122 ?_
    refine lv_iload hx hb dX5_hundredths_123 (lv_at hl 1 rfl) ?_
    refine lv_if_eq (tgt := 133) hx hb dX5_hundredths_125 (by decide) (fun c1 => ?_) (fun c1 => ?_)
    · have hf := o_t c1 hf
      refine lv_iload hx hb dX5_hundredths_133 (lv_at hl 2 rfl) ?_
      refine lv_imul hx hb dX5_hundredths_135 ?_
      refine lv_iadd hx hb dX5_hundredths_136 ?_
      have h9 := Option.some.inj hf
      subst h9
      exact ro_iret C rfl dX5_hundredths_137
    · have hf := o_f c1 hf
      refine lv_bipush (v := 10) hx hb dX5_hundredths_128 (by decide) ?_
      refine lv_goto (tgt := 135) hx hb dX5_hundredths_130 (by decide) ?_
      refine lv_imul hx hb dX5_hundredths_135 ?_
      refine lv_iadd hx hb dX5_hundredths_136 ?_
      have h9 := Option.some.inj hf
      subst h9
      exact ro_iret C rfl dX5_hundredths_137
  have hj69 : ∀ (v7 : Int32) (k0 : Int32) (k1 : Int32) (ls : Array Slot), f_X5_hundredths_j69 v7 k0 k1 = some R → lv_has ls 10 [(7, .int v7)] → Wc_X5_hundredths l G p0 p1 p0_ice p1_marks p1_beds p1_isKept a2 a3 R p e s m below meth c s.heap [] (F0 m 69 ls [.int k1, .int k0]) := by
    intro v7 k0 k1 ls hf hl
    refine lv_imul hx hb dX5_hundredths_69 ?_
    refine lv_bipush (v := 10) hx hb dX5_hundredths_70 (by decide) ?_
    refine lv_iload hx hb dX5_hundredths_72 (lv_at hl 0 rfl) ?_
    refine lv_isub hx hb dX5_hundredths_74 ?_
    refine lv_bipush (v := 10) hx hb dX5_hundredths_75 (by decide) ?_
    refine lv_imul hx hb dX5_hundredths_77 ?_
    refine lv_iadd hx hb dX5_hundredths_78 ?_
    have h9 := Option.some.inj hf
    subst h9
    exact ro_iret C rfl dX5_hundredths_79
  refine lv_aload_n hx hb dX5_hundredths_0 rfl (lv_at hl 1 rfl) ?_
  refine lv_iload_n hx hb dX5_hundredths_1 rfl (lv_at hl 3 rfl) ?_
  refine lv_iconst (v := 2) hx hb dX5_hundredths_2 (by decide) ?_
  obtain ⟨q5, r5, hf⟩ := bd_s hf
  refine ro_V (n := 2) (As := [.int a3, .int (2 : Int32)]) (rest := []) (c_X4_markOf l G p1 p1_marks p1_beds p1_isKept a3 (2 : Int32) q5 r5) C hK (hP.sub [2, 3] rfl) hl kcode_X4_markOf kml_X5_21 kim_X4_markOf ksel_X4_markOf kini_X4 (by decide +kernel) ⟨⟨rfl, rfl⟩, Nat.le_of_ble_eq_true rfl, Nat.le_of_ble_eq_true rfl⟩ ⟨Nat.zero_le _, Nat.zero_le _⟩ rfl rfl rfl rfl rfl (Nat.le_of_ble_eq_true rfl) dX5_hundredths_3 rfl ?_
  refine lv_istore (lv' := [(4, .int q5), (0, .ref (p0 0)), (1, .ref (p1 0)), (2, .int a2), (3, .int a3)]) hx hb dX5_hundredths_6 hl (by decide) rfl (fun ls hl => ?_)
  refine lv_aload_n hx hb dX5_hundredths_8 rfl (lv_at hl 2 rfl) ?_
  refine lv_iload_n hx hb dX5_hundredths_9 rfl (lv_at hl 4 rfl) ?_
  refine lv_iconst (v := 3) hx hb dX5_hundredths_10 (by decide) ?_
  obtain ⟨q6, r6, hf⟩ := bd_s hf
  refine ro_V (n := 2) (As := [.int a3, .int (3 : Int32)]) (rest := []) (c_X4_markOf l G p1 p1_marks p1_beds p1_isKept a3 (3 : Int32) q6 r6) C hK (hP.sub [2, 3] rfl) hl kcode_X4_markOf kml_X5_21 kim_X4_markOf ksel_X4_markOf kini_X4 (by decide +kernel) ⟨⟨rfl, rfl⟩, Nat.le_of_ble_eq_true rfl, Nat.le_of_ble_eq_true rfl⟩ ⟨Nat.zero_le _, Nat.zero_le _⟩ rfl rfl rfl rfl rfl (Nat.le_of_ble_eq_true rfl) dX5_hundredths_11 rfl ?_
  refine lv_istore (lv' := [(5, .int q6), (4, .int q5), (0, .ref (p0 0)), (1, .ref (p1 0)), (2, .int a2), (3, .int a3)]) hx hb dX5_hundredths_14 hl (by decide) rfl (fun ls hl => ?_)
  refine lv_aload_n hx hb dX5_hundredths_16 rfl (lv_at hl 3 rfl) ?_
  refine lv_iload_n hx hb dX5_hundredths_17 rfl (lv_at hl 5 rfl) ?_
  refine lv_iconst (v := 4) hx hb dX5_hundredths_18 (by decide) ?_
  obtain ⟨q7, r7, hf⟩ := bd_s hf
  refine ro_V (n := 2) (As := [.int a3, .int (4 : Int32)]) (rest := []) (c_X4_markOf l G p1 p1_marks p1_beds p1_isKept a3 (4 : Int32) q7 r7) C hK (hP.sub [2, 3] rfl) hl kcode_X4_markOf kml_X5_21 kim_X4_markOf ksel_X4_markOf kini_X4 (by decide +kernel) ⟨⟨rfl, rfl⟩, Nat.le_of_ble_eq_true rfl, Nat.le_of_ble_eq_true rfl⟩ ⟨Nat.zero_le _, Nat.zero_le _⟩ rfl rfl rfl rfl rfl (Nat.le_of_ble_eq_true rfl) dX5_hundredths_19 rfl ?_
  refine lv_istore (lv' := [(6, .int q7), (5, .int q6), (4, .int q5), (0, .ref (p0 0)), (1, .ref (p1 0)), (2, .int a2), (3, .int a3)]) hx hb dX5_hundredths_22 hl (by decide) rfl (fun ls hl => ?_)
  refine lv_aload_n hx hb dX5_hundredths_24 rfl (lv_at hl 4 rfl) ?_
  refine lv_iload_n hx hb dX5_hundredths_25 rfl (lv_at hl 6 rfl) ?_
  refine lv_iconst (v := 5) hx hb dX5_hundredths_26 (by decide) ?_
  obtain ⟨q8, r8, hf⟩ := bd_s hf
  refine ro_V (n := 2) (As := [.int a3, .int (5 : Int32)]) (rest := []) (c_X4_markOf l G p1 p1_marks p1_beds p1_isKept a3 (5 : Int32) q8 r8) C hK (hP.sub [2, 3] rfl) hl kcode_X4_markOf kml_X5_21 kim_X4_markOf ksel_X4_markOf kini_X4 (by decide +kernel) ⟨⟨rfl, rfl⟩, Nat.le_of_ble_eq_true rfl, Nat.le_of_ble_eq_true rfl⟩ ⟨Nat.zero_le _, Nat.zero_le _⟩ rfl rfl rfl rfl rfl (Nat.le_of_ble_eq_true rfl) dX5_hundredths_27 rfl ?_
  refine lv_istore (lv' := [(7, .int q8), (6, .int q7), (5, .int q6), (4, .int q5), (0, .ref (p0 0)), (1, .ref (p1 0)), (2, .int a2), (3, .int a3)]) hx hb dX5_hundredths_30 hl (by decide) rfl (fun ls hl => ?_)
  refine lv_aload_n hx hb dX5_hundredths_32 rfl (lv_at hl 5 rfl) ?_
  refine lv_iload_n hx hb dX5_hundredths_33 rfl (lv_at hl 7 rfl) ?_
  obtain ⟨q9, r9, hf⟩ := bd_s hf
  refine ro_V (n := 1) (As := [.int a3]) (rest := []) (c_X4_isIcy l G p1 p1_marks p1_beds p1_isKept a3 q9 r9) C hK (hP.sub [2, 3] rfl) hl kcode_X4_isIcy kml_X5_25 kim_X4_isIcy ksel_X4_isIcy kini_X4 (by decide +kernel) ⟨⟨rfl, rfl⟩, Nat.le_of_ble_eq_true rfl, Nat.le_of_ble_eq_true rfl⟩ ⟨Nat.zero_le _, Nat.zero_le _⟩ rfl rfl rfl rfl rfl (Nat.le_of_ble_eq_true rfl) dX5_hundredths_34 rfl ?_
  refine lv_if_ne (tgt := 80) hx hb dX5_hundredths_37 (by decide) (fun c10 => ?_) (fun c10 => ?_)
  · have hf := o_f c10 hf
    refine lv_aload_n hx hb dX5_hundredths_80 rfl (lv_at hl 4 rfl) ?_
    refine lv_iload_n hx hb dX5_hundredths_81 rfl (lv_at hl 6 rfl) ?_
    refine lv_iload hx hb dX5_hundredths_82 (lv_at hl 3 rfl) ?_
    refine lv_iload hx hb dX5_hundredths_84 (lv_at hl 2 rfl) ?_
    obtain ⟨q11, r11, hf⟩ := bd_s hf
    refine ro_V (n := 3) (As := [.int a2, .int q5, .int q6]) (rest := []) (c_X0_someIce l G p0 p0_ice a2 q5 q6 q11 r11) C hK (hP.sub [0, 1] rfl) hl kcode_X0_someIce kml_X5_39 kim_X0_someIce ksel_X0_someIce kini_X0 (by decide +kernel) ⟨⟨rfl, rfl⟩, Nat.le_of_ble_eq_true rfl, Nat.le_of_ble_eq_true rfl⟩ ⟨Nat.zero_le _, Nat.zero_le _⟩ rfl rfl rfl rfl rfl (Nat.le_of_ble_eq_true rfl) dX5_hundredths_86 rfl ?_
    refine lv_istore (lv' := [(8, .int q11), (7, .int q8), (6, .int q7), (5, .int q6), (4, .int q5), (0, .ref (p0 0)), (1, .ref (p1 0)), (2, .int a2), (3, .int a3)]) hx hb dX5_hundredths_89 hl (by decide) rfl (fun ls hl => ?_)
    refine lv_aload_n hx hb dX5_hundredths_91 rfl (lv_at hl 6 rfl) ?_
    refine lv_iload_n hx hb dX5_hundredths_92 rfl (lv_at hl 8 rfl) ?_
    obtain ⟨q12, r12, hf⟩ := bd_s hf
    refine ro_V (n := 1) (As := [.int a3]) (rest := []) (c_X4_slideTenths l G p1 p1_marks p1_beds p1_isKept a3 q12 r12) C hK (hP.sub [2, 3] rfl) hl kcode_X4_slideTenths kml_X5_42 kim_X4_slideTenths ksel_X4_slideTenths kini_X4 (by decide +kernel) ⟨⟨rfl, rfl⟩, Nat.le_of_ble_eq_true rfl, Nat.le_of_ble_eq_true rfl⟩ ⟨Nat.zero_le _, Nat.zero_le _⟩ rfl rfl rfl rfl rfl (Nat.le_of_ble_eq_true rfl) dX5_hundredths_93 rfl ?_
    refine lv_istore (lv' := [(9, .int q12), (8, .int q11), (7, .int q8), (6, .int q7), (5, .int q6), (4, .int q5), (0, .ref (p0 0)), (1, .ref (p1 0)), (2, .int a2), (3, .int a3)]) hx hb dX5_hundredths_96 hl (by decide) rfl (fun ls hl => ?_)
    refine lv_iload hx hb dX5_hundredths_98 (lv_at hl 2 rfl) ?_
    refine lv_iload hx hb dX5_hundredths_100 (lv_at hl 1 rfl) ?_
    refine lv_iload hx hb dX5_hundredths_102 (lv_at hl 3 rfl) ?_
    obtain ⟨q13, r13, hf⟩ := bd_s hf
    refine ro_SN (n := 2) (As := [.int q11, .int q7]) (rest := [.int q8]) (c_X10_hasIce l G q11 q7 q13 r13) C hK (hP.sub [] rfl) hl kcode_X10_hasIce kmln_X5_35 kst_X10_hasIce kini_X10 (by decide +kernel) ⟨⟨rfl, rfl⟩, Nat.le_of_ble_eq_true rfl, Nat.le_of_ble_eq_true rfl⟩ ⟨Nat.zero_le _, Nat.zero_le _⟩ rfl rfl (Nat.le_of_ble_eq_true rfl) dX5_hundredths_104 rfl ?_
    refine lv_if_eq (tgt := 115) hx hb dX5_hundredths_107 (by decide) (fun c14 => ?_) (fun c14 => ?_)
    · have hf := o_t c14 hf
      refine lv_iload hx hb dX5_hundredths_115 (lv_at hl 0 rfl) ?_
      exact hj117 q8 q11 q12 q8 q12 ls hf (lv_sub hl [2, 1, 0] rfl)
    · have hf := o_f c14 hf
      refine lv_bipush (v := 10) hx hb dX5_hundredths_110 (by decide) ?_
      refine lv_goto (tgt := 117) hx hb dX5_hundredths_112 (by decide) ?_
      exact hj117 q8 q11 q12 q8 (10 : Int32) ls hf (lv_sub hl [2, 1, 0] rfl)
  · have hf := o_t c10 hf
    refine lv_aload_n hx hb dX5_hundredths_40 rfl (lv_at hl 4 rfl) ?_
    refine lv_iload_n hx hb dX5_hundredths_41 rfl (lv_at hl 6 rfl) ?_
    refine lv_iload hx hb dX5_hundredths_42 (lv_at hl 3 rfl) ?_
    refine lv_iload hx hb dX5_hundredths_44 (lv_at hl 2 rfl) ?_
    obtain ⟨q15, r15, hf⟩ := bd_s hf
    refine ro_V (n := 3) (As := [.int a2, .int q5, .int q6]) (rest := []) (c_X0_lastingIce l G p0 p0_ice a2 q5 q6 q15 r15) C hK (hP.sub [0, 1] rfl) hl kcode_X0_lastingIce kml_X5_29 kim_X0_lastingIce ksel_X0_lastingIce kini_X0 (by decide +kernel) ⟨⟨rfl, rfl⟩, Nat.le_of_ble_eq_true rfl, Nat.le_of_ble_eq_true rfl⟩ ⟨Nat.zero_le _, Nat.zero_le _⟩ rfl rfl rfl rfl rfl (Nat.le_of_ble_eq_true rfl) dX5_hundredths_46 rfl ?_
    refine lv_iload hx hb dX5_hundredths_49 (lv_at hl 1 rfl) ?_
    obtain ⟨q16, r16, hf⟩ := bd_s hf
    refine ro_SN (n := 2) (As := [.int q15, .int q7]) (rest := []) (c_X10_hasIce l G q15 q7 q16 r16) C hK (hP.sub [] rfl) hl kcode_X10_hasIce kmln_X5_35 kst_X10_hasIce kini_X10 (by decide +kernel) ⟨⟨rfl, rfl⟩, Nat.le_of_ble_eq_true rfl, Nat.le_of_ble_eq_true rfl⟩ ⟨Nat.zero_le _, Nat.zero_le _⟩ rfl rfl (Nat.le_of_ble_eq_true rfl) dX5_hundredths_51 rfl ?_
    refine lv_istore (lv' := [(8, .int q16), (7, .int q8), (6, .int q7), (5, .int q6), (4, .int q5), (0, .ref (p0 0)), (1, .ref (p1 0)), (2, .int a2), (3, .int a3)]) hx hb dX5_hundredths_54 hl (by decide) rfl (fun ls hl => ?_)
    refine lv_iload hx hb dX5_hundredths_56 (lv_at hl 1 rfl) ?_
    refine lv_iload hx hb dX5_hundredths_58 (lv_at hl 0 rfl) ?_
    refine lv_if_eq (tgt := 67) hx hb dX5_hundredths_60 (by decide) (fun c17 => ?_) (fun c17 => ?_)
    · have hf := o_t c17 hf
      refine lv_bipush (v := 10) hx hb dX5_hundredths_67 (by decide) ?_
      exact hj69 q8 q8 (10 : Int32) ls hf (lv_sub hl [1] rfl)
    · have hf := o_f c17 hf
      refine lv_iconst (v := 5) hx hb dX5_hundredths_63 (by decide) ?_
      refine lv_goto (tgt := 69) hx hb dX5_hundredths_64 (by decide) ?_
      exact hj69 q8 q8 (5 : Int32) ls hf (lv_sub hl [1] rfl)
abbrev Wc_X5_explainedBy (l : Launch) (G : TG) (p0 : Nat → Nat) (p1 : Nat → Nat) (p0_ice : Nat → Int32) (p1_marks : Nat → Int32) (p1_beds : Int32) (p1_isKept : Int32) (a2 : Int32) (a3 : Int32) (R : Int32) (p : Program) (e : Env) (s : State) (m : MethodId) (below : List Frame) (meth : Method) (c : Code) (H : Heap) (locs : List Loc) (g : JFrame) : Prop := W p l e ({ frames := 4, cells := 0, slots := 0, locals := 89 }) s m ([.ref (p0 0), .ref (p1 0), .int a2, .int a3] : List Value).toArray below meth c H locs 0 0 (MQ below (roQ (some (.int R))) ([.ref (p0 0), .ref (p1 0), .int a2, .int a3] : List Value).toArray s 0 0 (fun _ => False)) g
set_option maxHeartbeats 4000000 in
set_option maxRecDepth 100000 in
theorem c_X5_explainedBy (l : Launch) (G : TG) (p0 : Nat → Nat) (p1 : Nat → Nat) (p0_ice : Nat → Int32) (p1_marks : Nat → Int32) (p1_beds : Int32) (p1_isKept : Int32) (a2 : Int32) (a3 : Int32) (R : Int32) (hf : f_X5_explainedBy p0_ice p1_marks p1_beds a2 a3 = some R) : RO l yX5_explainedBy cX5_explainedBy 8 (some .int) ({ frames := 4, cells := 0, slots := 0, locals := 89 }) G [.ref (p0 0), .ref (p1 0), .int a2, .int a3] [(oX0 p0), (wI G (p0 1) 400 p0_ice), (oX4 p1 p1_beds p1_isKept), (wI G (p1 1) 48 p1_marks)] (some (.int R)) := by
  refine RO.mk (by decide +kernel) (Nat.le_of_ble_eq_true rfl) ?_
  intro p e s m below meth c ls C hP hK hl
  have hx := C.1
  have hb := C.2.1
  have hown : s.vm.findClass RX5 = some m.cls := C.2.2.2.2.2.1
  have ht := C.2.2.2.2.2.2
  have hl : lv_has ls 8 [(0, .ref (p0 0)), (1, .ref (p1 0)), (2, .int a2), (3, .int a3)] := hl
  show Wc_X5_explainedBy l G p0 p1 p0_ice p1_marks p1_beds p1_isKept a2 a3 R p e s m below meth c s.heap [] (F0 m 0 ls [])
  refine lv_iconst (v := 0) hx hb dX5_explainedBy_0 (by decide) ?_
  refine lv_istore (lv' := [(4, .int (0 : Int32)), (0, .ref (p0 0)), (1, .ref (p1 0)), (2, .int a2), (3, .int a3)]) hx hb dX5_explainedBy_1 hl (by decide) rfl (fun ls hl => ?_)
  refine lv_iconst (v := 0) hx hb dX5_explainedBy_3 (by decide) ?_
  refine lv_istore (lv' := [(5, .int (0 : Int32)), (4, .int (0 : Int32)), (0, .ref (p0 0)), (1, .ref (p1 0)), (2, .int a2), (3, .int a3)]) hx hb dX5_explainedBy_4 hl (by decide) rfl (fun ls hl => ?_)
  have hx78_1 : ∀ (v4 : Int32) (ls : Array Slot), f_X5_explainedBy_x78_1 v4 = some R → lv_has ls 8 [(4, .int v4)] → Wc_X5_explainedBy l G p0 p1 p0_ice p1_marks p1_beds p1_isKept a2 a3 R p e s m below meth c s.heap [] (F0 m 78 ls []) := by
    intro v4 ls hf hl
    refine lv_iload hx hb dX5_explainedBy_78 (lv_at hl 0 rfl) ?_
    have h9 := Option.some.inj hf
    subst h9
    exact ro_iret C rfl dX5_explainedBy_80
  obtain ⟨rL1, hL1, hk1⟩ := bd_s hf
  refine lp_W (P := fun st => ∀ (ls : Array Slot), lv_has ls 8 [(0, .ref (p0 0)), (1, .ref (p1 0)), (2, .int a2), (3, .int a3), (4, .int st.1), (5, .int st.2)] → Wc_X5_explainedBy l G p0 p1 p0_ice p1_marks p1_beds p1_isKept a2 a3 R p e s m below meth c s.heap [] (F0 m 6 ls [])) ?_ FU ((0 : Int32), (0 : Int32)) hL1 ls (lv_sub hl [2, 3, 4, 5, 1, 0] rfl)
  intro ⟨v4, v5⟩ oc1 hf hI hE ls hl
  have hl : lv_has ls 8 [(0, .ref (p0 0)), (1, .ref (p1 0)), (2, .int a2), (3, .int a3), (4, .int v4), (5, .int v5)] := hl
  have hf : f_X5_explainedBy_b6 p0_ice p1_marks p1_beds a2 a3 v4 v5 = some oc1 := hf
  refine lv_iload hx hb dX5_explainedBy_6 (lv_at hl 5 rfl) ?_
  refine lv_aload_n hx hb dX5_explainedBy_8 rfl (lv_at hl 1 rfl) ?_
  refine va_get (D := G.1) (ci := 4) (v := .int p1_beds) (C := RX4) (T := TX4) (N := 4) hx hb ht twX4 hown hK.1 hP 2 rfl rfl 2 (by decide) (ht _ kfl_X5_46) (fun _ h9 => h9) rfl dX5_explainedBy_9 ?_
  refine lv_icmp_ge (tgt := 78) hx hb dX5_explainedBy_12 (by decide) (fun c3 => ?_) (fun c3 => ?_)
  · have hf := o_t c3 hf
    cases hf
    have hf : f_X5_explainedBy_x78_1 v4 = some R := by have h9 := hk1; rw [← hE _ rfl] at h9; exact h9
    exact hx78_1 v4 ls hf (lv_sub hl [4] rfl)
  · have hf := o_f c3 hf
    refine lv_aload_n hx hb dX5_explainedBy_15 rfl (lv_at hl 0 rfl) ?_
    refine lv_iload_n hx hb dX5_explainedBy_16 rfl (lv_at hl 2 rfl) ?_
    refine lv_aload_n hx hb dX5_explainedBy_17 rfl (lv_at hl 1 rfl) ?_
    refine lv_iload hx hb dX5_explainedBy_18 (lv_at hl 5 rfl) ?_
    refine lv_iconst (v := 2) hx hb dX5_explainedBy_20 (by decide) ?_
    obtain ⟨q4, r4, hf⟩ := bd_s hf
    refine ro_V (n := 2) (As := [.int v5, .int (2 : Int32)]) (rest := [.int a2, .ref (p0 0)]) (c_X4_markOf l G p1 p1_marks p1_beds p1_isKept v5 (2 : Int32) q4 r4) C hK (hP.sub [2, 3] rfl) hl kcode_X4_markOf kml_X5_21 kim_X4_markOf ksel_X4_markOf kini_X4 (by decide +kernel) ⟨⟨rfl, rfl⟩, Nat.le_of_ble_eq_true rfl, Nat.le_of_ble_eq_true rfl⟩ ⟨Nat.zero_le _, Nat.zero_le _⟩ rfl rfl rfl rfl rfl (Nat.le_of_ble_eq_true rfl) dX5_explainedBy_21 rfl ?_
    refine lv_aload_n hx hb dX5_explainedBy_24 rfl (lv_at hl 1 rfl) ?_
    refine lv_iload hx hb dX5_explainedBy_25 (lv_at hl 5 rfl) ?_
    refine lv_iconst (v := 3) hx hb dX5_explainedBy_27 (by decide) ?_
    obtain ⟨q5, r5, hf⟩ := bd_s hf
    refine ro_V (n := 2) (As := [.int v5, .int (3 : Int32)]) (rest := [.int q4, .int a2, .ref (p0 0)]) (c_X4_markOf l G p1 p1_marks p1_beds p1_isKept v5 (3 : Int32) q5 r5) C hK (hP.sub [2, 3] rfl) hl kcode_X4_markOf kml_X5_21 kim_X4_markOf ksel_X4_markOf kini_X4 (by decide +kernel) ⟨⟨rfl, rfl⟩, Nat.le_of_ble_eq_true rfl, Nat.le_of_ble_eq_true rfl⟩ ⟨Nat.zero_le _, Nat.zero_le _⟩ rfl rfl rfl rfl rfl (Nat.le_of_ble_eq_true rfl) dX5_explainedBy_28 rfl ?_
    obtain ⟨q6, r6, hf⟩ := bd_s hf
    refine ro_V (n := 3) (As := [.int a2, .int q4, .int q5]) (rest := []) (c_X0_someIce l G p0 p0_ice a2 q4 q5 q6 r6) C hK (hP.sub [0, 1] rfl) hl kcode_X0_someIce kml_X5_39 kim_X0_someIce ksel_X0_someIce kini_X0 (by decide +kernel) ⟨⟨rfl, rfl⟩, Nat.le_of_ble_eq_true rfl, Nat.le_of_ble_eq_true rfl⟩ ⟨Nat.zero_le _, Nat.zero_le _⟩ rfl rfl rfl rfl rfl (Nat.le_of_ble_eq_true rfl) dX5_explainedBy_31 rfl ?_
    refine lv_istore (lv' := [(6, .int q6), (0, .ref (p0 0)), (1, .ref (p1 0)), (2, .int a2), (3, .int a3), (4, .int v4), (5, .int v5)]) hx hb dX5_explainedBy_34 hl (by decide) rfl (fun ls hl => ?_)
    refine lv_aload_n hx hb dX5_explainedBy_36 rfl (lv_at hl 2 rfl) ?_
    refine lv_iload hx hb dX5_explainedBy_37 (lv_at hl 6 rfl) ?_
    refine lv_iconst (v := 4) hx hb dX5_explainedBy_39 (by decide) ?_
    obtain ⟨q7, r7, hf⟩ := bd_s hf
    refine ro_V (n := 2) (As := [.int v5, .int (4 : Int32)]) (rest := []) (c_X4_markOf l G p1 p1_marks p1_beds p1_isKept v5 (4 : Int32) q7 r7) C hK (hP.sub [2, 3] rfl) hl kcode_X4_markOf kml_X5_21 kim_X4_markOf ksel_X4_markOf kini_X4 (by decide +kernel) ⟨⟨rfl, rfl⟩, Nat.le_of_ble_eq_true rfl, Nat.le_of_ble_eq_true rfl⟩ ⟨Nat.zero_le _, Nat.zero_le _⟩ rfl rfl rfl rfl rfl (Nat.le_of_ble_eq_true rfl) dX5_explainedBy_40 rfl ?_
    refine lv_iload_n hx hb dX5_explainedBy_43 rfl (lv_at hl 4 rfl) ?_
    refine lv_isub hx hb dX5_explainedBy_44 ?_
    refine va_mabs hx hb (C.2.2.1.trans hl.1.symm) hown (ht _ kml_X5_50) (ht _ kst_J9_abs_0f7a4) (ht _ kini_J9) (ht _ kcode_J9_abs_0f7a4) (Nat.le_of_ble_eq_true rfl) (Nat.le_of_ble_eq_true rfl) (Nat.zero_le _) (Nat.zero_le _) dX5_explainedBy_45 ?_
    obtain ⟨u8, e8, hf⟩ := bd_s hf
    refine lv_re (Option.some.inj e8).symm ?_
    refine lv_istore (lv' := [(7, .int u8), (6, .int q6), (0, .ref (p0 0)), (1, .ref (p1 0)), (2, .int a2), (3, .int a3), (4, .int v4), (5, .int v5)]) hx hb dX5_explainedBy_48 hl (by decide) rfl (fun ls hl => ?_)
    refine lv_aload_n hx hb dX5_explainedBy_50 rfl (lv_at hl 3 rfl) ?_
    refine lv_iload hx hb dX5_explainedBy_51 (lv_at hl 7 rfl) ?_
    obtain ⟨q9, r9, hf⟩ := bd_s hf
    refine ro_V (n := 1) (As := [.int v5]) (rest := []) (c_X4_isIcy l G p1 p1_marks p1_beds p1_isKept v5 q9 r9) C hK (hP.sub [2, 3] rfl) hl kcode_X4_isIcy kml_X5_25 kim_X4_isIcy ksel_X4_isIcy kini_X4 (by decide +kernel) ⟨⟨rfl, rfl⟩, Nat.le_of_ble_eq_true rfl, Nat.le_of_ble_eq_true rfl⟩ ⟨Nat.zero_le _, Nat.zero_le _⟩ rfl rfl rfl rfl rfl (Nat.le_of_ble_eq_true rfl) dX5_explainedBy_53 rfl ?_
    refine lv_if_eq (tgt := 72) hx hb dX5_explainedBy_56 (by decide) (fun c10 => ?_) (fun c10 => ?_)
    · have hf := o_t c10 hf
      refine lv_iinc (v := (v5 + (1 : Int32))) (lv' := [(5, .int (v5 + (1 : Int32))), (7, .int u8), (6, .int q6), (0, .ref (p0 0)), (1, .ref (p1 0)), (2, .int a2), (3, .int a3), (4, .int v4)]) hx hb dX5_explainedBy_72 hl (k := 7) rfl (by rfl) (by decide) rfl (fun ls hl => ?_)
      refine lv_goto (tgt := 6) hx hb dX5_explainedBy_75 (by decide) ?_
      cases hf
      exact hI _ rfl ls (lv_sub hl [3, 4, 5, 6, 7, 0] rfl)
    · have hf := o_f c10 hf
      refine lv_iload hx hb dX5_explainedBy_59 (lv_at hl 1 rfl) ?_
      refine lv_iload hx hb dX5_explainedBy_61 (lv_at hl 0 rfl) ?_
      obtain ⟨q11, r11, hf⟩ := bd_s hf
      refine ro_SN (n := 2) (As := [.int q6, .int u8]) (rest := []) (c_X10_hasIce l G q6 u8 q11 r11) C hK (hP.sub [] rfl) hl kcode_X10_hasIce kmln_X5_35 kst_X10_hasIce kini_X10 (by decide +kernel) ⟨⟨rfl, rfl⟩, Nat.le_of_ble_eq_true rfl, Nat.le_of_ble_eq_true rfl⟩ ⟨Nat.zero_le _, Nat.zero_le _⟩ rfl rfl (Nat.le_of_ble_eq_true rfl) dX5_explainedBy_63 rfl ?_
      refine lv_if_eq (tgt := 72) hx hb dX5_explainedBy_66 (by decide) (fun c12 => ?_) (fun c12 => ?_)
      · have hf := o_t c12 hf
        refine lv_iinc (v := (v5 + (1 : Int32))) (lv' := [(5, .int (v5 + (1 : Int32))), (7, .int u8), (6, .int q6), (0, .ref (p0 0)), (1, .ref (p1 0)), (2, .int a2), (3, .int a3), (4, .int v4)]) hx hb dX5_explainedBy_72 hl (k := 7) rfl (by rfl) (by decide) rfl (fun ls hl => ?_)
        refine lv_goto (tgt := 6) hx hb dX5_explainedBy_75 (by decide) ?_
        cases hf
        exact hI _ rfl ls (lv_sub hl [3, 4, 5, 6, 7, 0] rfl)
      · have hf := o_f c12 hf
        refine lv_iinc (v := (v4 + (1 : Int32))) (lv' := [(4, .int (v4 + (1 : Int32))), (7, .int u8), (6, .int q6), (0, .ref (p0 0)), (1, .ref (p1 0)), (2, .int a2), (3, .int a3), (5, .int v5)]) hx hb dX5_explainedBy_69 hl (k := 6) rfl (by rfl) (by decide) rfl (fun ls hl => ?_)
        refine lv_iinc (v := (v5 + (1 : Int32))) (lv' := [(5, .int (v5 + (1 : Int32))), (4, .int (v4 + (1 : Int32))), (7, .int u8), (6, .int q6), (0, .ref (p0 0)), (1, .ref (p1 0)), (2, .int a2), (3, .int a3)]) hx hb dX5_explainedBy_72 hl (k := 7) rfl (by rfl) (by decide) rfl (fun ls hl => ?_)
        refine lv_goto (tgt := 6) hx hb dX5_explainedBy_75 (by decide) ?_
        cases hf
        exact hI _ rfl ls (lv_sub hl [4, 5, 6, 7, 1, 0] rfl)
abbrev Wc_X5_weighWithout (l : Launch) (G : TG) (o : Nat → Nat) (p1 : Nat → Nat) (o_shares : Nat → Int64) (o_chances : Nat → Int32) (o_all : Int64) (p1_weights : Nat → Int32) (p1_beds : Int32) (p1_isKept : Int32) (a2 : Int32) (R : (Nat → Int64) × Int64) (p : Program) (e : Env) (s : State) (m : MethodId) (below : List Frame) (meth : Method) (c : Code) (A : Nat → Prop) (H : Heap) (locs : List Loc) (g : JFrame) : Prop := W p l e ({ frames := 0, cells := 0, slots := 0, locals := 0 }) s m ([.ref (o 0), .ref (p1 0), .int a2] : List Value).toArray below meth c H locs 0 0 (MQ below (rwQ G none [(oX5 o R.2), (wJ G (o 1) 4 R.1), (wI G (o 2) 32 o_chances), (oX4 p1 p1_beds p1_isKept), (wI G (p1 2) 4 p1_weights)] A) ([.ref (o 0), .ref (p1 0), .int a2] : List Value).toArray s 0 0 A) g
set_option maxHeartbeats 4000000 in
set_option maxRecDepth 100000 in
theorem c_X5_weighWithout (l : Launch) (G : TG) (o : Nat → Nat) (p1 : Nat → Nat) (o_shares : Nat → Int64) (o_chances : Nat → Int32) (o_all : Int64) (p1_weights : Nat → Int32) (p1_beds : Int32) (p1_isKept : Int32) (a2 : Int32) (R : (Nat → Int64) × Int64) (hf : f_X5_weighWithout o_shares o_chances p1_weights p1_beds a2 = some R) : RW l yX5_weighWithout cX5_weighWithout 7 none ({ frames := 0, cells := 0, slots := 0, locals := 0 }) G [.ref (o 0), .ref (p1 0), .int a2] [(oX5 o o_all), (wJ G (o 1) 4 o_shares), (wI G (o 2) 32 o_chances), (oX4 p1 p1_beds p1_isKept), (wI G (p1 2) 4 p1_weights)] none [(oX5 o R.2), (wJ G (o 1) 4 R.1), (wI G (o 2) 32 o_chances), (oX4 p1 p1_beds p1_isKept), (wI G (p1 2) 4 p1_weights)] := by
  refine RW.mk (by decide +kernel) (Nat.le_of_ble_eq_true rfl) ?_
  intro p e s m below meth c ls A C hP hD hA hz hK hl hS
  have hx := C.1
  have hb := C.2.1
  have hown : s.vm.findClass RX5 = some m.cls := C.2.2.2.2.2.1
  have ht := C.2.2.2.2.2.2
  have hl : lv_has ls 7 [(0, .ref (o 0)), (1, .ref (p1 0)), (2, .int a2)] := hl
  show Wc_X5_weighWithout l G o p1 o_shares o_chances o_all p1_weights p1_beds p1_isKept a2 R p e s m below meth c A s.heap [] (F0 m 0 ls [])
  obtain ⟨H, eH, hP, hS⟩ : ∃ H, H = s.heap ∧ va_P G.1 vwCl [(oX5 o o_all), (wJ G (o 1) 4 o_shares), (wI G (o 2) 32 o_chances), (oX4 p1 p1_beds p1_isKept), (wI G (p1 2) 4 p1_weights)] H ∧ va_S A s.heap H [] := ⟨_, rfl, hP, hS⟩
  obtain ⟨locs, el, hS⟩ : ∃ locs : List Loc, locs = [] ∧ va_S A s.heap H locs := ⟨_, rfl, hS⟩
  have key : Wc_X5_weighWithout l G o p1 o_shares o_chances o_all p1_weights p1_beds p1_isKept a2 R p e s m below meth c A H locs (F0 m 0 ls []) := by
    refine lv_aload_n hx hb dX5_weighWithout_0 rfl (lv_at hl 0 rfl) ?_
    refine lv_lconst (v := 0) hx hb dX5_weighWithout_1 (by decide) ?_
    refine va_put (D := G.1) (ci := 5) (v := .long (0 : Int64)) (ty := .long) (C := RX5) (T := TX5) (N := 3) hx hb ht twX5 tyX5 tyX5_ok nmX5 hown hK.1 hP hD hS 0 rfl rfl 2 (by decide) (ht _ kfl_X5_63) (fun _ h9 => h9) rfl (by decide +kernel) rfl rfl (Nat.le_of_ble_eq_true rfl) dX5_weighWithout_2 (fun H locs hP hD hS => ?_)
    have hP : va_P G.1 vwCl [(oX5 o (0 : Int64)), (wJ G (o 1) 4 o_shares), (wI G (o 2) 32 o_chances), (oX4 p1 p1_beds p1_isKept), (wI G (p1 2) 4 p1_weights)] H := hP
    have hD : va_D A [(oX5 o (0 : Int64)), (wJ G (o 1) 4 o_shares), (wI G (o 2) 32 o_chances), (oX4 p1 p1_beds p1_isKept), (wI G (p1 2) 4 p1_weights)] := hD
    refine lv_iconst (v := 0) hx hb dX5_weighWithout_5 (by decide) ?_
    refine lv_istore_n (lv' := [(3, .int (0 : Int32)), (0, .ref (o 0)), (1, .ref (p1 0)), (2, .int a2)]) hx hb dX5_weighWithout_6 rfl hl (by decide) rfl (fun ls hl => ?_)
    have hx95_1 : ∀ (o_shares : Nat → Int64) (o_all : Int64) (H : Heap) (locs : List Loc) (ls : Array Slot), f_X5_weighWithout_x95_1 o_shares o_all = some R → va_P G.1 vwCl [(oX5 o o_all), (wJ G (o 1) 4 o_shares), (wI G (o 2) 32 o_chances), (oX4 p1 p1_beds p1_isKept), (wI G (p1 2) 4 p1_weights)] H → va_D A [(oX5 o o_all), (wJ G (o 1) 4 o_shares), (wI G (o 2) 32 o_chances), (oX4 p1 p1_beds p1_isKept), (wI G (p1 2) 4 p1_weights)] → va_S A s.heap H locs → lv_has ls 7 [] → Wc_X5_weighWithout l G o p1 o_shares o_chances o_all p1_weights p1_beds p1_isKept a2 R p e s m below meth c A H locs (F0 m 95 ls []) := by
      intro o_shares o_all H locs ls hf hP hD hS hl
      have h9 := Option.some.inj hf
      subst h9
      exact rw_vret C hP hD hS dX5_weighWithout_95
    obtain ⟨rL1, hL1, hk1⟩ := bd_s hf
    refine lp_W (P := fun st => ∀ (H : Heap) (locs : List Loc) (ls : Array Slot), va_P G.1 vwCl [(oX5 o st.2.2), (wJ G (o 1) 4 st.2.1), (wI G (o 2) 32 o_chances), (oX4 p1 p1_beds p1_isKept), (wI G (p1 2) 4 p1_weights)] H → va_D A [(oX5 o st.2.2), (wJ G (o 1) 4 st.2.1), (wI G (o 2) 32 o_chances), (oX4 p1 p1_beds p1_isKept), (wI G (p1 2) 4 p1_weights)] → va_S A s.heap H locs → lv_has ls 7 [(0, .ref (o 0)), (1, .ref (p1 0)), (2, .int a2), (3, .int st.1)] → Wc_X5_weighWithout l G o p1 o_shares o_chances o_all p1_weights p1_beds p1_isKept a2 R p e s m below meth c A H locs (F0 m 7 ls [])) ?_ FU ((0 : Int32), o_shares, (0 : Int64)) hL1 H locs ls hP hD hS (lv_sub hl [1, 2, 3, 0] rfl)
    intro ⟨v3, o_shares, o_all⟩ oc1 hf hI hE H locs ls hP hD hS hl
    have hP : va_P G.1 vwCl [(oX5 o o_all), (wJ G (o 1) 4 o_shares), (wI G (o 2) 32 o_chances), (oX4 p1 p1_beds p1_isKept), (wI G (p1 2) 4 p1_weights)] H := hP
    have hD : va_D A [(oX5 o o_all), (wJ G (o 1) 4 o_shares), (wI G (o 2) 32 o_chances), (oX4 p1 p1_beds p1_isKept), (wI G (p1 2) 4 p1_weights)] := hD
    have hl : lv_has ls 7 [(0, .ref (o 0)), (1, .ref (p1 0)), (2, .int a2), (3, .int v3)] := hl
    have hf : f_X5_weighWithout_b7 o_chances p1_weights p1_beds a2 v3 o_shares o_all = some oc1 := hf
    refine lv_iload_n hx hb dX5_weighWithout_7 rfl (lv_at hl 3 rfl) ?_
    refine lv_iconst (v := 4) hx hb dX5_weighWithout_8 (by decide) ?_
    refine lv_icmp_ge (tgt := 95) hx hb dX5_weighWithout_9 (by decide) (fun c3 => ?_) (fun c3 => ?_)
    · have hf := o_t c3 hf
      cases hf
      have hf : f_X5_weighWithout_x95_1 o_shares o_all = some R := by have h9 := hk1; rw [← hE _ rfl] at h9; exact h9
      exact hx95_1 o_shares o_all H locs ls hf hP hD hS (lv_sub hl [] rfl)
    · have hf := o_f c3 hf
      refine lv_aload_n hx hb dX5_weighWithout_12 rfl (lv_at hl 1 rfl) ?_
      refine va_get (D := G.1) (ci := 4) (v := .ref (p1 2)) (C := RX4) (T := TX4) (N := 4) hx hb ht twX4 hown hK.1 hP 3 rfl rfl 1 (by decide) (ht _ kfl_X5_67) (fun _ h9 => h9) rfl dX5_weighWithout_13 ?_
      refine lv_iload_n hx hb dX5_weighWithout_16 rfl (lv_at hl 3 rfl) ?_
      obtain ⟨g4, hf⟩ := gd_s hf
      refine va_iald hx hb hK.1 hP 4 0 rfl rfl g4 dX5_weighWithout_17 ?_
      refine lv_i2l (v := ((p1_weights v3.toNatClampNeg).toInt64)) hx hb dX5_weighWithout_18 rfl ?_
      refine lv_lstore (lv' := [(4, .long ((p1_weights v3.toNatClampNeg).toInt64)), (0, .ref (o 0)), (1, .ref (p1 0)), (2, .int a2), (3, .int v3)]) hx hb dX5_weighWithout_19 hl (by decide) rfl (fun ls hl => ?_)
      refine lv_iconst (v := 0) hx hb dX5_weighWithout_21 (by decide) ?_
      refine lv_istore (lv' := [(6, .int (0 : Int32)), (4, .long ((p1_weights v3.toNatClampNeg).toInt64)), (0, .ref (o 0)), (1, .ref (p1 0)), (2, .int a2), (3, .int v3)]) hx hb dX5_weighWithout_22 hl (by decide) rfl (fun ls hl => ?_)
      have hx70_5 : ∀ (v4 : Int64) (H : Heap) (locs : List Loc) (ls : Array Slot), f_X5_weighWithout_x70_5 v3 o_shares o_all v4 = some oc1 → va_P G.1 vwCl [(oX5 o o_all), (wJ G (o 1) 4 o_shares), (wI G (o 2) 32 o_chances), (oX4 p1 p1_beds p1_isKept), (wI G (p1 2) 4 p1_weights)] H → va_D A [(oX5 o o_all), (wJ G (o 1) 4 o_shares), (wI G (o 2) 32 o_chances), (oX4 p1 p1_beds p1_isKept), (wI G (p1 2) 4 p1_weights)] → va_S A s.heap H locs → lv_has ls 7 [(0, .ref (o 0)), (1, .ref (p1 0)), (2, .int a2), (3, .int v3), (4, .long v4)] → Wc_X5_weighWithout l G o p1 o_shares o_chances o_all p1_weights p1_beds p1_isKept a2 R p e s m below meth c A H locs (F0 m 70 ls []) := by
        intro v4 H locs ls hf hP hD hS hl
        refine lv_aload_n hx hb dX5_weighWithout_70 rfl (lv_at hl 0 rfl) ?_
        refine va_get (D := G.1) (ci := 5) (v := .ref (o 1)) (C := RX5) (T := TX5) (N := 3) hx hb ht twX5 hown hK.1 hP 0 rfl rfl 0 (by decide) (ht _ kfl_X5_9) (fun _ h9 => h9) rfl dX5_weighWithout_71 ?_
        refine lv_iload_n hx hb dX5_weighWithout_74 rfl (lv_at hl 3 rfl) ?_
        refine lv_lload hx hb dX5_weighWithout_75 (lv_at hl 4 rfl) ?_
        obtain ⟨g6, hf⟩ := gd_s hf
        refine va_last hx hb hK.1 hP hD hS 1 1 rfl rfl g6 dX5_weighWithout_77 (fun H locs hP hD hS => ?_)
        have hP : va_P G.1 vwCl [(oX5 o o_all), (wJ G (o 1) 4 (vp_updL o_shares v3.toNatClampNeg v4)), (wI G (o 2) 32 o_chances), (oX4 p1 p1_beds p1_isKept), (wI G (p1 2) 4 p1_weights)] H := hP
        have hD : va_D A [(oX5 o o_all), (wJ G (o 1) 4 (vp_updL o_shares v3.toNatClampNeg v4)), (wI G (o 2) 32 o_chances), (oX4 p1 p1_beds p1_isKept), (wI G (p1 2) 4 p1_weights)] := hD
        refine lv_aload_n hx hb dX5_weighWithout_78 rfl (lv_at hl 0 rfl) ?_
        refine lv_dup hx hb dX5_weighWithout_79 rfl ?_
        refine va_get (D := G.1) (ci := 5) (v := .long o_all) (C := RX5) (T := TX5) (N := 3) hx hb ht twX5 hown hK.1 hP 0 rfl rfl 2 (by decide) (ht _ kfl_X5_63) (fun _ h9 => h9) rfl dX5_weighWithout_80 ?_
        refine lv_lload hx hb dX5_weighWithout_83 (lv_at hl 4 rfl) ?_
        refine lv_ladd hx hb dX5_weighWithout_85 ?_
        refine va_put (D := G.1) (ci := 5) (v := .long (o_all + v4)) (ty := .long) (C := RX5) (T := TX5) (N := 3) hx hb ht twX5 tyX5 tyX5_ok nmX5 hown hK.1 hP hD hS 0 rfl rfl 2 (by decide) (ht _ kfl_X5_63) (fun _ h9 => h9) rfl (by decide +kernel) rfl rfl (Nat.le_of_ble_eq_true rfl) dX5_weighWithout_86 (fun H locs hP hD hS => ?_)
        have hP : va_P G.1 vwCl [(oX5 o (o_all + v4)), (wJ G (o 1) 4 (vp_updL o_shares v3.toNatClampNeg v4)), (wI G (o 2) 32 o_chances), (oX4 p1 p1_beds p1_isKept), (wI G (p1 2) 4 p1_weights)] H := hP
        have hD : va_D A [(oX5 o (o_all + v4)), (wJ G (o 1) 4 (vp_updL o_shares v3.toNatClampNeg v4)), (wI G (o 2) 32 o_chances), (oX4 p1 p1_beds p1_isKept), (wI G (p1 2) 4 p1_weights)] := hD
        refine lv_iinc (v := (v3 + (1 : Int32))) (lv' := [(3, .int (v3 + (1 : Int32))), (0, .ref (o 0)), (1, .ref (p1 0)), (2, .int a2), (4, .long v4)]) hx hb dX5_weighWithout_89 hl (k := 3) rfl (by rfl) (by decide) rfl (fun ls hl => ?_)
        refine lv_goto (tgt := 7) hx hb dX5_weighWithout_92 (by decide) ?_
        cases hf
        exact hI _ rfl H locs ls hP hD hS (lv_sub hl [1, 2, 3, 0] rfl)
      obtain ⟨rL5, hL5, hk5⟩ := bd_s hf
      refine lp_W (P := fun st => ∀ (H : Heap) (locs : List Loc) (ls : Array Slot), va_P G.1 vwCl [(oX5 o o_all), (wJ G (o 1) 4 o_shares), (wI G (o 2) 32 o_chances), (oX4 p1 p1_beds p1_isKept), (wI G (p1 2) 4 p1_weights)] H → va_D A [(oX5 o o_all), (wJ G (o 1) 4 o_shares), (wI G (o 2) 32 o_chances), (oX4 p1 p1_beds p1_isKept), (wI G (p1 2) 4 p1_weights)] → va_S A s.heap H locs → lv_has ls 7 [(0, .ref (o 0)), (1, .ref (p1 0)), (2, .int a2), (3, .int v3), (4, .long st.1), (6, .int st.2)] → Wc_X5_weighWithout l G o p1 o_shares o_chances o_all p1_weights p1_beds p1_isKept a2 R p e s m below meth c A H locs (F0 m 24 ls [])) ?_ FU (((p1_weights v3.toNatClampNeg).toInt64), (0 : Int32)) hL5 H locs ls hP hD hS (lv_sub hl [2, 3, 4, 5, 1, 0] rfl)
      intro ⟨v4, v6⟩ oc5 hf hI hE H locs ls hP hD hS hl
      have hP : va_P G.1 vwCl [(oX5 o o_all), (wJ G (o 1) 4 o_shares), (wI G (o 2) 32 o_chances), (oX4 p1 p1_beds p1_isKept), (wI G (p1 2) 4 p1_weights)] H := hP
      have hD : va_D A [(oX5 o o_all), (wJ G (o 1) 4 o_shares), (wI G (o 2) 32 o_chances), (oX4 p1 p1_beds p1_isKept), (wI G (p1 2) 4 p1_weights)] := hD
      have hl : lv_has ls 7 [(0, .ref (o 0)), (1, .ref (p1 0)), (2, .int a2), (3, .int v3), (4, .long v4), (6, .int v6)] := hl
      have hf : f_X5_weighWithout_b24 o_chances p1_beds a2 v3 v4 v6 = some oc5 := hf
      refine lv_iload hx hb dX5_weighWithout_24 (lv_at hl 5 rfl) ?_
      refine lv_aload_n hx hb dX5_weighWithout_26 rfl (lv_at hl 1 rfl) ?_
      refine va_get (D := G.1) (ci := 4) (v := .int p1_beds) (C := RX4) (T := TX4) (N := 4) hx hb ht twX4 hown hK.1 hP 3 rfl rfl 2 (by decide) (ht _ kfl_X5_46) (fun _ h9 => h9) rfl dX5_weighWithout_27 ?_
      refine lv_icmp_ge (tgt := 70) hx hb dX5_weighWithout_30 (by decide) (fun c7 => ?_) (fun c7 => ?_)
      · have hf := o_t c7 hf
        cases hf
        have hf : f_X5_weighWithout_x70_5 v3 o_shares o_all v4 = some oc1 := by have h9 := hk5; rw [← hE _ rfl] at h9; exact h9
        exact hx70_5 v4 H locs ls hf hP hD hS (lv_sub hl [0, 1, 2, 3, 4] rfl)
      · have hf := o_f c7 hf
        refine lv_iload hx hb dX5_weighWithout_33 (lv_at hl 5 rfl) ?_
        refine lv_bipush (v := 8) hx hb dX5_weighWithout_35 (by decide) ?_
        refine lv_icmp_ge (tgt := 70) hx hb dX5_weighWithout_37 (by decide) (fun c8 => ?_) (fun c8 => ?_)
        · have hf := o_t c8 hf
          cases hf
          have hf : f_X5_weighWithout_x70_5 v3 o_shares o_all v4 = some oc1 := by have h9 := hk5; rw [← hE _ rfl] at h9; exact h9
          exact hx70_5 v4 H locs ls hf hP hD hS (lv_sub hl [0, 1, 2, 3, 4] rfl)
        · have hf := o_f c8 hf
          refine lv_iload hx hb dX5_weighWithout_40 (lv_at hl 5 rfl) ?_
          refine lv_iload_n hx hb dX5_weighWithout_42 rfl (lv_at hl 2 rfl) ?_
          refine lv_icmp_eq (tgt := 64) hx hb dX5_weighWithout_43 (by decide) (fun c9 => ?_) (fun c9 => ?_)
          · have hf := o_t c9 hf
            refine lv_iinc (v := (v6 + (1 : Int32))) (lv' := [(6, .int (v6 + (1 : Int32))), (0, .ref (o 0)), (1, .ref (p1 0)), (2, .int a2), (3, .int v3), (4, .long v4)]) hx hb dX5_weighWithout_64 hl (k := 5) rfl (by rfl) (by decide) rfl (fun ls hl => ?_)
            refine lv_goto (tgt := 24) hx hb dX5_weighWithout_67 (by decide) ?_
            cases hf
            exact hI _ rfl H locs ls hP hD hS (lv_sub hl [1, 2, 3, 4, 5, 0] rfl)
          · have hf := o_f c9 hf
            refine lv_lload hx hb dX5_weighWithout_46 (lv_at hl 4 rfl) ?_
            refine lv_aload_n hx hb dX5_weighWithout_48 rfl (lv_at hl 0 rfl) ?_
            refine va_get (D := G.1) (ci := 5) (v := .ref (o 2)) (C := RX5) (T := TX5) (N := 3) hx hb ht twX5 hown hK.1 hP 0 rfl rfl 1 (by decide) (ht _ kfl_X5_17) (fun _ h9 => h9) rfl dX5_weighWithout_49 ?_
            refine lv_iload_n hx hb dX5_weighWithout_52 rfl (lv_at hl 3 rfl) ?_
            refine lv_bipush (v := 8) hx hb dX5_weighWithout_53 (by decide) ?_
            refine lv_imul hx hb dX5_weighWithout_55 ?_
            refine lv_iload hx hb dX5_weighWithout_56 (lv_at hl 5 rfl) ?_
            refine lv_iadd hx hb dX5_weighWithout_58 ?_
            obtain ⟨g10, hf⟩ := gd_s hf
            refine va_iald hx hb hK.1 hP 2 0 rfl rfl g10 dX5_weighWithout_59 ?_
            refine lv_i2l (v := ((o_chances ((v3 * (8 : Int32)) + v6).toNatClampNeg).toInt64)) hx hb dX5_weighWithout_60 rfl ?_
            refine lv_lmul hx hb dX5_weighWithout_61 ?_
            obtain ⟨u11, e11, hf⟩ := bd_s hf
            refine lv_reL (Option.some.inj e11).symm ?_
            refine lv_lstore (lv' := [(4, .long u11), (0, .ref (o 0)), (1, .ref (p1 0)), (2, .int a2), (3, .int v3), (6, .int v6)]) hx hb dX5_weighWithout_62 hl (by decide) rfl (fun ls hl => ?_)
            refine lv_iinc (v := (v6 + (1 : Int32))) (lv' := [(6, .int (v6 + (1 : Int32))), (4, .long u11), (0, .ref (o 0)), (1, .ref (p1 0)), (2, .int a2), (3, .int v3)]) hx hb dX5_weighWithout_64 hl (k := 5) rfl (by rfl) (by decide) rfl (fun ls hl => ?_)
            refine lv_goto (tgt := 24) hx hb dX5_weighWithout_67 (by decide) ?_
            cases hf
            exact hI _ rfl H locs ls hP hD hS (lv_sub hl [2, 3, 4, 5, 1, 0] rfl)
  rw [eH, el] at key
  exact key
abbrev Wc_X5_weigh (l : Launch) (G : TG) (o : Nat → Nat) (p1 : Nat → Nat) (p2 : Nat → Nat) (o_shares : Nat → Int64) (o_chances : Nat → Int32) (o_all : Int64) (p1_ice : Nat → Int32) (p2_marks : Nat → Int32) (p2_weights : Nat → Int32) (p2_beds : Int32) (p2_isKept : Int32) (R : (Nat → Int64) × (Nat → Int32) × Int64) (p : Program) (e : Env) (s : State) (m : MethodId) (below : List Frame) (meth : Method) (c : Code) (A : Nat → Prop) (H : Heap) (locs : List Loc) (g : JFrame) : Prop := W p l e ({ frames := 5, cells := 0, slots := 0, locals := 118 }) s m ([.ref (o 0), .ref (p1 0), .ref (p2 0)] : List Value).toArray below meth c H locs 0 0 (MQ below (rwQ G none [(oX5 o R.2.2), (wJ G (o 1) 4 R.1), (wI G (o 2) 32 R.2.1), (oX0 p1), (wI G (p1 1) 400 p1_ice), (oX4 p2 p2_beds p2_isKept), (wI G (p2 1) 48 p2_marks), (wI G (p2 2) 4 p2_weights)] A) ([.ref (o 0), .ref (p1 0), .ref (p2 0)] : List Value).toArray s 0 0 A) g
set_option maxHeartbeats 4000000 in
set_option maxRecDepth 100000 in
theorem c_X5_weigh (l : Launch) (G : TG) (o : Nat → Nat) (p1 : Nat → Nat) (p2 : Nat → Nat) (o_shares : Nat → Int64) (o_chances : Nat → Int32) (o_all : Int64) (p1_ice : Nat → Int32) (p2_marks : Nat → Int32) (p2_weights : Nat → Int32) (p2_beds : Int32) (p2_isKept : Int32) (R : (Nat → Int64) × (Nat → Int32) × Int64) (hf : f_X5_weigh o_shares o_chances p1_ice p2_marks p2_weights p2_beds = some R) : RW l yX5_weigh cX5_weigh 5 none ({ frames := 5, cells := 0, slots := 0, locals := 118 }) G [.ref (o 0), .ref (p1 0), .ref (p2 0)] [(oX5 o o_all), (wJ G (o 1) 4 o_shares), (wI G (o 2) 32 o_chances), (oX0 p1), (wI G (p1 1) 400 p1_ice), (oX4 p2 p2_beds p2_isKept), (wI G (p2 1) 48 p2_marks), (wI G (p2 2) 4 p2_weights)] none [(oX5 o R.2.2), (wJ G (o 1) 4 R.1), (wI G (o 2) 32 R.2.1), (oX0 p1), (wI G (p1 1) 400 p1_ice), (oX4 p2 p2_beds p2_isKept), (wI G (p2 1) 48 p2_marks), (wI G (p2 2) 4 p2_weights)] := by
  refine RW.mk (by decide +kernel) (Nat.le_of_ble_eq_true rfl) ?_
  intro p e s m below meth c ls A C hP hD hA hz hK hl hS
  have hx := C.1
  have hb := C.2.1
  have hown : s.vm.findClass RX5 = some m.cls := C.2.2.2.2.2.1
  have ht := C.2.2.2.2.2.2
  have hl : lv_has ls 5 [(0, .ref (o 0)), (1, .ref (p1 0)), (2, .ref (p2 0))] := hl
  show Wc_X5_weigh l G o p1 p2 o_shares o_chances o_all p1_ice p2_marks p2_weights p2_beds p2_isKept R p e s m below meth c A s.heap [] (F0 m 0 ls [])
  obtain ⟨H, eH, hP, hS⟩ : ∃ H, H = s.heap ∧ va_P G.1 vwCl [(oX5 o o_all), (wJ G (o 1) 4 o_shares), (wI G (o 2) 32 o_chances), (oX0 p1), (wI G (p1 1) 400 p1_ice), (oX4 p2 p2_beds p2_isKept), (wI G (p2 1) 48 p2_marks), (wI G (p2 2) 4 p2_weights)] H ∧ va_S A s.heap H [] := ⟨_, rfl, hP, hS⟩
  obtain ⟨locs, el, hS⟩ : ∃ locs : List Loc, locs = [] ∧ va_S A s.heap H locs := ⟨_, rfl, hS⟩
  have key : Wc_X5_weigh l G o p1 p2 o_shares o_chances o_all p1_ice p2_marks p2_weights p2_beds p2_isKept R p e s m below meth c A H locs (F0 m 0 ls []) := by
    refine lv_iconst (v := 0) hx hb dX5_weigh_0 (by decide) ?_
    refine lv_istore_n (lv' := [(3, .int (0 : Int32)), (0, .ref (o 0)), (1, .ref (p1 0)), (2, .ref (p2 0))]) hx hb dX5_weigh_1 rfl hl (by decide) rfl (fun ls hl => ?_)
    have hx58_1 : ∀ (o_chances : Nat → Int32) (H : Heap) (locs : List Loc) (ls : Array Slot), f_X5_weigh_x58_1 o_shares p2_weights p2_beds o_chances = some R → va_P G.1 vwCl [(oX5 o o_all), (wJ G (o 1) 4 o_shares), (wI G (o 2) 32 o_chances), (oX0 p1), (wI G (p1 1) 400 p1_ice), (oX4 p2 p2_beds p2_isKept), (wI G (p2 1) 48 p2_marks), (wI G (p2 2) 4 p2_weights)] H → va_D A [(oX5 o o_all), (wJ G (o 1) 4 o_shares), (wI G (o 2) 32 o_chances), (oX0 p1), (wI G (p1 1) 400 p1_ice), (oX4 p2 p2_beds p2_isKept), (wI G (p2 1) 48 p2_marks), (wI G (p2 2) 4 p2_weights)] → va_S A s.heap H locs → lv_has ls 5 [(0, .ref (o 0)), (2, .ref (p2 0))] → Wc_X5_weigh l G o p1 p2 o_shares o_chances o_all p1_ice p2_marks p2_weights p2_beds p2_isKept R p e s m below meth c A H locs (F0 m 58 ls []) := by
      intro o_chances H locs ls hf hP hD hS hl
      refine lv_aload_n hx hb dX5_weigh_58 rfl (lv_at hl 0 rfl) ?_
      refine lv_aload_n hx hb dX5_weigh_59 rfl (lv_at hl 1 rfl) ?_
      refine lv_bipush (v := -9) hx hb dX5_weigh_60 (by decide) ?_
      obtain ⟨q2, r2, hf⟩ := bd_s hf
      refine rw_V (n := 2) (As := [.ref (p2 0), .int (-9 : Int32)]) (rest := []) (wr := [(oX0 p1), (wI G (p1 1) 400 p1_ice), (wI G (p2 1) 48 p2_marks)]) (ws2 := [(oX5 o q2.2), (wJ G (o 1) 4 q2.1), (wI G (o 2) 32 o_chances), (oX0 p1), (wI G (p1 1) 400 p1_ice), (oX4 p2 p2_beds p2_isKept), (wI G (p2 1) 48 p2_marks), (wI G (p2 2) 4 p2_weights)]) (c_X5_weighWithout l G o p2 o_shares o_chances o_all p2_weights p2_beds p2_isKept (-9 : Int32) q2 r2) C hK hP hD hS hA hz hl [0, 1, 2, 5, 7] [3, 4, 6] [3, 4, 5, 0, 1, 6, 2, 7] rfl rfl rfl rfl rfl (by decide) rfl rfl rfl kcode_X5_weighWithout kml_X5_59 kim_X5_weighWithout ksel_X5_weighWithout kini_X5 (by decide +kernel) ⟨⟨rfl, rfl⟩, Nat.le_of_ble_eq_true rfl, Nat.le_of_ble_eq_true rfl⟩ ⟨Nat.zero_le _, Nat.zero_le _⟩ rfl rfl rfl rfl rfl (Nat.le_of_ble_eq_true rfl) dX5_weigh_62 rfl (fun H locs hP hD hS => ?_)
      have h9 := Option.some.inj hf
      subst h9
      exact rw_vret C hP hD hS dX5_weigh_65
    obtain ⟨rL1, hL1, hk1⟩ := bd_s hf
    refine lp_W (P := fun st => ∀ (H : Heap) (locs : List Loc) (ls : Array Slot), va_P G.1 vwCl [(oX5 o o_all), (wJ G (o 1) 4 o_shares), (wI G (o 2) 32 st.2), (oX0 p1), (wI G (p1 1) 400 p1_ice), (oX4 p2 p2_beds p2_isKept), (wI G (p2 1) 48 p2_marks), (wI G (p2 2) 4 p2_weights)] H → va_D A [(oX5 o o_all), (wJ G (o 1) 4 o_shares), (wI G (o 2) 32 st.2), (oX0 p1), (wI G (p1 1) 400 p1_ice), (oX4 p2 p2_beds p2_isKept), (wI G (p2 1) 48 p2_marks), (wI G (p2 2) 4 p2_weights)] → va_S A s.heap H locs → lv_has ls 5 [(0, .ref (o 0)), (1, .ref (p1 0)), (2, .ref (p2 0)), (3, .int st.1)] → Wc_X5_weigh l G o p1 p2 o_shares o_chances o_all p1_ice p2_marks p2_weights p2_beds p2_isKept R p e s m below meth c A H locs (F0 m 2 ls [])) ?_ FU ((0 : Int32), o_chances) hL1 H locs ls hP hD hS (lv_sub hl [1, 2, 3, 0] rfl)
    intro ⟨v3, o_chances⟩ oc1 hf hI hE H locs ls hP hD hS hl
    have hP : va_P G.1 vwCl [(oX5 o o_all), (wJ G (o 1) 4 o_shares), (wI G (o 2) 32 o_chances), (oX0 p1), (wI G (p1 1) 400 p1_ice), (oX4 p2 p2_beds p2_isKept), (wI G (p2 1) 48 p2_marks), (wI G (p2 2) 4 p2_weights)] H := hP
    have hD : va_D A [(oX5 o o_all), (wJ G (o 1) 4 o_shares), (wI G (o 2) 32 o_chances), (oX0 p1), (wI G (p1 1) 400 p1_ice), (oX4 p2 p2_beds p2_isKept), (wI G (p2 1) 48 p2_marks), (wI G (p2 2) 4 p2_weights)] := hD
    have hl : lv_has ls 5 [(0, .ref (o 0)), (1, .ref (p1 0)), (2, .ref (p2 0)), (3, .int v3)] := hl
    have hf : f_X5_weigh_b2 p1_ice p2_marks p2_beds v3 o_chances = some oc1 := hf
    refine lv_iload_n hx hb dX5_weigh_2 rfl (lv_at hl 3 rfl) ?_
    refine lv_iconst (v := 4) hx hb dX5_weigh_3 (by decide) ?_
    refine lv_icmp_ge (tgt := 58) hx hb dX5_weigh_4 (by decide) (fun c4 => ?_) (fun c4 => ?_)
    · have hf := o_t c4 hf
      cases hf
      have hf : f_X5_weigh_x58_1 o_shares p2_weights p2_beds o_chances = some R := by have h9 := hk1; rw [← hE _ rfl] at h9; exact h9
      exact hx58_1 o_chances H locs ls hf hP hD hS (lv_sub hl [0, 2] rfl)
    · have hf := o_f c4 hf
      refine lv_iconst (v := 0) hx hb dX5_weigh_7 (by decide) ?_
      refine lv_istore (lv' := [(4, .int (0 : Int32)), (0, .ref (o 0)), (1, .ref (p1 0)), (2, .ref (p2 0)), (3, .int v3)]) hx hb dX5_weigh_8 hl (by decide) rfl (fun ls hl => ?_)
      have hx52_5 : ∀ (o_chances : Nat → Int32) (H : Heap) (locs : List Loc) (ls : Array Slot), f_X5_weigh_x52_5 v3 o_chances = some oc1 → va_P G.1 vwCl [(oX5 o o_all), (wJ G (o 1) 4 o_shares), (wI G (o 2) 32 o_chances), (oX0 p1), (wI G (p1 1) 400 p1_ice), (oX4 p2 p2_beds p2_isKept), (wI G (p2 1) 48 p2_marks), (wI G (p2 2) 4 p2_weights)] H → va_D A [(oX5 o o_all), (wJ G (o 1) 4 o_shares), (wI G (o 2) 32 o_chances), (oX0 p1), (wI G (p1 1) 400 p1_ice), (oX4 p2 p2_beds p2_isKept), (wI G (p2 1) 48 p2_marks), (wI G (p2 2) 4 p2_weights)] → va_S A s.heap H locs → lv_has ls 5 [(0, .ref (o 0)), (1, .ref (p1 0)), (2, .ref (p2 0)), (3, .int v3)] → Wc_X5_weigh l G o p1 p2 o_shares o_chances o_all p1_ice p2_marks p2_weights p2_beds p2_isKept R p e s m below meth c A H locs (F0 m 52 ls []) := by
        intro o_chances H locs ls hf hP hD hS hl
        refine lv_iinc (v := (v3 + (1 : Int32))) (lv' := [(3, .int (v3 + (1 : Int32))), (0, .ref (o 0)), (1, .ref (p1 0)), (2, .ref (p2 0))]) hx hb dX5_weigh_52 hl (k := 3) rfl (by rfl) (by decide) rfl (fun ls hl => ?_)
        refine lv_goto (tgt := 2) hx hb dX5_weigh_55 (by decide) ?_
        cases hf
        exact hI _ rfl H locs ls hP hD hS (lv_sub hl [1, 2, 3, 0] rfl)
      obtain ⟨rL5, hL5, hk5⟩ := bd_s hf
      refine lp_W (P := fun st => ∀ (H : Heap) (locs : List Loc) (ls : Array Slot), va_P G.1 vwCl [(oX5 o o_all), (wJ G (o 1) 4 o_shares), (wI G (o 2) 32 st.2), (oX0 p1), (wI G (p1 1) 400 p1_ice), (oX4 p2 p2_beds p2_isKept), (wI G (p2 1) 48 p2_marks), (wI G (p2 2) 4 p2_weights)] H → va_D A [(oX5 o o_all), (wJ G (o 1) 4 o_shares), (wI G (o 2) 32 st.2), (oX0 p1), (wI G (p1 1) 400 p1_ice), (oX4 p2 p2_beds p2_isKept), (wI G (p2 1) 48 p2_marks), (wI G (p2 2) 4 p2_weights)] → va_S A s.heap H locs → lv_has ls 5 [(0, .ref (o 0)), (1, .ref (p1 0)), (2, .ref (p2 0)), (3, .int v3), (4, .int st.1)] → Wc_X5_weigh l G o p1 p2 o_shares o_chances o_all p1_ice p2_marks p2_weights p2_beds p2_isKept R p e s m below meth c A H locs (F0 m 10 ls [])) ?_ FU ((0 : Int32), o_chances) hL5 H locs ls hP hD hS (lv_sub hl [1, 2, 3, 4, 0] rfl)
      intro ⟨v4, o_chances⟩ oc5 hf hI hE H locs ls hP hD hS hl
      have hP : va_P G.1 vwCl [(oX5 o o_all), (wJ G (o 1) 4 o_shares), (wI G (o 2) 32 o_chances), (oX0 p1), (wI G (p1 1) 400 p1_ice), (oX4 p2 p2_beds p2_isKept), (wI G (p2 1) 48 p2_marks), (wI G (p2 2) 4 p2_weights)] H := hP
      have hD : va_D A [(oX5 o o_all), (wJ G (o 1) 4 o_shares), (wI G (o 2) 32 o_chances), (oX0 p1), (wI G (p1 1) 400 p1_ice), (oX4 p2 p2_beds p2_isKept), (wI G (p2 1) 48 p2_marks), (wI G (p2 2) 4 p2_weights)] := hD
      have hl : lv_has ls 5 [(0, .ref (o 0)), (1, .ref (p1 0)), (2, .ref (p2 0)), (3, .int v3), (4, .int v4)] := hl
      have hf : f_X5_weigh_b10 p1_ice p2_marks p2_beds v3 v4 o_chances = some oc5 := hf
      refine lv_iload hx hb dX5_weigh_10 (lv_at hl 4 rfl) ?_
      refine lv_aload_n hx hb dX5_weigh_12 rfl (lv_at hl 2 rfl) ?_
      refine va_get (D := G.1) (ci := 4) (v := .int p2_beds) (C := RX4) (T := TX4) (N := 4) hx hb ht twX4 hown hK.1 hP 5 rfl rfl 2 (by decide) (ht _ kfl_X5_46) (fun _ h9 => h9) rfl dX5_weigh_13 ?_
      refine lv_icmp_ge (tgt := 52) hx hb dX5_weigh_16 (by decide) (fun c6 => ?_) (fun c6 => ?_)
      · have hf := o_t c6 hf
        cases hf
        have hf : f_X5_weigh_x52_5 v3 o_chances = some oc1 := by have h9 := hk5; rw [← hE _ rfl] at h9; exact h9
        exact hx52_5 o_chances H locs ls hf hP hD hS (lv_sub hl [0, 1, 2, 3] rfl)
      · have hf := o_f c6 hf
        refine lv_iload hx hb dX5_weigh_19 (lv_at hl 4 rfl) ?_
        refine lv_bipush (v := 8) hx hb dX5_weigh_21 (by decide) ?_
        refine lv_icmp_ge (tgt := 52) hx hb dX5_weigh_23 (by decide) (fun c7 => ?_) (fun c7 => ?_)
        · have hf := o_t c7 hf
          cases hf
          have hf : f_X5_weigh_x52_5 v3 o_chances = some oc1 := by have h9 := hk5; rw [← hE _ rfl] at h9; exact h9
          exact hx52_5 o_chances H locs ls hf hP hD hS (lv_sub hl [0, 1, 2, 3] rfl)
        · have hf := o_f c7 hf
          refine lv_aload_n hx hb dX5_weigh_26 rfl (lv_at hl 0 rfl) ?_
          refine va_get (D := G.1) (ci := 5) (v := .ref (o 2)) (C := RX5) (T := TX5) (N := 3) hx hb ht twX5 hown hK.1 hP 0 rfl rfl 1 (by decide) (ht _ kfl_X5_17) (fun _ h9 => h9) rfl dX5_weigh_27 ?_
          refine lv_iload_n hx hb dX5_weigh_30 rfl (lv_at hl 3 rfl) ?_
          refine lv_bipush (v := 8) hx hb dX5_weigh_31 (by decide) ?_
          refine lv_imul hx hb dX5_weigh_33 ?_
          refine lv_iload hx hb dX5_weigh_34 (lv_at hl 4 rfl) ?_
          refine lv_iadd hx hb dX5_weigh_36 ?_
          refine lv_aload_n hx hb dX5_weigh_37 rfl (lv_at hl 1 rfl) ?_
          refine lv_aload_n hx hb dX5_weigh_38 rfl (lv_at hl 2 rfl) ?_
          refine lv_iload_n hx hb dX5_weigh_39 rfl (lv_at hl 3 rfl) ?_
          refine lv_iload hx hb dX5_weigh_40 (lv_at hl 4 rfl) ?_
          obtain ⟨q8, r8, hf⟩ := bd_s hf
          refine ro_S (n := 4) (As := [.ref (p1 0), .ref (p2 0), .int v3, .int v4]) (rest := [.int ((v3 * (8 : Int32)) + v4), .ref (o 2)]) (c_X5_hundredths l G p1 p2 p1_ice p2_marks p2_beds p2_isKept v3 v4 q8 r8) C (hK.at hS hz) (hP.sub [3, 4, 5, 6] rfl) hl kcode_X5_hundredths kml_X5_55 kst_X5_hundredths kini_X5 (by decide +kernel) ⟨⟨rfl, rfl⟩, Nat.le_of_ble_eq_true rfl, Nat.le_of_ble_eq_true rfl⟩ ⟨Nat.zero_le _, Nat.zero_le _⟩ rfl rfl (Nat.le_of_ble_eq_true rfl) dX5_weigh_42 rfl ?_
          obtain ⟨g9, hf⟩ := gd_s hf
          refine va_iast hx hb hK.1 hP hD hS 2 0 rfl rfl g9 dX5_weigh_45 (fun H locs hP hD hS => ?_)
          have hP : va_P G.1 vwCl [(oX5 o o_all), (wJ G (o 1) 4 o_shares), (wI G (o 2) 32 (upd o_chances ((v3 * (8 : Int32)) + v4).toNatClampNeg q8)), (oX0 p1), (wI G (p1 1) 400 p1_ice), (oX4 p2 p2_beds p2_isKept), (wI G (p2 1) 48 p2_marks), (wI G (p2 2) 4 p2_weights)] H := hP
          have hD : va_D A [(oX5 o o_all), (wJ G (o 1) 4 o_shares), (wI G (o 2) 32 (upd o_chances ((v3 * (8 : Int32)) + v4).toNatClampNeg q8)), (oX0 p1), (wI G (p1 1) 400 p1_ice), (oX4 p2 p2_beds p2_isKept), (wI G (p2 1) 48 p2_marks), (wI G (p2 2) 4 p2_weights)] := hD
          refine lv_iinc (v := (v4 + (1 : Int32))) (lv' := [(4, .int (v4 + (1 : Int32))), (0, .ref (o 0)), (1, .ref (p1 0)), (2, .ref (p2 0)), (3, .int v3)]) hx hb dX5_weigh_46 hl (k := 4) rfl (by rfl) (by decide) rfl (fun ls hl => ?_)
          refine lv_goto (tgt := 10) hx hb dX5_weigh_49 (by decide) ?_
          cases hf
          exact hI _ rfl H locs ls hP hD hS (lv_sub hl [1, 2, 3, 4, 0] rfl)
  rw [eH, el] at key
  exact key
abbrev Wc_X5_greatest (l : Launch) (G : TG) (o : Nat → Nat) (o_shares : Nat → Int64) (o_all : Int64) (R : Int32) (p : Program) (e : Env) (s : State) (m : MethodId) (below : List Frame) (meth : Method) (c : Code) (H : Heap) (locs : List Loc) (g : JFrame) : Prop := W p l e ({ frames := 0, cells := 0, slots := 0, locals := 0 }) s m ([.ref (o 0)] : List Value).toArray below meth c H locs 0 0 (MQ below (roQ (some (.int R))) ([.ref (o 0)] : List Value).toArray s 0 0 (fun _ => False)) g
set_option maxHeartbeats 4000000 in
set_option maxRecDepth 100000 in
theorem c_X5_greatest (l : Launch) (G : TG) (o : Nat → Nat) (o_shares : Nat → Int64) (o_all : Int64) (R : Int32) (hf : f_X5_greatest o_shares = some R) : RO l yX5_greatest cX5_greatest 3 (some .int) ({ frames := 0, cells := 0, slots := 0, locals := 0 }) G [.ref (o 0)] [(oX5 o o_all), (wJ G (o 1) 4 o_shares)] (some (.int R)) := by
  refine RO.mk (by decide +kernel) (Nat.le_of_ble_eq_true rfl) ?_
  intro p e s m below meth c ls C hP hK hl
  have hx := C.1
  have hb := C.2.1
  have hown : s.vm.findClass RX5 = some m.cls := C.2.2.2.2.2.1
  have ht := C.2.2.2.2.2.2
  have hl : lv_has ls 3 [(0, .ref (o 0))] := hl
  show Wc_X5_greatest l G o o_shares o_all R p e s m below meth c s.heap [] (F0 m 0 ls [])
  refine lv_iconst (v := 0) hx hb dX5_greatest_0 (by decide) ?_
  refine lv_istore_n (lv' := [(1, .int (0 : Int32)), (0, .ref (o 0))]) hx hb dX5_greatest_1 rfl hl (by decide) rfl (fun ls hl => ?_)
  refine lv_iconst (v := 1) hx hb dX5_greatest_2 (by decide) ?_
  refine lv_istore_n (lv' := [(2, .int (1 : Int32)), (1, .int (0 : Int32)), (0, .ref (o 0))]) hx hb dX5_greatest_3 rfl hl (by decide) rfl (fun ls hl => ?_)
  have hx33_1 : ∀ (v1 : Int32) (ls : Array Slot), f_X5_greatest_x33_1 v1 = some R → lv_has ls 3 [(1, .int v1)] → Wc_X5_greatest l G o o_shares o_all R p e s m below meth c s.heap [] (F0 m 33 ls []) := by
    intro v1 ls hf hl
    refine lv_iload_n hx hb dX5_greatest_33 rfl (lv_at hl 0 rfl) ?_
    have h9 := Option.some.inj hf
    subst h9
    exact ro_iret C rfl dX5_greatest_34
  obtain ⟨rL1, hL1, hk1⟩ := bd_s hf
  refine lp_W (P := fun st => ∀ (ls : Array Slot), lv_has ls 3 [(0, .ref (o 0)), (1, .int st.1), (2, .int st.2)] → Wc_X5_greatest l G o o_shares o_all R p e s m below meth c s.heap [] (F0 m 4 ls [])) ?_ FU ((0 : Int32), (1 : Int32)) hL1 ls (lv_sub hl [2, 1, 0] rfl)
  intro ⟨v1, v2⟩ oc1 hf hI hE ls hl
  have hl : lv_has ls 3 [(0, .ref (o 0)), (1, .int v1), (2, .int v2)] := hl
  have hf : f_X5_greatest_b4 o_shares v1 v2 = some oc1 := hf
  refine lv_iload_n hx hb dX5_greatest_4 rfl (lv_at hl 2 rfl) ?_
  refine lv_iconst (v := 4) hx hb dX5_greatest_5 (by decide) ?_
  refine lv_icmp_ge (tgt := 33) hx hb dX5_greatest_6 (by decide) (fun c3 => ?_) (fun c3 => ?_)
  · have hf := o_t c3 hf
    cases hf
    have hf : f_X5_greatest_x33_1 v1 = some R := by have h9 := hk1; rw [← hE _ rfl] at h9; exact h9
    exact hx33_1 v1 ls hf (lv_sub hl [1] rfl)
  · have hf := o_f c3 hf
    refine lv_aload_n hx hb dX5_greatest_9 rfl (lv_at hl 0 rfl) ?_
    refine va_get (D := G.1) (ci := 5) (v := .ref (o 1)) (C := RX5) (T := TX5) (N := 3) hx hb ht twX5 hown hK.1 hP 0 rfl rfl 0 (by decide) (ht _ kfl_X5_9) (fun _ h9 => h9) rfl dX5_greatest_10 ?_
    refine lv_iload_n hx hb dX5_greatest_13 rfl (lv_at hl 2 rfl) ?_
    obtain ⟨g4, hf⟩ := gd_s hf
    refine va_lald hx hb hK.1 hP 1 1 rfl rfl g4 dX5_greatest_14 ?_
    refine lv_aload_n hx hb dX5_greatest_15 rfl (lv_at hl 0 rfl) ?_
    refine va_get (D := G.1) (ci := 5) (v := .ref (o 1)) (C := RX5) (T := TX5) (N := 3) hx hb ht twX5 hown hK.1 hP 0 rfl rfl 0 (by decide) (ht _ kfl_X5_9) (fun _ h9 => h9) rfl dX5_greatest_16 ?_
    refine lv_iload_n hx hb dX5_greatest_19 rfl (lv_at hl 1 rfl) ?_
    obtain ⟨g5, hf⟩ := gd_s hf
    refine va_lald hx hb hK.1 hP 1 1 rfl rfl g5 dX5_greatest_20 ?_
    refine W.lcmp hx hb dX5_greatest_21 ?_
    refine lv_if_le (tgt := 27) hx hb dX5_greatest_22 (by decide) (fun c6 => ?_) (fun c6 => ?_)
    · have hf := o_t c6 hf
      refine lv_iinc (v := (v2 + (1 : Int32))) (lv' := [(2, .int (v2 + (1 : Int32))), (0, .ref (o 0)), (1, .int v1)]) hx hb dX5_greatest_27 hl (k := 2) rfl (by rfl) (by decide) rfl (fun ls hl => ?_)
      refine lv_goto (tgt := 4) hx hb dX5_greatest_30 (by decide) ?_
      cases hf
      exact hI _ rfl ls (lv_sub hl [1, 2, 0] rfl)
    · have hf := o_f c6 hf
      refine lv_iload_n hx hb dX5_greatest_25 rfl (lv_at hl 2 rfl) ?_
      refine lv_istore_n (lv' := [(1, .int v2), (0, .ref (o 0)), (2, .int v2)]) hx hb dX5_greatest_26 rfl hl (by decide) rfl (fun ls hl => ?_)
      refine lv_iinc (v := (v2 + (1 : Int32))) (lv' := [(2, .int (v2 + (1 : Int32))), (1, .int v2), (0, .ref (o 0))]) hx hb dX5_greatest_27 hl (k := 2) rfl (by rfl) (by decide) rfl (fun ls hl => ?_)
      refine lv_goto (tgt := 4) hx hb dX5_greatest_30 (by decide) ?_
      cases hf
      exact hI _ rfl ls (lv_sub hl [2, 1, 0] rfl)
abbrev Wc_X5_millionths (l : Launch) (G : TG) (a0 : Int64) (a2 : Int64) (R : Int32) (p : Program) (e : Env) (s : State) (m : MethodId) (below : List Frame) (meth : Method) (c : Code) (H : Heap) (locs : List Loc) (g : JFrame) : Prop := W p l e ({ frames := 0, cells := 0, slots := 0, locals := 0 }) s m ([.long a0, .long a2] : List Value).toArray below meth c H locs 0 0 (MQ below (roQ (some (.int R))) ([.long a0, .long a2] : List Value).toArray s 0 0 (fun _ => False)) g
set_option maxHeartbeats 4000000 in
set_option maxRecDepth 100000 in
theorem c_X5_millionths (l : Launch) (G : TG) (a0 : Int64) (a2 : Int64) (R : Int32) (hf : f_X5_millionths a0 a2 = some R) : RO l yX5_millionths cX5_millionths 8 (some .int) ({ frames := 0, cells := 0, slots := 0, locals := 0 }) G [.long a0, .long a2] [] (some (.int R)) := by
  refine RO.mk (by decide +kernel) (Nat.le_of_ble_eq_true rfl) ?_
  intro p e s m below meth c ls C hP hK hl
  have hx := C.1
  have hb := C.2.1
  have hown : s.vm.findClass RX5 = some m.cls := C.2.2.2.2.2.1
  have ht := C.2.2.2.2.2.2
  have hl : lv_has ls 8 [(0, .long a0), (2, .long a2)] := hl
  show Wc_X5_millionths l G a0 a2 R p e s m below meth c s.heap [] (F0 m 0 ls [])
  refine lv_lload_n hx hb dX5_millionths_0 rfl (lv_at hl 1 rfl) ?_
  refine lv_lconst (v := 0) hx hb dX5_millionths_1 (by decide) ?_
  refine W.lcmp hx hb dX5_millionths_2 ?_
  refine lv_if_gt (tgt := 8) hx hb dX5_millionths_3 (by decide) (fun c1 => ?_) (fun c1 => ?_)
  · have hf := o_t c1 hf
    refine lv_lload_n hx hb dX5_millionths_8 rfl (lv_at hl 0 rfl) ?_
    refine lv_lload_n hx hb dX5_millionths_9 rfl (lv_at hl 1 rfl) ?_
    obtain ⟨n2, hf⟩ := dzL_s hf
    refine lv_ldiv hx hb dX5_millionths_10 n2 ?_
    refine lv_l2i (v := ((a0 / a2).toInt32)) hx hb dX5_millionths_11 rfl ?_
    refine lv_istore (lv' := [(4, .int ((a0 / a2).toInt32)), (0, .long a0), (2, .long a2)]) hx hb dX5_millionths_12 hl (by decide) rfl (fun ls hl => ?_)
    refine lv_lload_n hx hb dX5_millionths_14 rfl (lv_at hl 1 rfl) ?_
    refine lv_lload_n hx hb dX5_millionths_15 rfl (lv_at hl 2 rfl) ?_
    obtain ⟨n3, hf⟩ := dzL_s hf
    refine lv_lrem hx hb dX5_millionths_16 n3 ?_
    refine lv_lstore (lv' := [(5, .long (a0 - a0 / a2 * a2)), (4, .int ((a0 / a2).toInt32)), (0, .long a0), (2, .long a2)]) hx hb dX5_millionths_17 hl (by decide) rfl (fun ls hl => ?_)
    refine lv_iconst (v := 0) hx hb dX5_millionths_19 (by decide) ?_
    refine lv_istore (lv' := [(7, .int (0 : Int32)), (5, .long (a0 - a0 / a2 * a2)), (4, .int ((a0 / a2).toInt32)), (0, .long a0), (2, .long a2)]) hx hb dX5_millionths_20 hl (by decide) rfl (fun ls hl => ?_)
    have hx62_4 : ∀ (v4 : Int32) (ls : Array Slot), f_X5_millionths_x62_4 v4 = some R → lv_has ls 8 [(4, .int v4)] → Wc_X5_millionths l G a0 a2 R p e s m below meth c s.heap [] (F0 m 62 ls []) := by
      intro v4 ls hf hl
      refine lv_iload hx hb dX5_millionths_62 (lv_at hl 0 rfl) ?_
      have h9 := Option.some.inj hf
      subst h9
      exact ro_iret C rfl dX5_millionths_64
    obtain ⟨rL4, hL4, hk4⟩ := bd_s hf
    refine lp_W (P := fun st => ∀ (ls : Array Slot), lv_has ls 8 [(2, .long a2), (4, .int st.1), (5, .long st.2.1), (7, .int st.2.2)] → Wc_X5_millionths l G a0 a2 R p e s m below meth c s.heap [] (F0 m 22 ls [])) ?_ FU (((a0 / a2).toInt32), (a0 - a0 / a2 * a2), (0 : Int32)) hL4 ls (lv_sub hl [4, 2, 1, 0] rfl)
    intro ⟨v4, v5, v7⟩ oc4 hf hI hE ls hl
    have hl : lv_has ls 8 [(2, .long a2), (4, .int v4), (5, .long v5), (7, .int v7)] := hl
    have hf : f_X5_millionths_b22 a2 v4 v5 v7 = some oc4 := hf
    refine lv_iload hx hb dX5_millionths_22 (lv_at hl 3 rfl) ?_
    refine lv_bipush (v := 6) hx hb dX5_millionths_24 (by decide) ?_
    refine lv_icmp_ge (tgt := 62) hx hb dX5_millionths_26 (by decide) (fun c6 => ?_) (fun c6 => ?_)
    · have hf := o_t c6 hf
      cases hf
      have hf : f_X5_millionths_x62_4 v4 = some R := by have h9 := hk4; rw [← hE _ rfl] at h9; exact h9
      exact hx62_4 v4 ls hf (lv_sub hl [1] rfl)
    · have hf := o_f c6 hf
      refine lv_lload hx hb dX5_millionths_29 (lv_at hl 2 rfl) ?_
      refine lv_ldc2 hx hb hown (ht _ kcL_X5_78) dX5_millionths_31 ?_
      refine lv_lmul hx hb dX5_millionths_34 ?_
      refine lv_lstore (lv' := [(5, .long (v5 * (10 : Int64))), (2, .long a2), (4, .int v4), (7, .int v7)]) hx hb dX5_millionths_35 hl (by decide) rfl (fun ls hl => ?_)
      refine lv_bipush (v := 10) hx hb dX5_millionths_37 (by decide) ?_
      refine lv_iload hx hb dX5_millionths_39 (lv_at hl 2 rfl) ?_
      refine lv_imul hx hb dX5_millionths_41 ?_
      refine lv_lload hx hb dX5_millionths_42 (lv_at hl 0 rfl) ?_
      refine lv_lload_n hx hb dX5_millionths_44 rfl (lv_at hl 1 rfl) ?_
      obtain ⟨n7, hf⟩ := dzL_s hf
      refine lv_ldiv hx hb dX5_millionths_45 n7 ?_
      refine lv_l2i (v := (((v5 * (10 : Int64)) / a2).toInt32)) hx hb dX5_millionths_46 rfl ?_
      refine lv_iadd hx hb dX5_millionths_47 ?_
      obtain ⟨u8, e8, hf⟩ := bd_s hf
      refine lv_re (Option.some.inj e8).symm ?_
      refine lv_istore (lv' := [(4, .int u8), (5, .long (v5 * (10 : Int64))), (2, .long a2), (7, .int v7)]) hx hb dX5_millionths_48 hl (by decide) rfl (fun ls hl => ?_)
      refine lv_lload hx hb dX5_millionths_50 (lv_at hl 1 rfl) ?_
      refine lv_lload_n hx hb dX5_millionths_52 rfl (lv_at hl 2 rfl) ?_
      obtain ⟨n9, hf⟩ := dzL_s hf
      refine lv_lrem hx hb dX5_millionths_53 n9 ?_
      obtain ⟨u10, e10, hf⟩ := bd_s hf
      refine lv_reL (Option.some.inj e10).symm ?_
      refine lv_lstore (lv' := [(5, .long u10), (4, .int u8), (2, .long a2), (7, .int v7)]) hx hb dX5_millionths_54 hl (by decide) rfl (fun ls hl => ?_)
      refine lv_iinc (v := (v7 + (1 : Int32))) (lv' := [(7, .int (v7 + (1 : Int32))), (5, .long u10), (4, .int u8), (2, .long a2)]) hx hb dX5_millionths_56 hl (k := 3) rfl (by rfl) (by decide) rfl (fun ls hl => ?_)
      refine lv_goto (tgt := 22) hx hb dX5_millionths_59 (by decide) ?_
      cases hf
      exact hI _ rfl ls (lv_sub hl [3, 2, 1, 0] rfl)
  · have hf := o_f c1 hf
    refine lv_iconst (v := 0) hx hb dX5_millionths_6 (by decide) ?_
    have h9 := Option.some.inj hf
    subst h9
    exact ro_iret C rfl dX5_millionths_7
abbrev Wc_X5_bedThatMovesMost (l : Launch) (G : TG) (o : Nat → Nat) (p1 : Nat → Nat) (o_shares : Nat → Int64) (o_chances : Nat → Int32) (o_all : Int64) (p1_weights : Nat → Int32) (p1_beds : Int32) (p1_isKept : Int32) (R : Int32 × (Nat → Int64) × Int64) (p : Program) (e : Env) (s : State) (m : MethodId) (below : List Frame) (meth : Method) (c : Code) (A : Nat → Prop) (H : Heap) (locs : List Loc) (g : JFrame) : Prop := W p l e ({ frames := 1, cells := 0, slots := 0, locals := 40 }) s m ([.ref (o 0), .ref (p1 0)] : List Value).toArray below meth c H locs 0 0 (MQ below (rwQ G (some (.int R.1)) [(oX5 o R.2.2), (wJ G (o 1) 4 R.2.1), (wI G (o 2) 32 o_chances), (oX4 p1 p1_beds p1_isKept), (wI G (p1 2) 4 p1_weights)] A) ([.ref (o 0), .ref (p1 0)] : List Value).toArray s 0 0 A) g
set_option maxHeartbeats 4000000 in
set_option maxRecDepth 100000 in
theorem c_X5_bedThatMovesMost (l : Launch) (G : TG) (o : Nat → Nat) (p1 : Nat → Nat) (o_shares : Nat → Int64) (o_chances : Nat → Int32) (o_all : Int64) (p1_weights : Nat → Int32) (p1_beds : Int32) (p1_isKept : Int32) (R : Int32 × (Nat → Int64) × Int64) (hf : f_X5_bedThatMovesMost o_shares o_chances o_all p1_weights p1_beds = some R) : RW l yX5_bedThatMovesMost cX5_bedThatMovesMost 8 (some .int) ({ frames := 1, cells := 0, slots := 0, locals := 40 }) G [.ref (o 0), .ref (p1 0)] [(oX5 o o_all), (wJ G (o 1) 4 o_shares), (wI G (o 2) 32 o_chances), (oX4 p1 p1_beds p1_isKept), (wI G (p1 2) 4 p1_weights)] (some (.int R.1)) [(oX5 o R.2.2), (wJ G (o 1) 4 R.2.1), (wI G (o 2) 32 o_chances), (oX4 p1 p1_beds p1_isKept), (wI G (p1 2) 4 p1_weights)] := by
  refine RW.mk (by decide +kernel) (Nat.le_of_ble_eq_true rfl) ?_
  intro p e s m below meth c ls A C hP hD hA hz hK hl hS
  have hx := C.1
  have hb := C.2.1
  have hown : s.vm.findClass RX5 = some m.cls := C.2.2.2.2.2.1
  have ht := C.2.2.2.2.2.2
  have hl : lv_has ls 8 [(0, .ref (o 0)), (1, .ref (p1 0))] := hl
  show Wc_X5_bedThatMovesMost l G o p1 o_shares o_chances o_all p1_weights p1_beds p1_isKept R p e s m below meth c A s.heap [] (F0 m 0 ls [])
  obtain ⟨H, eH, hP, hS⟩ : ∃ H, H = s.heap ∧ va_P G.1 vwCl [(oX5 o o_all), (wJ G (o 1) 4 o_shares), (wI G (o 2) 32 o_chances), (oX4 p1 p1_beds p1_isKept), (wI G (p1 2) 4 p1_weights)] H ∧ va_S A s.heap H [] := ⟨_, rfl, hP, hS⟩
  obtain ⟨locs, el, hS⟩ : ∃ locs : List Loc, locs = [] ∧ va_S A s.heap H locs := ⟨_, rfl, hS⟩
  have key : Wc_X5_bedThatMovesMost l G o p1 o_shares o_chances o_all p1_weights p1_beds p1_isKept R p e s m below meth c A H locs (F0 m 0 ls []) := by
    refine lv_aload_n hx hb dX5_bedThatMovesMost_0 rfl (lv_at hl 0 rfl) ?_
    obtain ⟨q1, r1, hf⟩ := bd_s hf
    refine ro_V (n := 0) (As := []) (rest := []) (c_X5_greatest l G o o_shares o_all q1 r1) C (hK.at hS hz) (hP.sub [0, 1] rfl) hl kcode_X5_greatest kml_X5_70 kim_X5_greatest ksel_X5_greatest kini_X5 (by decide +kernel) ⟨⟨rfl, rfl⟩, Nat.le_of_ble_eq_true rfl, Nat.le_of_ble_eq_true rfl⟩ ⟨Nat.zero_le _, Nat.zero_le _⟩ rfl rfl rfl rfl rfl (Nat.le_of_ble_eq_true rfl) dX5_bedThatMovesMost_1 rfl ?_
    refine lv_istore_n (lv' := [(2, .int q1), (0, .ref (o 0)), (1, .ref (p1 0))]) hx hb dX5_bedThatMovesMost_4 rfl hl (by decide) rfl (fun ls hl => ?_)
    refine lv_aload_n hx hb dX5_bedThatMovesMost_5 rfl (lv_at hl 1 rfl) ?_
    refine va_get (D := G.1) (ci := 5) (v := .ref (o 1)) (C := RX5) (T := TX5) (N := 3) hx hb ht twX5 hown hK.1 hP 0 rfl rfl 0 (by decide) (ht _ kfl_X5_9) (fun _ h9 => h9) rfl dX5_bedThatMovesMost_6 ?_
    refine lv_iload_n hx hb dX5_bedThatMovesMost_9 rfl (lv_at hl 0 rfl) ?_
    obtain ⟨g2, hf⟩ := gd_s hf
    refine va_lald hx hb hK.1 hP 1 1 rfl rfl g2 dX5_bedThatMovesMost_10 ?_
    refine lv_aload_n hx hb dX5_bedThatMovesMost_11 rfl (lv_at hl 1 rfl) ?_
    refine va_get (D := G.1) (ci := 5) (v := .long o_all) (C := RX5) (T := TX5) (N := 3) hx hb ht twX5 hown hK.1 hP 0 rfl rfl 2 (by decide) (ht _ kfl_X5_63) (fun _ h9 => h9) rfl dX5_bedThatMovesMost_12 ?_
    obtain ⟨q3, r3, hf⟩ := bd_s hf
    refine ro_S (n := 2) (As := [.long (o_shares q1.toNatClampNeg), .long o_all]) (rest := []) (c_X5_millionths l G (o_shares q1.toNatClampNeg) o_all q3 r3) C (hK.at hS hz) (hP.sub [] rfl) hl kcode_X5_millionths kml_X5_74 kst_X5_millionths kini_X5 (by decide +kernel) ⟨⟨rfl, rfl⟩, Nat.le_of_ble_eq_true rfl, Nat.le_of_ble_eq_true rfl⟩ ⟨Nat.zero_le _, Nat.zero_le _⟩ rfl rfl (Nat.le_of_ble_eq_true rfl) dX5_bedThatMovesMost_15 rfl ?_
    refine lv_istore_n (lv' := [(3, .int q3), (2, .int q1), (0, .ref (o 0)), (1, .ref (p1 0))]) hx hb dX5_bedThatMovesMost_18 rfl hl (by decide) rfl (fun ls hl => ?_)
    refine lv_bipush (v := -9) hx hb dX5_bedThatMovesMost_19 (by decide) ?_
    refine lv_istore (lv' := [(4, .int (-9 : Int32)), (3, .int q3), (2, .int q1), (0, .ref (o 0)), (1, .ref (p1 0))]) hx hb dX5_bedThatMovesMost_21 hl (by decide) rfl (fun ls hl => ?_)
    refine lv_iconst (v := -1) hx hb dX5_bedThatMovesMost_23 (by decide) ?_
    refine lv_istore (lv' := [(5, .int (-1 : Int32)), (4, .int (-9 : Int32)), (3, .int q3), (2, .int q1), (0, .ref (o 0)), (1, .ref (p1 0))]) hx hb dX5_bedThatMovesMost_24 hl (by decide) rfl (fun ls hl => ?_)
    refine lv_iconst (v := 0) hx hb dX5_bedThatMovesMost_26 (by decide) ?_
    refine lv_istore (lv' := [(6, .int (0 : Int32)), (5, .int (-1 : Int32)), (4, .int (-9 : Int32)), (3, .int q3), (2, .int q1), (0, .ref (o 0)), (1, .ref (p1 0))]) hx hb dX5_bedThatMovesMost_27 hl (by decide) rfl (fun ls hl => ?_)
    have hx86_4 : ∀ (v4 : Int32) (o_shares : Nat → Int64) (o_all : Int64) (H : Heap) (locs : List Loc) (ls : Array Slot), f_X5_bedThatMovesMost_x86_4 v4 o_shares o_all = some R → va_P G.1 vwCl [(oX5 o o_all), (wJ G (o 1) 4 o_shares), (wI G (o 2) 32 o_chances), (oX4 p1 p1_beds p1_isKept), (wI G (p1 2) 4 p1_weights)] H → va_D A [(oX5 o o_all), (wJ G (o 1) 4 o_shares), (wI G (o 2) 32 o_chances), (oX4 p1 p1_beds p1_isKept), (wI G (p1 2) 4 p1_weights)] → va_S A s.heap H locs → lv_has ls 8 [(4, .int v4)] → Wc_X5_bedThatMovesMost l G o p1 o_shares o_chances o_all p1_weights p1_beds p1_isKept R p e s m below meth c A H locs (F0 m 86 ls []) := by
      intro v4 o_shares o_all H locs ls hf hP hD hS hl
      refine lv_iload hx hb dX5_bedThatMovesMost_86 (lv_at hl 0 rfl) ?_
      have h9 := Option.some.inj hf
      subst h9
      exact rw_iret C rfl hP hD hS dX5_bedThatMovesMost_88
    obtain ⟨rL4, hL4, hk4⟩ := bd_s hf
    refine lp_W (P := fun st => ∀ (H : Heap) (locs : List Loc) (ls : Array Slot), va_P G.1 vwCl [(oX5 o st.2.2.2.2), (wJ G (o 1) 4 st.2.2.2.1), (wI G (o 2) 32 o_chances), (oX4 p1 p1_beds p1_isKept), (wI G (p1 2) 4 p1_weights)] H → va_D A [(oX5 o st.2.2.2.2), (wJ G (o 1) 4 st.2.2.2.1), (wI G (o 2) 32 o_chances), (oX4 p1 p1_beds p1_isKept), (wI G (p1 2) 4 p1_weights)] → va_S A s.heap H locs → lv_has ls 8 [(0, .ref (o 0)), (1, .ref (p1 0)), (2, .int q1), (3, .int q3), (4, .int st.1), (5, .int st.2.1), (6, .int st.2.2.1)] → Wc_X5_bedThatMovesMost l G o p1 o_shares o_chances o_all p1_weights p1_beds p1_isKept R p e s m below meth c A H locs (F0 m 29 ls [])) ?_ FU ((-9 : Int32), (-1 : Int32), (0 : Int32), o_shares, o_all) hL4 H locs ls hP hD hS (lv_sub hl [5, 6, 4, 3, 2, 1, 0] rfl)
    intro ⟨v4, v5, v6, o_shares, o_all⟩ oc4 hf hI hE H locs ls hP hD hS hl
    have hP : va_P G.1 vwCl [(oX5 o o_all), (wJ G (o 1) 4 o_shares), (wI G (o 2) 32 o_chances), (oX4 p1 p1_beds p1_isKept), (wI G (p1 2) 4 p1_weights)] H := hP
    have hD : va_D A [(oX5 o o_all), (wJ G (o 1) 4 o_shares), (wI G (o 2) 32 o_chances), (oX4 p1 p1_beds p1_isKept), (wI G (p1 2) 4 p1_weights)] := hD
    have hl : lv_has ls 8 [(0, .ref (o 0)), (1, .ref (p1 0)), (2, .int q1), (3, .int q3), (4, .int v4), (5, .int v5), (6, .int v6)] := hl
    have hf : f_X5_bedThatMovesMost_b29 o_chances p1_weights p1_beds q1 q3 v4 v5 v6 o_shares o_all = some oc4 := hf
    refine lv_iload hx hb dX5_bedThatMovesMost_29 (lv_at hl 6 rfl) ?_
    refine lv_aload_n hx hb dX5_bedThatMovesMost_31 rfl (lv_at hl 1 rfl) ?_
    refine va_get (D := G.1) (ci := 4) (v := .int p1_beds) (C := RX4) (T := TX4) (N := 4) hx hb ht twX4 hown hK.1 hP 3 rfl rfl 2 (by decide) (ht _ kfl_X5_46) (fun _ h9 => h9) rfl dX5_bedThatMovesMost_32 ?_
    refine lv_icmp_ge (tgt := 86) hx hb dX5_bedThatMovesMost_35 (by decide) (fun c6 => ?_) (fun c6 => ?_)
    · have hf := o_t c6 hf
      cases hf
      have hf : f_X5_bedThatMovesMost_x86_4 v4 o_shares o_all = some R := by have h9 := hk4; rw [← hE _ rfl] at h9; exact h9
      exact hx86_4 v4 o_shares o_all H locs ls hf hP hD hS (lv_sub hl [4] rfl)
    · have hf := o_f c6 hf
      refine lv_aload_n hx hb dX5_bedThatMovesMost_38 rfl (lv_at hl 0 rfl) ?_
      refine lv_aload_n hx hb dX5_bedThatMovesMost_39 rfl (lv_at hl 1 rfl) ?_
      refine lv_iload hx hb dX5_bedThatMovesMost_40 (lv_at hl 6 rfl) ?_
      obtain ⟨q7, r7, hf⟩ := bd_s hf
      refine rw_V (n := 2) (As := [.ref (p1 0), .int v6]) (rest := []) (wr := []) (ws2 := [(oX5 o q7.2), (wJ G (o 1) 4 q7.1), (wI G (o 2) 32 o_chances), (oX4 p1 p1_beds p1_isKept), (wI G (p1 2) 4 p1_weights)]) (c_X5_weighWithout l G o p1 o_shares o_chances o_all p1_weights p1_beds p1_isKept v6 q7 r7) C hK hP hD hS hA hz hl [0, 1, 2, 3, 4] [] [0, 1, 2, 3, 4] rfl rfl rfl rfl rfl (by decide) rfl rfl rfl kcode_X5_weighWithout kml_X5_59 kim_X5_weighWithout ksel_X5_weighWithout kini_X5 (by decide +kernel) ⟨⟨rfl, rfl⟩, Nat.le_of_ble_eq_true rfl, Nat.le_of_ble_eq_true rfl⟩ ⟨Nat.zero_le _, Nat.zero_le _⟩ rfl rfl rfl rfl rfl (Nat.le_of_ble_eq_true rfl) dX5_bedThatMovesMost_42 rfl (fun H locs hP hD hS => ?_)
      refine lv_aload_n hx hb dX5_bedThatMovesMost_45 rfl (lv_at hl 0 rfl) ?_
      refine va_get (D := G.1) (ci := 5) (v := .ref (o 1)) (C := RX5) (T := TX5) (N := 3) hx hb ht twX5 hown hK.1 hP 0 rfl rfl 0 (by decide) (ht _ kfl_X5_9) (fun _ h9 => h9) rfl dX5_bedThatMovesMost_46 ?_
      refine lv_iload_n hx hb dX5_bedThatMovesMost_49 rfl (lv_at hl 2 rfl) ?_
      obtain ⟨g8, hf⟩ := gd_s hf
      refine va_lald hx hb hK.1 hP 1 1 rfl rfl g8 dX5_bedThatMovesMost_50 ?_
      refine lv_aload_n hx hb dX5_bedThatMovesMost_51 rfl (lv_at hl 0 rfl) ?_
      refine va_get (D := G.1) (ci := 5) (v := .long q7.2) (C := RX5) (T := TX5) (N := 3) hx hb ht twX5 hown hK.1 hP 0 rfl rfl 2 (by decide) (ht _ kfl_X5_63) (fun _ h9 => h9) rfl dX5_bedThatMovesMost_52 ?_
      obtain ⟨q9, r9, hf⟩ := bd_s hf
      refine ro_S (n := 2) (As := [.long (q7.1 q1.toNatClampNeg), .long q7.2]) (rest := []) (c_X5_millionths l G (q7.1 q1.toNatClampNeg) q7.2 q9 r9) C (hK.at hS hz) (hP.sub [] rfl) hl kcode_X5_millionths kml_X5_74 kst_X5_millionths kini_X5 (by decide +kernel) ⟨⟨rfl, rfl⟩, Nat.le_of_ble_eq_true rfl, Nat.le_of_ble_eq_true rfl⟩ ⟨Nat.zero_le _, Nat.zero_le _⟩ rfl rfl (Nat.le_of_ble_eq_true rfl) dX5_bedThatMovesMost_55 rfl ?_
      refine lv_iload_n hx hb dX5_bedThatMovesMost_58 rfl (lv_at hl 3 rfl) ?_
      refine lv_isub hx hb dX5_bedThatMovesMost_59 ?_
      refine va_mabs hx hb (C.2.2.1.trans hl.1.symm) hown (ht _ kml_X5_50) (ht _ kst_J9_abs_0f7a4) (ht _ kini_J9) (ht _ kcode_J9_abs_0f7a4) (Nat.le_of_ble_eq_true rfl) (Nat.le_of_ble_eq_true rfl) (Nat.zero_le _) (Nat.zero_le _) dX5_bedThatMovesMost_60 ?_
      obtain ⟨u10, e10, hf⟩ := bd_s hf
      refine lv_re (Option.some.inj e10).symm ?_
      refine lv_istore (lv' := [(7, .int u10), (0, .ref (o 0)), (1, .ref (p1 0)), (2, .int q1), (3, .int q3), (4, .int v4), (5, .int v5), (6, .int v6)]) hx hb dX5_bedThatMovesMost_63 hl (by decide) rfl (fun ls hl => ?_)
      refine lv_iload hx hb dX5_bedThatMovesMost_65 (lv_at hl 0 rfl) ?_
      refine lv_iload hx hb dX5_bedThatMovesMost_67 (lv_at hl 6 rfl) ?_
      refine lv_icmp_le (tgt := 80) hx hb dX5_bedThatMovesMost_69 (by decide) (fun c11 => ?_) (fun c11 => ?_)
      · have hf := o_t c11 hf
        refine lv_iinc (v := (v6 + (1 : Int32))) (lv' := [(6, .int (v6 + (1 : Int32))), (7, .int u10), (0, .ref (o 0)), (1, .ref (p1 0)), (2, .int q1), (3, .int q3), (4, .int v4), (5, .int v5)]) hx hb dX5_bedThatMovesMost_80 hl (k := 7) rfl (by rfl) (by decide) rfl (fun ls hl => ?_)
        refine lv_goto (tgt := 29) hx hb dX5_bedThatMovesMost_83 (by decide) ?_
        cases hf
        exact hI _ rfl H locs ls hP hD hS (lv_sub hl [2, 3, 4, 5, 6, 7, 0] rfl)
      · have hf := o_f c11 hf
        refine lv_iload hx hb dX5_bedThatMovesMost_72 (lv_at hl 0 rfl) ?_
        refine lv_istore (lv' := [(5, .int u10), (7, .int u10), (0, .ref (o 0)), (1, .ref (p1 0)), (2, .int q1), (3, .int q3), (4, .int v4), (6, .int v6)]) hx hb dX5_bedThatMovesMost_74 hl (by decide) rfl (fun ls hl => ?_)
        refine lv_iload hx hb dX5_bedThatMovesMost_76 (lv_at hl 7 rfl) ?_
        refine lv_istore (lv' := [(4, .int v6), (5, .int u10), (7, .int u10), (0, .ref (o 0)), (1, .ref (p1 0)), (2, .int q1), (3, .int q3), (6, .int v6)]) hx hb dX5_bedThatMovesMost_78 hl (by decide) rfl (fun ls hl => ?_)
        refine lv_iinc (v := (v6 + (1 : Int32))) (lv' := [(6, .int (v6 + (1 : Int32))), (4, .int v6), (5, .int u10), (7, .int u10), (0, .ref (o 0)), (1, .ref (p1 0)), (2, .int q1), (3, .int q3)]) hx hb dX5_bedThatMovesMost_80 hl (k := 7) rfl (by rfl) (by decide) rfl (fun ls hl => ?_)
        refine lv_goto (tgt := 29) hx hb dX5_bedThatMovesMost_83 (by decide) ?_
        cases hf
        exact hI _ rfl H locs ls hP hD hS (lv_sub hl [4, 5, 6, 7, 1, 2, 0] rfl)
  rw [eH, el] at key
  exact key
abbrev Wc_X5_shareWithIce (l : Launch) (G : TG) (o : Nat → Nat) (p1 : Nat → Nat) (o_shares : Nat → Int64) (o_all : Int64) (p1_ice : Nat → Int32) (a2 : Int32) (a3 : Int32) (R : Int64) (p : Program) (e : Env) (s : State) (m : MethodId) (below : List Frame) (meth : Method) (c : Code) (H : Heap) (locs : List Loc) (g : JFrame) : Prop := W p l e ({ frames := 3, cells := 0, slots := 0, locals := 64 }) s m ([.ref (o 0), .ref (p1 0), .int a2, .int a3] : List Value).toArray below meth c H locs 0 0 (MQ below (roQ (some (.long R))) ([.ref (o 0), .ref (p1 0), .int a2, .int a3] : List Value).toArray s 0 0 (fun _ => False)) g
set_option maxHeartbeats 4000000 in
set_option maxRecDepth 100000 in
theorem c_X5_shareWithIce (l : Launch) (G : TG) (o : Nat → Nat) (p1 : Nat → Nat) (o_shares : Nat → Int64) (o_all : Int64) (p1_ice : Nat → Int32) (a2 : Int32) (a3 : Int32) (R : Int64) (hf : f_X5_shareWithIce o_shares p1_ice a2 a3 = some R) : RO l yX5_shareWithIce cX5_shareWithIce 7 (some .long) ({ frames := 3, cells := 0, slots := 0, locals := 64 }) G [.ref (o 0), .ref (p1 0), .int a2, .int a3] [(oX5 o o_all), (wJ G (o 1) 4 o_shares), (oX0 p1), (wI G (p1 1) 400 p1_ice)] (some (.long R)) := by
  refine RO.mk (by decide +kernel) (Nat.le_of_ble_eq_true rfl) ?_
  intro p e s m below meth c ls C hP hK hl
  have hx := C.1
  have hb := C.2.1
  have hown : s.vm.findClass RX5 = some m.cls := C.2.2.2.2.2.1
  have ht := C.2.2.2.2.2.2
  have hl : lv_has ls 7 [(0, .ref (o 0)), (1, .ref (p1 0)), (2, .int a2), (3, .int a3)] := hl
  show Wc_X5_shareWithIce l G o p1 o_shares o_all p1_ice a2 a3 R p e s m below meth c s.heap [] (F0 m 0 ls [])
  refine lv_lconst (v := 0) hx hb dX5_shareWithIce_0 (by decide) ?_
  refine lv_lstore (lv' := [(4, .long (0 : Int64)), (0, .ref (o 0)), (1, .ref (p1 0)), (2, .int a2), (3, .int a3)]) hx hb dX5_shareWithIce_1 hl (by decide) rfl (fun ls hl => ?_)
  refine lv_iconst (v := 0) hx hb dX5_shareWithIce_3 (by decide) ?_
  refine lv_istore (lv' := [(6, .int (0 : Int32)), (4, .long (0 : Int64)), (0, .ref (o 0)), (1, .ref (p1 0)), (2, .int a2), (3, .int a3)]) hx hb dX5_shareWithIce_4 hl (by decide) rfl (fun ls hl => ?_)
  have hx44_1 : ∀ (v4 : Int64) (ls : Array Slot), f_X5_shareWithIce_x44_1 v4 = some R → lv_has ls 7 [(4, .long v4)] → Wc_X5_shareWithIce l G o p1 o_shares o_all p1_ice a2 a3 R p e s m below meth c s.heap [] (F0 m 44 ls []) := by
    intro v4 ls hf hl
    refine lv_lload hx hb dX5_shareWithIce_44 (lv_at hl 0 rfl) ?_
    have h9 := Option.some.inj hf
    subst h9
    exact ro_lret C rfl dX5_shareWithIce_46
  obtain ⟨rL1, hL1, hk1⟩ := bd_s hf
  refine lp_W (P := fun st => ∀ (ls : Array Slot), lv_has ls 7 [(0, .ref (o 0)), (1, .ref (p1 0)), (2, .int a2), (3, .int a3), (4, .long st.1), (6, .int st.2)] → Wc_X5_shareWithIce l G o p1 o_shares o_all p1_ice a2 a3 R p e s m below meth c s.heap [] (F0 m 6 ls [])) ?_ FU ((0 : Int64), (0 : Int32)) hL1 ls (lv_sub hl [2, 3, 4, 5, 1, 0] rfl)
  intro ⟨v4, v6⟩ oc1 hf hI hE ls hl
  have hl : lv_has ls 7 [(0, .ref (o 0)), (1, .ref (p1 0)), (2, .int a2), (3, .int a3), (4, .long v4), (6, .int v6)] := hl
  have hf : f_X5_shareWithIce_b6 o_shares p1_ice a2 a3 v4 v6 = some oc1 := hf
  refine lv_iload hx hb dX5_shareWithIce_6 (lv_at hl 5 rfl) ?_
  refine lv_iconst (v := 4) hx hb dX5_shareWithIce_8 (by decide) ?_
  refine lv_icmp_ge (tgt := 44) hx hb dX5_shareWithIce_9 (by decide) (fun c3 => ?_) (fun c3 => ?_)
  · have hf := o_t c3 hf
    cases hf
    have hf : f_X5_shareWithIce_x44_1 v4 = some R := by have h9 := hk1; rw [← hE _ rfl] at h9; exact h9
    exact hx44_1 v4 ls hf (lv_sub hl [4] rfl)
  · have hf := o_f c3 hf
    refine lv_aload_n hx hb dX5_shareWithIce_12 rfl (lv_at hl 1 rfl) ?_
    refine lv_iload hx hb dX5_shareWithIce_13 (lv_at hl 5 rfl) ?_
    refine lv_iload_n hx hb dX5_shareWithIce_15 rfl (lv_at hl 3 rfl) ?_
    obtain ⟨q4, r4, hf⟩ := bd_s hf
    refine ro_V (n := 2) (As := [.int v6, .int a3]) (rest := []) (c_X0_iceOf l G p1 p1_ice v6 a3 q4 r4) C hK (hP.sub [2, 3] rfl) hl kcode_X0_iceOf kml_X5_89 kim_X0_iceOf ksel_X0_iceOf kini_X0 (by decide +kernel) ⟨⟨rfl, rfl⟩, Nat.le_of_ble_eq_true rfl, Nat.le_of_ble_eq_true rfl⟩ ⟨Nat.zero_le _, Nat.zero_le _⟩ rfl rfl rfl rfl rfl (Nat.le_of_ble_eq_true rfl) dX5_shareWithIce_16 rfl ?_
    refine lv_iload_n hx hb dX5_shareWithIce_19 rfl (lv_at hl 2 rfl) ?_
    obtain ⟨q5, r5, hf⟩ := bd_s hf
    refine ro_SN (n := 2) (As := [.int q4, .int a2]) (rest := []) (c_X10_hasIce l G q4 a2 q5 r5) C hK (hP.sub [] rfl) hl kcode_X10_hasIce kmln_X5_35 kst_X10_hasIce kini_X10 (by decide +kernel) ⟨⟨rfl, rfl⟩, Nat.le_of_ble_eq_true rfl, Nat.le_of_ble_eq_true rfl⟩ ⟨Nat.zero_le _, Nat.zero_le _⟩ rfl rfl (Nat.le_of_ble_eq_true rfl) dX5_shareWithIce_20 rfl ?_
    refine lv_if_eq (tgt := 38) hx hb dX5_shareWithIce_23 (by decide) (fun c6 => ?_) (fun c6 => ?_)
    · have hf := o_t c6 hf
      refine lv_iinc (v := (v6 + (1 : Int32))) (lv' := [(6, .int (v6 + (1 : Int32))), (0, .ref (o 0)), (1, .ref (p1 0)), (2, .int a2), (3, .int a3), (4, .long v4)]) hx hb dX5_shareWithIce_38 hl (k := 5) rfl (by rfl) (by decide) rfl (fun ls hl => ?_)
      refine lv_goto (tgt := 6) hx hb dX5_shareWithIce_41 (by decide) ?_
      cases hf
      exact hI _ rfl ls (lv_sub hl [1, 2, 3, 4, 5, 0] rfl)
    · have hf := o_f c6 hf
      refine lv_lload hx hb dX5_shareWithIce_26 (lv_at hl 4 rfl) ?_
      refine lv_aload_n hx hb dX5_shareWithIce_28 rfl (lv_at hl 0 rfl) ?_
      refine va_get (D := G.1) (ci := 5) (v := .ref (o 1)) (C := RX5) (T := TX5) (N := 3) hx hb ht twX5 hown hK.1 hP 0 rfl rfl 0 (by decide) (ht _ kfl_X5_9) (fun _ h9 => h9) rfl dX5_shareWithIce_29 ?_
      refine lv_iload hx hb dX5_shareWithIce_32 (lv_at hl 5 rfl) ?_
      obtain ⟨g7, hf⟩ := gd_s hf
      refine va_lald hx hb hK.1 hP 1 1 rfl rfl g7 dX5_shareWithIce_34 ?_
      refine lv_ladd hx hb dX5_shareWithIce_35 ?_
      refine lv_lstore (lv' := [(4, .long (v4 + (o_shares v6.toNatClampNeg))), (0, .ref (o 0)), (1, .ref (p1 0)), (2, .int a2), (3, .int a3), (6, .int v6)]) hx hb dX5_shareWithIce_36 hl (by decide) rfl (fun ls hl => ?_)
      refine lv_iinc (v := (v6 + (1 : Int32))) (lv' := [(6, .int (v6 + (1 : Int32))), (4, .long (v4 + (o_shares v6.toNatClampNeg))), (0, .ref (o 0)), (1, .ref (p1 0)), (2, .int a2), (3, .int a3)]) hx hb dX5_shareWithIce_38 hl (k := 5) rfl (by rfl) (by decide) rfl (fun ls hl => ?_)
      refine lv_goto (tgt := 6) hx hb dX5_shareWithIce_41 (by decide) ?_
      cases hf
      exact hI _ rfl ls (lv_sub hl [2, 3, 4, 5, 1, 0] rfl)
abbrev Wc_X5_whereToGo (l : Launch) (G : TG) (o : Nat → Nat) (p1 : Nat → Nat) (o_shares : Nat → Int64) (o_all : Int64) (p1_ice : Nat → Int32) (R : Int32) (p : Program) (e : Env) (s : State) (m : MethodId) (below : List Frame) (meth : Method) (c : Code) (H : Heap) (locs : List Loc) (g : JFrame) : Prop := W p l e ({ frames := 4, cells := 0, slots := 0, locals := 90 }) s m ([.ref (o 0), .ref (p1 0)] : List Value).toArray below meth c H locs 0 0 (MQ below (roQ (some (.int R))) ([.ref (o 0), .ref (p1 0)] : List Value).toArray s 0 0 (fun _ => False)) g
set_option maxHeartbeats 4000000 in
set_option maxRecDepth 100000 in
theorem c_X5_whereToGo (l : Launch) (G : TG) (o : Nat → Nat) (p1 : Nat → Nat) (o_shares : Nat → Int64) (o_all : Int64) (p1_ice : Nat → Int32) (R : Int32) (hf : f_X5_whereToGo o_shares o_all p1_ice = some R) : RO l yX5_whereToGo cX5_whereToGo 9 (some .int) ({ frames := 4, cells := 0, slots := 0, locals := 90 }) G [.ref (o 0), .ref (p1 0)] [(oX5 o o_all), (wJ G (o 1) 4 o_shares), (oX0 p1), (wI G (p1 1) 400 p1_ice)] (some (.int R)) := by
  refine RO.mk (by decide +kernel) (Nat.le_of_ble_eq_true rfl) ?_
  intro p e s m below meth c ls C hP hK hl
  have hx := C.1
  have hb := C.2.1
  have hown : s.vm.findClass RX5 = some m.cls := C.2.2.2.2.2.1
  have ht := C.2.2.2.2.2.2
  have hl : lv_has ls 9 [(0, .ref (o 0)), (1, .ref (p1 0))] := hl
  show Wc_X5_whereToGo l G o p1 o_shares o_all p1_ice R p e s m below meth c s.heap [] (F0 m 0 ls [])
  refine lv_iconst (v := 0) hx hb dX5_whereToGo_0 (by decide) ?_
  refine lv_istore_n (lv' := [(2, .int (0 : Int32)), (0, .ref (o 0)), (1, .ref (p1 0))]) hx hb dX5_whereToGo_1 rfl hl (by decide) rfl (fun ls hl => ?_)
  refine lv_aload_n hx hb dX5_whereToGo_2 rfl (lv_at hl 1 rfl) ?_
  refine va_get (D := G.1) (ci := 5) (v := .long o_all) (C := RX5) (T := TX5) (N := 3) hx hb ht twX5 hown hK.1 hP 0 rfl rfl 2 (by decide) (ht _ kfl_X5_63) (fun _ h9 => h9) rfl dX5_whereToGo_3 ?_
  refine lv_lconst (v := 1) hx hb dX5_whereToGo_6 (by decide) ?_
  refine lv_ladd hx hb dX5_whereToGo_7 ?_
  refine lv_lstore_n (lv' := [(3, .long (o_all + (1 : Int64))), (2, .int (0 : Int32)), (0, .ref (o 0)), (1, .ref (p1 0))]) hx hb dX5_whereToGo_8 rfl hl (by decide) rfl (fun ls hl => ?_)
  refine lv_iconst (v := 0) hx hb dX5_whereToGo_9 (by decide) ?_
  refine lv_istore (lv' := [(5, .int (0 : Int32)), (3, .long (o_all + (1 : Int64))), (2, .int (0 : Int32)), (0, .ref (o 0)), (1, .ref (p1 0))]) hx hb dX5_whereToGo_10 hl (by decide) rfl (fun ls hl => ?_)
  have hx86_1 : ∀ (v2 : Int32) (ls : Array Slot), f_X5_whereToGo_x86_1 v2 = some R → lv_has ls 9 [(2, .int v2)] → Wc_X5_whereToGo l G o p1 o_shares o_all p1_ice R p e s m below meth c s.heap [] (F0 m 86 ls []) := by
    intro v2 ls hf hl
    refine lv_iload_n hx hb dX5_whereToGo_86 rfl (lv_at hl 0 rfl) ?_
    have h9 := Option.some.inj hf
    subst h9
    exact ro_iret C rfl dX5_whereToGo_87
  obtain ⟨rL1, hL1, hk1⟩ := bd_s hf
  refine lp_W (P := fun st => ∀ (ls : Array Slot), lv_has ls 9 [(0, .ref (o 0)), (1, .ref (p1 0)), (2, .int st.1), (3, .long st.2.1), (5, .int st.2.2)] → Wc_X5_whereToGo l G o p1 o_shares o_all p1_ice R p e s m below meth c s.heap [] (F0 m 12 ls [])) ?_ FU ((0 : Int32), (o_all + (1 : Int64)), (0 : Int32)) hL1 ls (lv_sub hl [3, 4, 2, 1, 0] rfl)
  intro ⟨v2, v3, v5⟩ oc1 hf hI hE ls hl
  have hl : lv_has ls 9 [(0, .ref (o 0)), (1, .ref (p1 0)), (2, .int v2), (3, .long v3), (5, .int v5)] := hl
  have hf : f_X5_whereToGo_b12 o_shares o_all p1_ice v2 v3 v5 = some oc1 := hf
  refine lv_iload hx hb dX5_whereToGo_12 (lv_at hl 4 rfl) ?_
  refine lv_bipush (v := 6) hx hb dX5_whereToGo_14 (by decide) ?_
  refine lv_icmp_ge (tgt := 86) hx hb dX5_whereToGo_16 (by decide) (fun c3 => ?_) (fun c3 => ?_)
  · have hf := o_t c3 hf
    cases hf
    have hf : f_X5_whereToGo_x86_1 v2 = some R := by have h9 := hk1; rw [← hE _ rfl] at h9; exact h9
    exact hx86_1 v2 ls hf (lv_sub hl [2] rfl)
  · have hf := o_f c3 hf
    refine lv_iconst (v := 0) hx hb dX5_whereToGo_19 (by decide) ?_
    refine lv_istore (lv' := [(6, .int (0 : Int32)), (0, .ref (o 0)), (1, .ref (p1 0)), (2, .int v2), (3, .long v3), (5, .int v5)]) hx hb dX5_whereToGo_20 hl (by decide) rfl (fun ls hl => ?_)
    have hx80_4 : ∀ (v2 : Int32) (v3 : Int64) (ls : Array Slot), f_X5_whereToGo_x80_4 v5 v2 v3 = some oc1 → lv_has ls 9 [(0, .ref (o 0)), (1, .ref (p1 0)), (2, .int v2), (3, .long v3), (5, .int v5)] → Wc_X5_whereToGo l G o p1 o_shares o_all p1_ice R p e s m below meth c s.heap [] (F0 m 80 ls []) := by
      intro v2 v3 ls hf hl
      refine lv_iinc (v := (v5 + (1 : Int32))) (lv' := [(5, .int (v5 + (1 : Int32))), (0, .ref (o 0)), (1, .ref (p1 0)), (2, .int v2), (3, .long v3)]) hx hb dX5_whereToGo_80 hl (k := 4) rfl (by rfl) (by decide) rfl (fun ls hl => ?_)
      refine lv_goto (tgt := 12) hx hb dX5_whereToGo_83 (by decide) ?_
      cases hf
      exact hI _ rfl ls (lv_sub hl [1, 2, 3, 4, 0] rfl)
    obtain ⟨rL4, hL4, hk4⟩ := bd_s hf
    refine lp_W (P := fun st => ∀ (ls : Array Slot), lv_has ls 9 [(0, .ref (o 0)), (1, .ref (p1 0)), (2, .int st.1), (3, .long st.2.1), (5, .int v5), (6, .int st.2.2)] → Wc_X5_whereToGo l G o p1 o_shares o_all p1_ice R p e s m below meth c s.heap [] (F0 m 22 ls [])) ?_ FU (v2, v3, (0 : Int32)) hL4 ls (lv_sub hl [1, 2, 3, 4, 5, 0] rfl)
    intro ⟨v2, v3, v6⟩ oc4 hf hI hE ls hl
    have hl : lv_has ls 9 [(0, .ref (o 0)), (1, .ref (p1 0)), (2, .int v2), (3, .long v3), (5, .int v5), (6, .int v6)] := hl
    have hf : f_X5_whereToGo_b22 o_shares o_all p1_ice v5 v2 v3 v6 = some oc4 := hf
    refine lv_iload hx hb dX5_whereToGo_22 (lv_at hl 5 rfl) ?_
    refine lv_bipush (v := 10) hx hb dX5_whereToGo_24 (by decide) ?_
    refine lv_icmp_ge (tgt := 80) hx hb dX5_whereToGo_26 (by decide) (fun c5 => ?_) (fun c5 => ?_)
    · have hf := o_t c5 hf
      cases hf
      have hf : f_X5_whereToGo_x80_4 v5 v2 v3 = some oc1 := by have h9 := hk4; rw [← hE _ rfl] at h9; exact h9
      exact hx80_4 v2 v3 ls hf (lv_sub hl [0, 1, 2, 3, 4] rfl)
    · have hf := o_f c5 hf
      refine lv_ldc2 hx hb hown (ht _ kcL_X5_80) dX5_whereToGo_29 ?_
      refine lv_aload_n hx hb dX5_whereToGo_32 rfl (lv_at hl 0 rfl) ?_
      refine lv_aload_n hx hb dX5_whereToGo_33 rfl (lv_at hl 1 rfl) ?_
      refine lv_iload hx hb dX5_whereToGo_34 (lv_at hl 4 rfl) ?_
      refine lv_bipush (v := 10) hx hb dX5_whereToGo_36 (by decide) ?_
      refine lv_iload hx hb dX5_whereToGo_38 (lv_at hl 5 rfl) ?_
      refine lv_imul hx hb dX5_whereToGo_40 ?_
      obtain ⟨q6, r6, hf⟩ := bd_s hf
      refine ro_V (n := 3) (As := [.ref (p1 0), .int v5, .int ((10 : Int32) * v6)]) (rest := [.long (2 : Int64)]) (c_X5_shareWithIce l G o p1 o_shares o_all p1_ice v5 ((10 : Int32) * v6) q6 r6) C hK (hP.sub [0, 1, 2, 3] rfl) hl kcode_X5_shareWithIce kml_X5_82 kim_X5_shareWithIce ksel_X5_shareWithIce kini_X5 (by decide +kernel) ⟨⟨rfl, rfl⟩, Nat.le_of_ble_eq_true rfl, Nat.le_of_ble_eq_true rfl⟩ ⟨Nat.zero_le _, Nat.zero_le _⟩ rfl rfl rfl rfl rfl (Nat.le_of_ble_eq_true rfl) dX5_whereToGo_41 rfl ?_
      refine lv_lmul hx hb dX5_whereToGo_44 ?_
      refine lv_aload_n hx hb dX5_whereToGo_45 rfl (lv_at hl 0 rfl) ?_
      refine va_get (D := G.1) (ci := 5) (v := .long o_all) (C := RX5) (T := TX5) (N := 3) hx hb ht twX5 hown hK.1 hP 0 rfl rfl 2 (by decide) (ht _ kfl_X5_63) (fun _ h9 => h9) rfl dX5_whereToGo_46 ?_
      refine lv_lsub hx hb dX5_whereToGo_49 ?_
      refine va_mabs_long hx hb (C.2.2.1.trans hl.1.symm) hown (ht _ kml_X5_86) (ht _ kst_J9_abs_067f4) (ht _ kini_J9) (ht _ kcode_J9_abs_067f4) (Nat.le_of_ble_eq_true rfl) (Nat.le_of_ble_eq_true rfl) (Nat.zero_le _) (Nat.zero_le _) dX5_whereToGo_50 ?_
      obtain ⟨u7, e7, hf⟩ := bd_s hf
      refine lv_reL (Option.some.inj e7).symm ?_
      refine lv_lstore (lv' := [(7, .long u7), (0, .ref (o 0)), (1, .ref (p1 0)), (2, .int v2), (3, .long v3), (5, .int v5), (6, .int v6)]) hx hb dX5_whereToGo_53 hl (by decide) rfl (fun ls hl => ?_)
      refine lv_lload hx hb dX5_whereToGo_55 (lv_at hl 0 rfl) ?_
      refine lv_lload_n hx hb dX5_whereToGo_57 rfl (lv_at hl 4 rfl) ?_
      refine W.lcmp hx hb dX5_whereToGo_58 ?_
      refine lv_if_ge (tgt := 74) hx hb dX5_whereToGo_59 (by decide) (fun c8 => ?_) (fun c8 => ?_)
      · have hf := o_t c8 hf
        refine lv_iinc (v := (v6 + (1 : Int32))) (lv' := [(6, .int (v6 + (1 : Int32))), (7, .long u7), (0, .ref (o 0)), (1, .ref (p1 0)), (2, .int v2), (3, .long v3), (5, .int v5)]) hx hb dX5_whereToGo_74 hl (k := 6) rfl (by rfl) (by decide) rfl (fun ls hl => ?_)
        refine lv_goto (tgt := 22) hx hb dX5_whereToGo_77 (by decide) ?_
        cases hf
        exact hI _ rfl ls (lv_sub hl [2, 3, 4, 5, 6, 0] rfl)
      · have hf := o_f c8 hf
        refine lv_lload hx hb dX5_whereToGo_62 (lv_at hl 0 rfl) ?_
        refine lv_lstore_n (lv' := [(3, .long u7), (7, .long u7), (0, .ref (o 0)), (1, .ref (p1 0)), (2, .int v2), (5, .int v5), (6, .int v6)]) hx hb dX5_whereToGo_64 rfl hl (by decide) rfl (fun ls hl => ?_)
        refine lv_bipush (v := 10) hx hb dX5_whereToGo_65 (by decide) ?_
        refine lv_iload hx hb dX5_whereToGo_67 (lv_at hl 5 rfl) ?_
        refine lv_imul hx hb dX5_whereToGo_69 ?_
        refine lv_iload hx hb dX5_whereToGo_70 (lv_at hl 6 rfl) ?_
        refine lv_iadd hx hb dX5_whereToGo_72 ?_
        refine lv_istore_n (lv' := [(2, .int (((10 : Int32) * v5) + v6)), (3, .long u7), (7, .long u7), (0, .ref (o 0)), (1, .ref (p1 0)), (5, .int v5), (6, .int v6)]) hx hb dX5_whereToGo_73 rfl hl (by decide) rfl (fun ls hl => ?_)
        refine lv_iinc (v := (v6 + (1 : Int32))) (lv' := [(6, .int (v6 + (1 : Int32))), (2, .int (((10 : Int32) * v5) + v6)), (3, .long u7), (7, .long u7), (0, .ref (o 0)), (1, .ref (p1 0)), (5, .int v5)]) hx hb dX5_whereToGo_74 hl (k := 6) rfl (by rfl) (by decide) rfl (fun ls hl => ?_)
        refine lv_goto (tgt := 22) hx hb dX5_whereToGo_77 (by decide) ?_
        cases hf
        exact hI _ rfl ls (lv_sub hl [4, 5, 1, 2, 6, 0] rfl)
abbrev Wc_X6_begin (l : Launch) (G : TG) (o : Nat → Nat) (o_numbers : Nat → Int32) (o_parts : Int32) (o_figuresDue : Int32) (o_place : Int32) (o_bandDue : Int32) (R : (Nat → Int32) × Int32 × Int32 × Int32 × Int32) (p : Program) (e : Env) (s : State) (m : MethodId) (below : List Frame) (meth : Method) (c : Code) (A : Nat → Prop) (H : Heap) (locs : List Loc) (g : JFrame) : Prop := W p l e ({ frames := 0, cells := 0, slots := 0, locals := 0 }) s m ([.ref (o 0)] : List Value).toArray below meth c H locs 0 0 (MQ below (rwQ G none [(oX6 o R.2.1 R.2.2.1 R.2.2.2.1 R.2.2.2.2), (wI G (o 1) 12 R.1)] A) ([.ref (o 0)] : List Value).toArray s 0 0 A) g
set_option maxHeartbeats 4000000 in
set_option maxRecDepth 100000 in
theorem c_X6_begin (l : Launch) (G : TG) (o : Nat → Nat) (o_numbers : Nat → Int32) (o_parts : Int32) (o_figuresDue : Int32) (o_place : Int32) (o_bandDue : Int32) (R : (Nat → Int32) × Int32 × Int32 × Int32 × Int32) (hf : f_X6_begin o_numbers = some R) : RW l yX6_begin cX6_begin 2 none ({ frames := 0, cells := 0, slots := 0, locals := 0 }) G [.ref (o 0)] [(oX6 o o_parts o_figuresDue o_place o_bandDue), (wI G (o 1) 12 o_numbers)] none [(oX6 o R.2.1 R.2.2.1 R.2.2.2.1 R.2.2.2.2), (wI G (o 1) 12 R.1)] := by
  refine RW.mk (by decide +kernel) (Nat.le_of_ble_eq_true rfl) ?_
  intro p e s m below meth c ls A C hP hD hA hz hK hl hS
  have hx := C.1
  have hb := C.2.1
  have hown : s.vm.findClass RX6 = some m.cls := C.2.2.2.2.2.1
  have ht := C.2.2.2.2.2.2
  have hl : lv_has ls 2 [(0, .ref (o 0))] := hl
  show Wc_X6_begin l G o o_numbers o_parts o_figuresDue o_place o_bandDue R p e s m below meth c A s.heap [] (F0 m 0 ls [])
  obtain ⟨H, eH, hP, hS⟩ : ∃ H, H = s.heap ∧ va_P G.1 vwCl [(oX6 o o_parts o_figuresDue o_place o_bandDue), (wI G (o 1) 12 o_numbers)] H ∧ va_S A s.heap H [] := ⟨_, rfl, hP, hS⟩
  obtain ⟨locs, el, hS⟩ : ∃ locs : List Loc, locs = [] ∧ va_S A s.heap H locs := ⟨_, rfl, hS⟩
  have key : Wc_X6_begin l G o o_numbers o_parts o_figuresDue o_place o_bandDue R p e s m below meth c A H locs (F0 m 0 ls []) := by
    refine lv_iconst (v := 0) hx hb dX6_begin_0 (by decide) ?_
    refine lv_istore_n (lv' := [(1, .int (0 : Int32)), (0, .ref (o 0))]) hx hb dX6_begin_1 rfl hl (by decide) rfl (fun ls hl => ?_)
    have hx21_1 : ∀ (o_numbers : Nat → Int32) (H : Heap) (locs : List Loc) (ls : Array Slot), f_X6_begin_x21_1 o_numbers = some R → va_P G.1 vwCl [(oX6 o o_parts o_figuresDue o_place o_bandDue), (wI G (o 1) 12 o_numbers)] H → va_D A [(oX6 o o_parts o_figuresDue o_place o_bandDue), (wI G (o 1) 12 o_numbers)] → va_S A s.heap H locs → lv_has ls 2 [(0, .ref (o 0))] → Wc_X6_begin l G o o_numbers o_parts o_figuresDue o_place o_bandDue R p e s m below meth c A H locs (F0 m 21 ls []) := by
      intro o_numbers H locs ls hf hP hD hS hl
      refine lv_aload_n hx hb dX6_begin_21 rfl (lv_at hl 0 rfl) ?_
      refine lv_iconst (v := 0) hx hb dX6_begin_22 (by decide) ?_
      refine va_put (D := G.1) (ci := 6) (v := .int (0 : Int32)) (ty := .int) (C := RX6) (T := TX6) (N := 5) hx hb ht twX6 tyX6 tyX6_ok nmX6 hown hK.1 hP hD hS 0 rfl rfl 1 (by decide) (ht _ kfl_X6_49) (fun _ h9 => h9) rfl (by decide +kernel) rfl rfl (Nat.le_of_ble_eq_true rfl) dX6_begin_23 (fun H locs hP hD hS => ?_)
      have hP : va_P G.1 vwCl [(oX6 o (0 : Int32) o_figuresDue o_place o_bandDue), (wI G (o 1) 12 o_numbers)] H := hP
      have hD : va_D A [(oX6 o (0 : Int32) o_figuresDue o_place o_bandDue), (wI G (o 1) 12 o_numbers)] := hD
      refine lv_aload_n hx hb dX6_begin_26 rfl (lv_at hl 0 rfl) ?_
      refine lv_iconst (v := 0) hx hb dX6_begin_27 (by decide) ?_
      refine va_put (D := G.1) (ci := 6) (v := .int (0 : Int32)) (ty := .int) (C := RX6) (T := TX6) (N := 5) hx hb ht twX6 tyX6 tyX6_ok nmX6 hown hK.1 hP hD hS 0 rfl rfl 2 (by decide) (ht _ kfl_X6_33) (fun _ h9 => h9) rfl (by decide +kernel) rfl rfl (Nat.le_of_ble_eq_true rfl) dX6_begin_28 (fun H locs hP hD hS => ?_)
      have hP : va_P G.1 vwCl [(oX6 o (0 : Int32) (0 : Int32) o_place o_bandDue), (wI G (o 1) 12 o_numbers)] H := hP
      have hD : va_D A [(oX6 o (0 : Int32) (0 : Int32) o_place o_bandDue), (wI G (o 1) 12 o_numbers)] := hD
      refine lv_aload_n hx hb dX6_begin_31 rfl (lv_at hl 0 rfl) ?_
      refine lv_iconst (v := 0) hx hb dX6_begin_32 (by decide) ?_
      refine va_put (D := G.1) (ci := 6) (v := .int (0 : Int32)) (ty := .int) (C := RX6) (T := TX6) (N := 5) hx hb ht twX6 tyX6 tyX6_ok nmX6 hown hK.1 hP hD hS 0 rfl rfl 3 (by decide) (ht _ kfl_X6_52) (fun _ h9 => h9) rfl (by decide +kernel) rfl rfl (Nat.le_of_ble_eq_true rfl) dX6_begin_33 (fun H locs hP hD hS => ?_)
      have hP : va_P G.1 vwCl [(oX6 o (0 : Int32) (0 : Int32) (0 : Int32) o_bandDue), (wI G (o 1) 12 o_numbers)] H := hP
      have hD : va_D A [(oX6 o (0 : Int32) (0 : Int32) (0 : Int32) o_bandDue), (wI G (o 1) 12 o_numbers)] := hD
      refine lv_aload_n hx hb dX6_begin_36 rfl (lv_at hl 0 rfl) ?_
      refine lv_iconst (v := 0) hx hb dX6_begin_37 (by decide) ?_
      refine va_put (D := G.1) (ci := 6) (v := .int (0 : Int32)) (ty := .boolean) (C := RX6) (T := TX6) (N := 5) hx hb ht twX6 tyX6 tyX6_ok nmX6 hown hK.1 hP hD hS 0 rfl rfl 4 (by decide) (ht _ kfl_X6_36) (fun _ h9 => h9) rfl (by decide +kernel) (by decide +kernel) (by decide +kernel) (Nat.le_of_ble_eq_true rfl) dX6_begin_38 (fun H locs hP hD hS => ?_)
      have hP : va_P G.1 vwCl [(oX6 o (0 : Int32) (0 : Int32) (0 : Int32) (0 : Int32)), (wI G (o 1) 12 o_numbers)] H := hP
      have hD : va_D A [(oX6 o (0 : Int32) (0 : Int32) (0 : Int32) (0 : Int32)), (wI G (o 1) 12 o_numbers)] := hD
      have h9 := Option.some.inj hf
      subst h9
      exact rw_vret C hP hD hS dX6_begin_41
    obtain ⟨rL1, hL1, hk1⟩ := bd_s hf
    refine lp_W (P := fun st => ∀ (H : Heap) (locs : List Loc) (ls : Array Slot), va_P G.1 vwCl [(oX6 o o_parts o_figuresDue o_place o_bandDue), (wI G (o 1) 12 st.2)] H → va_D A [(oX6 o o_parts o_figuresDue o_place o_bandDue), (wI G (o 1) 12 st.2)] → va_S A s.heap H locs → lv_has ls 2 [(0, .ref (o 0)), (1, .int st.1)] → Wc_X6_begin l G o o_numbers o_parts o_figuresDue o_place o_bandDue R p e s m below meth c A H locs (F0 m 2 ls [])) ?_ FU ((0 : Int32), o_numbers) hL1 H locs ls hP hD hS (lv_sub hl [1, 0] rfl)
    intro ⟨v1, o_numbers⟩ oc1 hf hI hE H locs ls hP hD hS hl
    have hP : va_P G.1 vwCl [(oX6 o o_parts o_figuresDue o_place o_bandDue), (wI G (o 1) 12 o_numbers)] H := hP
    have hD : va_D A [(oX6 o o_parts o_figuresDue o_place o_bandDue), (wI G (o 1) 12 o_numbers)] := hD
    have hl : lv_has ls 2 [(0, .ref (o 0)), (1, .int v1)] := hl
    have hf : f_X6_begin_b2 v1 o_numbers = some oc1 := hf
    refine lv_iload_n hx hb dX6_begin_2 rfl (lv_at hl 1 rfl) ?_
    refine lv_bipush (v := 12) hx hb dX6_begin_3 (by decide) ?_
    refine lv_icmp_ge (tgt := 21) hx hb dX6_begin_5 (by decide) (fun c3 => ?_) (fun c3 => ?_)
    · have hf := o_t c3 hf
      cases hf
      have hf : f_X6_begin_x21_1 o_numbers = some R := by have h9 := hk1; rw [← hE _ rfl] at h9; exact h9
      exact hx21_1 o_numbers H locs ls hf hP hD hS (lv_sub hl [0] rfl)
    · have hf := o_f c3 hf
      refine lv_aload_n hx hb dX6_begin_8 rfl (lv_at hl 0 rfl) ?_
      refine va_get (D := G.1) (ci := 6) (v := .ref (o 1)) (C := RX6) (T := TX6) (N := 5) hx hb ht twX6 hown hK.1 hP 0 rfl rfl 0 (by decide) (ht _ kfl_X6_11) (fun _ h9 => h9) rfl dX6_begin_9 ?_
      refine lv_iload_n hx hb dX6_begin_12 rfl (lv_at hl 1 rfl) ?_
      refine lv_iconst (v := -1) hx hb dX6_begin_13 (by decide) ?_
      obtain ⟨g4, hf⟩ := gd_s hf
      refine va_iast hx hb hK.1 hP hD hS 1 0 rfl rfl g4 dX6_begin_14 (fun H locs hP hD hS => ?_)
      have hP : va_P G.1 vwCl [(oX6 o o_parts o_figuresDue o_place o_bandDue), (wI G (o 1) 12 (upd o_numbers v1.toNatClampNeg (-1 : Int32)))] H := hP
      have hD : va_D A [(oX6 o o_parts o_figuresDue o_place o_bandDue), (wI G (o 1) 12 (upd o_numbers v1.toNatClampNeg (-1 : Int32)))] := hD
      refine lv_iinc (v := (v1 + (1 : Int32))) (lv' := [(1, .int (v1 + (1 : Int32))), (0, .ref (o 0))]) hx hb dX6_begin_15 hl (k := 1) rfl (by rfl) (by decide) rfl (fun ls hl => ?_)
      refine lv_goto (tgt := 2) hx hb dX6_begin_18 (by decide) ?_
      cases hf
      exact hI _ rfl H locs ls hP hD hS (lv_sub hl [1, 0] rfl)
  rw [eH, el] at key
  exact key
abbrev Wc_X10_figure (l : Launch) (G : TG) (a0 : Int32) (R : Int32) (p : Program) (e : Env) (s : State) (m : MethodId) (below : List Frame) (meth : Method) (c : Code) (H : Heap) (locs : List Loc) (g : JFrame) : Prop := W p l e ({ frames := 0, cells := 0, slots := 0, locals := 0 }) s m ([.int a0] : List Value).toArray below meth c H locs 0 0 (MQ below (roQ (some (.int R))) ([.int a0] : List Value).toArray s 0 0 (fun _ => False)) g
set_option maxHeartbeats 4000000 in
set_option maxRecDepth 100000 in
theorem c_X10_figure (l : Launch) (G : TG) (a0 : Int32) (R : Int32) (hf : f_X10_figure a0 = some R) : RO l yX10_figure cX10_figure 1 (some .int) ({ frames := 0, cells := 0, slots := 0, locals := 0 }) G [.int a0] [] (some (.int R)) := by
  refine RO.mk (by decide +kernel) (Nat.le_of_ble_eq_true rfl) ?_
  intro p e s m below meth c ls C hP hK hl
  have hx := C.1
  have hb := C.2.1
  have hown : s.vm.findClass RX10 = some m.cls := C.2.2.2.2.2.1
  have ht := C.2.2.2.2.2.2
  have hl : lv_has ls 1 [(0, .int a0)] := hl
  show Wc_X10_figure l G a0 R p e s m below meth c s.heap [] (F0 m 0 ls [])
  refine lv_iload_n hx hb dX10_figure_0 rfl (lv_at hl 0 rfl) ?_
  refine lv_bipush (v := 48) hx hb dX10_figure_1 (by decide) ?_
  refine lv_icmp_lt (tgt := 19) hx hb dX10_figure_3 (by decide) (fun c1 => ?_) (fun c1 => ?_)
  · have hf := o_t c1 hf
    refine lv_bipush (v := -9) hx hb dX10_figure_19 (by decide) ?_
    have h9 := Option.some.inj hf
    subst h9
    exact ro_iret C rfl dX10_figure_21
  · have hf := o_f c1 hf
    refine lv_iload_n hx hb dX10_figure_6 rfl (lv_at hl 0 rfl) ?_
    refine lv_bipush (v := 57) hx hb dX10_figure_7 (by decide) ?_
    refine lv_icmp_gt (tgt := 19) hx hb dX10_figure_9 (by decide) (fun c3 => ?_) (fun c3 => ?_)
    · have hf := o_t c3 hf
      refine lv_bipush (v := -9) hx hb dX10_figure_19 (by decide) ?_
      have h9 := Option.some.inj hf
      subst h9
      exact ro_iret C rfl dX10_figure_21
    · have hf := o_f c3 hf
      refine lv_iload_n hx hb dX10_figure_12 rfl (lv_at hl 0 rfl) ?_
      refine lv_bipush (v := 48) hx hb dX10_figure_13 (by decide) ?_
      refine lv_isub hx hb dX10_figure_15 ?_
      refine lv_goto (tgt := 21) hx hb dX10_figure_16 (by decide) ?_
      have h9 := Option.some.inj hf
      subst h9
      exact ro_iret C rfl dX10_figure_21
abbrev Wc_X6_takesFigure (l : Launch) (G : TG) (o : Nat → Nat) (o_numbers : Nat → Int32) (o_parts : Int32) (o_figuresDue : Int32) (o_place : Int32) (o_bandDue : Int32) (a1 : Int32) (R : Int32 × (Nat → Int32) × Int32 × Int32) (p : Program) (e : Env) (s : State) (m : MethodId) (below : List Frame) (meth : Method) (c : Code) (A : Nat → Prop) (H : Heap) (locs : List Loc) (g : JFrame) : Prop := W p l e ({ frames := 1, cells := 0, slots := 0, locals := 22 }) s m ([.ref (o 0), .int a1] : List Value).toArray below meth c H locs 0 0 (MQ below (rwQ G (some (.int R.1)) [(oX6 o R.2.2.1 R.2.2.2 o_place o_bandDue), (wI G (o 1) 12 R.2.1)] A) ([.ref (o 0), .int a1] : List Value).toArray s 0 0 A) g
set_option maxHeartbeats 4000000 in
set_option maxRecDepth 100000 in
theorem c_X6_takesFigure (l : Launch) (G : TG) (o : Nat → Nat) (o_numbers : Nat → Int32) (o_parts : Int32) (o_figuresDue : Int32) (o_place : Int32) (o_bandDue : Int32) (a1 : Int32) (R : Int32 × (Nat → Int32) × Int32 × Int32) (hf : f_X6_takesFigure o_numbers o_parts o_figuresDue o_place a1 = some R) : RW l yX6_takesFigure cX6_takesFigure 3 (some .boolean) ({ frames := 1, cells := 0, slots := 0, locals := 22 }) G [.ref (o 0), .int a1] [(oX6 o o_parts o_figuresDue o_place o_bandDue), (wI G (o 1) 12 o_numbers)] (some (.int R.1)) [(oX6 o R.2.2.1 R.2.2.2 o_place o_bandDue), (wI G (o 1) 12 R.2.1)] := by
  refine RW.mk (by decide +kernel) (Nat.le_of_ble_eq_true rfl) ?_
  intro p e s m below meth c ls A C hP hD hA hz hK hl hS
  have hx := C.1
  have hb := C.2.1
  have hown : s.vm.findClass RX6 = some m.cls := C.2.2.2.2.2.1
  have ht := C.2.2.2.2.2.2
  have hl : lv_has ls 3 [(0, .ref (o 0)), (1, .int a1)] := hl
  show Wc_X6_takesFigure l G o o_numbers o_parts o_figuresDue o_place o_bandDue a1 R p e s m below meth c A s.heap [] (F0 m 0 ls [])
  obtain ⟨H, eH, hP, hS⟩ : ∃ H, H = s.heap ∧ va_P G.1 vwCl [(oX6 o o_parts o_figuresDue o_place o_bandDue), (wI G (o 1) 12 o_numbers)] H ∧ va_S A s.heap H [] := ⟨_, rfl, hP, hS⟩
  obtain ⟨locs, el, hS⟩ : ∃ locs : List Loc, locs = [] ∧ va_S A s.heap H locs := ⟨_, rfl, hS⟩
  have key : Wc_X6_takesFigure l G o o_numbers o_parts o_figuresDue o_place o_bandDue a1 R p e s m below meth c A H locs (F0 m 0 ls []) := by
    refine lv_iload_n hx hb dX6_takesFigure_0 rfl (lv_at hl 1 rfl) ?_
    obtain ⟨q1, r1, hf⟩ := bd_s hf
    refine ro_SN (n := 1) (As := [.int a1]) (rest := []) (c_X10_figure l G a1 q1 r1) C (hK.at hS hz) (hP.sub [] rfl) hl kcode_X10_figure kmln_X6_79 kst_X10_figure kini_X10 (by decide +kernel) ⟨⟨rfl, rfl⟩, Nat.le_of_ble_eq_true rfl, Nat.le_of_ble_eq_true rfl⟩ ⟨Nat.zero_le _, Nat.zero_le _⟩ rfl rfl (Nat.le_of_ble_eq_true rfl) dX6_takesFigure_1 rfl ?_
    refine lv_istore_n (lv' := [(2, .int q1), (0, .ref (o 0)), (1, .int a1)]) hx hb dX6_takesFigure_4 rfl hl (by decide) rfl (fun ls hl => ?_)
    refine lv_iload_n hx hb dX6_takesFigure_5 rfl (lv_at hl 0 rfl) ?_
    refine lv_bipush (v := -9) hx hb dX6_takesFigure_6 (by decide) ?_
    refine lv_icmp_eq (tgt := 24) hx hb dX6_takesFigure_8 (by decide) (fun c2 => ?_) (fun c2 => ?_)
    · have hf := o_t c2 hf
      refine lv_iconst (v := 0) hx hb dX6_takesFigure_24 (by decide) ?_
      have h9 := Option.some.inj hf
      subst h9
      exact rw_zret C (Or.inl rfl) rfl hP hD hS dX6_takesFigure_25
    · have hf := o_f c2 hf
      refine lv_aload_n hx hb dX6_takesFigure_11 rfl (lv_at hl 1 rfl) ?_
      refine va_get (D := G.1) (ci := 6) (v := .int o_place) (C := RX6) (T := TX6) (N := 5) hx hb ht twX6 hown hK.1 hP 0 rfl rfl 3 (by decide) (ht _ kfl_X6_52) (fun _ h9 => h9) rfl dX6_takesFigure_12 ?_
      refine lv_iconst (v := 0) hx hb dX6_takesFigure_15 (by decide) ?_
      refine lv_bipush (v := 11) hx hb dX6_takesFigure_16 (by decide) ?_
      obtain ⟨q4, r4, hf⟩ := bd_s hf
      refine ro_SN (n := 3) (As := [.int o_place, .int (0 : Int32), .int (11 : Int32)]) (rest := []) (c_X10_within l G o_place (0 : Int32) (11 : Int32) q4 r4) C (hK.at hS hz) (hP.sub [] rfl) hl kcode_X10_within kmln_X6_85 kst_X10_within kini_X10 (by decide +kernel) ⟨⟨rfl, rfl⟩, Nat.le_of_ble_eq_true rfl, Nat.le_of_ble_eq_true rfl⟩ ⟨Nat.zero_le _, Nat.zero_le _⟩ rfl rfl (Nat.le_of_ble_eq_true rfl) dX6_takesFigure_18 rfl ?_
      refine lv_if_ne (tgt := 26) hx hb dX6_takesFigure_21 (by decide) (fun c5 => ?_) (fun c5 => ?_)
      · have hf := o_f c5 hf
        refine lv_aload_n hx hb dX6_takesFigure_26 rfl (lv_at hl 1 rfl) ?_
        refine va_get (D := G.1) (ci := 6) (v := .ref (o 1)) (C := RX6) (T := TX6) (N := 5) hx hb ht twX6 hown hK.1 hP 0 rfl rfl 0 (by decide) (ht _ kfl_X6_11) (fun _ h9 => h9) rfl dX6_takesFigure_27 ?_
        refine lv_aload_n hx hb dX6_takesFigure_30 rfl (lv_at hl 1 rfl) ?_
        refine va_get (D := G.1) (ci := 6) (v := .int o_place) (C := RX6) (T := TX6) (N := 5) hx hb ht twX6 hown hK.1 hP 0 rfl rfl 3 (by decide) (ht _ kfl_X6_52) (fun _ h9 => h9) rfl dX6_takesFigure_31 ?_
        refine lv_bipush (v := 10) hx hb dX6_takesFigure_34 (by decide) ?_
        refine lv_aload_n hx hb dX6_takesFigure_36 rfl (lv_at hl 1 rfl) ?_
        refine va_get (D := G.1) (ci := 6) (v := .ref (o 1)) (C := RX6) (T := TX6) (N := 5) hx hb ht twX6 hown hK.1 hP 0 rfl rfl 0 (by decide) (ht _ kfl_X6_11) (fun _ h9 => h9) rfl dX6_takesFigure_37 ?_
        refine lv_aload_n hx hb dX6_takesFigure_40 rfl (lv_at hl 1 rfl) ?_
        refine va_get (D := G.1) (ci := 6) (v := .int o_place) (C := RX6) (T := TX6) (N := 5) hx hb ht twX6 hown hK.1 hP 0 rfl rfl 3 (by decide) (ht _ kfl_X6_52) (fun _ h9 => h9) rfl dX6_takesFigure_41 ?_
        obtain ⟨g6, hf⟩ := gd_s hf
        refine va_iald hx hb hK.1 hP 1 0 rfl rfl g6 dX6_takesFigure_44 ?_
        refine lv_imul hx hb dX6_takesFigure_45 ?_
        refine lv_iload_n hx hb dX6_takesFigure_46 rfl (lv_at hl 0 rfl) ?_
        refine lv_iadd hx hb dX6_takesFigure_47 ?_
        obtain ⟨g7, hf⟩ := gd_s hf
        refine va_iast hx hb hK.1 hP hD hS 1 0 rfl rfl g7 dX6_takesFigure_48 (fun H locs hP hD hS => ?_)
        have hP : va_P G.1 vwCl [(oX6 o o_parts o_figuresDue o_place o_bandDue), (wI G (o 1) 12 (upd o_numbers o_place.toNatClampNeg (((10 : Int32) * (o_numbers o_place.toNatClampNeg)) + q1)))] H := hP
        have hD : va_D A [(oX6 o o_parts o_figuresDue o_place o_bandDue), (wI G (o 1) 12 (upd o_numbers o_place.toNatClampNeg (((10 : Int32) * (o_numbers o_place.toNatClampNeg)) + q1)))] := hD
        refine lv_aload_n hx hb dX6_takesFigure_49 rfl (lv_at hl 1 rfl) ?_
        refine lv_dup hx hb dX6_takesFigure_50 rfl ?_
        refine va_get (D := G.1) (ci := 6) (v := .int o_figuresDue) (C := RX6) (T := TX6) (N := 5) hx hb ht twX6 hown hK.1 hP 0 rfl rfl 2 (by decide) (ht _ kfl_X6_33) (fun _ h9 => h9) rfl dX6_takesFigure_51 ?_
        refine lv_iconst (v := 1) hx hb dX6_takesFigure_54 (by decide) ?_
        refine lv_isub hx hb dX6_takesFigure_55 ?_
        refine va_put (D := G.1) (ci := 6) (v := .int (o_figuresDue - (1 : Int32))) (ty := .int) (C := RX6) (T := TX6) (N := 5) hx hb ht twX6 tyX6 tyX6_ok nmX6 hown hK.1 hP hD hS 0 rfl rfl 2 (by decide) (ht _ kfl_X6_33) (fun _ h9 => h9) rfl (by decide +kernel) rfl rfl (Nat.le_of_ble_eq_true rfl) dX6_takesFigure_56 (fun H locs hP hD hS => ?_)
        have hP : va_P G.1 vwCl [(oX6 o o_parts (o_figuresDue - (1 : Int32)) o_place o_bandDue), (wI G (o 1) 12 (upd o_numbers o_place.toNatClampNeg (((10 : Int32) * (o_numbers o_place.toNatClampNeg)) + q1)))] H := hP
        have hD : va_D A [(oX6 o o_parts (o_figuresDue - (1 : Int32)) o_place o_bandDue), (wI G (o 1) 12 (upd o_numbers o_place.toNatClampNeg (((10 : Int32) * (o_numbers o_place.toNatClampNeg)) + q1)))] := hD
        refine lv_aload_n hx hb dX6_takesFigure_59 rfl (lv_at hl 1 rfl) ?_
        refine va_get (D := G.1) (ci := 6) (v := .int (o_figuresDue - (1 : Int32))) (C := RX6) (T := TX6) (N := 5) hx hb ht twX6 hown hK.1 hP 0 rfl rfl 2 (by decide) (ht _ kfl_X6_33) (fun _ h9 => h9) rfl dX6_takesFigure_60 ?_
        refine lv_if_ne (tgt := 76) hx hb dX6_takesFigure_63 (by decide) (fun c8 => ?_) (fun c8 => ?_)
        · have hf := o_f c8 hf
          refine lv_iconst (v := 1) hx hb dX6_takesFigure_76 (by decide) ?_
          have h9 := Option.some.inj hf
          subst h9
          exact rw_zret C (Or.inr rfl) rfl hP hD hS dX6_takesFigure_77
        · have hf := o_t c8 hf
          refine lv_aload_n hx hb dX6_takesFigure_66 rfl (lv_at hl 1 rfl) ?_
          refine lv_dup hx hb dX6_takesFigure_67 rfl ?_
          refine va_get (D := G.1) (ci := 6) (v := .int o_parts) (C := RX6) (T := TX6) (N := 5) hx hb ht twX6 hown hK.1 hP 0 rfl rfl 1 (by decide) (ht _ kfl_X6_49) (fun _ h9 => h9) rfl dX6_takesFigure_68 ?_
          refine lv_iconst (v := 1) hx hb dX6_takesFigure_71 (by decide) ?_
          refine lv_iadd hx hb dX6_takesFigure_72 ?_
          refine va_put (D := G.1) (ci := 6) (v := .int (o_parts + (1 : Int32))) (ty := .int) (C := RX6) (T := TX6) (N := 5) hx hb ht twX6 tyX6 tyX6_ok nmX6 hown hK.1 hP hD hS 0 rfl rfl 1 (by decide) (ht _ kfl_X6_49) (fun _ h9 => h9) rfl (by decide +kernel) rfl rfl (Nat.le_of_ble_eq_true rfl) dX6_takesFigure_73 (fun H locs hP hD hS => ?_)
          have hP : va_P G.1 vwCl [(oX6 o (o_parts + (1 : Int32)) (o_figuresDue - (1 : Int32)) o_place o_bandDue), (wI G (o 1) 12 (upd o_numbers o_place.toNatClampNeg (((10 : Int32) * (o_numbers o_place.toNatClampNeg)) + q1)))] H := hP
          have hD : va_D A [(oX6 o (o_parts + (1 : Int32)) (o_figuresDue - (1 : Int32)) o_place o_bandDue), (wI G (o 1) 12 (upd o_numbers o_place.toNatClampNeg (((10 : Int32) * (o_numbers o_place.toNatClampNeg)) + q1)))] := hD
          refine lv_iconst (v := 1) hx hb dX6_takesFigure_76 (by decide) ?_
          have h9 := Option.some.inj hf
          subst h9
          exact rw_zret C (Or.inr rfl) rfl hP hD hS dX6_takesFigure_77
      · have hf := o_t c5 hf
        refine lv_iconst (v := 0) hx hb dX6_takesFigure_24 (by decide) ?_
        have h9 := Option.some.inj hf
        subst h9
        exact rw_zret C (Or.inl rfl) rfl hP hD hS dX6_takesFigure_25
  rw [eH, el] at key
  exact key
abbrev Wc_X10_isBand (l : Launch) (G : TG) (a0 : Int32) (R : Int32) (p : Program) (e : Env) (s : State) (m : MethodId) (below : List Frame) (meth : Method) (c : Code) (H : Heap) (locs : List Loc) (g : JFrame) : Prop := W p l e ({ frames := 1, cells := 0, slots := 0, locals := 22 }) s m ([.int a0] : List Value).toArray below meth c H locs 0 0 (MQ below (roQ (some (.int R))) ([.int a0] : List Value).toArray s 0 0 (fun _ => False)) g
set_option maxHeartbeats 4000000 in
set_option maxRecDepth 100000 in
theorem c_X10_isBand (l : Launch) (G : TG) (a0 : Int32) (R : Int32) (hf : f_X10_isBand a0 = some R) : RO l yX10_isBand cX10_isBand 1 (some .boolean) ({ frames := 1, cells := 0, slots := 0, locals := 22 }) G [.int a0] [] (some (.int R)) := by
  refine RO.mk (by decide +kernel) (Nat.le_of_ble_eq_true rfl) ?_
  intro p e s m below meth c ls C hP hK hl
  have hx := C.1
  have hb := C.2.1
  have hown : s.vm.findClass RX10 = some m.cls := C.2.2.2.2.2.1
  have ht := C.2.2.2.2.2.2
  have hl : lv_has ls 1 [(0, .int a0)] := hl
  show Wc_X10_isBand l G a0 R p e s m below meth c s.heap [] (F0 m 0 ls [])
  refine lv_iload_n hx hb dX10_isBand_0 rfl (lv_at hl 0 rfl) ?_
  refine lv_iconst (v := 0) hx hb dX10_isBand_1 (by decide) ?_
  refine lv_iconst (v := 5) hx hb dX10_isBand_2 (by decide) ?_
  obtain ⟨q1, r1, hf⟩ := bd_s hf
  refine ro_S (n := 3) (As := [.int a0, .int (0 : Int32), .int (5 : Int32)]) (rest := []) (c_X10_within l G a0 (0 : Int32) (5 : Int32) q1 r1) C hK (hP.sub [] rfl) hl kcode_X10_within kml_X10_83 kst_X10_within kini_X10 (by decide +kernel) ⟨⟨rfl, rfl⟩, Nat.le_of_ble_eq_true rfl, Nat.le_of_ble_eq_true rfl⟩ ⟨Nat.zero_le _, Nat.zero_le _⟩ rfl rfl (Nat.le_of_ble_eq_true rfl) dX10_isBand_3 rfl ?_
  obtain ⟨z2, hf⟩ := zb_s hf
  have h9 := Option.some.inj hf
  subst h9
  exact ro_zret C z2 rfl dX10_isBand_6
abbrev Wc_X6_opens (l : Launch) (G : TG) (o : Nat → Nat) (o_numbers : Nat → Int32) (o_parts : Int32) (o_figuresDue : Int32) (o_place : Int32) (o_bandDue : Int32) (a1 : Int32) (R : Int32 × (Nat → Int32) × Int32 × Int32) (p : Program) (e : Env) (s : State) (m : MethodId) (below : List Frame) (meth : Method) (c : Code) (A : Nat → Prop) (H : Heap) (locs : List Loc) (g : JFrame) : Prop := W p l e ({ frames := 1, cells := 0, slots := 0, locals := 22 }) s m ([.ref (o 0), .int a1] : List Value).toArray below meth c H locs 0 0 (MQ below (rwQ G (some (.int R.1)) [(oX6 o o_parts R.2.2.1 R.2.2.2 o_bandDue), (wI G (o 1) 12 R.2.1)] A) ([.ref (o 0), .int a1] : List Value).toArray s 0 0 A) g
set_option maxHeartbeats 4000000 in
set_option maxRecDepth 100000 in
theorem c_X6_opens (l : Launch) (G : TG) (o : Nat → Nat) (o_numbers : Nat → Int32) (o_parts : Int32) (o_figuresDue : Int32) (o_place : Int32) (o_bandDue : Int32) (a1 : Int32) (R : Int32 × (Nat → Int32) × Int32 × Int32) (hf : f_X6_opens o_numbers o_figuresDue o_place a1 = some R) : RW l yX6_opens cX6_opens 2 (some .boolean) ({ frames := 1, cells := 0, slots := 0, locals := 22 }) G [.ref (o 0), .int a1] [(oX6 o o_parts o_figuresDue o_place o_bandDue), (wI G (o 1) 12 o_numbers)] (some (.int R.1)) [(oX6 o o_parts R.2.2.1 R.2.2.2 o_bandDue), (wI G (o 1) 12 R.2.1)] := by
  refine RW.mk (by decide +kernel) (Nat.le_of_ble_eq_true rfl) ?_
  intro p e s m below meth c ls A C hP hD hA hz hK hl hS
  have hx := C.1
  have hb := C.2.1
  have hown : s.vm.findClass RX6 = some m.cls := C.2.2.2.2.2.1
  have ht := C.2.2.2.2.2.2
  have hl : lv_has ls 2 [(0, .ref (o 0)), (1, .int a1)] := hl
  show Wc_X6_opens l G o o_numbers o_parts o_figuresDue o_place o_bandDue a1 R p e s m below meth c A s.heap [] (F0 m 0 ls [])
  obtain ⟨H, eH, hP, hS⟩ : ∃ H, H = s.heap ∧ va_P G.1 vwCl [(oX6 o o_parts o_figuresDue o_place o_bandDue), (wI G (o 1) 12 o_numbers)] H ∧ va_S A s.heap H [] := ⟨_, rfl, hP, hS⟩
  obtain ⟨locs, el, hS⟩ : ∃ locs : List Loc, locs = [] ∧ va_S A s.heap H locs := ⟨_, rfl, hS⟩
  have key : Wc_X6_opens l G o o_numbers o_parts o_figuresDue o_place o_bandDue a1 R p e s m below meth c A H locs (F0 m 0 ls []) := by
    have hj52 : ∀ (k1 : Int32) (o_numbers : Nat → Int32) (o_figuresDue : Int32) (o_place : Int32) (H : Heap) (locs : List Loc) (ls : Array Slot), f_X6_opens_j52 k1 o_numbers o_place = some R → va_P G.1 vwCl [(oX6 o o_parts o_figuresDue o_place o_bandDue), (wI G (o 1) 12 o_numbers)] H → va_D A [(oX6 o o_parts o_figuresDue o_place o_bandDue), (wI G (o 1) 12 o_numbers)] → va_S A s.heap H locs → lv_has ls 2 [] → Wc_X6_opens l G o o_numbers o_parts o_figuresDue o_place o_bandDue a1 R p e s m below meth c A H locs (F0 m 52 ls [.int k1, .ref (o 0)]) := by
      intro k1 o_numbers o_figuresDue o_place H locs ls hf hP hD hS hl
      refine va_put (D := G.1) (ci := 6) (v := .int k1) (ty := .int) (C := RX6) (T := TX6) (N := 5) hx hb ht twX6 tyX6 tyX6_ok nmX6 hown hK.1 hP hD hS 0 rfl rfl 2 (by decide) (ht _ kfl_X6_33) (fun _ h9 => h9) rfl (by decide +kernel) rfl rfl (Nat.le_of_ble_eq_true rfl) dX6_opens_52 (fun H locs hP hD hS => ?_)
      have hP : va_P G.1 vwCl [(oX6 o o_parts k1 o_place o_bandDue), (wI G (o 1) 12 o_numbers)] H := hP
      have hD : va_D A [(oX6 o o_parts k1 o_place o_bandDue), (wI G (o 1) 12 o_numbers)] := hD
      refine lv_iconst (v := 1) hx hb dX6_opens_55 (by decide) ?_
      have h9 := Option.some.inj hf
      subst h9
      exact rw_zret C (Or.inr rfl) rfl hP hD hS dX6_opens_56
    have hj47 : ∀ (o_numbers : Nat → Int32) (o_figuresDue : Int32) (o_place : Int32) (H : Heap) (locs : List Loc) (ls : Array Slot), f_X6_opens_j47 o_numbers o_place = some R → va_P G.1 vwCl [(oX6 o o_parts o_figuresDue o_place o_bandDue), (wI G (o 1) 12 o_numbers)] H → va_D A [(oX6 o o_parts o_figuresDue o_place o_bandDue), (wI G (o 1) 12 o_numbers)] → va_S A s.heap H locs → lv_has ls 2 [] → Wc_X6_opens l G o o_numbers o_parts o_figuresDue o_place o_bandDue a1 R p e s m below meth c A H locs (F0 m 47 ls [.ref (o 0)]) := by
      intro o_numbers o_figuresDue o_place H locs ls hf hP hD hS hl
      refine lv_iconst (v := 2) hx hb dX6_opens_47 (by decide) ?_
      refine lv_goto (tgt := 52) hx hb dX6_opens_48 (by decide) ?_
      exact hj52 (2 : Int32) o_numbers o_figuresDue o_place H locs ls hf hP hD hS (lv_sub hl [] rfl)
    refine lv_iload_n hx hb dX6_opens_0 rfl (lv_at hl 1 rfl) ?_
    refine lv_iconst (v := 0) hx hb dX6_opens_1 (by decide) ?_
    refine lv_bipush (v := 11) hx hb dX6_opens_2 (by decide) ?_
    obtain ⟨q2, r2, hf⟩ := bd_s hf
    refine ro_SN (n := 3) (As := [.int a1, .int (0 : Int32), .int (11 : Int32)]) (rest := []) (c_X10_within l G a1 (0 : Int32) (11 : Int32) q2 r2) C (hK.at hS hz) (hP.sub [] rfl) hl kcode_X10_within kmln_X6_85 kst_X10_within kini_X10 (by decide +kernel) ⟨⟨rfl, rfl⟩, Nat.le_of_ble_eq_true rfl, Nat.le_of_ble_eq_true rfl⟩ ⟨Nat.zero_le _, Nat.zero_le _⟩ rfl rfl (Nat.le_of_ble_eq_true rfl) dX6_opens_4 rfl ?_
    refine lv_if_eq (tgt := 20) hx hb dX6_opens_7 (by decide) (fun c3 => ?_) (fun c3 => ?_)
    · have hf := o_t c3 hf
      refine lv_iconst (v := 0) hx hb dX6_opens_20 (by decide) ?_
      have h9 := Option.some.inj hf
      subst h9
      exact rw_zret C (Or.inl rfl) rfl hP hD hS dX6_opens_21
    · have hf := o_f c3 hf
      refine lv_aload_n hx hb dX6_opens_10 rfl (lv_at hl 0 rfl) ?_
      refine va_get (D := G.1) (ci := 6) (v := .ref (o 1)) (C := RX6) (T := TX6) (N := 5) hx hb ht twX6 hown hK.1 hP 0 rfl rfl 0 (by decide) (ht _ kfl_X6_11) (fun _ h9 => h9) rfl dX6_opens_11 ?_
      refine lv_iload_n hx hb dX6_opens_14 rfl (lv_at hl 1 rfl) ?_
      obtain ⟨g5, hf⟩ := gd_s hf
      refine va_iald hx hb hK.1 hP 1 0 rfl rfl g5 dX6_opens_15 ?_
      refine lv_iconst (v := -1) hx hb dX6_opens_16 (by decide) ?_
      refine lv_icmp_eq (tgt := 22) hx hb dX6_opens_17 (by decide) (fun c6 => ?_) (fun c6 => ?_)
      · have hf := o_t c6 hf
        refine lv_aload_n hx hb dX6_opens_22 rfl (lv_at hl 0 rfl) ?_
        refine lv_iload_n hx hb dX6_opens_23 rfl (lv_at hl 1 rfl) ?_
        refine va_put (D := G.1) (ci := 6) (v := .int a1) (ty := .int) (C := RX6) (T := TX6) (N := 5) hx hb ht twX6 tyX6 tyX6_ok nmX6 hown hK.1 hP hD hS 0 rfl rfl 3 (by decide) (ht _ kfl_X6_52) (fun _ h9 => h9) rfl (by decide +kernel) rfl rfl (Nat.le_of_ble_eq_true rfl) dX6_opens_24 (fun H locs hP hD hS => ?_)
        have hP : va_P G.1 vwCl [(oX6 o o_parts o_figuresDue a1 o_bandDue), (wI G (o 1) 12 o_numbers)] H := hP
        have hD : va_D A [(oX6 o o_parts o_figuresDue a1 o_bandDue), (wI G (o 1) 12 o_numbers)] := hD
        refine lv_aload_n hx hb dX6_opens_27 rfl (lv_at hl 0 rfl) ?_
        refine va_get (D := G.1) (ci := 6) (v := .ref (o 1)) (C := RX6) (T := TX6) (N := 5) hx hb ht twX6 hown hK.1 hP 0 rfl rfl 0 (by decide) (ht _ kfl_X6_11) (fun _ h9 => h9) rfl dX6_opens_28 ?_
        refine lv_iload_n hx hb dX6_opens_31 rfl (lv_at hl 1 rfl) ?_
        refine lv_iconst (v := 0) hx hb dX6_opens_32 (by decide) ?_
        obtain ⟨g7, hf⟩ := gd_s hf
        refine va_iast hx hb hK.1 hP hD hS 1 0 rfl rfl g7 dX6_opens_33 (fun H locs hP hD hS => ?_)
        have hP : va_P G.1 vwCl [(oX6 o o_parts o_figuresDue a1 o_bandDue), (wI G (o 1) 12 (upd o_numbers a1.toNatClampNeg (0 : Int32)))] H := hP
        have hD : va_D A [(oX6 o o_parts o_figuresDue a1 o_bandDue), (wI G (o 1) 12 (upd o_numbers a1.toNatClampNeg (0 : Int32)))] := hD
        refine lv_aload_n hx hb dX6_opens_34 rfl (lv_at hl 0 rfl) ?_
        refine lv_iload_n hx hb dX6_opens_35 rfl (lv_at hl 1 rfl) ?_
        refine lv_bipush (v := 6) hx hb dX6_opens_36 (by decide) ?_
        refine lv_icmp_lt (tgt := 47) hx hb dX6_opens_38 (by decide) (fun c8 => ?_) (fun c8 => ?_)
        · have hf := o_t c8 hf
          exact hj47 (upd o_numbers a1.toNatClampNeg (0 : Int32)) o_figuresDue a1 H locs ls hf hP hD hS (lv_sub hl [] rfl)
        · have hf := o_f c8 hf
          refine lv_iload_n hx hb dX6_opens_41 rfl (lv_at hl 1 rfl) ?_
          refine lv_bipush (v := 8) hx hb dX6_opens_42 (by decide) ?_
          refine lv_icmp_ne (tgt := 51) hx hb dX6_opens_44 (by decide) (fun c9 => ?_) (fun c9 => ?_)
          · have hf := o_f c9 hf
            refine lv_iconst (v := 1) hx hb dX6_opens_51 (by decide) ?_
            exact hj52 (1 : Int32) (upd o_numbers a1.toNatClampNeg (0 : Int32)) o_figuresDue a1 H locs ls hf hP hD hS (lv_sub hl [] rfl)
          · have hf := o_t c9 hf
            exact hj47 (upd o_numbers a1.toNatClampNeg (0 : Int32)) o_figuresDue a1 H locs ls hf hP hD hS (lv_sub hl [] rfl)
      · have hf := o_f c6 hf
        refine lv_iconst (v := 0) hx hb dX6_opens_20 (by decide) ?_
        have h9 := Option.some.inj hf
        subst h9
        exact rw_zret C (Or.inl rfl) rfl hP hD hS dX6_opens_21
  rw [eH, el] at key
  exact key
abbrev Wc_X6_takesBand (l : Launch) (G : TG) (o : Nat → Nat) (o_numbers : Nat → Int32) (o_parts : Int32) (o_figuresDue : Int32) (o_place : Int32) (o_bandDue : Int32) (a1 : Int32) (R : Int32 × (Nat → Int32) × Int32 × Int32 × Int32) (p : Program) (e : Env) (s : State) (m : MethodId) (below : List Frame) (meth : Method) (c : Code) (A : Nat → Prop) (H : Heap) (locs : List Loc) (g : JFrame) : Prop := W p l e ({ frames := 2, cells := 0, slots := 0, locals := 43 }) s m ([.ref (o 0), .int a1] : List Value).toArray below meth c H locs 0 0 (MQ below (rwQ G (some (.int R.1)) [(oX6 o o_parts R.2.2.1 R.2.2.2.1 R.2.2.2.2), (wI G (o 1) 12 R.2.1)] A) ([.ref (o 0), .int a1] : List Value).toArray s 0 0 A) g
set_option maxHeartbeats 4000000 in
set_option maxRecDepth 100000 in
theorem c_X6_takesBand (l : Launch) (G : TG) (o : Nat → Nat) (o_numbers : Nat → Int32) (o_parts : Int32) (o_figuresDue : Int32) (o_place : Int32) (o_bandDue : Int32) (a1 : Int32) (R : Int32 × (Nat → Int32) × Int32 × Int32 × Int32) (hf : f_X6_takesBand o_numbers o_figuresDue o_place a1 = some R) : RW l yX6_takesBand cX6_takesBand 3 (some .boolean) ({ frames := 2, cells := 0, slots := 0, locals := 43 }) G [.ref (o 0), .int a1] [(oX6 o o_parts o_figuresDue o_place o_bandDue), (wI G (o 1) 12 o_numbers)] (some (.int R.1)) [(oX6 o o_parts R.2.2.1 R.2.2.2.1 R.2.2.2.2), (wI G (o 1) 12 R.2.1)] := by
  refine RW.mk (by decide +kernel) (Nat.le_of_ble_eq_true rfl) ?_
  intro p e s m below meth c ls A C hP hD hA hz hK hl hS
  have hx := C.1
  have hb := C.2.1
  have hown : s.vm.findClass RX6 = some m.cls := C.2.2.2.2.2.1
  have ht := C.2.2.2.2.2.2
  have hl : lv_has ls 3 [(0, .ref (o 0)), (1, .int a1)] := hl
  show Wc_X6_takesBand l G o o_numbers o_parts o_figuresDue o_place o_bandDue a1 R p e s m below meth c A s.heap [] (F0 m 0 ls [])
  obtain ⟨H, eH, hP, hS⟩ : ∃ H, H = s.heap ∧ va_P G.1 vwCl [(oX6 o o_parts o_figuresDue o_place o_bandDue), (wI G (o 1) 12 o_numbers)] H ∧ va_S A s.heap H [] := ⟨_, rfl, hP, hS⟩
  obtain ⟨locs, el, hS⟩ : ∃ locs : List Loc, locs = [] ∧ va_S A s.heap H locs := ⟨_, rfl, hS⟩
  have key : Wc_X6_takesBand l G o o_numbers o_parts o_figuresDue o_place o_bandDue a1 R p e s m below meth c A H locs (F0 m 0 ls []) := by
    refine lv_aload_n hx hb dX6_takesBand_0 rfl (lv_at hl 0 rfl) ?_
    refine lv_iconst (v := 0) hx hb dX6_takesBand_1 (by decide) ?_
    refine va_put (D := G.1) (ci := 6) (v := .int (0 : Int32)) (ty := .boolean) (C := RX6) (T := TX6) (N := 5) hx hb ht twX6 tyX6 tyX6_ok nmX6 hown hK.1 hP hD hS 0 rfl rfl 4 (by decide) (ht _ kfl_X6_36) (fun _ h9 => h9) rfl (by decide +kernel) (by decide +kernel) (by decide +kernel) (Nat.le_of_ble_eq_true rfl) dX6_takesBand_2 (fun H locs hP hD hS => ?_)
    have hP : va_P G.1 vwCl [(oX6 o o_parts o_figuresDue o_place (0 : Int32)), (wI G (o 1) 12 o_numbers)] H := hP
    have hD : va_D A [(oX6 o o_parts o_figuresDue o_place (0 : Int32)), (wI G (o 1) 12 o_numbers)] := hD
    refine lv_iload_n hx hb dX6_takesBand_5 rfl (lv_at hl 1 rfl) ?_
    obtain ⟨q1, r1, hf⟩ := bd_s hf
    refine ro_SN (n := 1) (As := [.int a1]) (rest := []) (c_X10_figure l G a1 q1 r1) C (hK.at hS hz) (hP.sub [] rfl) hl kcode_X10_figure kmln_X6_79 kst_X10_figure kini_X10 (by decide +kernel) ⟨⟨rfl, rfl⟩, Nat.le_of_ble_eq_true rfl, Nat.le_of_ble_eq_true rfl⟩ ⟨Nat.zero_le _, Nat.zero_le _⟩ rfl rfl (Nat.le_of_ble_eq_true rfl) dX6_takesBand_6 rfl ?_
    refine lv_istore_n (lv' := [(2, .int q1), (0, .ref (o 0)), (1, .int a1)]) hx hb dX6_takesBand_9 rfl hl (by decide) rfl (fun ls hl => ?_)
    refine lv_iload_n hx hb dX6_takesBand_10 rfl (lv_at hl 0 rfl) ?_
    obtain ⟨q2, r2, hf⟩ := bd_s hf
    refine ro_SN (n := 1) (As := [.int q1]) (rest := []) (c_X10_isBand l G q1 q2 r2) C (hK.at hS hz) (hP.sub [] rfl) hl kcode_X10_isBand kmln_X6_82 kst_X10_isBand kini_X10 (by decide +kernel) ⟨⟨rfl, rfl⟩, Nat.le_of_ble_eq_true rfl, Nat.le_of_ble_eq_true rfl⟩ ⟨Nat.zero_le _, Nat.zero_le _⟩ rfl rfl (Nat.le_of_ble_eq_true rfl) dX6_takesBand_11 rfl ?_
    refine lv_if_eq (tgt := 29) hx hb dX6_takesBand_14 (by decide) (fun c3 => ?_) (fun c3 => ?_)
    · have hf := o_t c3 hf
      refine lv_iconst (v := 0) hx hb dX6_takesBand_29 (by decide) ?_
      have h9 := Option.some.inj hf
      subst h9
      exact rw_zret C (Or.inl rfl) rfl hP hD hS dX6_takesBand_30
    · have hf := o_f c3 hf
      refine lv_aload_n hx hb dX6_takesBand_17 rfl (lv_at hl 1 rfl) ?_
      refine lv_iload_n hx hb dX6_takesBand_18 rfl (lv_at hl 0 rfl) ?_
      obtain ⟨q5, r5, hf⟩ := bd_s hf
      refine rw_V (n := 1) (As := [.int q1]) (rest := []) (wr := []) (ws2 := [(oX6 o o_parts q5.2.2.1 q5.2.2.2 (0 : Int32)), (wI G (o 1) 12 q5.2.1)]) (c_X6_opens l G o o_numbers o_parts o_figuresDue o_place (0 : Int32) q1 q5 r5) C hK hP hD hS hA hz hl [0, 1] [] [0, 1] rfl rfl rfl rfl rfl (by decide) rfl rfl rfl kcode_X6_opens kml_X6_76 kim_X6_opens ksel_X6_opens kini_X6 (by decide +kernel) ⟨⟨rfl, rfl⟩, Nat.le_of_ble_eq_true rfl, Nat.le_of_ble_eq_true rfl⟩ ⟨Nat.zero_le _, Nat.zero_le _⟩ rfl rfl rfl rfl rfl (Nat.le_of_ble_eq_true rfl) dX6_takesBand_19 rfl (fun H locs hP hD hS => ?_)
      refine lv_if_eq (tgt := 29) hx hb dX6_takesBand_22 (by decide) (fun c6 => ?_) (fun c6 => ?_)
      · have hf := o_t c6 hf
        refine lv_iconst (v := 0) hx hb dX6_takesBand_29 (by decide) ?_
        have h9 := Option.some.inj hf
        subst h9
        exact rw_zret C (Or.inl rfl) rfl hP hD hS dX6_takesBand_30
      · have hf := o_f c6 hf
        refine lv_iconst (v := 1) hx hb dX6_takesBand_25 (by decide) ?_
        refine lv_goto (tgt := 30) hx hb dX6_takesBand_26 (by decide) ?_
        have h9 := Option.some.inj hf
        subst h9
        exact rw_zret C (Or.inr rfl) rfl hP hD hS dX6_takesBand_30
  rw [eH, el] at key
  exact key
abbrev Wc_X6_someBandIsUntold (l : Launch) (G : TG) (o : Nat → Nat) (o_numbers : Nat → Int32) (o_parts : Int32) (o_figuresDue : Int32) (o_place : Int32) (o_bandDue : Int32) (R : Int32) (p : Program) (e : Env) (s : State) (m : MethodId) (below : List Frame) (meth : Method) (c : Code) (H : Heap) (locs : List Loc) (g : JFrame) : Prop := W p l e ({ frames := 0, cells := 0, slots := 0, locals := 0 }) s m ([.ref (o 0)] : List Value).toArray below meth c H locs 0 0 (MQ below (roQ (some (.int R))) ([.ref (o 0)] : List Value).toArray s 0 0 (fun _ => False)) g
set_option maxHeartbeats 4000000 in
set_option maxRecDepth 100000 in
theorem c_X6_someBandIsUntold (l : Launch) (G : TG) (o : Nat → Nat) (o_numbers : Nat → Int32) (o_parts : Int32) (o_figuresDue : Int32) (o_place : Int32) (o_bandDue : Int32) (R : Int32) (hf : f_X6_someBandIsUntold o_numbers = some R) : RO l yX6_someBandIsUntold cX6_someBandIsUntold 2 (some .boolean) ({ frames := 0, cells := 0, slots := 0, locals := 0 }) G [.ref (o 0)] [(oX6 o o_parts o_figuresDue o_place o_bandDue), (wI G (o 1) 12 o_numbers)] (some (.int R)) := by
  refine RO.mk (by decide +kernel) (Nat.le_of_ble_eq_true rfl) ?_
  intro p e s m below meth c ls C hP hK hl
  have hx := C.1
  have hb := C.2.1
  have hown : s.vm.findClass RX6 = some m.cls := C.2.2.2.2.2.1
  have ht := C.2.2.2.2.2.2
  have hl : lv_has ls 2 [(0, .ref (o 0))] := hl
  show Wc_X6_someBandIsUntold l G o o_numbers o_parts o_figuresDue o_place o_bandDue R p e s m below meth c s.heap [] (F0 m 0 ls [])
  refine lv_iconst (v := 0) hx hb dX6_someBandIsUntold_0 (by decide) ?_
  refine lv_istore_n (lv' := [(1, .int (0 : Int32)), (0, .ref (o 0))]) hx hb dX6_someBandIsUntold_1 rfl hl (by decide) rfl (fun ls hl => ?_)
  have hx26_1 : ∀ (ls : Array Slot), f_X6_someBandIsUntold_x26_1 = some R → lv_has ls 2 [] → Wc_X6_someBandIsUntold l G o o_numbers o_parts o_figuresDue o_place o_bandDue R p e s m below meth c s.heap [] (F0 m 26 ls []) := by
    intro ls hf hl
    refine lv_iconst (v := 0) hx hb dX6_someBandIsUntold_26 (by decide) ?_
    have h9 := Option.some.inj hf
    subst h9
    exact ro_zret C (Or.inl rfl) rfl dX6_someBandIsUntold_27
  obtain ⟨rL1, hL1, hk1⟩ := bd_s hf
  refine lp_W (P := fun st => ∀ (ls : Array Slot), lv_has ls 2 [(0, .ref (o 0)), (1, .int st)] → Wc_X6_someBandIsUntold l G o o_numbers o_parts o_figuresDue o_place o_bandDue R p e s m below meth c s.heap [] (F0 m 2 ls [])) ?_ FU (0 : Int32) hL1 ls (lv_sub hl [1, 0] rfl)
  intro v1 oc1 hf hI hE ls hl
  have hl : lv_has ls 2 [(0, .ref (o 0)), (1, .int v1)] := hl
  have hf : f_X6_someBandIsUntold_b2 o_numbers v1 = some oc1 := hf
  refine lv_iload_n hx hb dX6_someBandIsUntold_2 rfl (lv_at hl 1 rfl) ?_
  refine lv_bipush (v := 6) hx hb dX6_someBandIsUntold_3 (by decide) ?_
  refine lv_icmp_ge (tgt := 26) hx hb dX6_someBandIsUntold_5 (by decide) (fun c3 => ?_) (fun c3 => ?_)
  · have hf := o_t c3 hf
    cases hf
    have hf : f_X6_someBandIsUntold_x26_1 = some R := by have h9 := hk1; rw [← hE _ rfl] at h9; exact h9
    exact hx26_1 ls hf (lv_sub hl [] rfl)
  · have hf := o_f c3 hf
    refine lv_aload_n hx hb dX6_someBandIsUntold_8 rfl (lv_at hl 0 rfl) ?_
    refine va_get (D := G.1) (ci := 6) (v := .ref (o 1)) (C := RX6) (T := TX6) (N := 5) hx hb ht twX6 hown hK.1 hP 0 rfl rfl 0 (by decide) (ht _ kfl_X6_11) (fun _ h9 => h9) rfl dX6_someBandIsUntold_9 ?_
    refine lv_iload_n hx hb dX6_someBandIsUntold_12 rfl (lv_at hl 1 rfl) ?_
    obtain ⟨g4, hf⟩ := gd_s hf
    refine va_iald hx hb hK.1 hP 1 0 rfl rfl g4 dX6_someBandIsUntold_13 ?_
    refine lv_iconst (v := -1) hx hb dX6_someBandIsUntold_14 (by decide) ?_
    refine lv_icmp_ne (tgt := 20) hx hb dX6_someBandIsUntold_15 (by decide) (fun c5 => ?_) (fun c5 => ?_)
    · have hf := o_f c5 hf
      refine lv_iinc (v := (v1 + (1 : Int32))) (lv' := [(1, .int (v1 + (1 : Int32))), (0, .ref (o 0))]) hx hb dX6_someBandIsUntold_20 hl (k := 1) rfl (by rfl) (by decide) rfl (fun ls hl => ?_)
      refine lv_goto (tgt := 2) hx hb dX6_someBandIsUntold_23 (by decide) ?_
      cases hf
      exact hI _ rfl ls (lv_sub hl [1, 0] rfl)
    · have hf := o_t c5 hf
      refine lv_iconst (v := 1) hx hb dX6_someBandIsUntold_18 (by decide) ?_
      cases hf
      have hf : some (1 : Int32) = some R := by have h9 := hk1; rw [← hE _ rfl] at h9; exact h9
      have h9 := Option.some.inj hf
      subst h9
      exact ro_zret C (Or.inr rfl) rfl dX6_someBandIsUntold_19
abbrev Wc_J0_isLatin1_aae02 (l : Launch) (G : TG) (R : Int32) (p : Program) (e : Env) (s : State) (m : MethodId) (below : List Frame) (meth : Method) (c : Code) (H : Heap) (locs : List Loc) (g : JFrame) : Prop := W p l e ({ frames := 0, cells := 0, slots := 0, locals := 0 }) s m ([.ref G.2.2.2.1] : List Value).toArray below meth c H locs 0 0 (MQ below (roQ (some (.int R))) ([.ref G.2.2.2.1] : List Value).toArray s 0 0 (fun _ => False)) g
set_option maxHeartbeats 4000000 in
set_option maxRecDepth 100000 in
theorem c_J0_isLatin1_aae02 (l : Launch) (G : TG) (R : Int32) (hf : f_J0_isLatin1_aae02 = some R) : RO l yJ0_isLatin1_aae02 cJ0_isLatin1_aae02 1 (some .boolean) ({ frames := 0, cells := 0, slots := 0, locals := 0 }) G [.ref G.2.2.2.1] [] (some (.int R)) := by
  refine RO.mk (by decide +kernel) (Nat.le_of_ble_eq_true rfl) ?_
  intro p e s m below meth c ls C hP hK hl
  have hx := C.1
  have hb := C.2.1
  have hown : s.vm.findClass RJ0 = some m.cls := C.2.2.2.2.2.1
  have ht := C.2.2.2.2.2.2
  have hl : lv_has ls 1 [(0, .ref G.2.2.2.1)] := hl
  show Wc_J0_isLatin1_aae02 l G R p e s m below meth c s.heap [] (F0 m 0 ls [])
  refine va_gets hx hb hK.2.2.2.1 va_S.rf hown (ht _ kfl_J0_38) (fun _ h9 => h9) dJ0_isLatin1_aae02_0 ?_
  refine lv_if_eq (tgt := 17) hx hb dJ0_isLatin1_aae02_3 (by decide) (fun c1 => absurd c1 (by decide)) (fun c1 => ?_)
  refine lv_aload_n hx hb dJ0_isLatin1_aae02_6 rfl (lv_at hl 0 rfl) ?_
  refine vk_getf hx hb (hK.2.2.1.1 0 (by decide)).2.1 va_S.rf hown (ht _ kfl_J0_15) (fun _ h9 => h9) dJ0_isLatin1_aae02_7 ?_
  refine lv_if_ne (tgt := 17) hx hb dJ0_isLatin1_aae02_10 (by decide) (fun c2 => absurd c2 (by decide)) (fun c2 => ?_)
  refine lv_iconst (v := 1) hx hb dJ0_isLatin1_aae02_13 (by decide) ?_
  refine lv_goto (tgt := 18) hx hb dJ0_isLatin1_aae02_14 (by decide) ?_
  have h9 := Option.some.inj hf
  subst h9
  exact ro_zret C (Or.inr rfl) rfl dJ0_isLatin1_aae02_18
abbrev Wc_J0_coder_7d493 (l : Launch) (G : TG) (R : Int32) (p : Program) (e : Env) (s : State) (m : MethodId) (below : List Frame) (meth : Method) (c : Code) (H : Heap) (locs : List Loc) (g : JFrame) : Prop := W p l e ({ frames := 0, cells := 0, slots := 0, locals := 0 }) s m ([.ref G.2.2.2.1] : List Value).toArray below meth c H locs 0 0 (MQ below (roQ (some (.int R))) ([.ref G.2.2.2.1] : List Value).toArray s 0 0 (fun _ => False)) g
set_option maxHeartbeats 4000000 in
set_option maxRecDepth 100000 in
theorem c_J0_coder_7d493 (l : Launch) (G : TG) (R : Int32) (hf : f_J0_coder_7d493 = some R) : RO l yJ0_coder_7d493 cJ0_coder_7d493 1 (some .byte) ({ frames := 0, cells := 0, slots := 0, locals := 0 }) G [.ref G.2.2.2.1] [] (some (.int R)) := by
  refine RO.mk (by decide +kernel) (Nat.le_of_ble_eq_true rfl) ?_
  intro p e s m below meth c ls C hP hK hl
  have hx := C.1
  have hb := C.2.1
  have hown : s.vm.findClass RJ0 = some m.cls := C.2.2.2.2.2.1
  have ht := C.2.2.2.2.2.2
  have hl : lv_has ls 1 [(0, .ref G.2.2.2.1)] := hl
  show Wc_J0_coder_7d493 l G R p e s m below meth c s.heap [] (F0 m 0 ls [])
  refine va_gets hx hb hK.2.2.2.1 va_S.rf hown (ht _ kfl_J0_38) (fun _ h9 => h9) dJ0_coder_7d493_0 ?_
  refine lv_if_eq (tgt := 13) hx hb dJ0_coder_7d493_3 (by decide) (fun c1 => absurd c1 (by decide)) (fun c1 => ?_)
  refine lv_aload_n hx hb dJ0_coder_7d493_6 rfl (lv_at hl 0 rfl) ?_
  refine vk_getf hx hb (hK.2.2.1.1 0 (by decide)).2.1 va_S.rf hown (ht _ kfl_J0_15) (fun _ h9 => h9) dJ0_coder_7d493_7 ?_
  refine lv_goto (tgt := 14) hx hb dJ0_coder_7d493_10 (by decide) ?_
  have h9 := Option.some.inj hf
  subst h9
  exact ro_bret C rfl rfl dJ0_coder_7d493_14
abbrev Wc_J0_length_8abf5 (l : Launch) (G : TG) (R : Int32) (p : Program) (e : Env) (s : State) (m : MethodId) (below : List Frame) (meth : Method) (c : Code) (H : Heap) (locs : List Loc) (g : JFrame) : Prop := W p l e ({ frames := 1, cells := 0, slots := 0, locals := 20 }) s m ([.ref G.2.2.2.1] : List Value).toArray below meth c H locs 0 0 (MQ below (roQ (some (.int R))) ([.ref G.2.2.2.1] : List Value).toArray s 0 0 (fun _ => False)) g
set_option maxHeartbeats 4000000 in
set_option maxRecDepth 100000 in
theorem c_J0_length_8abf5 (l : Launch) (G : TG) (R : Int32) (hf : f_J0_length_8abf5 = some R) : RO l yJ0_length_8abf5 cJ0_length_8abf5 1 (some .int) ({ frames := 1, cells := 0, slots := 0, locals := 20 }) G [.ref G.2.2.2.1] [] (some (.int R)) := by
  refine RO.mk (by decide +kernel) (Nat.le_of_ble_eq_true rfl) ?_
  intro p e s m below meth c ls C hP hK hl
  have hx := C.1
  have hb := C.2.1
  have hown : s.vm.findClass RJ0 = some m.cls := C.2.2.2.2.2.1
  have ht := C.2.2.2.2.2.2
  have hl : lv_has ls 1 [(0, .ref G.2.2.2.1)] := hl
  show Wc_J0_length_8abf5 l G R p e s m below meth c s.heap [] (F0 m 0 ls [])
  refine lv_aload_n hx hb dJ0_length_8abf5_0 rfl (lv_at hl 0 rfl) ?_
  refine vk_getf hx hb (hK.2.2.1.1 0 (by decide)).2.2.1 va_S.rf hown (ht _ kfl_J0_9) (fun _ h9 => h9) dJ0_length_8abf5_1 ?_
  refine va_tlen (v := 6) hx hb (hK.2.2.1.1 0 (by decide)).2.2.2 va_S.rf rfl dJ0_length_8abf5_4 ?_
  refine lv_aload_n hx hb dJ0_length_8abf5_5 rfl (lv_at hl 0 rfl) ?_
  obtain ⟨q1, r1, hf⟩ := bd_s hf
  refine ro_VS (n := 0) (As := []) (rest := [.int (6 : Int32)]) (c_J0_coder_7d493 l G q1 r1) C hK (hP.sub [] rfl) hl kcode_J0_coder_7d493 kml_J0_335 kim_J0_coder_7d493 ksel_J0_coder_7d493 kini_J0 (by decide +kernel) ⟨⟨rfl, rfl⟩, Nat.le_of_ble_eq_true rfl, Nat.le_of_ble_eq_true rfl⟩ ⟨Nat.zero_le _, Nat.zero_le _⟩ ⟨rfl, rfl⟩ rfl rfl (Nat.le_of_ble_eq_true rfl) dJ0_length_8abf5_6 rfl ?_
  refine lv_ishr hx hb dJ0_length_8abf5_9 ?_
  have h9 := Option.some.inj hf
  subst h9
  exact ro_iret C rfl dJ0_length_8abf5_10
abbrev Wc_J1_canEncode_9a6ad (l : Launch) (G : TG) (a0 : Int32) (R : Int32) (p : Program) (e : Env) (s : State) (m : MethodId) (below : List Frame) (meth : Method) (c : Code) (H : Heap) (locs : List Loc) (g : JFrame) : Prop := W p l e ({ frames := 0, cells := 0, slots := 0, locals := 0 }) s m ([.int a0] : List Value).toArray below meth c H locs 0 0 (MQ below (roQ (some (.int R))) ([.int a0] : List Value).toArray s 0 0 (fun _ => False)) g
set_option maxHeartbeats 4000000 in
set_option maxRecDepth 100000 in
theorem c_J1_canEncode_9a6ad (l : Launch) (G : TG) (a0 : Int32) (R : Int32) (hf : f_J1_canEncode_9a6ad a0 = some R) : RO l yJ1_canEncode_9a6ad cJ1_canEncode_9a6ad 1 (some .boolean) ({ frames := 0, cells := 0, slots := 0, locals := 0 }) G [.int a0] [] (some (.int R)) := by
  refine RO.mk (by decide +kernel) (Nat.le_of_ble_eq_true rfl) ?_
  intro p e s m below meth c ls C hP hK hl
  have hx := C.1
  have hb := C.2.1
  have hown : s.vm.findClass RJ1 = some m.cls := C.2.2.2.2.2.1
  have ht := C.2.2.2.2.2.2
  have hl : lv_has ls 1 [(0, .int a0)] := hl
  show Wc_J1_canEncode_9a6ad l G a0 R p e s m below meth c s.heap [] (F0 m 0 ls [])
  refine lv_iload_n hx hb dJ1_canEncode_9a6ad_0 rfl (lv_at hl 0 rfl) ?_
  refine lv_if_lt (tgt := 15) hx hb dJ1_canEncode_9a6ad_1 (by decide) (fun c1 => ?_) (fun c1 => ?_)
  · have hf := o_t c1 hf
    refine lv_iconst (v := 0) hx hb dJ1_canEncode_9a6ad_15 (by decide) ?_
    have h9 := Option.some.inj hf
    subst h9
    exact ro_zret C (Or.inl rfl) rfl dJ1_canEncode_9a6ad_16
  · have hf := o_f c1 hf
    refine lv_iload_n hx hb dJ1_canEncode_9a6ad_4 rfl (lv_at hl 0 rfl) ?_
    refine lv_sipush (v := 255) hx hb dJ1_canEncode_9a6ad_5 (by decide) ?_
    refine lv_icmp_gt (tgt := 15) hx hb dJ1_canEncode_9a6ad_8 (by decide) (fun c3 => ?_) (fun c3 => ?_)
    · have hf := o_t c3 hf
      refine lv_iconst (v := 0) hx hb dJ1_canEncode_9a6ad_15 (by decide) ?_
      have h9 := Option.some.inj hf
      subst h9
      exact ro_zret C (Or.inl rfl) rfl dJ1_canEncode_9a6ad_16
    · have hf := o_f c3 hf
      refine lv_iconst (v := 1) hx hb dJ1_canEncode_9a6ad_11 (by decide) ?_
      refine lv_goto (tgt := 16) hx hb dJ1_canEncode_9a6ad_12 (by decide) ?_
      have h9 := Option.some.inj hf
      subst h9
      exact ro_zret C (Or.inr rfl) rfl dJ1_canEncode_9a6ad_16
abbrev Wc_J1_indexOfChar_4cfef (l : Launch) (G : TG) (a1 : Int32) (a2 : Int32) (a3 : Int32) (R : Int32) (p : Program) (e : Env) (s : State) (m : MethodId) (below : List Frame) (meth : Method) (c : Code) (H : Heap) (locs : List Loc) (g : JFrame) : Prop := W p l e ({ frames := 0, cells := 0, slots := 0, locals := 0 }) s m ([.ref G.2.2.2.2, .int a1, .int a2, .int a3] : List Value).toArray below meth c H locs 0 0 (MQ below (roQ (some (.int R))) ([.ref G.2.2.2.2, .int a1, .int a2, .int a3] : List Value).toArray s 0 0 (fun _ => False)) g
set_option maxHeartbeats 4000000 in
set_option maxRecDepth 100000 in
theorem c_J1_indexOfChar_4cfef (l : Launch) (G : TG) (a1 : Int32) (a2 : Int32) (a3 : Int32) (R : Int32) (hf : f_J1_indexOfChar_4cfef a1 a2 a3 = some R) : RO l yJ1_indexOfChar_4cfef cJ1_indexOfChar_4cfef 6 (some .int) ({ frames := 0, cells := 0, slots := 0, locals := 0 }) G [.ref G.2.2.2.2, .int a1, .int a2, .int a3] [] (some (.int R)) := by
  refine RO.mk (by decide +kernel) (Nat.le_of_ble_eq_true rfl) ?_
  intro p e s m below meth c ls C hP hK hl
  have hx := C.1
  have hb := C.2.1
  have hown : s.vm.findClass RJ1 = some m.cls := C.2.2.2.2.2.1
  have ht := C.2.2.2.2.2.2
  have hl : lv_has ls 6 [(0, .ref G.2.2.2.2), (1, .int a1), (2, .int a2), (3, .int a3)] := hl
  show Wc_J1_indexOfChar_4cfef l G a1 a2 a3 R p e s m below meth c s.heap [] (F0 m 0 ls [])
  refine lv_iload_n hx hb dJ1_indexOfChar_4cfef_0 rfl (lv_at hl 1 rfl) ?_
  refine lv_i2b (v := (a1.toInt8.toInt32)) hx hb dJ1_indexOfChar_4cfef_1 rfl ?_
  refine lv_istore (lv' := [(4, .int (a1.toInt8.toInt32)), (0, .ref G.2.2.2.2), (1, .int a1), (2, .int a2), (3, .int a3)]) hx hb dJ1_indexOfChar_4cfef_2 hl (by decide) rfl (fun ls hl => ?_)
  refine lv_iload_n hx hb dJ1_indexOfChar_4cfef_4 rfl (lv_at hl 3 rfl) ?_
  refine lv_istore (lv' := [(5, .int a2), (4, .int (a1.toInt8.toInt32)), (0, .ref G.2.2.2.2), (1, .int a1), (2, .int a2), (3, .int a3)]) hx hb dJ1_indexOfChar_4cfef_5 hl (by decide) rfl (fun ls hl => ?_)
  have hx31_1 : ∀ (ls : Array Slot), f_J1_indexOfChar_4cfef_x31_1 = some R → lv_has ls 6 [] → Wc_J1_indexOfChar_4cfef l G a1 a2 a3 R p e s m below meth c s.heap [] (F0 m 31 ls []) := by
    intro ls hf hl
    refine lv_iconst (v := -1) hx hb dJ1_indexOfChar_4cfef_31 (by decide) ?_
    have h9 := Option.some.inj hf
    subst h9
    exact ro_iret C rfl dJ1_indexOfChar_4cfef_32
  obtain ⟨rL1, hL1, hk1⟩ := bd_s hf
  refine lp_W (P := fun st => ∀ (ls : Array Slot), lv_has ls 6 [(0, .ref G.2.2.2.2), (3, .int a3), (4, .int st.1), (5, .int st.2)] → Wc_J1_indexOfChar_4cfef l G a1 a2 a3 R p e s m below meth c s.heap [] (F0 m 7 ls [])) ?_ FU ((a1.toInt8.toInt32), a2) hL1 ls (lv_sub hl [2, 5, 1, 0] rfl)
  intro ⟨v4, v5⟩ oc1 hf hI hE ls hl
  have hl : lv_has ls 6 [(0, .ref G.2.2.2.2), (3, .int a3), (4, .int v4), (5, .int v5)] := hl
  have hf : f_J1_indexOfChar_4cfef_b7 a3 v4 v5 = some oc1 := hf
  refine lv_iload hx hb dJ1_indexOfChar_4cfef_7 (lv_at hl 3 rfl) ?_
  refine lv_iload_n hx hb dJ1_indexOfChar_4cfef_9 rfl (lv_at hl 1 rfl) ?_
  refine lv_icmp_ge (tgt := 31) hx hb dJ1_indexOfChar_4cfef_10 (by decide) (fun c3 => ?_) (fun c3 => ?_)
  · have hf := o_t c3 hf
    cases hf
    have hf : f_J1_indexOfChar_4cfef_x31_1 = some R := by have h9 := hk1; rw [← hE _ rfl] at h9; exact h9
    exact hx31_1 ls hf (lv_sub hl [] rfl)
  · have hf := o_f c3 hf
    refine lv_aload_n hx hb dJ1_indexOfChar_4cfef_13 rfl (lv_at hl 0 rfl) ?_
    refine lv_iload hx hb dJ1_indexOfChar_4cfef_14 (lv_at hl 3 rfl) ?_
    obtain ⟨g4, hf⟩ := gd_s hf
    refine va_tb (v := .int (kB v5.toNatClampNeg)) hx hb (hK.2.2.1.1 0 (by decide)).2.2.2 va_S.rf g4 rfl dJ1_indexOfChar_4cfef_16 ?_
    refine lv_iload hx hb dJ1_indexOfChar_4cfef_17 (lv_at hl 2 rfl) ?_
    refine lv_icmp_ne (tgt := 25) hx hb dJ1_indexOfChar_4cfef_19 (by decide) (fun c5 => ?_) (fun c5 => ?_)
    · have hf := o_f c5 hf
      refine lv_iinc (v := (v5 + (1 : Int32))) (lv' := [(5, .int (v5 + (1 : Int32))), (0, .ref G.2.2.2.2), (3, .int a3), (4, .int v4)]) hx hb dJ1_indexOfChar_4cfef_25 hl (k := 3) rfl (by rfl) (by decide) rfl (fun ls hl => ?_)
      refine lv_goto (tgt := 7) hx hb dJ1_indexOfChar_4cfef_28 (by decide) ?_
      cases hf
      exact hI _ rfl ls (lv_sub hl [1, 2, 3, 0] rfl)
    · have hf := o_t c5 hf
      refine lv_iload hx hb dJ1_indexOfChar_4cfef_22 (lv_at hl 3 rfl) ?_
      cases hf
      have hf : some v5 = some R := by have h9 := hk1; rw [← hE _ rfl] at h9; exact h9
      have h9 := Option.some.inj hf
      subst h9
      exact ro_iret C rfl dJ1_indexOfChar_4cfef_24
abbrev Wc_J1_indexOf_4cfef (l : Launch) (G : TG) (a1 : Int32) (a2 : Int32) (a3 : Int32) (R : Int32) (p : Program) (e : Env) (s : State) (m : MethodId) (below : List Frame) (meth : Method) (c : Code) (H : Heap) (locs : List Loc) (g : JFrame) : Prop := W p l e ({ frames := 1, cells := 0, slots := 0, locals := 40 }) s m ([.ref G.2.2.2.2, .int a1, .int a2, .int a3] : List Value).toArray below meth c H locs 0 0 (MQ below (roQ (some (.int R))) ([.ref G.2.2.2.2, .int a1, .int a2, .int a3] : List Value).toArray s 0 0 (fun _ => False)) g
set_option maxHeartbeats 4000000 in
set_option maxRecDepth 100000 in
theorem c_J1_indexOf_4cfef (l : Launch) (G : TG) (a1 : Int32) (a2 : Int32) (a3 : Int32) (R : Int32) (hf : f_J1_indexOf_4cfef a1 a2 a3 = some R) : RO l yJ1_indexOf_4cfef cJ1_indexOf_4cfef 4 (some .int) ({ frames := 1, cells := 0, slots := 0, locals := 40 }) G [.ref G.2.2.2.2, .int a1, .int a2, .int a3] [] (some (.int R)) := by
  refine RO.mk (by decide +kernel) (Nat.le_of_ble_eq_true rfl) ?_
  intro p e s m below meth c ls C hP hK hl
  have hx := C.1
  have hb := C.2.1
  have hown : s.vm.findClass RJ1 = some m.cls := C.2.2.2.2.2.1
  have ht := C.2.2.2.2.2.2
  have hl : lv_has ls 4 [(0, .ref G.2.2.2.2), (1, .int a1), (2, .int a2), (3, .int a3)] := hl
  show Wc_J1_indexOf_4cfef l G a1 a2 a3 R p e s m below meth c s.heap [] (F0 m 0 ls [])
  refine lv_iload_n hx hb dJ1_indexOf_4cfef_0 rfl (lv_at hl 1 rfl) ?_
  obtain ⟨q1, r1, hf⟩ := bd_s hf
  refine ro_S (n := 1) (As := [.int a1]) (rest := []) (c_J1_canEncode_9a6ad l G a1 q1 r1) C hK (hP.sub [] rfl) hl kcode_J1_canEncode_9a6ad kml_J1_88 kst_J1_canEncode_9a6ad kini_J1 (by decide +kernel) ⟨⟨rfl, rfl⟩, Nat.le_of_ble_eq_true rfl, Nat.le_of_ble_eq_true rfl⟩ ⟨Nat.zero_le _, Nat.zero_le _⟩ rfl rfl (Nat.le_of_ble_eq_true rfl) dJ1_indexOf_4cfef_1 rfl ?_
  refine lv_if_ne (tgt := 9) hx hb dJ1_indexOf_4cfef_4 (by decide) (fun c2 => ?_) (fun c2 => ?_)
  · have hf := o_f c2 hf
    refine lv_iload_n hx hb dJ1_indexOf_4cfef_9 rfl (lv_at hl 2 rfl) ?_
    refine lv_iconst (v := 0) hx hb dJ1_indexOf_4cfef_10 (by decide) ?_
    refine va_mmax hx hb (C.2.2.1.trans hl.1.symm) hown (ht _ kml_J1_92) (ht _ kst_J9_max_7cf53) (ht _ kini_J9) (ht _ kcode_J9_max_7cf53) (Nat.le_of_ble_eq_true rfl) (Nat.le_of_ble_eq_true rfl) (Nat.zero_le _) (Nat.zero_le _) dJ1_indexOf_4cfef_11 ?_
    obtain ⟨u3, e3, hf⟩ := bd_s hf
    refine lv_re (Option.some.inj e3).symm ?_
    refine lv_istore_n (lv' := [(2, .int u3), (0, .ref G.2.2.2.2), (1, .int a1), (3, .int a3)]) hx hb dJ1_indexOf_4cfef_14 rfl hl (by decide) rfl (fun ls hl => ?_)
    refine lv_iload_n hx hb dJ1_indexOf_4cfef_15 rfl (lv_at hl 3 rfl) ?_
    refine lv_aload_n hx hb dJ1_indexOf_4cfef_16 rfl (lv_at hl 1 rfl) ?_
    refine va_tlen (v := 6) hx hb (hK.2.2.1.1 0 (by decide)).2.2.2 va_S.rf rfl dJ1_indexOf_4cfef_17 ?_
    refine va_mmin hx hb (C.2.2.1.trans hl.1.symm) hown (ht _ kml_J1_38) (ht _ kst_J9_min_7cf53) (ht _ kini_J9) (ht _ kcode_J9_min_7cf53) (Nat.le_of_ble_eq_true rfl) (Nat.le_of_ble_eq_true rfl) (Nat.zero_le _) (Nat.zero_le _) dJ1_indexOf_4cfef_18 ?_
    obtain ⟨u4, e4, hf⟩ := bd_s hf
    refine lv_re (Option.some.inj e4).symm ?_
    refine lv_istore_n (lv' := [(3, .int u4), (2, .int u3), (0, .ref G.2.2.2.2), (1, .int a1)]) hx hb dJ1_indexOf_4cfef_21 rfl hl (by decide) rfl (fun ls hl => ?_)
    refine lv_iload_n hx hb dJ1_indexOf_4cfef_22 rfl (lv_at hl 1 rfl) ?_
    refine lv_iload_n hx hb dJ1_indexOf_4cfef_23 rfl (lv_at hl 0 rfl) ?_
    refine lv_icmp_lt (tgt := 29) hx hb dJ1_indexOf_4cfef_24 (by decide) (fun c5 => ?_) (fun c5 => ?_)
    · have hf := o_t c5 hf
      refine lv_aload_n hx hb dJ1_indexOf_4cfef_29 rfl (lv_at hl 2 rfl) ?_
      refine lv_iload_n hx hb dJ1_indexOf_4cfef_30 rfl (lv_at hl 3 rfl) ?_
      refine lv_iload_n hx hb dJ1_indexOf_4cfef_31 rfl (lv_at hl 1 rfl) ?_
      refine lv_iload_n hx hb dJ1_indexOf_4cfef_32 rfl (lv_at hl 0 rfl) ?_
      obtain ⟨q6, r6, hf⟩ := bd_s hf
      refine ro_S (n := 4) (As := [.ref G.2.2.2.2, .int a1, .int u3, .int u4]) (rest := []) (c_J1_indexOfChar_4cfef l G a1 u3 u4 q6 r6) C hK (hP.sub [] rfl) hl kcode_J1_indexOfChar_4cfef kml_J1_95 kst_J1_indexOfChar_4cfef kini_J1 (by decide +kernel) ⟨⟨rfl, rfl⟩, Nat.le_of_ble_eq_true rfl, Nat.le_of_ble_eq_true rfl⟩ ⟨Nat.zero_le _, Nat.zero_le _⟩ rfl rfl (Nat.le_of_ble_eq_true rfl) dJ1_indexOf_4cfef_33 rfl ?_
      have h9 := Option.some.inj hf
      subst h9
      exact ro_iret C rfl dJ1_indexOf_4cfef_36
    · have hf := o_f c5 hf
      refine lv_iconst (v := -1) hx hb dJ1_indexOf_4cfef_27 (by decide) ?_
      have h9 := Option.some.inj hf
      subst h9
      exact ro_iret C rfl dJ1_indexOf_4cfef_28
  · have hf := o_t c2 hf
    refine lv_iconst (v := -1) hx hb dJ1_indexOf_4cfef_7 (by decide) ?_
    have h9 := Option.some.inj hf
    subst h9
    exact ro_iret C rfl dJ1_indexOf_4cfef_8
abbrev Wc_J0_indexOf_7cf53 (l : Launch) (G : TG) (a1 : Int32) (a2 : Int32) (R : Int32) (p : Program) (e : Env) (s : State) (m : MethodId) (below : List Frame) (meth : Method) (c : Code) (H : Heap) (locs : List Loc) (g : JFrame) : Prop := W p l e ({ frames := 2, cells := 0, slots := 0, locals := 63 }) s m ([.ref G.2.2.2.1, .int a1, .int a2] : List Value).toArray below meth c H locs 0 0 (MQ below (roQ (some (.int R))) ([.ref G.2.2.2.1, .int a1, .int a2] : List Value).toArray s 0 0 (fun _ => False)) g
set_option maxHeartbeats 4000000 in
set_option maxRecDepth 100000 in
theorem c_J0_indexOf_7cf53 (l : Launch) (G : TG) (a1 : Int32) (a2 : Int32) (R : Int32) (hf : f_J0_indexOf_7cf53 a1 a2 = some R) : RO l yJ0_indexOf_7cf53 cJ0_indexOf_7cf53 3 (some .int) ({ frames := 2, cells := 0, slots := 0, locals := 63 }) G [.ref G.2.2.2.1, .int a1, .int a2] [] (some (.int R)) := by
  refine RO.mk (by decide +kernel) (Nat.le_of_ble_eq_true rfl) ?_
  intro p e s m below meth c ls C hP hK hl
  have hx := C.1
  have hb := C.2.1
  have hown : s.vm.findClass RJ0 = some m.cls := C.2.2.2.2.2.1
  have ht := C.2.2.2.2.2.2
  have hl : lv_has ls 3 [(0, .ref G.2.2.2.1), (1, .int a1), (2, .int a2)] := hl
  show Wc_J0_indexOf_7cf53 l G a1 a2 R p e s m below meth c s.heap [] (F0 m 0 ls [])
  refine lv_aload_n hx hb dJ0_indexOf_7cf53_0 rfl (lv_at hl 0 rfl) ?_
  obtain ⟨q1, r1, hf⟩ := bd_s hf
  refine ro_VS (n := 0) (As := []) (rest := []) (c_J0_isLatin1_aae02 l G q1 r1) C hK (hP.sub [] rfl) hl kcode_J0_isLatin1_aae02 kml_J0_492 kim_J0_isLatin1_aae02 ksel_J0_isLatin1_aae02 kini_J0 (by decide +kernel) ⟨⟨rfl, rfl⟩, Nat.le_of_ble_eq_true rfl, Nat.le_of_ble_eq_true rfl⟩ ⟨Nat.zero_le _, Nat.zero_le _⟩ ⟨rfl, rfl⟩ rfl rfl (Nat.le_of_ble_eq_true rfl) dJ0_indexOf_7cf53_1 rfl ?_
  refine lv_if_eq (tgt := 23) hx hb dJ0_indexOf_7cf53_4 (by decide) (fun c2 => ?_) (fun c2 => ?_)
  · have hf := o_t c2 hf
    refine lv_aload_n hx hb dJ0_indexOf_7cf53_23 rfl (lv_at hl 0 rfl) ?_
    refine vk_getf hx hb (hK.2.2.1.1 0 (by decide)).2.2.1 va_S.rf hown (ht _ kfl_J0_9) (fun _ h9 => h9) dJ0_indexOf_7cf53_24 ?_
    refine lv_iload_n hx hb dJ0_indexOf_7cf53_27 rfl (lv_at hl 1 rfl) ?_
    refine lv_iload_n hx hb dJ0_indexOf_7cf53_28 rfl (lv_at hl 2 rfl) ?_
    refine lv_aload_n hx hb dJ0_indexOf_7cf53_29 rfl (lv_at hl 0 rfl) ?_
    obtain ⟨q3, r3, hf⟩ := bd_s hf
    refine ro_VS (n := 0) (As := []) (rest := [.int a2, .int a1, .ref G.2.2.2.2]) (c_J0_length_8abf5 l G q3 r3) C hK (hP.sub [] rfl) hl kcode_J0_length_8abf5 kml_J0_505 kim_J0_length_8abf5 ksel_J0_length_8abf5 kini_J0 (by decide +kernel) ⟨⟨rfl, rfl⟩, Nat.le_of_ble_eq_true rfl, Nat.le_of_ble_eq_true rfl⟩ ⟨Nat.zero_le _, Nat.zero_le _⟩ ⟨rfl, rfl⟩ rfl rfl (Nat.le_of_ble_eq_true rfl) dJ0_indexOf_7cf53_30 rfl ?_
    cases hf
  · have hf := o_f c2 hf
    refine lv_aload_n hx hb dJ0_indexOf_7cf53_7 rfl (lv_at hl 0 rfl) ?_
    refine vk_getf hx hb (hK.2.2.1.1 0 (by decide)).2.2.1 va_S.rf hown (ht _ kfl_J0_9) (fun _ h9 => h9) dJ0_indexOf_7cf53_8 ?_
    refine lv_iload_n hx hb dJ0_indexOf_7cf53_11 rfl (lv_at hl 1 rfl) ?_
    refine lv_iload_n hx hb dJ0_indexOf_7cf53_12 rfl (lv_at hl 2 rfl) ?_
    refine lv_aload_n hx hb dJ0_indexOf_7cf53_13 rfl (lv_at hl 0 rfl) ?_
    obtain ⟨q4, r4, hf⟩ := bd_s hf
    refine ro_VS (n := 0) (As := []) (rest := [.int a2, .int a1, .ref G.2.2.2.2]) (c_J0_length_8abf5 l G q4 r4) C hK (hP.sub [] rfl) hl kcode_J0_length_8abf5 kml_J0_505 kim_J0_length_8abf5 ksel_J0_length_8abf5 kini_J0 (by decide +kernel) ⟨⟨rfl, rfl⟩, Nat.le_of_ble_eq_true rfl, Nat.le_of_ble_eq_true rfl⟩ ⟨Nat.zero_le _, Nat.zero_le _⟩ ⟨rfl, rfl⟩ rfl rfl (Nat.le_of_ble_eq_true rfl) dJ0_indexOf_7cf53_14 rfl ?_
    obtain ⟨q5, r5, hf⟩ := bd_s hf
    refine ro_S (n := 4) (As := [.ref G.2.2.2.2, .int a1, .int a2, .int q4]) (rest := []) (c_J1_indexOf_4cfef l G a1 a2 q4 q5 r5) C hK (hP.sub [] rfl) hl kcode_J1_indexOf_4cfef kml_J0_637 kst_J1_indexOf_4cfef kini_J1 (by decide +kernel) ⟨⟨rfl, rfl⟩, Nat.le_of_ble_eq_true rfl, Nat.le_of_ble_eq_true rfl⟩ ⟨Nat.zero_le _, Nat.zero_le _⟩ rfl rfl (Nat.le_of_ble_eq_true rfl) dJ0_indexOf_7cf53_17 rfl ?_
    refine lv_goto (tgt := 36) hx hb dJ0_indexOf_7cf53_20 (by decide) ?_
    have h9 := Option.some.inj hf
    subst h9
    exact ro_iret C rfl dJ0_indexOf_7cf53_36
abbrev Wc_J0_indexOf_0f7a4 (l : Launch) (G : TG) (a1 : Int32) (R : Int32) (p : Program) (e : Env) (s : State) (m : MethodId) (below : List Frame) (meth : Method) (c : Code) (H : Heap) (locs : List Loc) (g : JFrame) : Prop := W p l e ({ frames := 3, cells := 0, slots := 0, locals := 85 }) s m ([.ref G.2.2.2.1, .int a1] : List Value).toArray below meth c H locs 0 0 (MQ below (roQ (some (.int R))) ([.ref G.2.2.2.1, .int a1] : List Value).toArray s 0 0 (fun _ => False)) g
set_option maxHeartbeats 4000000 in
set_option maxRecDepth 100000 in
theorem c_J0_indexOf_0f7a4 (l : Launch) (G : TG) (a1 : Int32) (R : Int32) (hf : f_J0_indexOf_0f7a4 a1 = some R) : RO l yJ0_indexOf_0f7a4 cJ0_indexOf_0f7a4 2 (some .int) ({ frames := 3, cells := 0, slots := 0, locals := 85 }) G [.ref G.2.2.2.1, .int a1] [] (some (.int R)) := by
  refine RO.mk (by decide +kernel) (Nat.le_of_ble_eq_true rfl) ?_
  intro p e s m below meth c ls C hP hK hl
  have hx := C.1
  have hb := C.2.1
  have hown : s.vm.findClass RJ0 = some m.cls := C.2.2.2.2.2.1
  have ht := C.2.2.2.2.2.2
  have hl : lv_has ls 2 [(0, .ref G.2.2.2.1), (1, .int a1)] := hl
  show Wc_J0_indexOf_0f7a4 l G a1 R p e s m below meth c s.heap [] (F0 m 0 ls [])
  refine lv_aload_n hx hb dJ0_indexOf_0f7a4_0 rfl (lv_at hl 0 rfl) ?_
  refine lv_iload_n hx hb dJ0_indexOf_0f7a4_1 rfl (lv_at hl 1 rfl) ?_
  refine lv_iconst (v := 0) hx hb dJ0_indexOf_0f7a4_2 (by decide) ?_
  obtain ⟨q1, r1, hf⟩ := bd_s hf
  refine ro_VS (n := 2) (As := [.int a1, .int (0 : Int32)]) (rest := []) (c_J0_indexOf_7cf53 l G a1 (0 : Int32) q1 r1) C hK (hP.sub [] rfl) hl kcode_J0_indexOf_7cf53 kml_J0_633 kim_J0_indexOf_7cf53 ksel_J0_indexOf_7cf53 kini_J0 (by decide +kernel) ⟨⟨rfl, rfl⟩, Nat.le_of_ble_eq_true rfl, Nat.le_of_ble_eq_true rfl⟩ ⟨Nat.zero_le _, Nat.zero_le _⟩ ⟨rfl, rfl⟩ rfl rfl (Nat.le_of_ble_eq_true rfl) dJ0_indexOf_0f7a4_3 rfl ?_
  have h9 := Option.some.inj hf
  subst h9
  exact ro_iret C rfl dJ0_indexOf_0f7a4_6
abbrev Wc_X6_takesKind (l : Launch) (G : TG) (o : Nat → Nat) (o_numbers : Nat → Int32) (o_parts : Int32) (o_figuresDue : Int32) (o_place : Int32) (o_bandDue : Int32) (a1 : Int32) (R : Int32 × (Nat → Int32) × Int32 × Int32 × Int32) (p : Program) (e : Env) (s : State) (m : MethodId) (below : List Frame) (meth : Method) (c : Code) (A : Nat → Prop) (H : Heap) (locs : List Loc) (g : JFrame) : Prop := W p l e ({ frames := 4, cells := 0, slots := 0, locals := 106 }) s m ([.ref (o 0), .int a1] : List Value).toArray below meth c H locs 0 0 (MQ below (rwQ G (some (.int R.1)) [(oX6 o o_parts R.2.2.1 R.2.2.2.1 R.2.2.2.2), (wI G (o 1) 12 R.2.1)] A) ([.ref (o 0), .int a1] : List Value).toArray s 0 0 A) g
set_option maxHeartbeats 4000000 in
set_option maxRecDepth 100000 in
theorem c_X6_takesKind (l : Launch) (G : TG) (o : Nat → Nat) (o_numbers : Nat → Int32) (o_parts : Int32) (o_figuresDue : Int32) (o_place : Int32) (o_bandDue : Int32) (a1 : Int32) (R : Int32 × (Nat → Int32) × Int32 × Int32 × Int32) (hf : f_X6_takesKind o_numbers o_figuresDue o_place o_bandDue a1 = some R) : RW l yX6_takesKind cX6_takesKind 3 (some .boolean) ({ frames := 4, cells := 0, slots := 0, locals := 106 }) G [.ref (o 0), .int a1] [(oX6 o o_parts o_figuresDue o_place o_bandDue), (wI G (o 1) 12 o_numbers)] (some (.int R.1)) [(oX6 o o_parts R.2.2.1 R.2.2.2.1 R.2.2.2.2), (wI G (o 1) 12 R.2.1)] := by
  refine RW.mk (by decide +kernel) (Nat.le_of_ble_eq_true rfl) ?_
  intro p e s m below meth c ls A C hP hD hA hz hK hl hS
  have hx := C.1
  have hb := C.2.1
  have hown : s.vm.findClass RX6 = some m.cls := C.2.2.2.2.2.1
  have ht := C.2.2.2.2.2.2
  have hl : lv_has ls 3 [(0, .ref (o 0)), (1, .int a1)] := hl
  show Wc_X6_takesKind l G o o_numbers o_parts o_figuresDue o_place o_bandDue a1 R p e s m below meth c A s.heap [] (F0 m 0 ls [])
  obtain ⟨H, eH, hP, hS⟩ : ∃ H, H = s.heap ∧ va_P G.1 vwCl [(oX6 o o_parts o_figuresDue o_place o_bandDue), (wI G (o 1) 12 o_numbers)] H ∧ va_S A s.heap H [] := ⟨_, rfl, hP, hS⟩
  obtain ⟨locs, el, hS⟩ : ∃ locs : List Loc, locs = [] ∧ va_S A s.heap H locs := ⟨_, rfl, hS⟩
  have key : Wc_X6_takesKind l G o o_numbers o_parts o_figuresDue o_place o_bandDue a1 R p e s m below meth c A H locs (F0 m 0 ls []) := by
    refine lv_iload_n hx hb dX6_takesKind_0 rfl (lv_at hl 1 rfl) ?_
    refine lv_bipush (v := 76) hx hb dX6_takesKind_1 (by decide) ?_
    refine lv_icmp_ne (tgt := 19) hx hb dX6_takesKind_3 (by decide) (fun c1 => ?_) (fun c1 => ?_)
    · have hf := o_f c1 hf
      refine va_ldcS hx hb hown hK.2.2.2.2 dX6_takesKind_19 ?_
      refine lv_iload_n hx hb dX6_takesKind_21 rfl (lv_at hl 1 rfl) ?_
      refine lv_i2c (v := ((a1.toUInt32 % 65536).toInt32)) hx hb dX6_takesKind_22 rfl ?_
      obtain ⟨q2, r2, hf⟩ := bd_s hf
      refine ro_VS (n := 1) (As := [.int ((a1.toUInt32 % 65536).toInt32)]) (rest := []) (c_J0_indexOf_0f7a4 l G ((a1.toUInt32 % 65536).toInt32) q2 r2) C (hK.at hS hz) (hP.sub [] rfl) hl kcode_J0_indexOf_0f7a4 kml_X6_70 kim_J0_indexOf_0f7a4 ksel_J0_indexOf_0f7a4 kini_J0 (by decide +kernel) ⟨⟨rfl, rfl⟩, Nat.le_of_ble_eq_true rfl, Nat.le_of_ble_eq_true rfl⟩ ⟨Nat.zero_le _, Nat.zero_le _⟩ ⟨rfl, rfl⟩ rfl rfl (Nat.le_of_ble_eq_true rfl) dX6_takesKind_23 rfl ?_
      refine lv_istore_n (lv' := [(2, .int q2), (0, .ref (o 0)), (1, .int a1)]) hx hb dX6_takesKind_26 rfl hl (by decide) rfl (fun ls hl => ?_)
      refine lv_iload_n hx hb dX6_takesKind_27 rfl (lv_at hl 0 rfl) ?_
      refine lv_if_lt (tgt := 46) hx hb dX6_takesKind_28 (by decide) (fun c3 => ?_) (fun c3 => ?_)
      · have hf := o_t c3 hf
        refine lv_iconst (v := 0) hx hb dX6_takesKind_46 (by decide) ?_
        have h9 := Option.some.inj hf
        subst h9
        exact rw_zret C (Or.inl rfl) rfl hP hD hS dX6_takesKind_47
      · have hf := o_f c3 hf
        refine lv_aload_n hx hb dX6_takesKind_31 rfl (lv_at hl 1 rfl) ?_
        refine lv_bipush (v := 6) hx hb dX6_takesKind_32 (by decide) ?_
        refine lv_iload_n hx hb dX6_takesKind_34 rfl (lv_at hl 0 rfl) ?_
        refine lv_iadd hx hb dX6_takesKind_35 ?_
        obtain ⟨q5, r5, hf⟩ := bd_s hf
        refine rw_V (n := 1) (As := [.int ((6 : Int32) + q2)]) (rest := []) (wr := []) (ws2 := [(oX6 o o_parts q5.2.2.1 q5.2.2.2 o_bandDue), (wI G (o 1) 12 q5.2.1)]) (c_X6_opens l G o o_numbers o_parts o_figuresDue o_place o_bandDue ((6 : Int32) + q2) q5 r5) C hK hP hD hS hA hz hl [0, 1] [] [0, 1] rfl rfl rfl rfl rfl (by decide) rfl rfl rfl kcode_X6_opens kml_X6_76 kim_X6_opens ksel_X6_opens kini_X6 (by decide +kernel) ⟨⟨rfl, rfl⟩, Nat.le_of_ble_eq_true rfl, Nat.le_of_ble_eq_true rfl⟩ ⟨Nat.zero_le _, Nat.zero_le _⟩ rfl rfl rfl rfl rfl (Nat.le_of_ble_eq_true rfl) dX6_takesKind_36 rfl (fun H locs hP hD hS => ?_)
        refine lv_if_eq (tgt := 46) hx hb dX6_takesKind_39 (by decide) (fun c6 => ?_) (fun c6 => ?_)
        · have hf := o_t c6 hf
          refine lv_iconst (v := 0) hx hb dX6_takesKind_46 (by decide) ?_
          have h9 := Option.some.inj hf
          subst h9
          exact rw_zret C (Or.inl rfl) rfl hP hD hS dX6_takesKind_47
        · have hf := o_f c6 hf
          refine lv_iconst (v := 1) hx hb dX6_takesKind_42 (by decide) ?_
          refine lv_goto (tgt := 47) hx hb dX6_takesKind_43 (by decide) ?_
          have h9 := Option.some.inj hf
          subst h9
          exact rw_zret C (Or.inr rfl) rfl hP hD hS dX6_takesKind_47
    · have hf := o_t c1 hf
      refine lv_aload_n hx hb dX6_takesKind_6 rfl (lv_at hl 0 rfl) ?_
      refine lv_aload_n hx hb dX6_takesKind_7 rfl (lv_at hl 0 rfl) ?_
      obtain ⟨q9, r9, hf⟩ := bd_s hf
      refine ro_V (n := 0) (As := []) (rest := [.ref (o 0)]) (c_X6_someBandIsUntold l G o o_numbers o_parts o_figuresDue o_place o_bandDue q9 r9) C (hK.at hS hz) (hP.sub [0, 1] rfl) hl kcode_X6_someBandIsUntold kml_X6_64 kim_X6_someBandIsUntold ksel_X6_someBandIsUntold kini_X6 (by decide +kernel) ⟨⟨rfl, rfl⟩, Nat.le_of_ble_eq_true rfl, Nat.le_of_ble_eq_true rfl⟩ ⟨Nat.zero_le _, Nat.zero_le _⟩ rfl rfl rfl rfl rfl (Nat.le_of_ble_eq_true rfl) dX6_takesKind_8 rfl ?_
      obtain ⟨z10, hf⟩ := zb_s hf
      refine va_put (D := G.1) (ci := 6) (v := .int q9) (ty := .boolean) (C := RX6) (T := TX6) (N := 5) hx hb ht twX6 tyX6 tyX6_ok nmX6 hown hK.1 hP hD hS 0 rfl rfl 4 (by decide) (ht _ kfl_X6_36) (fun _ h9 => h9) rfl (by decide +kernel) (zb_n z10) (zb_f z10) (Nat.le_of_ble_eq_true rfl) dX6_takesKind_11 (fun H locs hP hD hS => ?_)
      have hP : va_P G.1 vwCl [(oX6 o o_parts o_figuresDue o_place q9), (wI G (o 1) 12 o_numbers)] H := hP
      have hD : va_D A [(oX6 o o_parts o_figuresDue o_place q9), (wI G (o 1) 12 o_numbers)] := hD
      refine lv_aload_n hx hb dX6_takesKind_14 rfl (lv_at hl 0 rfl) ?_
      refine va_get (D := G.1) (ci := 6) (v := .int q9) (C := RX6) (T := TX6) (N := 5) hx hb ht twX6 hown hK.1 hP 0 rfl rfl 4 (by decide) (ht _ kfl_X6_36) (fun _ h9 => h9) rfl dX6_takesKind_15 ?_
      obtain ⟨z11, hf⟩ := zb_s hf
      have h9 := Option.some.inj hf
      subst h9
      exact rw_zret C z11 rfl hP hD hS dX6_takesKind_18
  rw [eH, el] at key
  exact key
abbrev Wc_X6_takes (l : Launch) (G : TG) (o : Nat → Nat) (o_numbers : Nat → Int32) (o_parts : Int32) (o_figuresDue : Int32) (o_place : Int32) (o_bandDue : Int32) (a1 : Int32) (R : Int32 × (Nat → Int32) × Int32 × Int32 × Int32 × Int32) (p : Program) (e : Env) (s : State) (m : MethodId) (below : List Frame) (meth : Method) (c : Code) (A : Nat → Prop) (H : Heap) (locs : List Loc) (g : JFrame) : Prop := W p l e ({ frames := 5, cells := 0, slots := 0, locals := 128 }) s m ([.ref (o 0), .int a1] : List Value).toArray below meth c H locs 0 0 (MQ below (rwQ G (some (.int R.1)) [(oX6 o R.2.2.1 R.2.2.2.1 R.2.2.2.2.1 R.2.2.2.2.2), (wI G (o 1) 12 R.2.1)] A) ([.ref (o 0), .int a1] : List Value).toArray s 0 0 A) g
set_option maxHeartbeats 4000000 in
set_option maxRecDepth 100000 in
theorem c_X6_takes (l : Launch) (G : TG) (o : Nat → Nat) (o_numbers : Nat → Int32) (o_parts : Int32) (o_figuresDue : Int32) (o_place : Int32) (o_bandDue : Int32) (a1 : Int32) (R : Int32 × (Nat → Int32) × Int32 × Int32 × Int32 × Int32) (hf : f_X6_takes o_numbers o_parts o_figuresDue o_place o_bandDue a1 = some R) : RW l yX6_takes cX6_takes 2 (some .boolean) ({ frames := 5, cells := 0, slots := 0, locals := 128 }) G [.ref (o 0), .int a1] [(oX6 o o_parts o_figuresDue o_place o_bandDue), (wI G (o 1) 12 o_numbers)] (some (.int R.1)) [(oX6 o R.2.2.1 R.2.2.2.1 R.2.2.2.2.1 R.2.2.2.2.2), (wI G (o 1) 12 R.2.1)] := by
  refine RW.mk (by decide +kernel) (Nat.le_of_ble_eq_true rfl) ?_
  intro p e s m below meth c ls A C hP hD hA hz hK hl hS
  have hx := C.1
  have hb := C.2.1
  have hown : s.vm.findClass RX6 = some m.cls := C.2.2.2.2.2.1
  have ht := C.2.2.2.2.2.2
  have hl : lv_has ls 2 [(0, .ref (o 0)), (1, .int a1)] := hl
  show Wc_X6_takes l G o o_numbers o_parts o_figuresDue o_place o_bandDue a1 R p e s m below meth c A s.heap [] (F0 m 0 ls [])
  obtain ⟨H, eH, hP, hS⟩ : ∃ H, H = s.heap ∧ va_P G.1 vwCl [(oX6 o o_parts o_figuresDue o_place o_bandDue), (wI G (o 1) 12 o_numbers)] H ∧ va_S A s.heap H [] := ⟨_, rfl, hP, hS⟩
  obtain ⟨locs, el, hS⟩ : ∃ locs : List Loc, locs = [] ∧ va_S A s.heap H locs := ⟨_, rfl, hS⟩
  have key : Wc_X6_takes l G o o_numbers o_parts o_figuresDue o_place o_bandDue a1 R p e s m below meth c A H locs (F0 m 0 ls []) := by
    refine lv_aload_n hx hb dX6_takes_0 rfl (lv_at hl 0 rfl) ?_
    refine va_get (D := G.1) (ci := 6) (v := .int o_figuresDue) (C := RX6) (T := TX6) (N := 5) hx hb ht twX6 hown hK.1 hP 0 rfl rfl 2 (by decide) (ht _ kfl_X6_33) (fun _ h9 => h9) rfl dX6_takes_1 ?_
    refine lv_if_le (tgt := 13) hx hb dX6_takes_4 (by decide) (fun c1 => ?_) (fun c1 => ?_)
    · have hf := o_t c1 hf
      refine lv_aload_n hx hb dX6_takes_13 rfl (lv_at hl 0 rfl) ?_
      refine va_get (D := G.1) (ci := 6) (v := .int o_bandDue) (C := RX6) (T := TX6) (N := 5) hx hb ht twX6 hown hK.1 hP 0 rfl rfl 4 (by decide) (ht _ kfl_X6_36) (fun _ h9 => h9) rfl dX6_takes_14 ?_
      refine lv_if_eq (tgt := 26) hx hb dX6_takes_17 (by decide) (fun c2 => ?_) (fun c2 => ?_)
      · have hf := o_t c2 hf
        refine lv_aload_n hx hb dX6_takes_26 rfl (lv_at hl 0 rfl) ?_
        refine lv_iload_n hx hb dX6_takes_27 rfl (lv_at hl 1 rfl) ?_
        obtain ⟨q3, r3, hf⟩ := bd_s hf
        refine rw_V (n := 1) (As := [.int a1]) (rest := []) (wr := []) (ws2 := [(oX6 o o_parts q3.2.2.1 q3.2.2.2.1 q3.2.2.2.2), (wI G (o 1) 12 q3.2.1)]) (c_X6_takesKind l G o o_numbers o_parts o_figuresDue o_place o_bandDue a1 q3 r3) C hK hP hD hS hA hz hl [0, 1] [] [0, 1] rfl rfl rfl rfl rfl (by decide) rfl rfl rfl kcode_X6_takesKind kml_X6_61 kim_X6_takesKind ksel_X6_takesKind kini_X6 (by decide +kernel) ⟨⟨rfl, rfl⟩, Nat.le_of_ble_eq_true rfl, Nat.le_of_ble_eq_true rfl⟩ ⟨Nat.zero_le _, Nat.zero_le _⟩ rfl rfl rfl rfl rfl (Nat.le_of_ble_eq_true rfl) dX6_takes_28 rfl (fun H locs hP hD hS => ?_)
        obtain ⟨z4, hf⟩ := zb_s hf
        have h9 := Option.some.inj hf
        subst h9
        exact rw_zret C z4 rfl hP hD hS dX6_takes_31
      · have hf := o_f c2 hf
        refine lv_aload_n hx hb dX6_takes_20 rfl (lv_at hl 0 rfl) ?_
        refine lv_iload_n hx hb dX6_takes_21 rfl (lv_at hl 1 rfl) ?_
        obtain ⟨q5, r5, hf⟩ := bd_s hf
        refine rw_V (n := 1) (As := [.int a1]) (rest := []) (wr := []) (ws2 := [(oX6 o o_parts q5.2.2.1 q5.2.2.2.1 q5.2.2.2.2), (wI G (o 1) 12 q5.2.1)]) (c_X6_takesBand l G o o_numbers o_parts o_figuresDue o_place o_bandDue a1 q5 r5) C hK hP hD hS hA hz hl [0, 1] [] [0, 1] rfl rfl rfl rfl rfl (by decide) rfl rfl rfl kcode_X6_takesBand kml_X6_58 kim_X6_takesBand ksel_X6_takesBand kini_X6 (by decide +kernel) ⟨⟨rfl, rfl⟩, Nat.le_of_ble_eq_true rfl, Nat.le_of_ble_eq_true rfl⟩ ⟨Nat.zero_le _, Nat.zero_le _⟩ rfl rfl rfl rfl rfl (Nat.le_of_ble_eq_true rfl) dX6_takes_22 rfl (fun H locs hP hD hS => ?_)
        obtain ⟨z6, hf⟩ := zb_s hf
        have h9 := Option.some.inj hf
        subst h9
        exact rw_zret C z6 rfl hP hD hS dX6_takes_25
    · have hf := o_f c1 hf
      refine lv_aload_n hx hb dX6_takes_7 rfl (lv_at hl 0 rfl) ?_
      refine lv_iload_n hx hb dX6_takes_8 rfl (lv_at hl 1 rfl) ?_
      obtain ⟨q7, r7, hf⟩ := bd_s hf
      refine rw_V (n := 1) (As := [.int a1]) (rest := []) (wr := []) (ws2 := [(oX6 o q7.2.2.1 q7.2.2.2 o_place o_bandDue), (wI G (o 1) 12 q7.2.1)]) (c_X6_takesFigure l G o o_numbers o_parts o_figuresDue o_place o_bandDue a1 q7 r7) C hK hP hD hS hA hz hl [0, 1] [] [0, 1] rfl rfl rfl rfl rfl (by decide) rfl rfl rfl kcode_X6_takesFigure kml_X6_55 kim_X6_takesFigure ksel_X6_takesFigure kini_X6 (by decide +kernel) ⟨⟨rfl, rfl⟩, Nat.le_of_ble_eq_true rfl, Nat.le_of_ble_eq_true rfl⟩ ⟨Nat.zero_le _, Nat.zero_le _⟩ rfl rfl rfl rfl rfl (Nat.le_of_ble_eq_true rfl) dX6_takes_9 rfl (fun H locs hP hD hS => ?_)
      obtain ⟨z8, hf⟩ := zb_s hf
      have h9 := Option.some.inj hf
      subst h9
      exact rw_zret C z8 rfl hP hD hS dX6_takes_12
  rw [eH, el] at key
  exact key
