abbrev wI (G : TG) (a n : Nat) (f : Nat → Int32) : Nat × va_E := (a, .inl (G.2.1.1, n, .inl f))
abbrev wJ (G : TG) (a n : Nat) (f : Nat → Int64) : Nat × va_E := (a, .inl (G.2.1.2.1, n, .inr (.inl f)))
abbrev wZ (G : TG) (a n : Nat) (f : Nat → Int32) : Nat × va_E := (a, .inl (G.2.1.2.2.1, n, .inl f))
abbrev oX0 (o : Nat → Nat) : Nat × va_E := (o 0, .inr (0, [.ref (o 1)]))
abbrev oX1 (o : Nat → Nat) (f_found : Int32) (f_end : Int32) : Nat × va_E := (o 0, .inr (1, [.ref (o 1), .int f_found, .int f_end]))
abbrev oX2 (o : Nat → Nat) (f_found : Int32) : Nat × va_E := (o 0, .inr (2, [.ref (o 1), .int f_found]))
abbrev oX3 (o : Nat → Nat) : Nat × va_E := (o 0, .inr (3, [.ref (o 1)]))
abbrev oX4 (o : Nat → Nat) (f_beds : Int32) (f_isKept : Int32) : Nat × va_E := (o 0, .inr (4, [.ref (o 1), .ref (o 2), .int f_beds, .int f_isKept]))
abbrev oX5 (o : Nat → Nat) (f_all : Int64) : Nat × va_E := (o 0, .inr (5, [.ref (o 1), .ref (o 2), .long f_all]))
abbrev oX6 (o : Nat → Nat) (f_parts : Int32) (f_figuresDue : Int32) (f_place : Int32) (f_bandDue : Int32) : Nat × va_E := (o 0, .inr (6, [.ref (o 1), .int f_parts, .int f_figuresDue, .int f_place, .int f_bandDue]))
abbrev oX7 (o : Nat → Nat) (f_length : Int32) (f_lead : Int32) : Nat × va_E := (o 0, .inr (7, [.ref (o 1), .ref (o 2), .int f_length, .int f_lead]))
abbrev oX8 (o : Nat → Nat) (f_entries : Int32) (f_due : Int32) (f_roundAhead : Int32) (f_tens : Int32) (f_roundNow : Int32) (f_bandAhead : Int32) : Nat × va_E := (o 0, .inr (8, [.ref (o 1), .int f_entries, .int f_due, .int f_roundAhead, .int f_tens, .int f_roundNow, .int f_bandAhead]))
abbrev oX9 (o : Nat → Nat) (f_length : Int32) : Nat × va_E := (o 0, .inr (9, [.ref (o 1), .int f_length]))
abbrev oX10 (x t9 t6 t8 t3 t7 t1 t0 t4 t5 t2 : Nat → Nat) : Nat × va_E := (x 0, .inr (10, [.ref (t9 0), .ref (t6 0), .ref (t8 0), .ref (t3 0), .ref (t7 0), .ref (t1 0), .ref (t0 0), .ref (t4 0), .ref (t5 0), .ref (t2 0), .ref (x 1)]))
abbrev oX11 (o : Nat → Nat) (f_length : Int32) (f_at : Int32) (f_faultAt : Int32) (f_parts : Int32) (f_entries : Int32) (f_ringEarth : Int32) (f_lead : Int32) (f_ring : Int32) (f_jumpMany : Int32) (f_curveEnd : Int32) (f_beds : Int32) (f_all : Int64) : Nat × va_E := (o 0, .inr (11, [.ref (o 1), .ref (o 2), .ref (o 3), .int f_length, .int f_at, .int f_faultAt, .int f_parts, .ref (o 4), .ref (o 5), .int f_entries, .ref (o 6), .ref (o 7), .ref (o 8), .int f_ringEarth, .int f_lead, .int f_ring, .ref (o 9), .int f_jumpMany, .int f_curveEnd, .int f_beds, .ref (o 10), .ref (o 11), .long f_all, .ref (o 12), .ref (o 13), .ref (o 14), .ref (o 15), .ref (o 16), .ref (o 17)]))
def f_X10_within (a0 : Int32) (a1 : Int32) (a2 : Int32) : Option (Int32) :=
  (if a0 < a1 then some (0 : Int32) else (if a2 < a0 then some (0 : Int32) else some (1 : Int32)))
def f_X10_isStory (a0 : Int32) : Option (Int32) :=
  (f_X10_within a0 (0 : Int32) (3 : Int32)).bind (fun q1 => zb q1 (some q1))
def f_X10_isRound (a0 : Int32) : Option (Int32) :=
  (f_X10_within a0 (0 : Int32) (99 : Int32)).bind (fun q1 => zb q1 (some q1))
def f_X0_tell (o_ice : Nat → Int32) (a1 : Int32) (a2 : Int32) (a3 : Int32) : Option ((Nat → Int32)) :=
  (f_X10_isStory a1).bind (fun q1 => (if q1 = (0 : Int32) then some o_ice else (f_X10_isRound a2).bind (fun q4 => (if q4 = (0 : Int32) then some o_ice else gd ((a1 * (100 : Int32)) + a2) 400 (some (upd o_ice ((a1 * (100 : Int32)) + a2).toNatClampNeg a3))))))
def f_X0_iceOf (o_ice : Nat → Int32) (a1 : Int32) (a2 : Int32) : Option (Int32) :=
  (f_X10_isStory a1).bind (fun q1 => (if q1 = (0 : Int32) then some (0 : Int32) else (f_X10_isRound a2).bind (fun q4 => (if q4 = (0 : Int32) then some (0 : Int32) else gd ((a1 * (100 : Int32)) + a2) 400 (some (o_ice ((a1 * (100 : Int32)) + a2).toNatClampNeg))))))
def f_X0_someIce_x30_1 (v4 : Int32) : Option (Int32) :=
  some v4
def f_X0_someIce_b6 (o_ice : Nat → Int32) (a1 : Int32) (a3 : Int32) (v4 : Int32) (v5 : Int32) : Option ((Int32 × Int32) ⊕ (Int32)) :=
  (if a3 < v5 then some (.inr v4) else (f_X0_iceOf o_ice a1 v5).bind (fun q4 => some (.inl ((v4 ||| q4), (v5 + (1 : Int32))))))
def f_X0_someIce (o_ice : Nat → Int32) (a1 : Int32) (a2 : Int32) (a3 : Int32) : Option (Int32) :=
  (lpM (σ := Int32 × Int32) (ρ := Int32) (fun st => f_X0_someIce_b6 o_ice a1 a3 st.1 st.2) FU ((0 : Int32), a2)).bind (fun sx => f_X0_someIce_x30_1 sx)
def f_X0_lastingIce_x31_1 (v4 : Int32) : Option (Int32) :=
  some v4
def f_X0_lastingIce_b7 (o_ice : Nat → Int32) (a1 : Int32) (a3 : Int32) (v4 : Int32) (v5 : Int32) : Option ((Int32 × Int32) ⊕ (Int32)) :=
  (if a3 < v5 then some (.inr v4) else (f_X0_iceOf o_ice a1 v5).bind (fun q4 => some (.inl ((v4 &&& q4), (v5 + (1 : Int32))))))
def f_X0_lastingIce (o_ice : Nat → Int32) (a1 : Int32) (a2 : Int32) (a3 : Int32) : Option (Int32) :=
  (lpM (σ := Int32 × Int32) (ρ := Int32) (fun st => f_X0_lastingIce_b7 o_ice a1 a3 st.1 st.2) FU ((63 : Int32), a2)).bind (fun sx => f_X0_lastingIce_x31_1 sx)
def f_X9_hasRoomFor (o_length : Int32) (a1 : Int32) : Option (Int32) :=
  (if ((48 : Int32) - o_length) < a1 then some (0 : Int32) else some (1 : Int32))
def f_X9_put_x56_1 (o_signs : Nat → Int32) (o_length : Int32) : Option ((Nat → Int32) × Int32) :=
  some (o_signs, o_length)
def f_X9_put_b5 (a2 : Int64) (v4 : Int32) (o_signs : Nat → Int32) (o_length : Int32) : Option ((Int32 × (Nat → Int32) × Int32) ⊕ ((Nat → Int32) × Int32)) :=
  (if v4 < (0 : Int32) then some (.inr (o_signs, o_length)) else (if (48 : Int32) ≤ o_length then some (.inr (o_signs, o_length)) else gd o_length 48 (some (.inl ((v4 + (-1 : Int32)), (upd o_signs o_length.toNatClampNeg ((((a2.toUInt64 >>> (((8 : Int32) * v4).toInt64.toUInt64 &&& Int64.toUInt64 63)).toInt64).toInt32) &&& (255 : Int32))), (o_length + (1 : Int32)))))))
def f_X9_put (o_signs : Nat → Int32) (o_length : Int32) (a1 : Int32) (a2 : Int64) : Option ((Nat → Int32) × Int32) :=
  (lpM (σ := Int32 × (Nat → Int32) × Int32) (ρ := (Nat → Int32) × Int32) (fun st => f_X9_put_b5 a2 st.1 st.2.1 st.2.2) FU ((a1 - (1 : Int32)), o_signs, o_length)).bind (fun sx => f_X9_put_x56_1 sx.1 sx.2)
abbrev Wc_X10_within (l : Launch) (G : TG) (a0 : Int32) (a1 : Int32) (a2 : Int32) (R : Int32) (p : Program) (e : Env) (s : State) (m : MethodId) (below : List Frame) (meth : Method) (c : Code) (H : Heap) (locs : List Loc) (g : JFrame) : Prop := W p l e ({ frames := 0, cells := 0, slots := 0, locals := 0 }) s m ([.int a0, .int a1, .int a2] : List Value).toArray below meth c H locs 0 0 (MQ below (roQ (some (.int R))) ([.int a0, .int a1, .int a2] : List Value).toArray s 0 0 (fun _ => False)) g
set_option maxHeartbeats 4000000 in
set_option maxRecDepth 100000 in
theorem c_X10_within (l : Launch) (G : TG) (a0 : Int32) (a1 : Int32) (a2 : Int32) (R : Int32) (hf : f_X10_within a0 a1 a2 = some R) : RO l yX10_within cX10_within 3 (some .boolean) ({ frames := 0, cells := 0, slots := 0, locals := 0 }) G [.int a0, .int a1, .int a2] [] (some (.int R)) := by
  refine RO.mk (by decide +kernel) (Nat.le_of_ble_eq_true rfl) ?_
  intro p e s m below meth c ls C hP hK hl
  have hx := C.1
  have hb := C.2.1
  have hown : s.vm.findClass RX10 = some m.cls := C.2.2.2.2.2.1
  have ht := C.2.2.2.2.2.2
  have hl : lv_has ls 3 [(0, .int a0), (1, .int a1), (2, .int a2)] := hl
  show Wc_X10_within l G a0 a1 a2 R p e s m below meth c s.heap [] (F0 m 0 ls [])
  refine lv_iload_n hx hb dX10_within_0 rfl (lv_at hl 0 rfl) ?_
  refine lv_iload_n hx hb dX10_within_1 rfl (lv_at hl 1 rfl) ?_
  refine lv_icmp_lt (tgt := 14) hx hb dX10_within_2 (by decide) (fun c1 => ?_) (fun c1 => ?_)
  · have hf := o_t c1 hf
    refine lv_iconst (v := 0) hx hb dX10_within_14 (by decide) ?_
    have h9 := Option.some.inj hf
    subst h9
    exact ro_zret C (Or.inl rfl) rfl dX10_within_15
  · have hf := o_f c1 hf
    refine lv_iload_n hx hb dX10_within_5 rfl (lv_at hl 0 rfl) ?_
    refine lv_iload_n hx hb dX10_within_6 rfl (lv_at hl 2 rfl) ?_
    refine lv_icmp_gt (tgt := 14) hx hb dX10_within_7 (by decide) (fun c3 => ?_) (fun c3 => ?_)
    · have hf := o_t c3 hf
      refine lv_iconst (v := 0) hx hb dX10_within_14 (by decide) ?_
      have h9 := Option.some.inj hf
      subst h9
      exact ro_zret C (Or.inl rfl) rfl dX10_within_15
    · have hf := o_f c3 hf
      refine lv_iconst (v := 1) hx hb dX10_within_10 (by decide) ?_
      refine lv_goto (tgt := 15) hx hb dX10_within_11 (by decide) ?_
      have h9 := Option.some.inj hf
      subst h9
      exact ro_zret C (Or.inr rfl) rfl dX10_within_15
abbrev Wc_X10_isStory (l : Launch) (G : TG) (a0 : Int32) (R : Int32) (p : Program) (e : Env) (s : State) (m : MethodId) (below : List Frame) (meth : Method) (c : Code) (H : Heap) (locs : List Loc) (g : JFrame) : Prop := W p l e ({ frames := 1, cells := 0, slots := 0, locals := 22 }) s m ([.int a0] : List Value).toArray below meth c H locs 0 0 (MQ below (roQ (some (.int R))) ([.int a0] : List Value).toArray s 0 0 (fun _ => False)) g
set_option maxHeartbeats 4000000 in
set_option maxRecDepth 100000 in
theorem c_X10_isStory (l : Launch) (G : TG) (a0 : Int32) (R : Int32) (hf : f_X10_isStory a0 = some R) : RO l yX10_isStory cX10_isStory 1 (some .boolean) ({ frames := 1, cells := 0, slots := 0, locals := 22 }) G [.int a0] [] (some (.int R)) := by
  refine RO.mk (by decide +kernel) (Nat.le_of_ble_eq_true rfl) ?_
  intro p e s m below meth c ls C hP hK hl
  have hx := C.1
  have hb := C.2.1
  have hown : s.vm.findClass RX10 = some m.cls := C.2.2.2.2.2.1
  have ht := C.2.2.2.2.2.2
  have hl : lv_has ls 1 [(0, .int a0)] := hl
  show Wc_X10_isStory l G a0 R p e s m below meth c s.heap [] (F0 m 0 ls [])
  refine lv_iload_n hx hb dX10_isStory_0 rfl (lv_at hl 0 rfl) ?_
  refine lv_iconst (v := 0) hx hb dX10_isStory_1 (by decide) ?_
  refine lv_iconst (v := 3) hx hb dX10_isStory_2 (by decide) ?_
  obtain ⟨q1, r1, hf⟩ := bd_s hf
  refine ro_S (n := 3) (As := [.int a0, .int (0 : Int32), .int (3 : Int32)]) (rest := []) (c_X10_within l G a0 (0 : Int32) (3 : Int32) q1 r1) C hK (hP.sub [] rfl) hl kcode_X10_within kml_X10_83 kst_X10_within kini_X10 (by decide +kernel) ⟨⟨rfl, rfl⟩, Nat.le_of_ble_eq_true rfl, Nat.le_of_ble_eq_true rfl⟩ ⟨Nat.zero_le _, Nat.zero_le _⟩ rfl rfl (Nat.le_of_ble_eq_true rfl) dX10_isStory_3 rfl ?_
  obtain ⟨z2, hf⟩ := zb_s hf
  have h9 := Option.some.inj hf
  subst h9
  exact ro_zret C z2 rfl dX10_isStory_6
abbrev Wc_X10_isRound (l : Launch) (G : TG) (a0 : Int32) (R : Int32) (p : Program) (e : Env) (s : State) (m : MethodId) (below : List Frame) (meth : Method) (c : Code) (H : Heap) (locs : List Loc) (g : JFrame) : Prop := W p l e ({ frames := 1, cells := 0, slots := 0, locals := 22 }) s m ([.int a0] : List Value).toArray below meth c H locs 0 0 (MQ below (roQ (some (.int R))) ([.int a0] : List Value).toArray s 0 0 (fun _ => False)) g
set_option maxHeartbeats 4000000 in
set_option maxRecDepth 100000 in
theorem c_X10_isRound (l : Launch) (G : TG) (a0 : Int32) (R : Int32) (hf : f_X10_isRound a0 = some R) : RO l yX10_isRound cX10_isRound 1 (some .boolean) ({ frames := 1, cells := 0, slots := 0, locals := 22 }) G [.int a0] [] (some (.int R)) := by
  refine RO.mk (by decide +kernel) (Nat.le_of_ble_eq_true rfl) ?_
  intro p e s m below meth c ls C hP hK hl
  have hx := C.1
  have hb := C.2.1
  have hown : s.vm.findClass RX10 = some m.cls := C.2.2.2.2.2.1
  have ht := C.2.2.2.2.2.2
  have hl : lv_has ls 1 [(0, .int a0)] := hl
  show Wc_X10_isRound l G a0 R p e s m below meth c s.heap [] (F0 m 0 ls [])
  refine lv_iload_n hx hb dX10_isRound_0 rfl (lv_at hl 0 rfl) ?_
  refine lv_iconst (v := 0) hx hb dX10_isRound_1 (by decide) ?_
  refine lv_bipush (v := 99) hx hb dX10_isRound_2 (by decide) ?_
  obtain ⟨q1, r1, hf⟩ := bd_s hf
  refine ro_S (n := 3) (As := [.int a0, .int (0 : Int32), .int (99 : Int32)]) (rest := []) (c_X10_within l G a0 (0 : Int32) (99 : Int32) q1 r1) C hK (hP.sub [] rfl) hl kcode_X10_within kml_X10_83 kst_X10_within kini_X10 (by decide +kernel) ⟨⟨rfl, rfl⟩, Nat.le_of_ble_eq_true rfl, Nat.le_of_ble_eq_true rfl⟩ ⟨Nat.zero_le _, Nat.zero_le _⟩ rfl rfl (Nat.le_of_ble_eq_true rfl) dX10_isRound_4 rfl ?_
  obtain ⟨z2, hf⟩ := zb_s hf
  have h9 := Option.some.inj hf
  subst h9
  exact ro_zret C z2 rfl dX10_isRound_7
abbrev Wc_X0_tell (l : Launch) (G : TG) (o : Nat → Nat) (o_ice : Nat → Int32) (a1 : Int32) (a2 : Int32) (a3 : Int32) (R : (Nat → Int32)) (p : Program) (e : Env) (s : State) (m : MethodId) (below : List Frame) (meth : Method) (c : Code) (A : Nat → Prop) (H : Heap) (locs : List Loc) (g : JFrame) : Prop := W p l e ({ frames := 2, cells := 0, slots := 0, locals := 42 }) s m ([.ref (o 0), .int a1, .int a2, .int a3] : List Value).toArray below meth c H locs 0 0 (MQ below (rwQ G none [(oX0 o), (wI G (o 1) 400 R)] A) ([.ref (o 0), .int a1, .int a2, .int a3] : List Value).toArray s 0 0 A) g
set_option maxHeartbeats 4000000 in
set_option maxRecDepth 100000 in
theorem c_X0_tell (l : Launch) (G : TG) (o : Nat → Nat) (o_ice : Nat → Int32) (a1 : Int32) (a2 : Int32) (a3 : Int32) (R : (Nat → Int32)) (hf : f_X0_tell o_ice a1 a2 a3 = some R) : RW l yX0_tell cX0_tell 4 none ({ frames := 2, cells := 0, slots := 0, locals := 42 }) G [.ref (o 0), .int a1, .int a2, .int a3] [(oX0 o), (wI G (o 1) 400 o_ice)] none [(oX0 o), (wI G (o 1) 400 R)] := by
  refine RW.mk (by decide +kernel) (Nat.le_of_ble_eq_true rfl) ?_
  intro p e s m below meth c ls A C hP hD hA hz hK hl hS
  have hx := C.1
  have hb := C.2.1
  have hown : s.vm.findClass RX0 = some m.cls := C.2.2.2.2.2.1
  have ht := C.2.2.2.2.2.2
  have hl : lv_has ls 4 [(0, .ref (o 0)), (1, .int a1), (2, .int a2), (3, .int a3)] := hl
  show Wc_X0_tell l G o o_ice a1 a2 a3 R p e s m below meth c A s.heap [] (F0 m 0 ls [])
  obtain ⟨H, eH, hP, hS⟩ : ∃ H, H = s.heap ∧ va_P G.1 vwCl [(oX0 o), (wI G (o 1) 400 o_ice)] H ∧ va_S A s.heap H [] := ⟨_, rfl, hP, hS⟩
  obtain ⟨locs, el, hS⟩ : ∃ locs : List Loc, locs = [] ∧ va_S A s.heap H locs := ⟨_, rfl, hS⟩
  have key : Wc_X0_tell l G o o_ice a1 a2 a3 R p e s m below meth c A H locs (F0 m 0 ls []) := by
    refine lv_iload_n hx hb dX0_tell_0 rfl (lv_at hl 1 rfl) ?_
    obtain ⟨q1, r1, hf⟩ := bd_s hf
    refine ro_SN (n := 1) (As := [.int a1]) (rest := []) (c_X10_isStory l G a1 q1 r1) C (hK.at hS hz) (hP.sub [] rfl) hl kcode_X10_isStory kmln_X0_15 kst_X10_isStory kini_X10 (by decide +kernel) ⟨⟨rfl, rfl⟩, Nat.le_of_ble_eq_true rfl, Nat.le_of_ble_eq_true rfl⟩ ⟨Nat.zero_le _, Nat.zero_le _⟩ rfl rfl (Nat.le_of_ble_eq_true rfl) dX0_tell_1 rfl ?_
    refine lv_if_eq (tgt := 26) hx hb dX0_tell_4 (by decide) (fun c2 => ?_) (fun c2 => ?_)
    · have hf := o_t c2 hf
      have h9 := Option.some.inj hf
      subst h9
      exact rw_vret C hP hD hS dX0_tell_26
    · have hf := o_f c2 hf
      refine lv_iload_n hx hb dX0_tell_7 rfl (lv_at hl 2 rfl) ?_
      obtain ⟨q4, r4, hf⟩ := bd_s hf
      refine ro_SN (n := 1) (As := [.int a2]) (rest := []) (c_X10_isRound l G a2 q4 r4) C (hK.at hS hz) (hP.sub [] rfl) hl kcode_X10_isRound kmln_X0_19 kst_X10_isRound kini_X10 (by decide +kernel) ⟨⟨rfl, rfl⟩, Nat.le_of_ble_eq_true rfl, Nat.le_of_ble_eq_true rfl⟩ ⟨Nat.zero_le _, Nat.zero_le _⟩ rfl rfl (Nat.le_of_ble_eq_true rfl) dX0_tell_8 rfl ?_
      refine lv_if_eq (tgt := 26) hx hb dX0_tell_11 (by decide) (fun c5 => ?_) (fun c5 => ?_)
      · have hf := o_t c5 hf
        have h9 := Option.some.inj hf
        subst h9
        exact rw_vret C hP hD hS dX0_tell_26
      · have hf := o_f c5 hf
        refine lv_aload_n hx hb dX0_tell_14 rfl (lv_at hl 0 rfl) ?_
        refine va_get (D := G.1) (ci := 0) (v := .ref (o 1)) (C := RX0) (T := TX0) (N := 1) hx hb ht twX0 hown hK.1 hP 0 rfl rfl 0 (by decide) (ht _ kfl_X0_9) (fun _ h9 => h9) rfl dX0_tell_15 ?_
        refine lv_iload_n hx hb dX0_tell_18 rfl (lv_at hl 1 rfl) ?_
        refine lv_bipush (v := 100) hx hb dX0_tell_19 (by decide) ?_
        refine lv_imul hx hb dX0_tell_21 ?_
        refine lv_iload_n hx hb dX0_tell_22 rfl (lv_at hl 2 rfl) ?_
        refine lv_iadd hx hb dX0_tell_23 ?_
        refine lv_iload_n hx hb dX0_tell_24 rfl (lv_at hl 3 rfl) ?_
        obtain ⟨g7, hf⟩ := gd_s hf
        refine va_iast hx hb hK.1 hP hD hS 1 0 rfl rfl g7 dX0_tell_25 (fun H locs hP hD hS => ?_)
        have hP : va_P G.1 vwCl [(oX0 o), (wI G (o 1) 400 (upd o_ice ((a1 * (100 : Int32)) + a2).toNatClampNeg a3))] H := hP
        have hD : va_D A [(oX0 o), (wI G (o 1) 400 (upd o_ice ((a1 * (100 : Int32)) + a2).toNatClampNeg a3))] := hD
        have h9 := Option.some.inj hf
        subst h9
        exact rw_vret C hP hD hS dX0_tell_26
  rw [eH, el] at key
  exact key
abbrev Wc_X0_iceOf (l : Launch) (G : TG) (o : Nat → Nat) (o_ice : Nat → Int32) (a1 : Int32) (a2 : Int32) (R : Int32) (p : Program) (e : Env) (s : State) (m : MethodId) (below : List Frame) (meth : Method) (c : Code) (H : Heap) (locs : List Loc) (g : JFrame) : Prop := W p l e ({ frames := 2, cells := 0, slots := 0, locals := 42 }) s m ([.ref (o 0), .int a1, .int a2] : List Value).toArray below meth c H locs 0 0 (MQ below (roQ (some (.int R))) ([.ref (o 0), .int a1, .int a2] : List Value).toArray s 0 0 (fun _ => False)) g
set_option maxHeartbeats 4000000 in
set_option maxRecDepth 100000 in
theorem c_X0_iceOf (l : Launch) (G : TG) (o : Nat → Nat) (o_ice : Nat → Int32) (a1 : Int32) (a2 : Int32) (R : Int32) (hf : f_X0_iceOf o_ice a1 a2 = some R) : RO l yX0_iceOf cX0_iceOf 3 (some .int) ({ frames := 2, cells := 0, slots := 0, locals := 42 }) G [.ref (o 0), .int a1, .int a2] [(oX0 o), (wI G (o 1) 400 o_ice)] (some (.int R)) := by
  refine RO.mk (by decide +kernel) (Nat.le_of_ble_eq_true rfl) ?_
  intro p e s m below meth c ls C hP hK hl
  have hx := C.1
  have hb := C.2.1
  have hown : s.vm.findClass RX0 = some m.cls := C.2.2.2.2.2.1
  have ht := C.2.2.2.2.2.2
  have hl : lv_has ls 3 [(0, .ref (o 0)), (1, .int a1), (2, .int a2)] := hl
  show Wc_X0_iceOf l G o o_ice a1 a2 R p e s m below meth c s.heap [] (F0 m 0 ls [])
  refine lv_iload_n hx hb dX0_iceOf_0 rfl (lv_at hl 1 rfl) ?_
  obtain ⟨q1, r1, hf⟩ := bd_s hf
  refine ro_SN (n := 1) (As := [.int a1]) (rest := []) (c_X10_isStory l G a1 q1 r1) C hK (hP.sub [] rfl) hl kcode_X10_isStory kmln_X0_15 kst_X10_isStory kini_X10 (by decide +kernel) ⟨⟨rfl, rfl⟩, Nat.le_of_ble_eq_true rfl, Nat.le_of_ble_eq_true rfl⟩ ⟨Nat.zero_le _, Nat.zero_le _⟩ rfl rfl (Nat.le_of_ble_eq_true rfl) dX0_iceOf_1 rfl ?_
  refine lv_if_eq (tgt := 28) hx hb dX0_iceOf_4 (by decide) (fun c2 => ?_) (fun c2 => ?_)
  · have hf := o_t c2 hf
    refine lv_iconst (v := 0) hx hb dX0_iceOf_28 (by decide) ?_
    have h9 := Option.some.inj hf
    subst h9
    exact ro_iret C rfl dX0_iceOf_29
  · have hf := o_f c2 hf
    refine lv_iload_n hx hb dX0_iceOf_7 rfl (lv_at hl 2 rfl) ?_
    obtain ⟨q4, r4, hf⟩ := bd_s hf
    refine ro_SN (n := 1) (As := [.int a2]) (rest := []) (c_X10_isRound l G a2 q4 r4) C hK (hP.sub [] rfl) hl kcode_X10_isRound kmln_X0_19 kst_X10_isRound kini_X10 (by decide +kernel) ⟨⟨rfl, rfl⟩, Nat.le_of_ble_eq_true rfl, Nat.le_of_ble_eq_true rfl⟩ ⟨Nat.zero_le _, Nat.zero_le _⟩ rfl rfl (Nat.le_of_ble_eq_true rfl) dX0_iceOf_8 rfl ?_
    refine lv_if_eq (tgt := 28) hx hb dX0_iceOf_11 (by decide) (fun c5 => ?_) (fun c5 => ?_)
    · have hf := o_t c5 hf
      refine lv_iconst (v := 0) hx hb dX0_iceOf_28 (by decide) ?_
      have h9 := Option.some.inj hf
      subst h9
      exact ro_iret C rfl dX0_iceOf_29
    · have hf := o_f c5 hf
      refine lv_aload_n hx hb dX0_iceOf_14 rfl (lv_at hl 0 rfl) ?_
      refine va_get (D := G.1) (ci := 0) (v := .ref (o 1)) (C := RX0) (T := TX0) (N := 1) hx hb ht twX0 hown hK.1 hP 0 rfl rfl 0 (by decide) (ht _ kfl_X0_9) (fun _ h9 => h9) rfl dX0_iceOf_15 ?_
      refine lv_iload_n hx hb dX0_iceOf_18 rfl (lv_at hl 1 rfl) ?_
      refine lv_bipush (v := 100) hx hb dX0_iceOf_19 (by decide) ?_
      refine lv_imul hx hb dX0_iceOf_21 ?_
      refine lv_iload_n hx hb dX0_iceOf_22 rfl (lv_at hl 2 rfl) ?_
      refine lv_iadd hx hb dX0_iceOf_23 ?_
      obtain ⟨g7, hf⟩ := gd_s hf
      refine va_iald hx hb hK.1 hP 1 0 rfl rfl g7 dX0_iceOf_24 ?_
      refine lv_goto (tgt := 29) hx hb dX0_iceOf_25 (by decide) ?_
      have h9 := Option.some.inj hf
      subst h9
      exact ro_iret C rfl dX0_iceOf_29
abbrev Wc_X0_someIce (l : Launch) (G : TG) (o : Nat → Nat) (o_ice : Nat → Int32) (a1 : Int32) (a2 : Int32) (a3 : Int32) (R : Int32) (p : Program) (e : Env) (s : State) (m : MethodId) (below : List Frame) (meth : Method) (c : Code) (H : Heap) (locs : List Loc) (g : JFrame) : Prop := W p l e ({ frames := 3, cells := 0, slots := 0, locals := 64 }) s m ([.ref (o 0), .int a1, .int a2, .int a3] : List Value).toArray below meth c H locs 0 0 (MQ below (roQ (some (.int R))) ([.ref (o 0), .int a1, .int a2, .int a3] : List Value).toArray s 0 0 (fun _ => False)) g
set_option maxHeartbeats 4000000 in
set_option maxRecDepth 100000 in
theorem c_X0_someIce (l : Launch) (G : TG) (o : Nat → Nat) (o_ice : Nat → Int32) (a1 : Int32) (a2 : Int32) (a3 : Int32) (R : Int32) (hf : f_X0_someIce o_ice a1 a2 a3 = some R) : RO l yX0_someIce cX0_someIce 6 (some .int) ({ frames := 3, cells := 0, slots := 0, locals := 64 }) G [.ref (o 0), .int a1, .int a2, .int a3] [(oX0 o), (wI G (o 1) 400 o_ice)] (some (.int R)) := by
  refine RO.mk (by decide +kernel) (Nat.le_of_ble_eq_true rfl) ?_
  intro p e s m below meth c ls C hP hK hl
  have hx := C.1
  have hb := C.2.1
  have hown : s.vm.findClass RX0 = some m.cls := C.2.2.2.2.2.1
  have ht := C.2.2.2.2.2.2
  have hl : lv_has ls 6 [(0, .ref (o 0)), (1, .int a1), (2, .int a2), (3, .int a3)] := hl
  show Wc_X0_someIce l G o o_ice a1 a2 a3 R p e s m below meth c s.heap [] (F0 m 0 ls [])
  refine lv_iconst (v := 0) hx hb dX0_someIce_0 (by decide) ?_
  refine lv_istore (lv' := [(4, .int (0 : Int32)), (0, .ref (o 0)), (1, .int a1), (2, .int a2), (3, .int a3)]) hx hb dX0_someIce_1 hl (by decide) rfl (fun ls hl => ?_)
  refine lv_iload_n hx hb dX0_someIce_3 rfl (lv_at hl 3 rfl) ?_
  refine lv_istore (lv' := [(5, .int a2), (4, .int (0 : Int32)), (0, .ref (o 0)), (1, .int a1), (2, .int a2), (3, .int a3)]) hx hb dX0_someIce_4 hl (by decide) rfl (fun ls hl => ?_)
  have hx30_1 : ∀ (v4 : Int32) (ls : Array Slot), f_X0_someIce_x30_1 v4 = some R → lv_has ls 6 [(4, .int v4)] → Wc_X0_someIce l G o o_ice a1 a2 a3 R p e s m below meth c s.heap [] (F0 m 30 ls []) := by
    intro v4 ls hf hl
    refine lv_iload hx hb dX0_someIce_30 (lv_at hl 0 rfl) ?_
    have h9 := Option.some.inj hf
    subst h9
    exact ro_iret C rfl dX0_someIce_32
  obtain ⟨rL1, hL1, hk1⟩ := bd_s hf
  refine lp_W (P := fun st => ∀ (ls : Array Slot), lv_has ls 6 [(0, .ref (o 0)), (1, .int a1), (3, .int a3), (4, .int st.1), (5, .int st.2)] → Wc_X0_someIce l G o o_ice a1 a2 a3 R p e s m below meth c s.heap [] (F0 m 6 ls [])) ?_ FU ((0 : Int32), a2) hL1 ls (lv_sub hl [2, 3, 5, 1, 0] rfl)
  intro ⟨v4, v5⟩ oc1 hf hI hE ls hl
  have hl : lv_has ls 6 [(0, .ref (o 0)), (1, .int a1), (3, .int a3), (4, .int v4), (5, .int v5)] := hl
  have hf : f_X0_someIce_b6 o_ice a1 a3 v4 v5 = some oc1 := hf
  refine lv_iload hx hb dX0_someIce_6 (lv_at hl 4 rfl) ?_
  refine lv_iload_n hx hb dX0_someIce_8 rfl (lv_at hl 2 rfl) ?_
  refine lv_icmp_gt (tgt := 30) hx hb dX0_someIce_9 (by decide) (fun c3 => ?_) (fun c3 => ?_)
  · have hf := o_t c3 hf
    cases hf
    have hf : f_X0_someIce_x30_1 v4 = some R := by have h9 := hk1; rw [← hE _ rfl] at h9; exact h9
    exact hx30_1 v4 ls hf (lv_sub hl [3] rfl)
  · have hf := o_f c3 hf
    refine lv_iload hx hb dX0_someIce_12 (lv_at hl 3 rfl) ?_
    refine lv_aload_n hx hb dX0_someIce_14 rfl (lv_at hl 0 rfl) ?_
    refine lv_iload_n hx hb dX0_someIce_15 rfl (lv_at hl 1 rfl) ?_
    refine lv_iload hx hb dX0_someIce_16 (lv_at hl 4 rfl) ?_
    obtain ⟨q4, r4, hf⟩ := bd_s hf
    refine ro_V (n := 2) (As := [.int a1, .int v5]) (rest := [.int v4]) (c_X0_iceOf l G o o_ice a1 v5 q4 r4) C hK (hP.sub [0, 1] rfl) hl kcode_X0_iceOf kml_X0_22 kim_X0_iceOf ksel_X0_iceOf kini_X0 (by decide +kernel) ⟨⟨rfl, rfl⟩, Nat.le_of_ble_eq_true rfl, Nat.le_of_ble_eq_true rfl⟩ ⟨Nat.zero_le _, Nat.zero_le _⟩ rfl rfl rfl rfl rfl (Nat.le_of_ble_eq_true rfl) dX0_someIce_18 rfl ?_
    refine lv_ior hx hb dX0_someIce_21 ?_
    refine lv_istore (lv' := [(4, .int (v4 ||| q4)), (0, .ref (o 0)), (1, .int a1), (3, .int a3), (5, .int v5)]) hx hb dX0_someIce_22 hl (by decide) rfl (fun ls hl => ?_)
    refine lv_iinc (v := (v5 + (1 : Int32))) (lv' := [(5, .int (v5 + (1 : Int32))), (4, .int (v4 ||| q4)), (0, .ref (o 0)), (1, .int a1), (3, .int a3)]) hx hb dX0_someIce_24 hl (k := 4) rfl (by rfl) (by decide) rfl (fun ls hl => ?_)
    refine lv_goto (tgt := 6) hx hb dX0_someIce_27 (by decide) ?_
    cases hf
    exact hI _ rfl ls (lv_sub hl [2, 3, 4, 1, 0] rfl)
abbrev Wc_X0_lastingIce (l : Launch) (G : TG) (o : Nat → Nat) (o_ice : Nat → Int32) (a1 : Int32) (a2 : Int32) (a3 : Int32) (R : Int32) (p : Program) (e : Env) (s : State) (m : MethodId) (below : List Frame) (meth : Method) (c : Code) (H : Heap) (locs : List Loc) (g : JFrame) : Prop := W p l e ({ frames := 3, cells := 0, slots := 0, locals := 64 }) s m ([.ref (o 0), .int a1, .int a2, .int a3] : List Value).toArray below meth c H locs 0 0 (MQ below (roQ (some (.int R))) ([.ref (o 0), .int a1, .int a2, .int a3] : List Value).toArray s 0 0 (fun _ => False)) g
set_option maxHeartbeats 4000000 in
set_option maxRecDepth 100000 in
theorem c_X0_lastingIce (l : Launch) (G : TG) (o : Nat → Nat) (o_ice : Nat → Int32) (a1 : Int32) (a2 : Int32) (a3 : Int32) (R : Int32) (hf : f_X0_lastingIce o_ice a1 a2 a3 = some R) : RO l yX0_lastingIce cX0_lastingIce 6 (some .int) ({ frames := 3, cells := 0, slots := 0, locals := 64 }) G [.ref (o 0), .int a1, .int a2, .int a3] [(oX0 o), (wI G (o 1) 400 o_ice)] (some (.int R)) := by
  refine RO.mk (by decide +kernel) (Nat.le_of_ble_eq_true rfl) ?_
  intro p e s m below meth c ls C hP hK hl
  have hx := C.1
  have hb := C.2.1
  have hown : s.vm.findClass RX0 = some m.cls := C.2.2.2.2.2.1
  have ht := C.2.2.2.2.2.2
  have hl : lv_has ls 6 [(0, .ref (o 0)), (1, .int a1), (2, .int a2), (3, .int a3)] := hl
  show Wc_X0_lastingIce l G o o_ice a1 a2 a3 R p e s m below meth c s.heap [] (F0 m 0 ls [])
  refine lv_bipush (v := 63) hx hb dX0_lastingIce_0 (by decide) ?_
  refine lv_istore (lv' := [(4, .int (63 : Int32)), (0, .ref (o 0)), (1, .int a1), (2, .int a2), (3, .int a3)]) hx hb dX0_lastingIce_2 hl (by decide) rfl (fun ls hl => ?_)
  refine lv_iload_n hx hb dX0_lastingIce_4 rfl (lv_at hl 3 rfl) ?_
  refine lv_istore (lv' := [(5, .int a2), (4, .int (63 : Int32)), (0, .ref (o 0)), (1, .int a1), (2, .int a2), (3, .int a3)]) hx hb dX0_lastingIce_5 hl (by decide) rfl (fun ls hl => ?_)
  have hx31_1 : ∀ (v4 : Int32) (ls : Array Slot), f_X0_lastingIce_x31_1 v4 = some R → lv_has ls 6 [(4, .int v4)] → Wc_X0_lastingIce l G o o_ice a1 a2 a3 R p e s m below meth c s.heap [] (F0 m 31 ls []) := by
    intro v4 ls hf hl
    refine lv_iload hx hb dX0_lastingIce_31 (lv_at hl 0 rfl) ?_
    have h9 := Option.some.inj hf
    subst h9
    exact ro_iret C rfl dX0_lastingIce_33
  obtain ⟨rL1, hL1, hk1⟩ := bd_s hf
  refine lp_W (P := fun st => ∀ (ls : Array Slot), lv_has ls 6 [(0, .ref (o 0)), (1, .int a1), (3, .int a3), (4, .int st.1), (5, .int st.2)] → Wc_X0_lastingIce l G o o_ice a1 a2 a3 R p e s m below meth c s.heap [] (F0 m 7 ls [])) ?_ FU ((63 : Int32), a2) hL1 ls (lv_sub hl [2, 3, 5, 1, 0] rfl)
  intro ⟨v4, v5⟩ oc1 hf hI hE ls hl
  have hl : lv_has ls 6 [(0, .ref (o 0)), (1, .int a1), (3, .int a3), (4, .int v4), (5, .int v5)] := hl
  have hf : f_X0_lastingIce_b7 o_ice a1 a3 v4 v5 = some oc1 := hf
  refine lv_iload hx hb dX0_lastingIce_7 (lv_at hl 4 rfl) ?_
  refine lv_iload_n hx hb dX0_lastingIce_9 rfl (lv_at hl 2 rfl) ?_
  refine lv_icmp_gt (tgt := 31) hx hb dX0_lastingIce_10 (by decide) (fun c3 => ?_) (fun c3 => ?_)
  · have hf := o_t c3 hf
    cases hf
    have hf : f_X0_lastingIce_x31_1 v4 = some R := by have h9 := hk1; rw [← hE _ rfl] at h9; exact h9
    exact hx31_1 v4 ls hf (lv_sub hl [3] rfl)
  · have hf := o_f c3 hf
    refine lv_iload hx hb dX0_lastingIce_13 (lv_at hl 3 rfl) ?_
    refine lv_aload_n hx hb dX0_lastingIce_15 rfl (lv_at hl 0 rfl) ?_
    refine lv_iload_n hx hb dX0_lastingIce_16 rfl (lv_at hl 1 rfl) ?_
    refine lv_iload hx hb dX0_lastingIce_17 (lv_at hl 4 rfl) ?_
    obtain ⟨q4, r4, hf⟩ := bd_s hf
    refine ro_V (n := 2) (As := [.int a1, .int v5]) (rest := [.int v4]) (c_X0_iceOf l G o o_ice a1 v5 q4 r4) C hK (hP.sub [0, 1] rfl) hl kcode_X0_iceOf kml_X0_22 kim_X0_iceOf ksel_X0_iceOf kini_X0 (by decide +kernel) ⟨⟨rfl, rfl⟩, Nat.le_of_ble_eq_true rfl, Nat.le_of_ble_eq_true rfl⟩ ⟨Nat.zero_le _, Nat.zero_le _⟩ rfl rfl rfl rfl rfl (Nat.le_of_ble_eq_true rfl) dX0_lastingIce_19 rfl ?_
    refine lv_iand hx hb dX0_lastingIce_22 ?_
    refine lv_istore (lv' := [(4, .int (v4 &&& q4)), (0, .ref (o 0)), (1, .int a1), (3, .int a3), (5, .int v5)]) hx hb dX0_lastingIce_23 hl (by decide) rfl (fun ls hl => ?_)
    refine lv_iinc (v := (v5 + (1 : Int32))) (lv' := [(5, .int (v5 + (1 : Int32))), (4, .int (v4 &&& q4)), (0, .ref (o 0)), (1, .int a1), (3, .int a3)]) hx hb dX0_lastingIce_25 hl (k := 4) rfl (by rfl) (by decide) rfl (fun ls hl => ?_)
    refine lv_goto (tgt := 7) hx hb dX0_lastingIce_28 (by decide) ?_
    cases hf
    exact hI _ rfl ls (lv_sub hl [2, 3, 4, 1, 0] rfl)
abbrev Wc_X9_hasRoomFor (l : Launch) (G : TG) (o : Nat → Nat) (o_length : Int32) (a1 : Int32) (R : Int32) (p : Program) (e : Env) (s : State) (m : MethodId) (below : List Frame) (meth : Method) (c : Code) (H : Heap) (locs : List Loc) (g : JFrame) : Prop := W p l e ({ frames := 0, cells := 0, slots := 0, locals := 0 }) s m ([.ref (o 0), .int a1] : List Value).toArray below meth c H locs 0 0 (MQ below (roQ (some (.int R))) ([.ref (o 0), .int a1] : List Value).toArray s 0 0 (fun _ => False)) g
set_option maxHeartbeats 4000000 in
set_option maxRecDepth 100000 in
theorem c_X9_hasRoomFor (l : Launch) (G : TG) (o : Nat → Nat) (o_length : Int32) (a1 : Int32) (R : Int32) (hf : f_X9_hasRoomFor o_length a1 = some R) : RO l yX9_hasRoomFor cX9_hasRoomFor 2 (some .boolean) ({ frames := 0, cells := 0, slots := 0, locals := 0 }) G [.ref (o 0), .int a1] [(oX9 o o_length)] (some (.int R)) := by
  refine RO.mk (by decide +kernel) (Nat.le_of_ble_eq_true rfl) ?_
  intro p e s m below meth c ls C hP hK hl
  have hx := C.1
  have hb := C.2.1
  have hown : s.vm.findClass RX9 = some m.cls := C.2.2.2.2.2.1
  have ht := C.2.2.2.2.2.2
  have hl : lv_has ls 2 [(0, .ref (o 0)), (1, .int a1)] := hl
  show Wc_X9_hasRoomFor l G o o_length a1 R p e s m below meth c s.heap [] (F0 m 0 ls [])
  refine lv_iload_n hx hb dX9_hasRoomFor_0 rfl (lv_at hl 1 rfl) ?_
  refine lv_bipush (v := 48) hx hb dX9_hasRoomFor_1 (by decide) ?_
  refine lv_aload_n hx hb dX9_hasRoomFor_3 rfl (lv_at hl 0 rfl) ?_
  refine va_get (D := G.1) (ci := 9) (v := .int o_length) (C := RX9) (T := TX9) (N := 2) hx hb ht twX9 hown hK.1 hP 0 rfl rfl 1 (by decide) (ht _ kfl_X9_13) (fun _ h9 => h9) rfl dX9_hasRoomFor_4 ?_
  refine lv_isub hx hb dX9_hasRoomFor_7 ?_
  refine lv_icmp_gt (tgt := 15) hx hb dX9_hasRoomFor_8 (by decide) (fun c1 => ?_) (fun c1 => ?_)
  · have hf := o_t c1 hf
    refine lv_iconst (v := 0) hx hb dX9_hasRoomFor_15 (by decide) ?_
    have h9 := Option.some.inj hf
    subst h9
    exact ro_zret C (Or.inl rfl) rfl dX9_hasRoomFor_16
  · have hf := o_f c1 hf
    refine lv_iconst (v := 1) hx hb dX9_hasRoomFor_11 (by decide) ?_
    refine lv_goto (tgt := 16) hx hb dX9_hasRoomFor_12 (by decide) ?_
    have h9 := Option.some.inj hf
    subst h9
    exact ro_zret C (Or.inr rfl) rfl dX9_hasRoomFor_16
abbrev Wc_X9_put (l : Launch) (G : TG) (o : Nat → Nat) (o_signs : Nat → Int32) (o_length : Int32) (a1 : Int32) (a2 : Int64) (R : (Nat → Int32) × Int32) (p : Program) (e : Env) (s : State) (m : MethodId) (below : List Frame) (meth : Method) (c : Code) (A : Nat → Prop) (H : Heap) (locs : List Loc) (g : JFrame) : Prop := W p l e ({ frames := 0, cells := 0, slots := 0, locals := 0 }) s m ([.ref (o 0), .int a1, .long a2] : List Value).toArray below meth c H locs 0 0 (MQ below (rwQ G none [(oX9 o R.2), (wI G (o 1) 48 R.1)] A) ([.ref (o 0), .int a1, .long a2] : List Value).toArray s 0 0 A) g
set_option maxHeartbeats 4000000 in
set_option maxRecDepth 100000 in
theorem c_X9_put (l : Launch) (G : TG) (o : Nat → Nat) (o_signs : Nat → Int32) (o_length : Int32) (a1 : Int32) (a2 : Int64) (R : (Nat → Int32) × Int32) (hf : f_X9_put o_signs o_length a1 a2 = some R) : RW l yX9_put cX9_put 5 none ({ frames := 0, cells := 0, slots := 0, locals := 0 }) G [.ref (o 0), .int a1, .long a2] [(oX9 o o_length), (wI G (o 1) 48 o_signs)] none [(oX9 o R.2), (wI G (o 1) 48 R.1)] := by
  refine RW.mk (by decide +kernel) (Nat.le_of_ble_eq_true rfl) ?_
  intro p e s m below meth c ls A C hP hD hA hz hK hl hS
  have hx := C.1
  have hb := C.2.1
  have hown : s.vm.findClass RX9 = some m.cls := C.2.2.2.2.2.1
  have ht := C.2.2.2.2.2.2
  have hl : lv_has ls 5 [(0, .ref (o 0)), (1, .int a1), (2, .long a2)] := hl
  show Wc_X9_put l G o o_signs o_length a1 a2 R p e s m below meth c A s.heap [] (F0 m 0 ls [])
  obtain ⟨H, eH, hP, hS⟩ : ∃ H, H = s.heap ∧ va_P G.1 vwCl [(oX9 o o_length), (wI G (o 1) 48 o_signs)] H ∧ va_S A s.heap H [] := ⟨_, rfl, hP, hS⟩
  obtain ⟨locs, el, hS⟩ : ∃ locs : List Loc, locs = [] ∧ va_S A s.heap H locs := ⟨_, rfl, hS⟩
  have key : Wc_X9_put l G o o_signs o_length a1 a2 R p e s m below meth c A H locs (F0 m 0 ls []) := by
    refine lv_iload_n hx hb dX9_put_0 rfl (lv_at hl 1 rfl) ?_
    refine lv_iconst (v := 1) hx hb dX9_put_1 (by decide) ?_
    refine lv_isub hx hb dX9_put_2 ?_
    refine lv_istore (lv' := [(4, .int (a1 - (1 : Int32))), (0, .ref (o 0)), (1, .int a1), (2, .long a2)]) hx hb dX9_put_3 hl (by decide) rfl (fun ls hl => ?_)
    have hx56_1 : ∀ (o_signs : Nat → Int32) (o_length : Int32) (H : Heap) (locs : List Loc) (ls : Array Slot), f_X9_put_x56_1 o_signs o_length = some R → va_P G.1 vwCl [(oX9 o o_length), (wI G (o 1) 48 o_signs)] H → va_D A [(oX9 o o_length), (wI G (o 1) 48 o_signs)] → va_S A s.heap H locs → lv_has ls 5 [] → Wc_X9_put l G o o_signs o_length a1 a2 R p e s m below meth c A H locs (F0 m 56 ls []) := by
      intro o_signs o_length H locs ls hf hP hD hS hl
      have h9 := Option.some.inj hf
      subst h9
      exact rw_vret C hP hD hS dX9_put_56
    obtain ⟨rL1, hL1, hk1⟩ := bd_s hf
    refine lp_W (P := fun st => ∀ (H : Heap) (locs : List Loc) (ls : Array Slot), va_P G.1 vwCl [(oX9 o st.2.2), (wI G (o 1) 48 st.2.1)] H → va_D A [(oX9 o st.2.2), (wI G (o 1) 48 st.2.1)] → va_S A s.heap H locs → lv_has ls 5 [(0, .ref (o 0)), (2, .long a2), (4, .int st.1)] → Wc_X9_put l G o o_signs o_length a1 a2 R p e s m below meth c A H locs (F0 m 5 ls [])) ?_ FU ((a1 - (1 : Int32)), o_signs, o_length) hL1 H locs ls hP hD hS (lv_sub hl [1, 3, 0] rfl)
    intro ⟨v4, o_signs, o_length⟩ oc1 hf hI hE H locs ls hP hD hS hl
    have hP : va_P G.1 vwCl [(oX9 o o_length), (wI G (o 1) 48 o_signs)] H := hP
    have hD : va_D A [(oX9 o o_length), (wI G (o 1) 48 o_signs)] := hD
    have hl : lv_has ls 5 [(0, .ref (o 0)), (2, .long a2), (4, .int v4)] := hl
    have hf : f_X9_put_b5 a2 v4 o_signs o_length = some oc1 := hf
    refine lv_iload hx hb dX9_put_5 (lv_at hl 2 rfl) ?_
    refine lv_if_lt (tgt := 56) hx hb dX9_put_7 (by decide) (fun c3 => ?_) (fun c3 => ?_)
    · have hf := o_t c3 hf
      cases hf
      have hf : f_X9_put_x56_1 o_signs o_length = some R := by have h9 := hk1; rw [← hE _ rfl] at h9; exact h9
      exact hx56_1 o_signs o_length H locs ls hf hP hD hS (lv_sub hl [] rfl)
    · have hf := o_f c3 hf
      refine lv_aload_n hx hb dX9_put_10 rfl (lv_at hl 0 rfl) ?_
      refine va_get (D := G.1) (ci := 9) (v := .int o_length) (C := RX9) (T := TX9) (N := 2) hx hb ht twX9 hown hK.1 hP 0 rfl rfl 1 (by decide) (ht _ kfl_X9_13) (fun _ h9 => h9) rfl dX9_put_11 ?_
      refine lv_bipush (v := 48) hx hb dX9_put_14 (by decide) ?_
      refine lv_icmp_ge (tgt := 56) hx hb dX9_put_16 (by decide) (fun c4 => ?_) (fun c4 => ?_)
      · have hf := o_t c4 hf
        cases hf
        have hf : f_X9_put_x56_1 o_signs o_length = some R := by have h9 := hk1; rw [← hE _ rfl] at h9; exact h9
        exact hx56_1 o_signs o_length H locs ls hf hP hD hS (lv_sub hl [] rfl)
      · have hf := o_f c4 hf
        refine lv_aload_n hx hb dX9_put_19 rfl (lv_at hl 0 rfl) ?_
        refine va_get (D := G.1) (ci := 9) (v := .ref (o 1)) (C := RX9) (T := TX9) (N := 2) hx hb ht twX9 hown hK.1 hP 0 rfl rfl 0 (by decide) (ht _ kfl_X9_9) (fun _ h9 => h9) rfl dX9_put_20 ?_
        refine lv_aload_n hx hb dX9_put_23 rfl (lv_at hl 0 rfl) ?_
        refine va_get (D := G.1) (ci := 9) (v := .int o_length) (C := RX9) (T := TX9) (N := 2) hx hb ht twX9 hown hK.1 hP 0 rfl rfl 1 (by decide) (ht _ kfl_X9_13) (fun _ h9 => h9) rfl dX9_put_24 ?_
        refine lv_lload_n hx hb dX9_put_27 rfl (lv_at hl 1 rfl) ?_
        refine lv_bipush (v := 8) hx hb dX9_put_28 (by decide) ?_
        refine lv_iload hx hb dX9_put_30 (lv_at hl 2 rfl) ?_
        refine lv_imul hx hb dX9_put_32 ?_
        refine lv_lushr (v := ((a2.toUInt64 >>> (((8 : Int32) * v4).toInt64.toUInt64 &&& Int64.toUInt64 63)).toInt64)) hx hb dX9_put_33 rfl ?_
        refine lv_l2i (v := (((a2.toUInt64 >>> (((8 : Int32) * v4).toInt64.toUInt64 &&& Int64.toUInt64 63)).toInt64).toInt32)) hx hb dX9_put_34 rfl ?_
        refine lv_sipush (v := 255) hx hb dX9_put_35 (by decide) ?_
        refine lv_iand hx hb dX9_put_38 ?_
        obtain ⟨g5, hf⟩ := gd_s hf
        refine va_iast hx hb hK.1 hP hD hS 1 0 rfl rfl g5 dX9_put_39 (fun H locs hP hD hS => ?_)
        have hP : va_P G.1 vwCl [(oX9 o o_length), (wI G (o 1) 48 (upd o_signs o_length.toNatClampNeg ((((a2.toUInt64 >>> (((8 : Int32) * v4).toInt64.toUInt64 &&& Int64.toUInt64 63)).toInt64).toInt32) &&& (255 : Int32))))] H := hP
        have hD : va_D A [(oX9 o o_length), (wI G (o 1) 48 (upd o_signs o_length.toNatClampNeg ((((a2.toUInt64 >>> (((8 : Int32) * v4).toInt64.toUInt64 &&& Int64.toUInt64 63)).toInt64).toInt32) &&& (255 : Int32))))] := hD
        refine lv_aload_n hx hb dX9_put_40 rfl (lv_at hl 0 rfl) ?_
        refine lv_dup hx hb dX9_put_41 rfl ?_
        refine va_get (D := G.1) (ci := 9) (v := .int o_length) (C := RX9) (T := TX9) (N := 2) hx hb ht twX9 hown hK.1 hP 0 rfl rfl 1 (by decide) (ht _ kfl_X9_13) (fun _ h9 => h9) rfl dX9_put_42 ?_
        refine lv_iconst (v := 1) hx hb dX9_put_45 (by decide) ?_
        refine lv_iadd hx hb dX9_put_46 ?_
        refine va_put (D := G.1) (ci := 9) (v := .int (o_length + (1 : Int32))) (ty := .int) (C := RX9) (T := TX9) (N := 2) hx hb ht twX9 tyX9 tyX9_ok nmX9 hown hK.1 hP hD hS 0 rfl rfl 1 (by decide) (ht _ kfl_X9_13) (fun _ h9 => h9) rfl (by decide +kernel) rfl rfl (Nat.le_of_ble_eq_true rfl) dX9_put_47 (fun H locs hP hD hS => ?_)
        have hP : va_P G.1 vwCl [(oX9 o (o_length + (1 : Int32))), (wI G (o 1) 48 (upd o_signs o_length.toNatClampNeg ((((a2.toUInt64 >>> (((8 : Int32) * v4).toInt64.toUInt64 &&& Int64.toUInt64 63)).toInt64).toInt32) &&& (255 : Int32))))] H := hP
        have hD : va_D A [(oX9 o (o_length + (1 : Int32))), (wI G (o 1) 48 (upd o_signs o_length.toNatClampNeg ((((a2.toUInt64 >>> (((8 : Int32) * v4).toInt64.toUInt64 &&& Int64.toUInt64 63)).toInt64).toInt32) &&& (255 : Int32))))] := hD
        refine lv_iinc (v := (v4 + (-1 : Int32))) (lv' := [(4, .int (v4 + (-1 : Int32))), (0, .ref (o 0)), (2, .long a2)]) hx hb dX9_put_50 hl (k := 2) rfl (by rfl) (by decide) rfl (fun ls hl => ?_)
        refine lv_goto (tgt := 5) hx hb dX9_put_53 (by decide) ?_
        cases hf
        exact hI _ rfl H locs ls hP hD hS (lv_sub hl [1, 2, 0] rfl)
  rw [eH, el] at key
  exact key
