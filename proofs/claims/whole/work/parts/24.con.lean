abbrev Wc_X11_times (l : Launch) (G : TG) (mo : Nat → Nat) (mo_length : Int32) (mo_at : Int32) (mo_faultAt : Int32) (mo_parts : Int32) (mo_entries : Int32) (mo_ringEarth : Int32) (mo_lead : Int32) (mo_ring : Int32) (mo_jumpMany : Int32) (mo_curveEnd : Int32) (mo_beds : Int32) (mo_bed : Nat → Int32) (mo_all : Int64) (R : Int32) (p : Program) (e : Env) (s : State) (m : MethodId) (below : List Frame) (meth : Method) (c : Code) (H : Heap) (locs : List Loc) (g : JFrame) : Prop := W p l e ({ frames := 2, cells := 0, slots := 0, locals := 45 }) s m ([.ref (mo 0)] : List Value).toArray below meth c H locs 0 0 (MQ below (roQ (some (.int R))) ([.ref (mo 0)] : List Value).toArray s 0 0 (fun _ => False)) g
set_option maxHeartbeats 4000000 in
set_option maxRecDepth 100000 in
theorem c_X11_times (l : Launch) (G : TG) (mo : Nat → Nat) (mo_length : Int32) (mo_at : Int32) (mo_faultAt : Int32) (mo_parts : Int32) (mo_entries : Int32) (mo_ringEarth : Int32) (mo_lead : Int32) (mo_ring : Int32) (mo_jumpMany : Int32) (mo_curveEnd : Int32) (mo_beds : Int32) (mo_bed : Nat → Int32) (mo_all : Int64) (R : Int32) (hf : f_X11_times mo_beds mo_bed = some R) : RO l yX11_times cX11_times 3 (some .int) ({ frames := 2, cells := 0, slots := 0, locals := 45 }) G [.ref (mo 0)] [(oX11 mo mo_length mo_at mo_faultAt mo_parts mo_entries mo_ringEarth mo_lead mo_ring mo_jumpMany mo_curveEnd mo_beds mo_all), (wI G (mo 10) 48 mo_bed)] (some (.int R)) := by
  refine RO.mk (by decide +kernel) (Nat.le_of_ble_eq_true rfl) ?_
  intro p e s m below meth c ls C hP hK hl
  have hx := C.1
  have hb := C.2.1
  have hown : s.vm.findClass RX11 = some m.cls := C.2.2.2.2.2.1
  have ht := C.2.2.2.2.2.2
  have hl : lv_has ls 3 [(0, .ref (mo 0))] := hl
  show Wc_X11_times l G mo mo_length mo_at mo_faultAt mo_parts mo_entries mo_ringEarth mo_lead mo_ring mo_jumpMany mo_curveEnd mo_beds mo_bed mo_all R p e s m below meth c s.heap [] (F0 m 0 ls [])
  refine lv_iconst (v := 0) hx hb dX11_times_0 (by decide) ?_
  refine lv_istore_n (lv' := [(1, .int (0 : Int32)), (0, .ref (mo 0))]) hx hb dX11_times_1 rfl hl (by decide) rfl (fun ls hl => ?_)
  refine lv_aload_n hx hb dX11_times_2 rfl (lv_at hl 1 rfl) ?_
  refine lv_iconst (v := -1) hx hb dX11_times_3 (by decide) ?_
  obtain ⟨q1, r1, hf⟩ := bd_s hf
  refine ro_V (n := 1) (As := [.int (-1 : Int32)]) (rest := []) (c_X11_firstEnd l G mo mo_length mo_at mo_faultAt mo_parts mo_entries mo_ringEarth mo_lead mo_ring mo_jumpMany mo_curveEnd mo_beds mo_bed mo_all (-1 : Int32) q1 r1) C hK (hP.sub [0, 1] rfl) hl kcode_X11_firstEnd kml_X11_230 kim_X11_firstEnd ksel_X11_firstEnd kini_X11 (by decide +kernel) ⟨⟨rfl, rfl⟩, Nat.le_of_ble_eq_true rfl, Nat.le_of_ble_eq_true rfl⟩ ⟨Nat.zero_le _, Nat.zero_le _⟩ rfl rfl rfl rfl rfl (Nat.le_of_ble_eq_true rfl) dX11_times_4 rfl ?_
  refine lv_istore_n (lv' := [(2, .int q1), (1, .int (0 : Int32)), (0, .ref (mo 0))]) hx hb dX11_times_7 rfl hl (by decide) rfl (fun ls hl => ?_)
  have hx26_2 : ∀ (v1 : Int32) (ls : Array Slot), f_X11_times_x26_2 v1 = some R → lv_has ls 3 [(1, .int v1)] → Wc_X11_times l G mo mo_length mo_at mo_faultAt mo_parts mo_entries mo_ringEarth mo_lead mo_ring mo_jumpMany mo_curveEnd mo_beds mo_bed mo_all R p e s m below meth c s.heap [] (F0 m 26 ls []) := by
    intro v1 ls hf hl
    refine lv_iload_n hx hb dX11_times_26 rfl (lv_at hl 0 rfl) ?_
    have h9 := Option.some.inj hf
    subst h9
    exact ro_iret C rfl dX11_times_27
  obtain ⟨rL2, hL2, hk2⟩ := bd_s hf
  refine lp_W (P := fun st => ∀ (ls : Array Slot), lv_has ls 3 [(0, .ref (mo 0)), (1, .int st.1), (2, .int st.2)] → Wc_X11_times l G mo mo_length mo_at mo_faultAt mo_parts mo_entries mo_ringEarth mo_lead mo_ring mo_jumpMany mo_curveEnd mo_beds mo_bed mo_all R p e s m below meth c s.heap [] (F0 m 8 ls [])) ?_ FU ((0 : Int32), q1) hL2 ls (lv_sub hl [2, 1, 0] rfl)
  intro ⟨v1, v2⟩ oc2 hf hI hE ls hl
  have hl : lv_has ls 3 [(0, .ref (mo 0)), (1, .int v1), (2, .int v2)] := hl
  have hf : f_X11_times_b8 mo_beds mo_bed v1 v2 = some oc2 := hf
  refine lv_iload_n hx hb dX11_times_8 rfl (lv_at hl 2 rfl) ?_
  refine lv_bipush (v := -9) hx hb dX11_times_9 (by decide) ?_
  refine lv_icmp_eq (tgt := 26) hx hb dX11_times_11 (by decide) (fun c4 => ?_) (fun c4 => ?_)
  · have hf := o_t c4 hf
    cases hf
    have hf : f_X11_times_x26_2 v1 = some R := by have h9 := hk2; rw [← hE _ rfl] at h9; exact h9
    exact hx26_2 v1 ls hf (lv_sub hl [1] rfl)
  · have hf := o_f c4 hf
    refine lv_iinc (v := (v1 + (1 : Int32))) (lv' := [(1, .int (v1 + (1 : Int32))), (0, .ref (mo 0)), (2, .int v2)]) hx hb dX11_times_14 hl (k := 1) rfl (by rfl) (by decide) rfl (fun ls hl => ?_)
    refine lv_aload_n hx hb dX11_times_17 rfl (lv_at hl 1 rfl) ?_
    refine lv_iload_n hx hb dX11_times_18 rfl (lv_at hl 2 rfl) ?_
    obtain ⟨q5, r5, hf⟩ := bd_s hf
    refine ro_V (n := 1) (As := [.int v2]) (rest := []) (c_X11_firstEnd l G mo mo_length mo_at mo_faultAt mo_parts mo_entries mo_ringEarth mo_lead mo_ring mo_jumpMany mo_curveEnd mo_beds mo_bed mo_all v2 q5 r5) C hK (hP.sub [0, 1] rfl) hl kcode_X11_firstEnd kml_X11_230 kim_X11_firstEnd ksel_X11_firstEnd kini_X11 (by decide +kernel) ⟨⟨rfl, rfl⟩, Nat.le_of_ble_eq_true rfl, Nat.le_of_ble_eq_true rfl⟩ ⟨Nat.zero_le _, Nat.zero_le _⟩ rfl rfl rfl rfl rfl (Nat.le_of_ble_eq_true rfl) dX11_times_19 rfl ?_
    refine lv_istore_n (lv' := [(2, .int q5), (1, .int (v1 + (1 : Int32))), (0, .ref (mo 0))]) hx hb dX11_times_22 rfl hl (by decide) rfl (fun ls hl => ?_)
    refine lv_goto (tgt := 8) hx hb dX11_times_23 (by decide) ?_
    cases hf
    exact hI _ rfl ls (lv_sub hl [2, 1, 0] rfl)
abbrev Wc_X11_time (l : Launch) (G : TG) (mo : Nat → Nat) (mo_length : Int32) (mo_at : Int32) (mo_faultAt : Int32) (mo_parts : Int32) (mo_entries : Int32) (mo_ringEarth : Int32) (mo_lead : Int32) (mo_ring : Int32) (mo_jumpMany : Int32) (mo_curveEnd : Int32) (mo_beds : Int32) (mo_bed : Nat → Int32) (mo_all : Int64) (a1 : Int32) (R : Int32) (p : Program) (e : Env) (s : State) (m : MethodId) (below : List Frame) (meth : Method) (c : Code) (H : Heap) (locs : List Loc) (g : JFrame) : Prop := W p l e ({ frames := 2, cells := 0, slots := 0, locals := 45 }) s m ([.ref (mo 0), .int a1] : List Value).toArray below meth c H locs 0 0 (MQ below (roQ (some (.int R))) ([.ref (mo 0), .int a1] : List Value).toArray s 0 0 (fun _ => False)) g
set_option maxHeartbeats 4000000 in
set_option maxRecDepth 100000 in
theorem c_X11_time (l : Launch) (G : TG) (mo : Nat → Nat) (mo_length : Int32) (mo_at : Int32) (mo_faultAt : Int32) (mo_parts : Int32) (mo_entries : Int32) (mo_ringEarth : Int32) (mo_lead : Int32) (mo_ring : Int32) (mo_jumpMany : Int32) (mo_curveEnd : Int32) (mo_beds : Int32) (mo_bed : Nat → Int32) (mo_all : Int64) (a1 : Int32) (R : Int32) (hf : f_X11_time mo_beds mo_bed a1 = some R) : RO l yX11_time cX11_time 4 (some .int) ({ frames := 2, cells := 0, slots := 0, locals := 45 }) G [.ref (mo 0), .int a1] [(oX11 mo mo_length mo_at mo_faultAt mo_parts mo_entries mo_ringEarth mo_lead mo_ring mo_jumpMany mo_curveEnd mo_beds mo_all), (wI G (mo 10) 48 mo_bed)] (some (.int R)) := by
  refine RO.mk (by decide +kernel) (Nat.le_of_ble_eq_true rfl) ?_
  intro p e s m below meth c ls C hP hK hl
  have hx := C.1
  have hb := C.2.1
  have hown : s.vm.findClass RX11 = some m.cls := C.2.2.2.2.2.1
  have ht := C.2.2.2.2.2.2
  have hl : lv_has ls 4 [(0, .ref (mo 0)), (1, .int a1)] := hl
  show Wc_X11_time l G mo mo_length mo_at mo_faultAt mo_parts mo_entries mo_ringEarth mo_lead mo_ring mo_jumpMany mo_curveEnd mo_beds mo_bed mo_all a1 R p e s m below meth c s.heap [] (F0 m 0 ls [])
  refine lv_iconst (v := 0) hx hb dX11_time_0 (by decide) ?_
  refine lv_istore_n (lv' := [(2, .int (0 : Int32)), (0, .ref (mo 0)), (1, .int a1)]) hx hb dX11_time_1 rfl hl (by decide) rfl (fun ls hl => ?_)
  refine lv_aload_n hx hb dX11_time_2 rfl (lv_at hl 1 rfl) ?_
  refine lv_iconst (v := -1) hx hb dX11_time_3 (by decide) ?_
  obtain ⟨q1, r1, hf⟩ := bd_s hf
  refine ro_V (n := 1) (As := [.int (-1 : Int32)]) (rest := []) (c_X11_firstEnd l G mo mo_length mo_at mo_faultAt mo_parts mo_entries mo_ringEarth mo_lead mo_ring mo_jumpMany mo_curveEnd mo_beds mo_bed mo_all (-1 : Int32) q1 r1) C hK (hP.sub [0, 1] rfl) hl kcode_X11_firstEnd kml_X11_230 kim_X11_firstEnd ksel_X11_firstEnd kini_X11 (by decide +kernel) ⟨⟨rfl, rfl⟩, Nat.le_of_ble_eq_true rfl, Nat.le_of_ble_eq_true rfl⟩ ⟨Nat.zero_le _, Nat.zero_le _⟩ rfl rfl rfl rfl rfl (Nat.le_of_ble_eq_true rfl) dX11_time_4 rfl ?_
  refine lv_istore_n (lv' := [(3, .int q1), (2, .int (0 : Int32)), (0, .ref (mo 0)), (1, .int a1)]) hx hb dX11_time_7 rfl hl (by decide) rfl (fun ls hl => ?_)
  have hx33_2 : ∀ (ls : Array Slot), f_X11_time_x33_2 = some R → lv_has ls 4 [] → Wc_X11_time l G mo mo_length mo_at mo_faultAt mo_parts mo_entries mo_ringEarth mo_lead mo_ring mo_jumpMany mo_curveEnd mo_beds mo_bed mo_all a1 R p e s m below meth c s.heap [] (F0 m 33 ls []) := by
    intro ls hf hl
    refine lv_bipush (v := -9) hx hb dX11_time_33 (by decide) ?_
    have h9 := Option.some.inj hf
    subst h9
    exact ro_iret C rfl dX11_time_35
  obtain ⟨rL2, hL2, hk2⟩ := bd_s hf
  refine lp_W (P := fun st => ∀ (ls : Array Slot), lv_has ls 4 [(0, .ref (mo 0)), (1, .int a1), (2, .int st.1), (3, .int st.2)] → Wc_X11_time l G mo mo_length mo_at mo_faultAt mo_parts mo_entries mo_ringEarth mo_lead mo_ring mo_jumpMany mo_curveEnd mo_beds mo_bed mo_all a1 R p e s m below meth c s.heap [] (F0 m 8 ls [])) ?_ FU ((0 : Int32), q1) hL2 ls (lv_sub hl [2, 3, 1, 0] rfl)
  intro ⟨v2, v3⟩ oc2 hf hI hE ls hl
  have hl : lv_has ls 4 [(0, .ref (mo 0)), (1, .int a1), (2, .int v2), (3, .int v3)] := hl
  have hf : f_X11_time_b8 mo_beds mo_bed a1 v2 v3 = some oc2 := hf
  refine lv_iload_n hx hb dX11_time_8 rfl (lv_at hl 3 rfl) ?_
  refine lv_bipush (v := -9) hx hb dX11_time_9 (by decide) ?_
  refine lv_icmp_eq (tgt := 33) hx hb dX11_time_11 (by decide) (fun c4 => ?_) (fun c4 => ?_)
  · have hf := o_t c4 hf
    cases hf
    have hf : f_X11_time_x33_2 = some R := by have h9 := hk2; rw [← hE _ rfl] at h9; exact h9
    exact hx33_2 ls hf (lv_sub hl [] rfl)
  · have hf := o_f c4 hf
    refine lv_iload_n hx hb dX11_time_14 rfl (lv_at hl 2 rfl) ?_
    refine lv_iload_n hx hb dX11_time_15 rfl (lv_at hl 1 rfl) ?_
    refine lv_icmp_ne (tgt := 21) hx hb dX11_time_16 (by decide) (fun c5 => ?_) (fun c5 => ?_)
    · have hf := o_f c5 hf
      refine lv_iinc (v := (v2 + (1 : Int32))) (lv' := [(2, .int (v2 + (1 : Int32))), (0, .ref (mo 0)), (1, .int a1), (3, .int v3)]) hx hb dX11_time_21 hl (k := 2) rfl (by rfl) (by decide) rfl (fun ls hl => ?_)
      refine lv_aload_n hx hb dX11_time_24 rfl (lv_at hl 1 rfl) ?_
      refine lv_iload_n hx hb dX11_time_25 rfl (lv_at hl 3 rfl) ?_
      obtain ⟨q6, r6, hf⟩ := bd_s hf
      refine ro_V (n := 1) (As := [.int v3]) (rest := []) (c_X11_firstEnd l G mo mo_length mo_at mo_faultAt mo_parts mo_entries mo_ringEarth mo_lead mo_ring mo_jumpMany mo_curveEnd mo_beds mo_bed mo_all v3 q6 r6) C hK (hP.sub [0, 1] rfl) hl kcode_X11_firstEnd kml_X11_230 kim_X11_firstEnd ksel_X11_firstEnd kini_X11 (by decide +kernel) ⟨⟨rfl, rfl⟩, Nat.le_of_ble_eq_true rfl, Nat.le_of_ble_eq_true rfl⟩ ⟨Nat.zero_le _, Nat.zero_le _⟩ rfl rfl rfl rfl rfl (Nat.le_of_ble_eq_true rfl) dX11_time_26 rfl ?_
      refine lv_istore_n (lv' := [(3, .int q6), (2, .int (v2 + (1 : Int32))), (0, .ref (mo 0)), (1, .int a1)]) hx hb dX11_time_29 rfl hl (by decide) rfl (fun ls hl => ?_)
      refine lv_goto (tgt := 8) hx hb dX11_time_30 (by decide) ?_
      cases hf
      exact hI _ rfl ls (lv_sub hl [2, 3, 1, 0] rfl)
    · have hf := o_t c5 hf
      refine lv_iload_n hx hb dX11_time_19 rfl (lv_at hl 3 rfl) ?_
      cases hf
      have hf : some v3 = some R := by have h9 := hk2; rw [← hE _ rfl] at h9; exact h9
      have h9 := Option.some.inj hf
      subst h9
      exact ro_iret C rfl dX11_time_20
abbrev Wc_X11_layOrder (l : Launch) (G : TG) (mo : Nat → Nat) (mo_length : Int32) (mo_at : Int32) (mo_faultAt : Int32) (mo_parts : Int32) (mo_entries : Int32) (mo_ringEarth : Int32) (mo_lead : Int32) (mo_ring : Int32) (mo_jumpMany : Int32) (mo_curveEnd : Int32) (mo_beds : Int32) (mo_bed : Nat → Int32) (mo_all : Int64) (mo_early : Nat → Int32) (mo_late : Nat → Int32) (a1 : Int32) (R : Int32 × (Nat → Int32) × (Nat → Int32)) (p : Program) (e : Env) (s : State) (m : MethodId) (below : List Frame) (meth : Method) (c : Code) (A : Nat → Prop) (H : Heap) (locs : List Loc) (g : JFrame) : Prop := W p l e ({ frames := 0, cells := 0, slots := 0, locals := 0 }) s m ([.ref (mo 0), .int a1] : List Value).toArray below meth c H locs 0 0 (MQ below (rwQ G (some (.int R.1)) [(oX11 mo mo_length mo_at mo_faultAt mo_parts mo_entries mo_ringEarth mo_lead mo_ring mo_jumpMany mo_curveEnd mo_beds mo_all), (wI G (mo 10) 48 mo_bed), (wI G (mo 12) 8 R.2.1), (wI G (mo 13) 8 R.2.2)] A) ([.ref (mo 0), .int a1] : List Value).toArray s 0 0 A) g
set_option maxHeartbeats 4000000 in
set_option maxRecDepth 100000 in
theorem c_X11_layOrder (l : Launch) (G : TG) (mo : Nat → Nat) (mo_length : Int32) (mo_at : Int32) (mo_faultAt : Int32) (mo_parts : Int32) (mo_entries : Int32) (mo_ringEarth : Int32) (mo_lead : Int32) (mo_ring : Int32) (mo_jumpMany : Int32) (mo_curveEnd : Int32) (mo_beds : Int32) (mo_bed : Nat → Int32) (mo_all : Int64) (mo_early : Nat → Int32) (mo_late : Nat → Int32) (a1 : Int32) (R : Int32 × (Nat → Int32) × (Nat → Int32)) (hf : f_X11_layOrder mo_beds mo_bed mo_early mo_late a1 = some R) : RW l yX11_layOrder cX11_layOrder 6 (some .boolean) ({ frames := 0, cells := 0, slots := 0, locals := 0 }) G [.ref (mo 0), .int a1] [(oX11 mo mo_length mo_at mo_faultAt mo_parts mo_entries mo_ringEarth mo_lead mo_ring mo_jumpMany mo_curveEnd mo_beds mo_all), (wI G (mo 10) 48 mo_bed), (wI G (mo 12) 8 mo_early), (wI G (mo 13) 8 mo_late)] (some (.int R.1)) [(oX11 mo mo_length mo_at mo_faultAt mo_parts mo_entries mo_ringEarth mo_lead mo_ring mo_jumpMany mo_curveEnd mo_beds mo_all), (wI G (mo 10) 48 mo_bed), (wI G (mo 12) 8 R.2.1), (wI G (mo 13) 8 R.2.2)] := by
  refine RW.mk (by decide +kernel) (Nat.le_of_ble_eq_true rfl) ?_
  intro p e s m below meth c ls A C hP hD hA hz hK hl hS
  have hx := C.1
  have hb := C.2.1
  have hown : s.vm.findClass RX11 = some m.cls := C.2.2.2.2.2.1
  have ht := C.2.2.2.2.2.2
  have hl : lv_has ls 6 [(0, .ref (mo 0)), (1, .int a1)] := hl
  show Wc_X11_layOrder l G mo mo_length mo_at mo_faultAt mo_parts mo_entries mo_ringEarth mo_lead mo_ring mo_jumpMany mo_curveEnd mo_beds mo_bed mo_all mo_early mo_late a1 R p e s m below meth c A s.heap [] (F0 m 0 ls [])
  obtain ⟨H, eH, hP, hS⟩ : ∃ H, H = s.heap ∧ va_P G.1 vwCl [(oX11 mo mo_length mo_at mo_faultAt mo_parts mo_entries mo_ringEarth mo_lead mo_ring mo_jumpMany mo_curveEnd mo_beds mo_all), (wI G (mo 10) 48 mo_bed), (wI G (mo 12) 8 mo_early), (wI G (mo 13) 8 mo_late)] H ∧ va_S A s.heap H [] := ⟨_, rfl, hP, hS⟩
  obtain ⟨locs, el, hS⟩ : ∃ locs : List Loc, locs = [] ∧ va_S A s.heap H locs := ⟨_, rfl, hS⟩
  have key : Wc_X11_layOrder l G mo mo_length mo_at mo_faultAt mo_parts mo_entries mo_ringEarth mo_lead mo_ring mo_jumpMany mo_curveEnd mo_beds mo_bed mo_all mo_early mo_late a1 R p e s m below meth c A H locs (F0 m 0 ls []) := by
    refine lv_iconst (v := 0) hx hb dX11_layOrder_0 (by decide) ?_
    refine lv_istore_n (lv' := [(2, .int (0 : Int32)), (0, .ref (mo 0)), (1, .int a1)]) hx hb dX11_layOrder_1 rfl hl (by decide) rfl (fun ls hl => ?_)
    refine lv_iconst (v := 1) hx hb dX11_layOrder_2 (by decide) ?_
    refine lv_istore_n (lv' := [(3, .int (1 : Int32)), (2, .int (0 : Int32)), (0, .ref (mo 0)), (1, .int a1)]) hx hb dX11_layOrder_3 rfl hl (by decide) rfl (fun ls hl => ?_)
    refine lv_iconst (v := 0) hx hb dX11_layOrder_4 (by decide) ?_
    refine lv_istore (lv' := [(4, .int (0 : Int32)), (3, .int (1 : Int32)), (2, .int (0 : Int32)), (0, .ref (mo 0)), (1, .int a1)]) hx hb dX11_layOrder_5 hl (by decide) rfl (fun ls hl => ?_)
    have hx103_1 : ∀ (v3 : Int32) (mo_early : Nat → Int32) (H : Heap) (locs : List Loc) (ls : Array Slot), f_X11_layOrder_x103_1 mo_beds mo_bed mo_late a1 v3 mo_early = some R → va_P G.1 vwCl [(oX11 mo mo_length mo_at mo_faultAt mo_parts mo_entries mo_ringEarth mo_lead mo_ring mo_jumpMany mo_curveEnd mo_beds mo_all), (wI G (mo 10) 48 mo_bed), (wI G (mo 12) 8 mo_early), (wI G (mo 13) 8 mo_late)] H → va_D A [(oX11 mo mo_length mo_at mo_faultAt mo_parts mo_entries mo_ringEarth mo_lead mo_ring mo_jumpMany mo_curveEnd mo_beds mo_all), (wI G (mo 10) 48 mo_bed), (wI G (mo 12) 8 mo_early), (wI G (mo 13) 8 mo_late)] → va_S A s.heap H locs → lv_has ls 6 [(0, .ref (mo 0)), (1, .int a1), (3, .int v3)] → Wc_X11_layOrder l G mo mo_length mo_at mo_faultAt mo_parts mo_entries mo_ringEarth mo_lead mo_ring mo_jumpMany mo_curveEnd mo_beds mo_bed mo_all mo_early mo_late a1 R p e s m below meth c A H locs (F0 m 103 ls []) := by
      intro v3 mo_early H locs ls hf hP hD hS hl
      refine lv_bipush (v := 99) hx hb dX11_layOrder_103 (by decide) ?_
      refine lv_istore (lv' := [(4, .int (99 : Int32)), (0, .ref (mo 0)), (1, .int a1), (3, .int v3)]) hx hb dX11_layOrder_105 hl (by decide) rfl (fun ls hl => ?_)
      refine lv_aload_n hx hb dX11_layOrder_107 rfl (lv_at hl 1 rfl) ?_
      refine va_get (D := G.1) (ci := 11) (v := .int mo_beds) (C := RX11) (T := TX11) (N := 29) hx hb ht twX11 hown hK.1 hP 0 rfl rfl 19 (by decide) (ht _ kfl_X11_180) (fun _ h9 => h9) rfl dX11_layOrder_108 ?_
      refine lv_iconst (v := 1) hx hb dX11_layOrder_111 (by decide) ?_
      refine lv_isub hx hb dX11_layOrder_112 ?_
      refine lv_istore (lv' := [(5, .int (mo_beds - (1 : Int32))), (4, .int (99 : Int32)), (0, .ref (mo 0)), (1, .int a1), (3, .int v3)]) hx hb dX11_layOrder_113 hl (by decide) rfl (fun ls hl => ?_)
      have hx185_2 : ∀ (mo_late : Nat → Int32) (H : Heap) (locs : List Loc) (ls : Array Slot), f_X11_layOrder_x185_2 v3 mo_early mo_late = some R → va_P G.1 vwCl [(oX11 mo mo_length mo_at mo_faultAt mo_parts mo_entries mo_ringEarth mo_lead mo_ring mo_jumpMany mo_curveEnd mo_beds mo_all), (wI G (mo 10) 48 mo_bed), (wI G (mo 12) 8 mo_early), (wI G (mo 13) 8 mo_late)] H → va_D A [(oX11 mo mo_length mo_at mo_faultAt mo_parts mo_entries mo_ringEarth mo_lead mo_ring mo_jumpMany mo_curveEnd mo_beds mo_all), (wI G (mo 10) 48 mo_bed), (wI G (mo 12) 8 mo_early), (wI G (mo 13) 8 mo_late)] → va_S A s.heap H locs → lv_has ls 6 [(3, .int v3)] → Wc_X11_layOrder l G mo mo_length mo_at mo_faultAt mo_parts mo_entries mo_ringEarth mo_lead mo_ring mo_jumpMany mo_curveEnd mo_beds mo_bed mo_all mo_early mo_late a1 R p e s m below meth c A H locs (F0 m 185 ls []) := by
        intro mo_late H locs ls hf hP hD hS hl
        refine lv_iload_n hx hb dX11_layOrder_185 rfl (lv_at hl 0 rfl) ?_
        obtain ⟨z3, hf⟩ := zb_s hf
        have h9 := Option.some.inj hf
        subst h9
        exact rw_zret C z3 rfl hP hD hS dX11_layOrder_186
      obtain ⟨rL2, hL2, hk2⟩ := bd_s hf
      refine lp_W (P := fun st => ∀ (H : Heap) (locs : List Loc) (ls : Array Slot), va_P G.1 vwCl [(oX11 mo mo_length mo_at mo_faultAt mo_parts mo_entries mo_ringEarth mo_lead mo_ring mo_jumpMany mo_curveEnd mo_beds mo_all), (wI G (mo 10) 48 mo_bed), (wI G (mo 12) 8 mo_early), (wI G (mo 13) 8 st.2.2)] H → va_D A [(oX11 mo mo_length mo_at mo_faultAt mo_parts mo_entries mo_ringEarth mo_lead mo_ring mo_jumpMany mo_curveEnd mo_beds mo_all), (wI G (mo 10) 48 mo_bed), (wI G (mo 12) 8 mo_early), (wI G (mo 13) 8 st.2.2)] → va_S A s.heap H locs → lv_has ls 6 [(0, .ref (mo 0)), (1, .int a1), (3, .int v3), (4, .int st.1), (5, .int st.2.1)] → Wc_X11_layOrder l G mo mo_length mo_at mo_faultAt mo_parts mo_entries mo_ringEarth mo_lead mo_ring mo_jumpMany mo_curveEnd mo_beds mo_bed mo_all mo_early mo_late a1 R p e s m below meth c A H locs (F0 m 115 ls [])) ?_ FU ((99 : Int32), (mo_beds - (1 : Int32)), mo_late) hL2 H locs ls hP hD hS (lv_sub hl [2, 3, 4, 1, 0] rfl)
      intro ⟨v4, v5, mo_late⟩ oc2 hf hI hE H locs ls hP hD hS hl
      have hP : va_P G.1 vwCl [(oX11 mo mo_length mo_at mo_faultAt mo_parts mo_entries mo_ringEarth mo_lead mo_ring mo_jumpMany mo_curveEnd mo_beds mo_all), (wI G (mo 10) 48 mo_bed), (wI G (mo 12) 8 mo_early), (wI G (mo 13) 8 mo_late)] H := hP
      have hD : va_D A [(oX11 mo mo_length mo_at mo_faultAt mo_parts mo_entries mo_ringEarth mo_lead mo_ring mo_jumpMany mo_curveEnd mo_beds mo_all), (wI G (mo 10) 48 mo_bed), (wI G (mo 12) 8 mo_early), (wI G (mo 13) 8 mo_late)] := hD
      have hl : lv_has ls 6 [(0, .ref (mo 0)), (1, .int a1), (3, .int v3), (4, .int v4), (5, .int v5)] := hl
      have hf : f_X11_layOrder_b115 mo_bed a1 v4 v5 mo_late = some oc2 := hf
      have hj168 : ∀ (v5 : Int32) (k0 : Int32) (mo_late : Nat → Int32) (H : Heap) (locs : List Loc) (ls : Array Slot), f_X11_layOrder_j168 v5 k0 mo_late = some oc2 → va_P G.1 vwCl [(oX11 mo mo_length mo_at mo_faultAt mo_parts mo_entries mo_ringEarth mo_lead mo_ring mo_jumpMany mo_curveEnd mo_beds mo_all), (wI G (mo 10) 48 mo_bed), (wI G (mo 12) 8 mo_early), (wI G (mo 13) 8 mo_late)] H → va_D A [(oX11 mo mo_length mo_at mo_faultAt mo_parts mo_entries mo_ringEarth mo_lead mo_ring mo_jumpMany mo_curveEnd mo_beds mo_all), (wI G (mo 10) 48 mo_bed), (wI G (mo 12) 8 mo_early), (wI G (mo 13) 8 mo_late)] → va_S A s.heap H locs → lv_has ls 6 [(0, .ref (mo 0)), (1, .int a1), (3, .int v3), (5, .int v5)] → Wc_X11_layOrder l G mo mo_length mo_at mo_faultAt mo_parts mo_entries mo_ringEarth mo_lead mo_ring mo_jumpMany mo_curveEnd mo_beds mo_bed mo_all mo_early mo_late a1 R p e s m below meth c A H locs (F0 m 168 ls [.int k0]) := by
        intro v5 k0 mo_late H locs ls hf hP hD hS hl
        refine lv_istore (lv' := [(4, .int k0), (0, .ref (mo 0)), (1, .int a1), (3, .int v3), (5, .int v5)]) hx hb dX11_layOrder_168 hl (by decide) rfl (fun ls hl => ?_)
        refine lv_aload_n hx hb dX11_layOrder_170 rfl (lv_at hl 1 rfl) ?_
        refine va_get (D := G.1) (ci := 11) (v := .ref (mo 13)) (C := RX11) (T := TX11) (N := 29) hx hb ht twX11 hown hK.1 hP 0 rfl rfl 24 (by decide) (ht _ kfl_X11_47) (fun _ h9 => h9) rfl dX11_layOrder_171 ?_
        refine lv_iload hx hb dX11_layOrder_174 (lv_at hl 4 rfl) ?_
        refine lv_iload hx hb dX11_layOrder_176 (lv_at hl 0 rfl) ?_
        obtain ⟨g4, hf⟩ := gd_s hf
        refine va_iast hx hb hK.1 hP hD hS 3 0 rfl rfl g4 dX11_layOrder_178 (fun H locs hP hD hS => ?_)
        have hP : va_P G.1 vwCl [(oX11 mo mo_length mo_at mo_faultAt mo_parts mo_entries mo_ringEarth mo_lead mo_ring mo_jumpMany mo_curveEnd mo_beds mo_all), (wI G (mo 10) 48 mo_bed), (wI G (mo 12) 8 mo_early), (wI G (mo 13) 8 (upd mo_late v5.toNatClampNeg k0))] H := hP
        have hD : va_D A [(oX11 mo mo_length mo_at mo_faultAt mo_parts mo_entries mo_ringEarth mo_lead mo_ring mo_jumpMany mo_curveEnd mo_beds mo_all), (wI G (mo 10) 48 mo_bed), (wI G (mo 12) 8 mo_early), (wI G (mo 13) 8 (upd mo_late v5.toNatClampNeg k0))] := hD
        refine lv_iinc (v := (v5 + (-1 : Int32))) (lv' := [(5, .int (v5 + (-1 : Int32))), (4, .int k0), (0, .ref (mo 0)), (1, .int a1), (3, .int v3)]) hx hb dX11_layOrder_179 hl (k := 4) rfl (by rfl) (by decide) rfl (fun ls hl => ?_)
        refine lv_goto (tgt := 115) hx hb dX11_layOrder_182 (by decide) ?_
        cases hf
        exact hI _ rfl H locs ls hP hD hS (lv_sub hl [2, 3, 4, 1, 0] rfl)
      refine lv_iload hx hb dX11_layOrder_115 (lv_at hl 4 rfl) ?_
      refine lv_if_lt (tgt := 185) hx hb dX11_layOrder_117 (by decide) (fun c5 => ?_) (fun c5 => ?_)
      · have hf := o_t c5 hf
        cases hf
        have hf : f_X11_layOrder_x185_2 v3 mo_early mo_late = some R := by have h9 := hk2; rw [← hE _ rfl] at h9; exact h9
        exact hx185_2 mo_late H locs ls hf hP hD hS (lv_sub hl [2] rfl)
      · have hf := o_f c5 hf
        refine lv_aload_n hx hb dX11_layOrder_120 rfl (lv_at hl 0 rfl) ?_
        refine va_get (D := G.1) (ci := 11) (v := .ref (mo 10)) (C := RX11) (T := TX11) (N := 29) hx hb ht twX11 hown hK.1 hP 0 rfl rfl 20 (by decide) (ht _ kfl_X11_37) (fun _ h9 => h9) rfl dX11_layOrder_121 ?_
        refine lv_bipush (v := 6) hx hb dX11_layOrder_124 (by decide) ?_
        refine lv_iload hx hb dX11_layOrder_126 (lv_at hl 4 rfl) ?_
        refine lv_imul hx hb dX11_layOrder_128 ?_
        obtain ⟨g6, hf⟩ := gd_s hf
        refine va_iald hx hb hK.1 hP 1 0 rfl rfl g6 dX11_layOrder_129 ?_
        refine lv_iload_n hx hb dX11_layOrder_130 rfl (lv_at hl 1 rfl) ?_
        refine lv_icmp_ne (tgt := 179) hx hb dX11_layOrder_131 (by decide) (fun c7 => ?_) (fun c7 => ?_)
        · have hf := o_f c7 hf
          refine lv_iinc (v := (v5 + (-1 : Int32))) (lv' := [(5, .int (v5 + (-1 : Int32))), (0, .ref (mo 0)), (1, .int a1), (3, .int v3), (4, .int v4)]) hx hb dX11_layOrder_179 hl (k := 4) rfl (by rfl) (by decide) rfl (fun ls hl => ?_)
          refine lv_goto (tgt := 115) hx hb dX11_layOrder_182 (by decide) ?_
          cases hf
          exact hI _ rfl H locs ls hP hD hS (lv_sub hl [1, 2, 3, 4, 0] rfl)
        · have hf := o_t c7 hf
          refine lv_aload_n hx hb dX11_layOrder_134 rfl (lv_at hl 0 rfl) ?_
          refine va_get (D := G.1) (ci := 11) (v := .ref (mo 10)) (C := RX11) (T := TX11) (N := 29) hx hb ht twX11 hown hK.1 hP 0 rfl rfl 20 (by decide) (ht _ kfl_X11_37) (fun _ h9 => h9) rfl dX11_layOrder_135 ?_
          refine lv_bipush (v := 6) hx hb dX11_layOrder_138 (by decide) ?_
          refine lv_iload hx hb dX11_layOrder_140 (lv_at hl 4 rfl) ?_
          refine lv_imul hx hb dX11_layOrder_142 ?_
          refine lv_iconst (v := 3) hx hb dX11_layOrder_143 (by decide) ?_
          refine lv_iadd hx hb dX11_layOrder_144 ?_
          obtain ⟨g8, hf⟩ := gd_s hf
          refine va_iald hx hb hK.1 hP 1 0 rfl rfl g8 dX11_layOrder_145 ?_
          refine lv_iload hx hb dX11_layOrder_146 (lv_at hl 3 rfl) ?_
          refine lv_icmp_ge (tgt := 166) hx hb dX11_layOrder_148 (by decide) (fun c9 => ?_) (fun c9 => ?_)
          · have hf := o_t c9 hf
            refine lv_iload hx hb dX11_layOrder_166 (lv_at hl 3 rfl) ?_
            exact hj168 v5 v4 mo_late H locs ls hf hP hD hS (lv_sub hl [0, 1, 2, 4] rfl)
          · have hf := o_f c9 hf
            refine lv_aload_n hx hb dX11_layOrder_151 rfl (lv_at hl 0 rfl) ?_
            refine va_get (D := G.1) (ci := 11) (v := .ref (mo 10)) (C := RX11) (T := TX11) (N := 29) hx hb ht twX11 hown hK.1 hP 0 rfl rfl 20 (by decide) (ht _ kfl_X11_37) (fun _ h9 => h9) rfl dX11_layOrder_152 ?_
            refine lv_bipush (v := 6) hx hb dX11_layOrder_155 (by decide) ?_
            refine lv_iload hx hb dX11_layOrder_157 (lv_at hl 4 rfl) ?_
            refine lv_imul hx hb dX11_layOrder_159 ?_
            refine lv_iconst (v := 3) hx hb dX11_layOrder_160 (by decide) ?_
            refine lv_iadd hx hb dX11_layOrder_161 ?_
            obtain ⟨g10, hf⟩ := gd_s hf
            refine va_iald hx hb hK.1 hP 1 0 rfl rfl g10 dX11_layOrder_162 ?_
            refine lv_goto (tgt := 168) hx hb dX11_layOrder_163 (by decide) ?_
            exact hj168 v5 (mo_bed (((6 : Int32) * v5) + (3 : Int32)).toNatClampNeg) mo_late H locs ls hf hP hD hS (lv_sub hl [0, 1, 2, 4] rfl)
    obtain ⟨rL1, hL1, hk1⟩ := bd_s hf
    refine lp_W (P := fun st => ∀ (H : Heap) (locs : List Loc) (ls : Array Slot), va_P G.1 vwCl [(oX11 mo mo_length mo_at mo_faultAt mo_parts mo_entries mo_ringEarth mo_lead mo_ring mo_jumpMany mo_curveEnd mo_beds mo_all), (wI G (mo 10) 48 mo_bed), (wI G (mo 12) 8 st.2.2.2), (wI G (mo 13) 8 mo_late)] H → va_D A [(oX11 mo mo_length mo_at mo_faultAt mo_parts mo_entries mo_ringEarth mo_lead mo_ring mo_jumpMany mo_curveEnd mo_beds mo_all), (wI G (mo 10) 48 mo_bed), (wI G (mo 12) 8 st.2.2.2), (wI G (mo 13) 8 mo_late)] → va_S A s.heap H locs → lv_has ls 6 [(0, .ref (mo 0)), (1, .int a1), (2, .int st.1), (3, .int st.2.1), (4, .int st.2.2.1)] → Wc_X11_layOrder l G mo mo_length mo_at mo_faultAt mo_parts mo_entries mo_ringEarth mo_lead mo_ring mo_jumpMany mo_curveEnd mo_beds mo_bed mo_all mo_early mo_late a1 R p e s m below meth c A H locs (F0 m 7 ls [])) ?_ FU ((0 : Int32), (1 : Int32), (0 : Int32), mo_early) hL1 H locs ls hP hD hS (lv_sub hl [3, 4, 2, 1, 0] rfl)
    intro ⟨v2, v3, v4, mo_early⟩ oc1 hf hI hE H locs ls hP hD hS hl
    have hP : va_P G.1 vwCl [(oX11 mo mo_length mo_at mo_faultAt mo_parts mo_entries mo_ringEarth mo_lead mo_ring mo_jumpMany mo_curveEnd mo_beds mo_all), (wI G (mo 10) 48 mo_bed), (wI G (mo 12) 8 mo_early), (wI G (mo 13) 8 mo_late)] H := hP
    have hD : va_D A [(oX11 mo mo_length mo_at mo_faultAt mo_parts mo_entries mo_ringEarth mo_lead mo_ring mo_jumpMany mo_curveEnd mo_beds mo_all), (wI G (mo 10) 48 mo_bed), (wI G (mo 12) 8 mo_early), (wI G (mo 13) 8 mo_late)] := hD
    have hl : lv_has ls 6 [(0, .ref (mo 0)), (1, .int a1), (2, .int v2), (3, .int v3), (4, .int v4)] := hl
    have hf : f_X11_layOrder_b7 mo_beds mo_bed a1 v2 v3 v4 mo_early = some oc1 := hf
    have hj62 : ∀ (v3 : Int32) (v4 : Int32) (k0 : Int32) (mo_early : Nat → Int32) (H : Heap) (locs : List Loc) (ls : Array Slot), f_X11_layOrder_j62 mo_bed v3 v4 k0 mo_early = some oc1 → va_P G.1 vwCl [(oX11 mo mo_length mo_at mo_faultAt mo_parts mo_entries mo_ringEarth mo_lead mo_ring mo_jumpMany mo_curveEnd mo_beds mo_all), (wI G (mo 10) 48 mo_bed), (wI G (mo 12) 8 mo_early), (wI G (mo 13) 8 mo_late)] H → va_D A [(oX11 mo mo_length mo_at mo_faultAt mo_parts mo_entries mo_ringEarth mo_lead mo_ring mo_jumpMany mo_curveEnd mo_beds mo_all), (wI G (mo 10) 48 mo_bed), (wI G (mo 12) 8 mo_early), (wI G (mo 13) 8 mo_late)] → va_S A s.heap H locs → lv_has ls 6 [(0, .ref (mo 0)), (1, .int a1), (3, .int v3), (4, .int v4)] → Wc_X11_layOrder l G mo mo_length mo_at mo_faultAt mo_parts mo_entries mo_ringEarth mo_lead mo_ring mo_jumpMany mo_curveEnd mo_beds mo_bed mo_all mo_early mo_late a1 R p e s m below meth c A H locs (F0 m 62 ls [.int k0]) := by
      intro v3 v4 k0 mo_early H locs ls hf hP hD hS hl
      refine lv_istore_n (lv' := [(2, .int k0), (0, .ref (mo 0)), (1, .int a1), (3, .int v3), (4, .int v4)]) hx hb dX11_layOrder_62 rfl hl (by decide) rfl (fun ls hl => ?_)
      refine lv_aload_n hx hb dX11_layOrder_63 rfl (lv_at hl 1 rfl) ?_
      refine va_get (D := G.1) (ci := 11) (v := .ref (mo 12)) (C := RX11) (T := TX11) (N := 29) hx hb ht twX11 hown hK.1 hP 0 rfl rfl 23 (by decide) (ht _ kfl_X11_44) (fun _ h9 => h9) rfl dX11_layOrder_64 ?_
      refine lv_iload hx hb dX11_layOrder_67 (lv_at hl 4 rfl) ?_
      refine lv_iload_n hx hb dX11_layOrder_69 rfl (lv_at hl 0 rfl) ?_
      obtain ⟨g11, hf⟩ := gd_s hf
      refine va_iast hx hb hK.1 hP hD hS 2 0 rfl rfl g11 dX11_layOrder_70 (fun H locs hP hD hS => ?_)
      have hP : va_P G.1 vwCl [(oX11 mo mo_length mo_at mo_faultAt mo_parts mo_entries mo_ringEarth mo_lead mo_ring mo_jumpMany mo_curveEnd mo_beds mo_all), (wI G (mo 10) 48 mo_bed), (wI G (mo 12) 8 (upd mo_early v4.toNatClampNeg k0)), (wI G (mo 13) 8 mo_late)] H := hP
      have hD : va_D A [(oX11 mo mo_length mo_at mo_faultAt mo_parts mo_entries mo_ringEarth mo_lead mo_ring mo_jumpMany mo_curveEnd mo_beds mo_all), (wI G (mo 10) 48 mo_bed), (wI G (mo 12) 8 (upd mo_early v4.toNatClampNeg k0)), (wI G (mo 13) 8 mo_late)] := hD
      refine lv_iload_n hx hb dX11_layOrder_71 rfl (lv_at hl 3 rfl) ?_
      refine lv_if_eq (tgt := 95) hx hb dX11_layOrder_72 (by decide) (fun c12 => ?_) (fun c12 => ?_)
      · have hf := o_t c12 hf
        refine lv_iconst (v := 0) hx hb dX11_layOrder_95 (by decide) ?_
        refine lv_istore_n (lv' := [(3, .int (0 : Int32)), (2, .int k0), (0, .ref (mo 0)), (1, .int a1), (4, .int v4)]) hx hb dX11_layOrder_96 rfl hl (by decide) rfl (fun ls hl => ?_)
        refine lv_iinc (v := (v4 + (1 : Int32))) (lv' := [(4, .int (v4 + (1 : Int32))), (3, .int (0 : Int32)), (2, .int k0), (0, .ref (mo 0)), (1, .int a1)]) hx hb dX11_layOrder_97 hl (k := 4) rfl (by rfl) (by decide) rfl (fun ls hl => ?_)
        refine lv_goto (tgt := 7) hx hb dX11_layOrder_100 (by decide) ?_
        cases hf
        exact hI _ rfl H locs ls hP hD hS (lv_sub hl [3, 4, 2, 1, 0] rfl)
      · have hf := o_f c12 hf
        refine lv_iload_n hx hb dX11_layOrder_75 rfl (lv_at hl 0 rfl) ?_
        refine lv_aload_n hx hb dX11_layOrder_76 rfl (lv_at hl 1 rfl) ?_
        refine va_get (D := G.1) (ci := 11) (v := .ref (mo 10)) (C := RX11) (T := TX11) (N := 29) hx hb ht twX11 hown hK.1 hP 0 rfl rfl 20 (by decide) (ht _ kfl_X11_37) (fun _ h9 => h9) rfl dX11_layOrder_77 ?_
        refine lv_bipush (v := 6) hx hb dX11_layOrder_80 (by decide) ?_
        refine lv_iload hx hb dX11_layOrder_82 (lv_at hl 4 rfl) ?_
        refine lv_imul hx hb dX11_layOrder_84 ?_
        refine lv_iconst (v := 3) hx hb dX11_layOrder_85 (by decide) ?_
        refine lv_iadd hx hb dX11_layOrder_86 ?_
        obtain ⟨g13, hf⟩ := gd_s hf
        refine va_iald hx hb hK.1 hP 1 0 rfl rfl g13 dX11_layOrder_87 ?_
        refine lv_icmp_gt (tgt := 95) hx hb dX11_layOrder_88 (by decide) (fun c14 => ?_) (fun c14 => ?_)
        · have hf := o_t c14 hf
          refine lv_iconst (v := 0) hx hb dX11_layOrder_95 (by decide) ?_
          refine lv_istore_n (lv' := [(3, .int (0 : Int32)), (2, .int k0), (0, .ref (mo 0)), (1, .int a1), (4, .int v4)]) hx hb dX11_layOrder_96 rfl hl (by decide) rfl (fun ls hl => ?_)
          refine lv_iinc (v := (v4 + (1 : Int32))) (lv' := [(4, .int (v4 + (1 : Int32))), (3, .int (0 : Int32)), (2, .int k0), (0, .ref (mo 0)), (1, .int a1)]) hx hb dX11_layOrder_97 hl (k := 4) rfl (by rfl) (by decide) rfl (fun ls hl => ?_)
          refine lv_goto (tgt := 7) hx hb dX11_layOrder_100 (by decide) ?_
          cases hf
          exact hI _ rfl H locs ls hP hD hS (lv_sub hl [3, 4, 2, 1, 0] rfl)
        · have hf := o_f c14 hf
          refine lv_iconst (v := 1) hx hb dX11_layOrder_91 (by decide) ?_
          refine lv_goto (tgt := 96) hx hb dX11_layOrder_92 (by decide) ?_
          refine lv_istore_n (lv' := [(3, .int (1 : Int32)), (2, .int k0), (0, .ref (mo 0)), (1, .int a1), (4, .int v4)]) hx hb dX11_layOrder_96 rfl hl (by decide) rfl (fun ls hl => ?_)
          refine lv_iinc (v := (v4 + (1 : Int32))) (lv' := [(4, .int (v4 + (1 : Int32))), (3, .int (1 : Int32)), (2, .int k0), (0, .ref (mo 0)), (1, .int a1)]) hx hb dX11_layOrder_97 hl (k := 4) rfl (by rfl) (by decide) rfl (fun ls hl => ?_)
          refine lv_goto (tgt := 7) hx hb dX11_layOrder_100 (by decide) ?_
          cases hf
          exact hI _ rfl H locs ls hP hD hS (lv_sub hl [3, 4, 2, 1, 0] rfl)
    refine lv_iload hx hb dX11_layOrder_7 (lv_at hl 4 rfl) ?_
    refine lv_aload_n hx hb dX11_layOrder_9 rfl (lv_at hl 0 rfl) ?_
    refine va_get (D := G.1) (ci := 11) (v := .int mo_beds) (C := RX11) (T := TX11) (N := 29) hx hb ht twX11 hown hK.1 hP 0 rfl rfl 19 (by decide) (ht _ kfl_X11_180) (fun _ h9 => h9) rfl dX11_layOrder_10 ?_
    refine lv_icmp_ge (tgt := 103) hx hb dX11_layOrder_13 (by decide) (fun c15 => ?_) (fun c15 => ?_)
    · have hf := o_t c15 hf
      cases hf
      have hf : f_X11_layOrder_x103_1 mo_beds mo_bed mo_late a1 v3 mo_early = some R := by have h9 := hk1; rw [← hE _ rfl] at h9; exact h9
      exact hx103_1 v3 mo_early H locs ls hf hP hD hS (lv_sub hl [0, 1, 3] rfl)
    · have hf := o_f c15 hf
      refine lv_aload_n hx hb dX11_layOrder_16 rfl (lv_at hl 0 rfl) ?_
      refine va_get (D := G.1) (ci := 11) (v := .ref (mo 10)) (C := RX11) (T := TX11) (N := 29) hx hb ht twX11 hown hK.1 hP 0 rfl rfl 20 (by decide) (ht _ kfl_X11_37) (fun _ h9 => h9) rfl dX11_layOrder_17 ?_
      refine lv_bipush (v := 6) hx hb dX11_layOrder_20 (by decide) ?_
      refine lv_iload hx hb dX11_layOrder_22 (lv_at hl 4 rfl) ?_
      refine lv_imul hx hb dX11_layOrder_24 ?_
      obtain ⟨g16, hf⟩ := gd_s hf
      refine va_iald hx hb hK.1 hP 1 0 rfl rfl g16 dX11_layOrder_25 ?_
      refine lv_iload_n hx hb dX11_layOrder_26 rfl (lv_at hl 1 rfl) ?_
      refine lv_icmp_ne (tgt := 97) hx hb dX11_layOrder_27 (by decide) (fun c17 => ?_) (fun c17 => ?_)
      · have hf := o_f c17 hf
        refine lv_iinc (v := (v4 + (1 : Int32))) (lv' := [(4, .int (v4 + (1 : Int32))), (0, .ref (mo 0)), (1, .int a1), (2, .int v2), (3, .int v3)]) hx hb dX11_layOrder_97 hl (k := 4) rfl (by rfl) (by decide) rfl (fun ls hl => ?_)
        refine lv_goto (tgt := 7) hx hb dX11_layOrder_100 (by decide) ?_
        cases hf
        exact hI _ rfl H locs ls hP hD hS (lv_sub hl [1, 2, 3, 4, 0] rfl)
      · have hf := o_t c17 hf
        refine lv_aload_n hx hb dX11_layOrder_30 rfl (lv_at hl 0 rfl) ?_
        refine va_get (D := G.1) (ci := 11) (v := .ref (mo 10)) (C := RX11) (T := TX11) (N := 29) hx hb ht twX11 hown hK.1 hP 0 rfl rfl 20 (by decide) (ht _ kfl_X11_37) (fun _ h9 => h9) rfl dX11_layOrder_31 ?_
        refine lv_bipush (v := 6) hx hb dX11_layOrder_34 (by decide) ?_
        refine lv_iload hx hb dX11_layOrder_36 (lv_at hl 4 rfl) ?_
        refine lv_imul hx hb dX11_layOrder_38 ?_
        refine lv_iconst (v := 2) hx hb dX11_layOrder_39 (by decide) ?_
        refine lv_iadd hx hb dX11_layOrder_40 ?_
        obtain ⟨g18, hf⟩ := gd_s hf
        refine va_iald hx hb hK.1 hP 1 0 rfl rfl g18 dX11_layOrder_41 ?_
        refine lv_iload_n hx hb dX11_layOrder_42 rfl (lv_at hl 2 rfl) ?_
        refine lv_icmp_le (tgt := 61) hx hb dX11_layOrder_43 (by decide) (fun c19 => ?_) (fun c19 => ?_)
        · have hf := o_t c19 hf
          refine lv_iload_n hx hb dX11_layOrder_61 rfl (lv_at hl 2 rfl) ?_
          exact hj62 v3 v4 v2 mo_early H locs ls hf hP hD hS (lv_sub hl [0, 1, 3, 4] rfl)
        · have hf := o_f c19 hf
          refine lv_aload_n hx hb dX11_layOrder_46 rfl (lv_at hl 0 rfl) ?_
          refine va_get (D := G.1) (ci := 11) (v := .ref (mo 10)) (C := RX11) (T := TX11) (N := 29) hx hb ht twX11 hown hK.1 hP 0 rfl rfl 20 (by decide) (ht _ kfl_X11_37) (fun _ h9 => h9) rfl dX11_layOrder_47 ?_
          refine lv_bipush (v := 6) hx hb dX11_layOrder_50 (by decide) ?_
          refine lv_iload hx hb dX11_layOrder_52 (lv_at hl 4 rfl) ?_
          refine lv_imul hx hb dX11_layOrder_54 ?_
          refine lv_iconst (v := 2) hx hb dX11_layOrder_55 (by decide) ?_
          refine lv_iadd hx hb dX11_layOrder_56 ?_
          obtain ⟨g20, hf⟩ := gd_s hf
          refine va_iald hx hb hK.1 hP 1 0 rfl rfl g20 dX11_layOrder_57 ?_
          refine lv_goto (tgt := 62) hx hb dX11_layOrder_58 (by decide) ?_
          exact hj62 v3 v4 (mo_bed (((6 : Int32) * v4) + (2 : Int32)).toNatClampNeg) mo_early H locs ls hf hP hD hS (lv_sub hl [0, 1, 3, 4] rfl)
  rw [eH, el] at key
  exact key
abbrev Wc_X11_order (l : Launch) (G : TG) (mo : Nat → Nat) (mo_length : Int32) (mo_at : Int32) (mo_faultAt : Int32) (mo_parts : Int32) (mo_entries : Int32) (mo_ringEarth : Int32) (mo_lead : Int32) (mo_ring : Int32) (mo_jumpMany : Int32) (mo_curveEnd : Int32) (mo_beds : Int32) (mo_bed : Nat → Int32) (mo_all : Int64) (mo_early : Nat → Int32) (mo_late : Nat → Int32) (a1 : Int32) (R : Int32 × (Nat → Int32) × (Nat → Int32)) (p : Program) (e : Env) (s : State) (m : MethodId) (below : List Frame) (meth : Method) (c : Code) (A : Nat → Prop) (H : Heap) (locs : List Loc) (g : JFrame) : Prop := W p l e ({ frames := 1, cells := 0, slots := 0, locals := 25 }) s m ([.ref (mo 0), .int a1] : List Value).toArray below meth c H locs 0 0 (MQ below (rwQ G (some (.int R.1)) [(oX11 mo mo_length mo_at mo_faultAt mo_parts mo_entries mo_ringEarth mo_lead mo_ring mo_jumpMany mo_curveEnd mo_beds mo_all), (wI G (mo 10) 48 mo_bed), (wI G (mo 12) 8 R.2.1), (wI G (mo 13) 8 R.2.2)] A) ([.ref (mo 0), .int a1] : List Value).toArray s 0 0 A) g
set_option maxHeartbeats 4000000 in
set_option maxRecDepth 100000 in
theorem c_X11_order (l : Launch) (G : TG) (mo : Nat → Nat) (mo_length : Int32) (mo_at : Int32) (mo_faultAt : Int32) (mo_parts : Int32) (mo_entries : Int32) (mo_ringEarth : Int32) (mo_lead : Int32) (mo_ring : Int32) (mo_jumpMany : Int32) (mo_curveEnd : Int32) (mo_beds : Int32) (mo_bed : Nat → Int32) (mo_all : Int64) (mo_early : Nat → Int32) (mo_late : Nat → Int32) (a1 : Int32) (R : Int32 × (Nat → Int32) × (Nat → Int32)) (hf : f_X11_order mo_beds mo_bed mo_early mo_late a1 = some R) : RW l yX11_order cX11_order 2 (some .int) ({ frames := 1, cells := 0, slots := 0, locals := 25 }) G [.ref (mo 0), .int a1] [(oX11 mo mo_length mo_at mo_faultAt mo_parts mo_entries mo_ringEarth mo_lead mo_ring mo_jumpMany mo_curveEnd mo_beds mo_all), (wI G (mo 10) 48 mo_bed), (wI G (mo 12) 8 mo_early), (wI G (mo 13) 8 mo_late)] (some (.int R.1)) [(oX11 mo mo_length mo_at mo_faultAt mo_parts mo_entries mo_ringEarth mo_lead mo_ring mo_jumpMany mo_curveEnd mo_beds mo_all), (wI G (mo 10) 48 mo_bed), (wI G (mo 12) 8 R.2.1), (wI G (mo 13) 8 R.2.2)] := by
  refine RW.mk (by decide +kernel) (Nat.le_of_ble_eq_true rfl) ?_
  intro p e s m below meth c ls A C hP hD hA hz hK hl hS
  have hx := C.1
  have hb := C.2.1
  have hown : s.vm.findClass RX11 = some m.cls := C.2.2.2.2.2.1
  have ht := C.2.2.2.2.2.2
  have hl : lv_has ls 2 [(0, .ref (mo 0)), (1, .int a1)] := hl
  show Wc_X11_order l G mo mo_length mo_at mo_faultAt mo_parts mo_entries mo_ringEarth mo_lead mo_ring mo_jumpMany mo_curveEnd mo_beds mo_bed mo_all mo_early mo_late a1 R p e s m below meth c A s.heap [] (F0 m 0 ls [])
  obtain ⟨H, eH, hP, hS⟩ : ∃ H, H = s.heap ∧ va_P G.1 vwCl [(oX11 mo mo_length mo_at mo_faultAt mo_parts mo_entries mo_ringEarth mo_lead mo_ring mo_jumpMany mo_curveEnd mo_beds mo_all), (wI G (mo 10) 48 mo_bed), (wI G (mo 12) 8 mo_early), (wI G (mo 13) 8 mo_late)] H ∧ va_S A s.heap H [] := ⟨_, rfl, hP, hS⟩
  obtain ⟨locs, el, hS⟩ : ∃ locs : List Loc, locs = [] ∧ va_S A s.heap H locs := ⟨_, rfl, hS⟩
  have key : Wc_X11_order l G mo mo_length mo_at mo_faultAt mo_parts mo_entries mo_ringEarth mo_lead mo_ring mo_jumpMany mo_curveEnd mo_beds mo_bed mo_all mo_early mo_late a1 R p e s m below meth c A H locs (F0 m 0 ls []) := by
    refine lv_iload_n hx hb dX11_order_0 rfl (lv_at hl 1 rfl) ?_
    refine lv_i2l (v := (a1.toInt64)) hx hb dX11_order_1 rfl ?_
    refine lv_lconst (v := 0) hx hb dX11_order_2 (by decide) ?_
    refine lv_ldc2 hx hb hown (ht _ kcL_X11_115) dX11_order_3 ?_
    obtain ⟨q1, r1, hf⟩ := bd_s hf
    refine ro_S (n := 3) (As := [.long (a1.toInt64), .long (0 : Int64), .long (3 : Int64)]) (rest := []) (c_X11_in l G (a1.toInt64) (0 : Int64) (3 : Int64) q1 r1) C (hK.at hS hz) (hP.sub [] rfl) hl kcode_X11_in kml_X11_65 kst_X11_in kini_X11 (by decide +kernel) ⟨⟨rfl, rfl⟩, Nat.le_of_ble_eq_true rfl, Nat.le_of_ble_eq_true rfl⟩ ⟨Nat.zero_le _, Nat.zero_le _⟩ rfl rfl (Nat.le_of_ble_eq_true rfl) dX11_order_6 rfl ?_
    refine lv_if_ne (tgt := 14) hx hb dX11_order_9 (by decide) (fun c2 => ?_) (fun c2 => ?_)
    · have hf := o_f c2 hf
      refine lv_aload_n hx hb dX11_order_14 rfl (lv_at hl 0 rfl) ?_
      refine lv_iload_n hx hb dX11_order_15 rfl (lv_at hl 1 rfl) ?_
      obtain ⟨q3, r3, hf⟩ := bd_s hf
      refine rw_V (n := 1) (As := [.int a1]) (rest := []) (wr := []) (ws2 := [(oX11 mo mo_length mo_at mo_faultAt mo_parts mo_entries mo_ringEarth mo_lead mo_ring mo_jumpMany mo_curveEnd mo_beds mo_all), (wI G (mo 10) 48 mo_bed), (wI G (mo 12) 8 q3.2.1), (wI G (mo 13) 8 q3.2.2)]) (c_X11_layOrder l G mo mo_length mo_at mo_faultAt mo_parts mo_entries mo_ringEarth mo_lead mo_ring mo_jumpMany mo_curveEnd mo_beds mo_bed mo_all mo_early mo_late a1 q3 r3) C hK hP hD hS hA hz hl [0, 1, 2, 3] [] [0, 1, 2, 3] rfl rfl rfl rfl rfl (by decide) rfl rfl rfl kcode_X11_layOrder kml_X11_233 kim_X11_layOrder ksel_X11_layOrder kini_X11 (by decide +kernel) ⟨⟨rfl, rfl⟩, Nat.le_of_ble_eq_true rfl, Nat.le_of_ble_eq_true rfl⟩ ⟨Nat.zero_le _, Nat.zero_le _⟩ rfl rfl rfl rfl rfl (Nat.le_of_ble_eq_true rfl) dX11_order_16 rfl (fun H locs hP hD hS => ?_)
      refine lv_if_eq (tgt := 26) hx hb dX11_order_19 (by decide) (fun c4 => ?_) (fun c4 => ?_)
      · have hf := o_t c4 hf
        refine lv_iconst (v := 0) hx hb dX11_order_26 (by decide) ?_
        have h9 := Option.some.inj hf
        subst h9
        exact rw_iret C rfl hP hD hS dX11_order_27
      · have hf := o_f c4 hf
        refine lv_iconst (v := 1) hx hb dX11_order_22 (by decide) ?_
        refine lv_goto (tgt := 27) hx hb dX11_order_23 (by decide) ?_
        have h9 := Option.some.inj hf
        subst h9
        exact rw_iret C rfl hP hD hS dX11_order_27
    · have hf := o_t c2 hf
      refine lv_iconst (v := -1) hx hb dX11_order_12 (by decide) ?_
      have h9 := Option.some.inj hf
      subst h9
      exact rw_iret C rfl hP hD hS dX11_order_13
  rw [eH, el] at key
  exact key
abbrev Wc_X11_gap (l : Launch) (G : TG) (mo : Nat → Nat) (mo_length : Int32) (mo_at : Int32) (mo_faultAt : Int32) (mo_parts : Int32) (mo_entries : Int32) (mo_ringEarth : Int32) (mo_lead : Int32) (mo_ring : Int32) (mo_jumpMany : Int32) (mo_curveEnd : Int32) (mo_beds : Int32) (mo_bed : Nat → Int32) (mo_all : Int64) (mo_early : Nat → Int32) (mo_late : Nat → Int32) (a1 : Int32) (R : Int32 × (Nat → Int32) × (Nat → Int32)) (p : Program) (e : Env) (s : State) (m : MethodId) (below : List Frame) (meth : Method) (c : Code) (A : Nat → Prop) (H : Heap) (locs : List Loc) (g : JFrame) : Prop := W p l e ({ frames := 2, cells := 0, slots := 0, locals := 46 }) s m ([.ref (mo 0), .int a1] : List Value).toArray below meth c H locs 0 0 (MQ below (rwQ G (some (.int R.1)) [(oX11 mo mo_length mo_at mo_faultAt mo_parts mo_entries mo_ringEarth mo_lead mo_ring mo_jumpMany mo_curveEnd mo_beds mo_all), (wI G (mo 10) 48 mo_bed), (wI G (mo 12) 8 R.2.1), (wI G (mo 13) 8 R.2.2)] A) ([.ref (mo 0), .int a1] : List Value).toArray s 0 0 A) g
set_option maxHeartbeats 4000000 in
set_option maxRecDepth 100000 in
theorem c_X11_gap (l : Launch) (G : TG) (mo : Nat → Nat) (mo_length : Int32) (mo_at : Int32) (mo_faultAt : Int32) (mo_parts : Int32) (mo_entries : Int32) (mo_ringEarth : Int32) (mo_lead : Int32) (mo_ring : Int32) (mo_jumpMany : Int32) (mo_curveEnd : Int32) (mo_beds : Int32) (mo_bed : Nat → Int32) (mo_all : Int64) (mo_early : Nat → Int32) (mo_late : Nat → Int32) (a1 : Int32) (R : Int32 × (Nat → Int32) × (Nat → Int32)) (hf : f_X11_gap mo_beds mo_bed mo_early mo_late a1 = some R) : RW l yX11_gap cX11_gap 3 (some .int) ({ frames := 2, cells := 0, slots := 0, locals := 46 }) G [.ref (mo 0), .int a1] [(oX11 mo mo_length mo_at mo_faultAt mo_parts mo_entries mo_ringEarth mo_lead mo_ring mo_jumpMany mo_curveEnd mo_beds mo_all), (wI G (mo 10) 48 mo_bed), (wI G (mo 12) 8 mo_early), (wI G (mo 13) 8 mo_late)] (some (.int R.1)) [(oX11 mo mo_length mo_at mo_faultAt mo_parts mo_entries mo_ringEarth mo_lead mo_ring mo_jumpMany mo_curveEnd mo_beds mo_all), (wI G (mo 10) 48 mo_bed), (wI G (mo 12) 8 R.2.1), (wI G (mo 13) 8 R.2.2)] := by
  refine RW.mk (by decide +kernel) (Nat.le_of_ble_eq_true rfl) ?_
  intro p e s m below meth c ls A C hP hD hA hz hK hl hS
  have hx := C.1
  have hb := C.2.1
  have hown : s.vm.findClass RX11 = some m.cls := C.2.2.2.2.2.1
  have ht := C.2.2.2.2.2.2
  have hl : lv_has ls 3 [(0, .ref (mo 0)), (1, .int a1)] := hl
  show Wc_X11_gap l G mo mo_length mo_at mo_faultAt mo_parts mo_entries mo_ringEarth mo_lead mo_ring mo_jumpMany mo_curveEnd mo_beds mo_bed mo_all mo_early mo_late a1 R p e s m below meth c A s.heap [] (F0 m 0 ls [])
  obtain ⟨H, eH, hP, hS⟩ : ∃ H, H = s.heap ∧ va_P G.1 vwCl [(oX11 mo mo_length mo_at mo_faultAt mo_parts mo_entries mo_ringEarth mo_lead mo_ring mo_jumpMany mo_curveEnd mo_beds mo_all), (wI G (mo 10) 48 mo_bed), (wI G (mo 12) 8 mo_early), (wI G (mo 13) 8 mo_late)] H ∧ va_S A s.heap H [] := ⟨_, rfl, hP, hS⟩
  obtain ⟨locs, el, hS⟩ : ∃ locs : List Loc, locs = [] ∧ va_S A s.heap H locs := ⟨_, rfl, hS⟩
  have key : Wc_X11_gap l G mo mo_length mo_at mo_faultAt mo_parts mo_entries mo_ringEarth mo_lead mo_ring mo_jumpMany mo_curveEnd mo_beds mo_bed mo_all mo_early mo_late a1 R p e s m below meth c A H locs (F0 m 0 ls []) := by
    refine lv_aload_n hx hb dX11_gap_0 rfl (lv_at hl 0 rfl) ?_
    refine lv_iload_n hx hb dX11_gap_1 rfl (lv_at hl 1 rfl) ?_
    obtain ⟨q1, r1, hf⟩ := bd_s hf
    refine ro_V (n := 1) (As := [.int a1]) (rest := []) (c_X11_isBed l G mo mo_length mo_at mo_faultAt mo_parts mo_entries mo_ringEarth mo_lead mo_ring mo_jumpMany mo_curveEnd mo_beds mo_all a1 q1 r1) C (hK.at hS hz) (hP.sub [0] rfl) hl kcode_X11_isBed kml_X11_187 kim_X11_isBed ksel_X11_isBed kini_X11 (by decide +kernel) ⟨⟨rfl, rfl⟩, Nat.le_of_ble_eq_true rfl, Nat.le_of_ble_eq_true rfl⟩ ⟨Nat.zero_le _, Nat.zero_le _⟩ rfl rfl rfl rfl rfl (Nat.le_of_ble_eq_true rfl) dX11_gap_2 rfl ?_
    refine lv_if_ne (tgt := 10) hx hb dX11_gap_5 (by decide) (fun c2 => ?_) (fun c2 => ?_)
    · have hf := o_f c2 hf
      refine lv_iload_n hx hb dX11_gap_10 rfl (lv_at hl 1 rfl) ?_
      refine lv_iconst (v := 1) hx hb dX11_gap_11 (by decide) ?_
      refine lv_isub hx hb dX11_gap_12 ?_
      refine lv_istore_n (lv' := [(2, .int (a1 - (1 : Int32))), (0, .ref (mo 0)), (1, .int a1)]) hx hb dX11_gap_13 rfl hl (by decide) rfl (fun ls hl => ?_)
      have hx45_3 : ∀ (v2 : Int32) (H : Heap) (locs : List Loc) (ls : Array Slot), f_X11_gap_x45_3 mo_beds mo_bed mo_early mo_late a1 v2 = some R → va_P G.1 vwCl [(oX11 mo mo_length mo_at mo_faultAt mo_parts mo_entries mo_ringEarth mo_lead mo_ring mo_jumpMany mo_curveEnd mo_beds mo_all), (wI G (mo 10) 48 mo_bed), (wI G (mo 12) 8 mo_early), (wI G (mo 13) 8 mo_late)] H → va_D A [(oX11 mo mo_length mo_at mo_faultAt mo_parts mo_entries mo_ringEarth mo_lead mo_ring mo_jumpMany mo_curveEnd mo_beds mo_all), (wI G (mo 10) 48 mo_bed), (wI G (mo 12) 8 mo_early), (wI G (mo 13) 8 mo_late)] → va_S A s.heap H locs → lv_has ls 3 [(0, .ref (mo 0)), (1, .int a1), (2, .int v2)] → Wc_X11_gap l G mo mo_length mo_at mo_faultAt mo_parts mo_entries mo_ringEarth mo_lead mo_ring mo_jumpMany mo_curveEnd mo_beds mo_bed mo_all mo_early mo_late a1 R p e s m below meth c A H locs (F0 m 45 ls []) := by
        intro v2 H locs ls hf hP hD hS hl
        refine lv_iload_n hx hb dX11_gap_45 rfl (lv_at hl 2 rfl) ?_
        refine lv_if_lt (tgt := 65) hx hb dX11_gap_46 (by decide) (fun c4 => ?_) (fun c4 => ?_)
        · have hf := o_t c4 hf
          refine lv_bipush (v := -3) hx hb dX11_gap_65 (by decide) ?_
          have h9 := Option.some.inj hf
          subst h9
          exact rw_iret C rfl hP hD hS dX11_gap_67
        · have hf := o_f c4 hf
          refine lv_aload_n hx hb dX11_gap_49 rfl (lv_at hl 0 rfl) ?_
          refine lv_aload_n hx hb dX11_gap_50 rfl (lv_at hl 0 rfl) ?_
          refine va_get (D := G.1) (ci := 11) (v := .ref (mo 10)) (C := RX11) (T := TX11) (N := 29) hx hb ht twX11 hown hK.1 hP 0 rfl rfl 20 (by decide) (ht _ kfl_X11_37) (fun _ h9 => h9) rfl dX11_gap_51 ?_
          refine lv_bipush (v := 6) hx hb dX11_gap_54 (by decide) ?_
          refine lv_iload_n hx hb dX11_gap_56 rfl (lv_at hl 1 rfl) ?_
          refine lv_imul hx hb dX11_gap_57 ?_
          obtain ⟨g6, hf⟩ := gd_s hf
          refine va_iald hx hb hK.1 hP 1 0 rfl rfl g6 dX11_gap_58 ?_
          obtain ⟨q7, r7, hf⟩ := bd_s hf
          refine rw_V (n := 1) (As := [.int (mo_bed ((6 : Int32) * a1).toNatClampNeg)]) (rest := []) (wr := []) (ws2 := [(oX11 mo mo_length mo_at mo_faultAt mo_parts mo_entries mo_ringEarth mo_lead mo_ring mo_jumpMany mo_curveEnd mo_beds mo_all), (wI G (mo 10) 48 mo_bed), (wI G (mo 12) 8 q7.2.1), (wI G (mo 13) 8 q7.2.2)]) (c_X11_layOrder l G mo mo_length mo_at mo_faultAt mo_parts mo_entries mo_ringEarth mo_lead mo_ring mo_jumpMany mo_curveEnd mo_beds mo_bed mo_all mo_early mo_late (mo_bed ((6 : Int32) * a1).toNatClampNeg) q7 r7) C hK hP hD hS hA hz hl [0, 1, 2, 3] [] [0, 1, 2, 3] rfl rfl rfl rfl rfl (by decide) rfl rfl rfl kcode_X11_layOrder kml_X11_233 kim_X11_layOrder ksel_X11_layOrder kini_X11 (by decide +kernel) ⟨⟨rfl, rfl⟩, Nat.le_of_ble_eq_true rfl, Nat.le_of_ble_eq_true rfl⟩ ⟨Nat.zero_le _, Nat.zero_le _⟩ rfl rfl rfl rfl rfl (Nat.le_of_ble_eq_true rfl) dX11_gap_59 rfl (fun H locs hP hD hS => ?_)
          refine lv_if_ne (tgt := 68) hx hb dX11_gap_62 (by decide) (fun c8 => ?_) (fun c8 => ?_)
          · have hf := o_f c8 hf
            refine lv_aload_n hx hb dX11_gap_68 rfl (lv_at hl 0 rfl) ?_
            refine va_get (D := G.1) (ci := 11) (v := .ref (mo 13)) (C := RX11) (T := TX11) (N := 29) hx hb ht twX11 hown hK.1 hP 0 rfl rfl 24 (by decide) (ht _ kfl_X11_47) (fun _ h9 => h9) rfl dX11_gap_69 ?_
            refine lv_iload_n hx hb dX11_gap_72 rfl (lv_at hl 1 rfl) ?_
            obtain ⟨g9, hf⟩ := gd_s hf
            refine va_iald hx hb hK.1 hP 3 0 rfl rfl g9 dX11_gap_73 ?_
            refine lv_aload_n hx hb dX11_gap_74 rfl (lv_at hl 0 rfl) ?_
            refine va_get (D := G.1) (ci := 11) (v := .ref (mo 12)) (C := RX11) (T := TX11) (N := 29) hx hb ht twX11 hown hK.1 hP 0 rfl rfl 23 (by decide) (ht _ kfl_X11_44) (fun _ h9 => h9) rfl dX11_gap_75 ?_
            refine lv_iload_n hx hb dX11_gap_78 rfl (lv_at hl 2 rfl) ?_
            obtain ⟨g10, hf⟩ := gd_s hf
            refine va_iald hx hb hK.1 hP 2 0 rfl rfl g10 dX11_gap_79 ?_
            refine lv_isub hx hb dX11_gap_80 ?_
            have h9 := Option.some.inj hf
            subst h9
            exact rw_iret C rfl hP hD hS dX11_gap_81
          · have hf := o_t c8 hf
            refine lv_bipush (v := -3) hx hb dX11_gap_65 (by decide) ?_
            have h9 := Option.some.inj hf
            subst h9
            exact rw_iret C rfl hP hD hS dX11_gap_67
      obtain ⟨rL3, hL3, hk3⟩ := bd_s hf
      refine lp_W (P := fun st => ∀ (H : Heap) (locs : List Loc) (ls : Array Slot), va_P G.1 vwCl [(oX11 mo mo_length mo_at mo_faultAt mo_parts mo_entries mo_ringEarth mo_lead mo_ring mo_jumpMany mo_curveEnd mo_beds mo_all), (wI G (mo 10) 48 mo_bed), (wI G (mo 12) 8 mo_early), (wI G (mo 13) 8 mo_late)] H → va_D A [(oX11 mo mo_length mo_at mo_faultAt mo_parts mo_entries mo_ringEarth mo_lead mo_ring mo_jumpMany mo_curveEnd mo_beds mo_all), (wI G (mo 10) 48 mo_bed), (wI G (mo 12) 8 mo_early), (wI G (mo 13) 8 mo_late)] → va_S A s.heap H locs → lv_has ls 3 [(0, .ref (mo 0)), (1, .int a1), (2, .int st)] → Wc_X11_gap l G mo mo_length mo_at mo_faultAt mo_parts mo_entries mo_ringEarth mo_lead mo_ring mo_jumpMany mo_curveEnd mo_beds mo_bed mo_all mo_early mo_late a1 R p e s m below meth c A H locs (F0 m 14 ls [])) ?_ FU (a1 - (1 : Int32)) hL3 H locs ls hP hD hS (lv_sub hl [1, 2, 0] rfl)
      intro v2 oc3 hf hI hE H locs ls hP hD hS hl
      have hP : va_P G.1 vwCl [(oX11 mo mo_length mo_at mo_faultAt mo_parts mo_entries mo_ringEarth mo_lead mo_ring mo_jumpMany mo_curveEnd mo_beds mo_all), (wI G (mo 10) 48 mo_bed), (wI G (mo 12) 8 mo_early), (wI G (mo 13) 8 mo_late)] H := hP
      have hD : va_D A [(oX11 mo mo_length mo_at mo_faultAt mo_parts mo_entries mo_ringEarth mo_lead mo_ring mo_jumpMany mo_curveEnd mo_beds mo_all), (wI G (mo 10) 48 mo_bed), (wI G (mo 12) 8 mo_early), (wI G (mo 13) 8 mo_late)] := hD
      have hl : lv_has ls 3 [(0, .ref (mo 0)), (1, .int a1), (2, .int v2)] := hl
      have hf : f_X11_gap_b14 mo_bed a1 v2 = some oc3 := hf
      refine lv_iload_n hx hb dX11_gap_14 rfl (lv_at hl 2 rfl) ?_
      refine lv_if_lt (tgt := 45) hx hb dX11_gap_15 (by decide) (fun c13 => ?_) (fun c13 => ?_)
      · have hf := o_t c13 hf
        cases hf
        have hf : f_X11_gap_x45_3 mo_beds mo_bed mo_early mo_late a1 v2 = some R := by have h9 := hk3; rw [← hE _ rfl] at h9; exact h9
        exact hx45_3 v2 H locs ls hf hP hD hS (lv_sub hl [0, 1, 2] rfl)
      · have hf := o_f c13 hf
        refine lv_aload_n hx hb dX11_gap_18 rfl (lv_at hl 0 rfl) ?_
        refine va_get (D := G.1) (ci := 11) (v := .ref (mo 10)) (C := RX11) (T := TX11) (N := 29) hx hb ht twX11 hown hK.1 hP 0 rfl rfl 20 (by decide) (ht _ kfl_X11_37) (fun _ h9 => h9) rfl dX11_gap_19 ?_
        refine lv_bipush (v := 6) hx hb dX11_gap_22 (by decide) ?_
        refine lv_iload_n hx hb dX11_gap_24 rfl (lv_at hl 2 rfl) ?_
        refine lv_imul hx hb dX11_gap_25 ?_
        obtain ⟨g14, hf⟩ := gd_s hf
        refine va_iald hx hb hK.1 hP 1 0 rfl rfl g14 dX11_gap_26 ?_
        refine lv_aload_n hx hb dX11_gap_27 rfl (lv_at hl 0 rfl) ?_
        refine va_get (D := G.1) (ci := 11) (v := .ref (mo 10)) (C := RX11) (T := TX11) (N := 29) hx hb ht twX11 hown hK.1 hP 0 rfl rfl 20 (by decide) (ht _ kfl_X11_37) (fun _ h9 => h9) rfl dX11_gap_28 ?_
        refine lv_bipush (v := 6) hx hb dX11_gap_31 (by decide) ?_
        refine lv_iload_n hx hb dX11_gap_33 rfl (lv_at hl 1 rfl) ?_
        refine lv_imul hx hb dX11_gap_34 ?_
        obtain ⟨g15, hf⟩ := gd_s hf
        refine va_iald hx hb hK.1 hP 1 0 rfl rfl g15 dX11_gap_35 ?_
        refine lv_icmp_eq (tgt := 45) hx hb dX11_gap_36 (by decide) (fun c16 => ?_) (fun c16 => ?_)
        · have hf := o_t c16 hf
          cases hf
          have hf : f_X11_gap_x45_3 mo_beds mo_bed mo_early mo_late a1 v2 = some R := by have h9 := hk3; rw [← hE _ rfl] at h9; exact h9
          exact hx45_3 v2 H locs ls hf hP hD hS (lv_sub hl [0, 1, 2] rfl)
        · have hf := o_f c16 hf
          refine lv_iinc (v := (v2 + (-1 : Int32))) (lv' := [(2, .int (v2 + (-1 : Int32))), (0, .ref (mo 0)), (1, .int a1)]) hx hb dX11_gap_39 hl (k := 2) rfl (by rfl) (by decide) rfl (fun ls hl => ?_)
          refine lv_goto (tgt := 14) hx hb dX11_gap_42 (by decide) ?_
          cases hf
          exact hI _ rfl H locs ls hP hD hS (lv_sub hl [1, 2, 0] rfl)
    · have hf := o_t c2 hf
      refine lv_iconst (v := -1) hx hb dX11_gap_8 (by decide) ?_
      have h9 := Option.some.inj hf
      subst h9
      exact rw_iret C rfl hP hD hS dX11_gap_9
  rw [eH, el] at key
  exact key
abbrev Wc_X11_poleOf (l : Launch) (G : TG) (mo : Nat → Nat) (mo_length : Int32) (mo_at : Int32) (mo_faultAt : Int32) (mo_parts : Int32) (mo_entries : Int32) (mo_stories : Nat → Int32) (mo_ringEarth : Int32) (mo_lead : Int32) (mo_ring : Int32) (mo_jumpMany : Int32) (mo_curveEnd : Int32) (mo_beds : Int32) (mo_bed : Nat → Int32) (mo_all : Int64) (a1 : Int32) (a2 : Int32) (R : Int32) (p : Program) (e : Env) (s : State) (m : MethodId) (below : List Frame) (meth : Method) (c : Code) (H : Heap) (locs : List Loc) (g : JFrame) : Prop := W p l e ({ frames := 1, cells := 0, slots := 0, locals := 26 }) s m ([.ref (mo 0), .int a1, .int a2] : List Value).toArray below meth c H locs 0 0 (MQ below (roQ (some (.int R))) ([.ref (mo 0), .int a1, .int a2] : List Value).toArray s 0 0 (fun _ => False)) g
set_option maxHeartbeats 4000000 in
set_option maxRecDepth 100000 in
theorem c_X11_poleOf (l : Launch) (G : TG) (mo : Nat → Nat) (mo_length : Int32) (mo_at : Int32) (mo_faultAt : Int32) (mo_parts : Int32) (mo_entries : Int32) (mo_stories : Nat → Int32) (mo_ringEarth : Int32) (mo_lead : Int32) (mo_ring : Int32) (mo_jumpMany : Int32) (mo_curveEnd : Int32) (mo_beds : Int32) (mo_bed : Nat → Int32) (mo_all : Int64) (a1 : Int32) (a2 : Int32) (R : Int32) (hf : f_X11_poleOf mo_stories mo_beds mo_bed a1 a2 = some R) : RO l yX11_poleOf cX11_poleOf 6 (some .int) ({ frames := 1, cells := 0, slots := 0, locals := 26 }) G [.ref (mo 0), .int a1, .int a2] [(oX11 mo mo_length mo_at mo_faultAt mo_parts mo_entries mo_ringEarth mo_lead mo_ring mo_jumpMany mo_curveEnd mo_beds mo_all), (wI G (mo 6) 400 mo_stories), (wI G (mo 10) 48 mo_bed)] (some (.int R)) := by
  refine RO.mk (by decide +kernel) (Nat.le_of_ble_eq_true rfl) ?_
  intro p e s m below meth c ls C hP hK hl
  have hx := C.1
  have hb := C.2.1
  have hown : s.vm.findClass RX11 = some m.cls := C.2.2.2.2.2.1
  have ht := C.2.2.2.2.2.2
  have hl : lv_has ls 6 [(0, .ref (mo 0)), (1, .int a1), (2, .int a2)] := hl
  show Wc_X11_poleOf l G mo mo_length mo_at mo_faultAt mo_parts mo_entries mo_stories mo_ringEarth mo_lead mo_ring mo_jumpMany mo_curveEnd mo_beds mo_bed mo_all a1 a2 R p e s m below meth c s.heap [] (F0 m 0 ls [])
  refine lv_iconst (v := 0) hx hb dX11_poleOf_0 (by decide) ?_
  refine lv_istore_n (lv' := [(3, .int (0 : Int32)), (0, .ref (mo 0)), (1, .int a1), (2, .int a2)]) hx hb dX11_poleOf_1 rfl hl (by decide) rfl (fun ls hl => ?_)
  refine lv_iconst (v := 0) hx hb dX11_poleOf_2 (by decide) ?_
  refine lv_istore (lv' := [(4, .int (0 : Int32)), (3, .int (0 : Int32)), (0, .ref (mo 0)), (1, .int a1), (2, .int a2)]) hx hb dX11_poleOf_3 hl (by decide) rfl (fun ls hl => ?_)
  have hx76_1 : ∀ (v3 : Int32) (ls : Array Slot), f_X11_poleOf_x76_1 v3 = some R → lv_has ls 6 [(3, .int v3)] → Wc_X11_poleOf l G mo mo_length mo_at mo_faultAt mo_parts mo_entries mo_stories mo_ringEarth mo_lead mo_ring mo_jumpMany mo_curveEnd mo_beds mo_bed mo_all a1 a2 R p e s m below meth c s.heap [] (F0 m 76 ls []) := by
    intro v3 ls hf hl
    refine lv_iload_n hx hb dX11_poleOf_76 rfl (lv_at hl 0 rfl) ?_
    have h9 := Option.some.inj hf
    subst h9
    exact ro_iret C rfl dX11_poleOf_77
  obtain ⟨rL1, hL1, hk1⟩ := bd_s hf
  refine lp_W (P := fun st => ∀ (ls : Array Slot), lv_has ls 6 [(0, .ref (mo 0)), (1, .int a1), (2, .int a2), (3, .int st.1), (4, .int st.2)] → Wc_X11_poleOf l G mo mo_length mo_at mo_faultAt mo_parts mo_entries mo_stories mo_ringEarth mo_lead mo_ring mo_jumpMany mo_curveEnd mo_beds mo_bed mo_all a1 a2 R p e s m below meth c s.heap [] (F0 m 5 ls [])) ?_ FU ((0 : Int32), (0 : Int32)) hL1 ls (lv_sub hl [2, 3, 4, 1, 0] rfl)
  intro ⟨v3, v4⟩ oc1 hf hI hE ls hl
  have hl : lv_has ls 6 [(0, .ref (mo 0)), (1, .int a1), (2, .int a2), (3, .int v3), (4, .int v4)] := hl
  have hf : f_X11_poleOf_b5 mo_stories mo_beds mo_bed a1 a2 v3 v4 = some oc1 := hf
  have hj57 : ∀ (v4 : Int32) (k0 : Int32) (k2 : Int32) (k3 : Int32) (k4 : Int32) (ls : Array Slot), f_X11_poleOf_j57 mo_stories mo_bed v4 k0 k2 k3 k4 = some oc1 → lv_has ls 6 [(0, .ref (mo 0)), (1, .int a1), (2, .int a2), (4, .int v4)] → Wc_X11_poleOf l G mo mo_length mo_at mo_faultAt mo_parts mo_entries mo_stories mo_ringEarth mo_lead mo_ring mo_jumpMany mo_curveEnd mo_beds mo_bed mo_all a1 a2 R p e s m below meth c s.heap [] (F0 m 57 ls [.int k4, .int k3, .int k2, .ref (mo 0), .int k0]) := by
    intro v4 k0 k2 k3 k4 ls hf hl
    obtain ⟨q3, r3, hf⟩ := bd_s hf
    refine ro_V (n := 3) (As := [.int k2, .int k3, .int k4]) (rest := [.int k0]) (c_X11_rounds l G mo mo_length mo_at mo_faultAt mo_parts mo_entries mo_stories mo_ringEarth mo_lead mo_ring mo_jumpMany mo_curveEnd mo_beds mo_bed mo_all k2 k3 k4 q3 r3) C hK (hP.sub [0, 1, 2] rfl) hl kcode_X11_rounds kml_X11_198 kim_X11_rounds ksel_X11_rounds kini_X11 (by decide +kernel) ⟨⟨rfl, rfl⟩, Nat.le_of_ble_eq_true rfl, Nat.le_of_ble_eq_true rfl⟩ ⟨Nat.zero_le _, Nat.zero_le _⟩ rfl rfl rfl rfl rfl (Nat.le_of_ble_eq_true rfl) dX11_poleOf_57 rfl ?_
    refine lv_if_le (tgt := 67) hx hb dX11_poleOf_60 (by decide) (fun c4 => ?_) (fun c4 => ?_)
    · have hf := o_t c4 hf
      refine lv_iconst (v := 0) hx hb dX11_poleOf_67 (by decide) ?_
      refine lv_iadd hx hb dX11_poleOf_68 ?_
      refine lv_istore_n (lv' := [(3, .int (k0 + (0 : Int32))), (0, .ref (mo 0)), (1, .int a1), (2, .int a2), (4, .int v4)]) hx hb dX11_poleOf_69 rfl hl (by decide) rfl (fun ls hl => ?_)
      refine lv_iinc (v := (v4 + (1 : Int32))) (lv' := [(4, .int (v4 + (1 : Int32))), (3, .int (k0 + (0 : Int32))), (0, .ref (mo 0)), (1, .int a1), (2, .int a2)]) hx hb dX11_poleOf_70 hl (k := 4) rfl (by rfl) (by decide) rfl (fun ls hl => ?_)
      refine lv_goto (tgt := 5) hx hb dX11_poleOf_73 (by decide) ?_
      cases hf
      exact hI _ rfl ls (lv_sub hl [2, 3, 4, 1, 0] rfl)
    · have hf := o_f c4 hf
      refine lv_iconst (v := 1) hx hb dX11_poleOf_63 (by decide) ?_
      refine lv_goto (tgt := 68) hx hb dX11_poleOf_64 (by decide) ?_
      refine lv_iadd hx hb dX11_poleOf_68 ?_
      refine lv_istore_n (lv' := [(3, .int (k0 + (1 : Int32))), (0, .ref (mo 0)), (1, .int a1), (2, .int a2), (4, .int v4)]) hx hb dX11_poleOf_69 rfl hl (by decide) rfl (fun ls hl => ?_)
      refine lv_iinc (v := (v4 + (1 : Int32))) (lv' := [(4, .int (v4 + (1 : Int32))), (3, .int (k0 + (1 : Int32))), (0, .ref (mo 0)), (1, .int a1), (2, .int a2)]) hx hb dX11_poleOf_70 hl (k := 4) rfl (by rfl) (by decide) rfl (fun ls hl => ?_)
      refine lv_goto (tgt := 5) hx hb dX11_poleOf_73 (by decide) ?_
      cases hf
      exact hI _ rfl ls (lv_sub hl [2, 3, 4, 1, 0] rfl)
  refine lv_iload hx hb dX11_poleOf_5 (lv_at hl 4 rfl) ?_
  refine lv_aload_n hx hb dX11_poleOf_7 rfl (lv_at hl 0 rfl) ?_
  refine va_get (D := G.1) (ci := 11) (v := .int mo_beds) (C := RX11) (T := TX11) (N := 29) hx hb ht twX11 hown hK.1 hP 0 rfl rfl 19 (by decide) (ht _ kfl_X11_180) (fun _ h9 => h9) rfl dX11_poleOf_8 ?_
  refine lv_icmp_ge (tgt := 76) hx hb dX11_poleOf_11 (by decide) (fun c5 => ?_) (fun c5 => ?_)
  · have hf := o_t c5 hf
    cases hf
    have hf : f_X11_poleOf_x76_1 v3 = some R := by have h9 := hk1; rw [← hE _ rfl] at h9; exact h9
    exact hx76_1 v3 ls hf (lv_sub hl [3] rfl)
  · have hf := o_f c5 hf
    refine lv_aload_n hx hb dX11_poleOf_14 rfl (lv_at hl 0 rfl) ?_
    refine va_get (D := G.1) (ci := 11) (v := .ref (mo 10)) (C := RX11) (T := TX11) (N := 29) hx hb ht twX11 hown hK.1 hP 0 rfl rfl 20 (by decide) (ht _ kfl_X11_37) (fun _ h9 => h9) rfl dX11_poleOf_15 ?_
    refine lv_bipush (v := 6) hx hb dX11_poleOf_18 (by decide) ?_
    refine lv_iload hx hb dX11_poleOf_20 (lv_at hl 4 rfl) ?_
    refine lv_imul hx hb dX11_poleOf_22 ?_
    refine lv_iconst (v := 4) hx hb dX11_poleOf_23 (by decide) ?_
    refine lv_iadd hx hb dX11_poleOf_24 ?_
    obtain ⟨g6, hf⟩ := gd_s hf
    refine va_iald hx hb hK.1 hP 2 0 rfl rfl g6 dX11_poleOf_25 ?_
    refine lv_iload_n hx hb dX11_poleOf_26 rfl (lv_at hl 2 rfl) ?_
    refine lv_isub hx hb dX11_poleOf_27 ?_
    obtain ⟨u7, e7, hf⟩ := bd_s hf
    refine lv_re (Option.some.inj e7).symm ?_
    refine lv_istore (lv' := [(5, .int u7), (0, .ref (mo 0)), (1, .int a1), (2, .int a2), (3, .int v3), (4, .int v4)]) hx hb dX11_poleOf_28 hl (by decide) rfl (fun ls hl => ?_)
    refine lv_iload_n hx hb dX11_poleOf_30 rfl (lv_at hl 4 rfl) ?_
    refine lv_aload_n hx hb dX11_poleOf_31 rfl (lv_at hl 1 rfl) ?_
    refine lv_iload hx hb dX11_poleOf_32 (lv_at hl 5 rfl) ?_
    obtain ⟨q8, r8, hf⟩ := bd_s hf
    refine ro_V (n := 1) (As := [.int v4]) (rest := [.int v3]) (c_X11_isIcy l G mo mo_length mo_at mo_faultAt mo_parts mo_entries mo_ringEarth mo_lead mo_ring mo_jumpMany mo_curveEnd mo_beds mo_bed mo_all v4 q8 r8) C hK (hP.sub [0, 2] rfl) hl kcode_X11_isIcy kml_X11_195 kim_X11_isIcy ksel_X11_isIcy kini_X11 (by decide +kernel) ⟨⟨rfl, rfl⟩, Nat.le_of_ble_eq_true rfl, Nat.le_of_ble_eq_true rfl⟩ ⟨Nat.zero_le _, Nat.zero_le _⟩ rfl rfl rfl rfl rfl (Nat.le_of_ble_eq_true rfl) dX11_poleOf_34 rfl ?_
    refine lv_if_eq (tgt := 67) hx hb dX11_poleOf_37 (by decide) (fun c9 => ?_) (fun c9 => ?_)
    · have hf := o_t c9 hf
      refine lv_iconst (v := 0) hx hb dX11_poleOf_67 (by decide) ?_
      refine lv_iadd hx hb dX11_poleOf_68 ?_
      refine lv_istore_n (lv' := [(3, .int (v3 + (0 : Int32))), (5, .int u7), (0, .ref (mo 0)), (1, .int a1), (2, .int a2), (4, .int v4)]) hx hb dX11_poleOf_69 rfl hl (by decide) rfl (fun ls hl => ?_)
      refine lv_iinc (v := (v4 + (1 : Int32))) (lv' := [(4, .int (v4 + (1 : Int32))), (3, .int (v3 + (0 : Int32))), (5, .int u7), (0, .ref (mo 0)), (1, .int a1), (2, .int a2)]) hx hb dX11_poleOf_70 hl (k := 5) rfl (by rfl) (by decide) rfl (fun ls hl => ?_)
      refine lv_goto (tgt := 5) hx hb dX11_poleOf_73 (by decide) ?_
      cases hf
      exact hI _ rfl ls (lv_sub hl [3, 4, 5, 1, 0] rfl)
    · have hf := o_f c9 hf
      refine lv_aload_n hx hb dX11_poleOf_40 rfl (lv_at hl 1 rfl) ?_
      refine lv_iload_n hx hb dX11_poleOf_41 rfl (lv_at hl 2 rfl) ?_
      refine lv_iload hx hb dX11_poleOf_42 (lv_at hl 5 rfl) ?_
      refine lv_iload hx hb dX11_poleOf_44 (lv_at hl 0 rfl) ?_
      refine lv_if_ge (tgt := 55) hx hb dX11_poleOf_46 (by decide) (fun c10 => ?_) (fun c10 => ?_)
      · have hf := o_t c10 hf
        refine lv_iload hx hb dX11_poleOf_55 (lv_at hl 0 rfl) ?_
        exact hj57 v4 v3 a1 v4 u7 ls hf (lv_sub hl [1, 2, 3, 5] rfl)
      · have hf := o_f c10 hf
        refine lv_iload hx hb dX11_poleOf_49 (lv_at hl 0 rfl) ?_
        refine lv_ineg hx hb dX11_poleOf_51 ?_
        refine lv_goto (tgt := 57) hx hb dX11_poleOf_52 (by decide) ?_
        exact hj57 v4 v3 a1 v4 (-u7) ls hf (lv_sub hl [1, 2, 3, 5] rfl)
abbrev Wc_X11_pole (l : Launch) (G : TG) (mo : Nat → Nat) (mo_length : Int32) (mo_at : Int32) (mo_faultAt : Int32) (mo_parts : Int32) (mo_entries : Int32) (mo_stories : Nat → Int32) (mo_ringEarth : Int32) (mo_lead : Int32) (mo_ring : Int32) (mo_jumpMany : Int32) (mo_curveEnd : Int32) (mo_beds : Int32) (mo_bed : Nat → Int32) (mo_all : Int64) (a1 : Int32) (a2 : Int32) (R : Int32) (p : Program) (e : Env) (s : State) (m : MethodId) (below : List Frame) (meth : Method) (c : Code) (H : Heap) (locs : List Loc) (g : JFrame) : Prop := W p l e ({ frames := 2, cells := 0, slots := 0, locals := 51 }) s m ([.ref (mo 0), .int a1, .int a2] : List Value).toArray below meth c H locs 0 0 (MQ below (roQ (some (.int R))) ([.ref (mo 0), .int a1, .int a2] : List Value).toArray s 0 0 (fun _ => False)) g
set_option maxHeartbeats 4000000 in
set_option maxRecDepth 100000 in
theorem c_X11_pole (l : Launch) (G : TG) (mo : Nat → Nat) (mo_length : Int32) (mo_at : Int32) (mo_faultAt : Int32) (mo_parts : Int32) (mo_entries : Int32) (mo_stories : Nat → Int32) (mo_ringEarth : Int32) (mo_lead : Int32) (mo_ring : Int32) (mo_jumpMany : Int32) (mo_curveEnd : Int32) (mo_beds : Int32) (mo_bed : Nat → Int32) (mo_all : Int64) (a1 : Int32) (a2 : Int32) (R : Int32) (hf : f_X11_pole mo_stories mo_beds mo_bed a1 a2 = some R) : RO l yX11_pole cX11_pole 3 (some .int) ({ frames := 2, cells := 0, slots := 0, locals := 51 }) G [.ref (mo 0), .int a1, .int a2] [(oX11 mo mo_length mo_at mo_faultAt mo_parts mo_entries mo_ringEarth mo_lead mo_ring mo_jumpMany mo_curveEnd mo_beds mo_all), (wI G (mo 6) 400 mo_stories), (wI G (mo 10) 48 mo_bed)] (some (.int R)) := by
  refine RO.mk (by decide +kernel) (Nat.le_of_ble_eq_true rfl) ?_
  intro p e s m below meth c ls C hP hK hl
  have hx := C.1
  have hb := C.2.1
  have hown : s.vm.findClass RX11 = some m.cls := C.2.2.2.2.2.1
  have ht := C.2.2.2.2.2.2
  have hl : lv_has ls 3 [(0, .ref (mo 0)), (1, .int a1), (2, .int a2)] := hl
  show Wc_X11_pole l G mo mo_length mo_at mo_faultAt mo_parts mo_entries mo_stories mo_ringEarth mo_lead mo_ring mo_jumpMany mo_curveEnd mo_beds mo_bed mo_all a1 a2 R p e s m below meth c s.heap [] (F0 m 0 ls [])
  refine lv_iload_n hx hb dX11_pole_0 rfl (lv_at hl 1 rfl) ?_
  obtain ⟨q1, r1, hf⟩ := bd_s hf
  refine ro_S (n := 1) (As := [.int a1]) (rest := []) (c_X11_isStory l G a1 q1 r1) C hK (hP.sub [] rfl) hl kcode_X11_isStory kml_X11_117 kst_X11_isStory kini_X11 (by decide +kernel) ⟨⟨rfl, rfl⟩, Nat.le_of_ble_eq_true rfl, Nat.le_of_ble_eq_true rfl⟩ ⟨Nat.zero_le _, Nat.zero_le _⟩ rfl rfl (Nat.le_of_ble_eq_true rfl) dX11_pole_1 rfl ?_
  refine lv_if_ne (tgt := 9) hx hb dX11_pole_4 (by decide) (fun c2 => ?_) (fun c2 => ?_)
  · have hf := o_f c2 hf
    refine lv_iload_n hx hb dX11_pole_9 rfl (lv_at hl 2 rfl) ?_
    refine lv_i2l (v := (a2.toInt64)) hx hb dX11_pole_10 rfl ?_
    refine lv_lconst (v := 0) hx hb dX11_pole_11 (by decide) ?_
    refine lv_ldc2 hx hb hown (ht _ kcL_X11_145) dX11_pole_12 ?_
    obtain ⟨q3, r3, hf⟩ := bd_s hf
    refine ro_S (n := 3) (As := [.long (a2.toInt64), .long (0 : Int64), .long (5 : Int64)]) (rest := []) (c_X11_in l G (a2.toInt64) (0 : Int64) (5 : Int64) q3 r3) C hK (hP.sub [] rfl) hl kcode_X11_in kml_X11_65 kst_X11_in kini_X11 (by decide +kernel) ⟨⟨rfl, rfl⟩, Nat.le_of_ble_eq_true rfl, Nat.le_of_ble_eq_true rfl⟩ ⟨Nat.zero_le _, Nat.zero_le _⟩ rfl rfl (Nat.le_of_ble_eq_true rfl) dX11_pole_15 rfl ?_
    refine lv_if_eq (tgt := 30) hx hb dX11_pole_18 (by decide) (fun c4 => ?_) (fun c4 => ?_)
    · have hf := o_t c4 hf
      refine lv_bipush (v := -2) hx hb dX11_pole_30 (by decide) ?_
      have h9 := Option.some.inj hf
      subst h9
      exact ro_iret C rfl dX11_pole_32
    · have hf := o_f c4 hf
      refine lv_aload_n hx hb dX11_pole_21 rfl (lv_at hl 0 rfl) ?_
      refine lv_iload_n hx hb dX11_pole_22 rfl (lv_at hl 1 rfl) ?_
      refine lv_iload_n hx hb dX11_pole_23 rfl (lv_at hl 2 rfl) ?_
      obtain ⟨q6, r6, hf⟩ := bd_s hf
      refine ro_V (n := 2) (As := [.int a1, .int a2]) (rest := []) (c_X11_poleOf l G mo mo_length mo_at mo_faultAt mo_parts mo_entries mo_stories mo_ringEarth mo_lead mo_ring mo_jumpMany mo_curveEnd mo_beds mo_bed mo_all a1 a2 q6 r6) C hK (hP.sub [0, 1, 2] rfl) hl kcode_X11_poleOf kml_X11_236 kim_X11_poleOf ksel_X11_poleOf kini_X11 (by decide +kernel) ⟨⟨rfl, rfl⟩, Nat.le_of_ble_eq_true rfl, Nat.le_of_ble_eq_true rfl⟩ ⟨Nat.zero_le _, Nat.zero_le _⟩ rfl rfl rfl rfl rfl (Nat.le_of_ble_eq_true rfl) dX11_pole_24 rfl ?_
      refine lv_goto (tgt := 32) hx hb dX11_pole_27 (by decide) ?_
      have h9 := Option.some.inj hf
      subst h9
      exact ro_iret C rfl dX11_pole_32
  · have hf := o_t c2 hf
    refine lv_iconst (v := -1) hx hb dX11_pole_7 (by decide) ?_
    have h9 := Option.some.inj hf
    subst h9
    exact ro_iret C rfl dX11_pole_8
abbrev Wc_X11_elsewhere (l : Launch) (G : TG) (mo : Nat → Nat) (mo_length : Int32) (mo_at : Int32) (mo_faultAt : Int32) (mo_parts : Int32) (mo_entries : Int32) (mo_stories : Nat → Int32) (mo_ringEarth : Int32) (mo_lead : Int32) (mo_ring : Int32) (mo_jumpMany : Int32) (mo_curveEnd : Int32) (mo_beds : Int32) (mo_bed : Nat → Int32) (mo_all : Int64) (a1 : Int32) (R : Int32) (p : Program) (e : Env) (s : State) (m : MethodId) (below : List Frame) (meth : Method) (c : Code) (H : Heap) (locs : List Loc) (g : JFrame) : Prop := W p l e ({ frames := 2, cells := 0, slots := 0, locals := 51 }) s m ([.ref (mo 0), .int a1] : List Value).toArray below meth c H locs 0 0 (MQ below (roQ (some (.int R))) ([.ref (mo 0), .int a1] : List Value).toArray s 0 0 (fun _ => False)) g
set_option maxHeartbeats 4000000 in
set_option maxRecDepth 100000 in
theorem c_X11_elsewhere (l : Launch) (G : TG) (mo : Nat → Nat) (mo_length : Int32) (mo_at : Int32) (mo_faultAt : Int32) (mo_parts : Int32) (mo_entries : Int32) (mo_stories : Nat → Int32) (mo_ringEarth : Int32) (mo_lead : Int32) (mo_ring : Int32) (mo_jumpMany : Int32) (mo_curveEnd : Int32) (mo_beds : Int32) (mo_bed : Nat → Int32) (mo_all : Int64) (a1 : Int32) (R : Int32) (hf : f_X11_elsewhere mo_stories mo_beds mo_bed a1 = some R) : RO l yX11_elsewhere cX11_elsewhere 4 (some .int) ({ frames := 2, cells := 0, slots := 0, locals := 51 }) G [.ref (mo 0), .int a1] [(oX11 mo mo_length mo_at mo_faultAt mo_parts mo_entries mo_ringEarth mo_lead mo_ring mo_jumpMany mo_curveEnd mo_beds mo_all), (wI G (mo 6) 400 mo_stories), (wI G (mo 10) 48 mo_bed)] (some (.int R)) := by
  refine RO.mk (by decide +kernel) (Nat.le_of_ble_eq_true rfl) ?_
  intro p e s m below meth c ls C hP hK hl
  have hx := C.1
  have hb := C.2.1
  have hown : s.vm.findClass RX11 = some m.cls := C.2.2.2.2.2.1
  have ht := C.2.2.2.2.2.2
  have hl : lv_has ls 4 [(0, .ref (mo 0)), (1, .int a1)] := hl
  show Wc_X11_elsewhere l G mo mo_length mo_at mo_faultAt mo_parts mo_entries mo_stories mo_ringEarth mo_lead mo_ring mo_jumpMany mo_curveEnd mo_beds mo_bed mo_all a1 R p e s m below meth c s.heap [] (F0 m 0 ls [])
  refine lv_iload_n hx hb dX11_elsewhere_0 rfl (lv_at hl 1 rfl) ?_
  obtain ⟨q1, r1, hf⟩ := bd_s hf
  refine ro_S (n := 1) (As := [.int a1]) (rest := []) (c_X11_isStory l G a1 q1 r1) C hK (hP.sub [] rfl) hl kcode_X11_isStory kml_X11_117 kst_X11_isStory kini_X11 (by decide +kernel) ⟨⟨rfl, rfl⟩, Nat.le_of_ble_eq_true rfl, Nat.le_of_ble_eq_true rfl⟩ ⟨Nat.zero_le _, Nat.zero_le _⟩ rfl rfl (Nat.le_of_ble_eq_true rfl) dX11_elsewhere_1 rfl ?_
  refine lv_if_ne (tgt := 9) hx hb dX11_elsewhere_4 (by decide) (fun c2 => ?_) (fun c2 => ?_)
  · have hf := o_f c2 hf
    refine lv_iconst (v := 0) hx hb dX11_elsewhere_9 (by decide) ?_
    refine lv_istore_n (lv' := [(2, .int (0 : Int32)), (0, .ref (mo 0)), (1, .int a1)]) hx hb dX11_elsewhere_10 rfl hl (by decide) rfl (fun ls hl => ?_)
    refine lv_iconst (v := 1) hx hb dX11_elsewhere_11 (by decide) ?_
    refine lv_istore_n (lv' := [(3, .int (1 : Int32)), (2, .int (0 : Int32)), (0, .ref (mo 0)), (1, .int a1)]) hx hb dX11_elsewhere_12 rfl hl (by decide) rfl (fun ls hl => ?_)
    have hx46_3 : ∀ (v2 : Int32) (ls : Array Slot), f_X11_elsewhere_x46_3 v2 = some R → lv_has ls 4 [(2, .int v2)] → Wc_X11_elsewhere l G mo mo_length mo_at mo_faultAt mo_parts mo_entries mo_stories mo_ringEarth mo_lead mo_ring mo_jumpMany mo_curveEnd mo_beds mo_bed mo_all a1 R p e s m below meth c s.heap [] (F0 m 46 ls []) := by
      intro v2 ls hf hl
      refine lv_iload_n hx hb dX11_elsewhere_46 rfl (lv_at hl 0 rfl) ?_
      have h9 := Option.some.inj hf
      subst h9
      exact ro_iret C rfl dX11_elsewhere_47
    obtain ⟨rL3, hL3, hk3⟩ := bd_s hf
    refine lp_W (P := fun st => ∀ (ls : Array Slot), lv_has ls 4 [(0, .ref (mo 0)), (1, .int a1), (2, .int st.1), (3, .int st.2)] → Wc_X11_elsewhere l G mo mo_length mo_at mo_faultAt mo_parts mo_entries mo_stories mo_ringEarth mo_lead mo_ring mo_jumpMany mo_curveEnd mo_beds mo_bed mo_all a1 R p e s m below meth c s.heap [] (F0 m 13 ls [])) ?_ FU ((0 : Int32), (1 : Int32)) hL3 ls (lv_sub hl [2, 3, 1, 0] rfl)
    intro ⟨v2, v3⟩ oc3 hf hI hE ls hl
    have hl : lv_has ls 4 [(0, .ref (mo 0)), (1, .int a1), (2, .int v2), (3, .int v3)] := hl
    have hf : f_X11_elsewhere_b13 mo_stories mo_beds mo_bed a1 v2 v3 = some oc3 := hf
    refine lv_iload_n hx hb dX11_elsewhere_13 rfl (lv_at hl 3 rfl) ?_
    refine lv_bipush (v := 6) hx hb dX11_elsewhere_14 (by decide) ?_
    refine lv_icmp_ge (tgt := 46) hx hb dX11_elsewhere_16 (by decide) (fun c5 => ?_) (fun c5 => ?_)
    · have hf := o_t c5 hf
      cases hf
      have hf : f_X11_elsewhere_x46_3 v2 = some R := by have h9 := hk3; rw [← hE _ rfl] at h9; exact h9
      exact hx46_3 v2 ls hf (lv_sub hl [2] rfl)
    · have hf := o_f c5 hf
      refine lv_aload_n hx hb dX11_elsewhere_19 rfl (lv_at hl 0 rfl) ?_
      refine lv_iload_n hx hb dX11_elsewhere_20 rfl (lv_at hl 1 rfl) ?_
      refine lv_iload_n hx hb dX11_elsewhere_21 rfl (lv_at hl 3 rfl) ?_
      obtain ⟨q6, r6, hf⟩ := bd_s hf
      refine ro_V (n := 2) (As := [.int a1, .int v3]) (rest := []) (c_X11_poleOf l G mo mo_length mo_at mo_faultAt mo_parts mo_entries mo_stories mo_ringEarth mo_lead mo_ring mo_jumpMany mo_curveEnd mo_beds mo_bed mo_all a1 v3 q6 r6) C hK (hP.sub [0, 1, 2] rfl) hl kcode_X11_poleOf kml_X11_236 kim_X11_poleOf ksel_X11_poleOf kini_X11 (by decide +kernel) ⟨⟨rfl, rfl⟩, Nat.le_of_ble_eq_true rfl, Nat.le_of_ble_eq_true rfl⟩ ⟨Nat.zero_le _, Nat.zero_le _⟩ rfl rfl rfl rfl rfl (Nat.le_of_ble_eq_true rfl) dX11_elsewhere_22 rfl ?_
      refine lv_aload_n hx hb dX11_elsewhere_25 rfl (lv_at hl 0 rfl) ?_
      refine lv_iload_n hx hb dX11_elsewhere_26 rfl (lv_at hl 1 rfl) ?_
      refine lv_iload_n hx hb dX11_elsewhere_27 rfl (lv_at hl 2 rfl) ?_
      obtain ⟨q7, r7, hf⟩ := bd_s hf
      refine ro_V (n := 2) (As := [.int a1, .int v2]) (rest := [.int q6]) (c_X11_poleOf l G mo mo_length mo_at mo_faultAt mo_parts mo_entries mo_stories mo_ringEarth mo_lead mo_ring mo_jumpMany mo_curveEnd mo_beds mo_bed mo_all a1 v2 q7 r7) C hK (hP.sub [0, 1, 2] rfl) hl kcode_X11_poleOf kml_X11_236 kim_X11_poleOf ksel_X11_poleOf kini_X11 (by decide +kernel) ⟨⟨rfl, rfl⟩, Nat.le_of_ble_eq_true rfl, Nat.le_of_ble_eq_true rfl⟩ ⟨Nat.zero_le _, Nat.zero_le _⟩ rfl rfl rfl rfl rfl (Nat.le_of_ble_eq_true rfl) dX11_elsewhere_28 rfl ?_
      refine lv_icmp_le (tgt := 38) hx hb dX11_elsewhere_31 (by decide) (fun c8 => ?_) (fun c8 => ?_)
      · have hf := o_t c8 hf
        refine lv_iload_n hx hb dX11_elsewhere_38 rfl (lv_at hl 2 rfl) ?_
        refine lv_istore_n (lv' := [(2, .int v2), (0, .ref (mo 0)), (1, .int a1), (3, .int v3)]) hx hb dX11_elsewhere_39 rfl hl (by decide) rfl (fun ls hl => ?_)
        refine lv_iinc (v := (v3 + (1 : Int32))) (lv' := [(3, .int (v3 + (1 : Int32))), (2, .int v2), (0, .ref (mo 0)), (1, .int a1)]) hx hb dX11_elsewhere_40 hl (k := 3) rfl (by rfl) (by decide) rfl (fun ls hl => ?_)
        refine lv_goto (tgt := 13) hx hb dX11_elsewhere_43 (by decide) ?_
        cases hf
        exact hI _ rfl ls (lv_sub hl [2, 3, 1, 0] rfl)
      · have hf := o_f c8 hf
        refine lv_iload_n hx hb dX11_elsewhere_34 rfl (lv_at hl 3 rfl) ?_
        refine lv_goto (tgt := 39) hx hb dX11_elsewhere_35 (by decide) ?_
        refine lv_istore_n (lv' := [(2, .int v3), (0, .ref (mo 0)), (1, .int a1), (3, .int v3)]) hx hb dX11_elsewhere_39 rfl hl (by decide) rfl (fun ls hl => ?_)
        refine lv_iinc (v := (v3 + (1 : Int32))) (lv' := [(3, .int (v3 + (1 : Int32))), (2, .int v3), (0, .ref (mo 0)), (1, .int a1)]) hx hb dX11_elsewhere_40 hl (k := 3) rfl (by rfl) (by decide) rfl (fun ls hl => ?_)
        refine lv_goto (tgt := 13) hx hb dX11_elsewhere_43 (by decide) ?_
        cases hf
        exact hI _ rfl ls (lv_sub hl [2, 3, 1, 0] rfl)
  · have hf := o_t c2 hf
    refine lv_iconst (v := -1) hx hb dX11_elsewhere_7 (by decide) ?_
    have h9 := Option.some.inj hf
    subst h9
    exact ro_iret C rfl dX11_elsewhere_8
abbrev Wc_X11_keep (l : Launch) (G : TG) (mo : Nat → Nat) (mo_length : Int32) (mo_at : Int32) (mo_faultAt : Int32) (mo_parts : Int32) (mo_entries : Int32) (mo_weights : Nat → Int32) (mo_ringEarth : Int32) (mo_lead : Int32) (mo_ring : Int32) (mo_jumpMany : Int32) (mo_curveEnd : Int32) (mo_beds : Int32) (mo_bed : Nat → Int32) (mo_all : Int64) (mo_isKept : Nat → Int32) (mo_keptBeds : Nat → Int32) (mo_keptBed : Nat → Int32) (mo_keptWeights : Nat → Int32) (a1 : Int32) (R : Int32 × (Nat → Int32) × (Nat → Int32) × (Nat → Int32) × (Nat → Int32)) (p : Program) (e : Env) (s : State) (m : MethodId) (below : List Frame) (meth : Method) (c : Code) (A : Nat → Prop) (H : Heap) (locs : List Loc) (g : JFrame) : Prop := W p l e ({ frames := 1, cells := 0, slots := 0, locals := 25 }) s m ([.ref (mo 0), .int a1] : List Value).toArray below meth c H locs 0 0 (MQ below (rwQ G (some (.int R.1)) [(oX11 mo mo_length mo_at mo_faultAt mo_parts mo_entries mo_ringEarth mo_lead mo_ring mo_jumpMany mo_curveEnd mo_beds mo_all), (wI G (mo 7) 4 mo_weights), (wI G (mo 10) 48 mo_bed), (wZ G (mo 14) 2 R.2.1), (wI G (mo 15) 2 R.2.2.1), (wI G (mo 16) 96 R.2.2.2.1), (wI G (mo 17) 8 R.2.2.2.2)] A) ([.ref (mo 0), .int a1] : List Value).toArray s 0 0 A) g
set_option maxHeartbeats 4000000 in
set_option maxRecDepth 100000 in
theorem c_X11_keep (l : Launch) (G : TG) (mo : Nat → Nat) (mo_length : Int32) (mo_at : Int32) (mo_faultAt : Int32) (mo_parts : Int32) (mo_entries : Int32) (mo_weights : Nat → Int32) (mo_ringEarth : Int32) (mo_lead : Int32) (mo_ring : Int32) (mo_jumpMany : Int32) (mo_curveEnd : Int32) (mo_beds : Int32) (mo_bed : Nat → Int32) (mo_all : Int64) (mo_isKept : Nat → Int32) (mo_keptBeds : Nat → Int32) (mo_keptBed : Nat → Int32) (mo_keptWeights : Nat → Int32) (a1 : Int32) (R : Int32 × (Nat → Int32) × (Nat → Int32) × (Nat → Int32) × (Nat → Int32)) (hf : f_X11_keep mo_weights mo_beds mo_bed mo_isKept mo_keptBeds mo_keptBed mo_keptWeights a1 = some R) : RW l yX11_keep cX11_keep 3 (some .int) ({ frames := 1, cells := 0, slots := 0, locals := 25 }) G [.ref (mo 0), .int a1] [(oX11 mo mo_length mo_at mo_faultAt mo_parts mo_entries mo_ringEarth mo_lead mo_ring mo_jumpMany mo_curveEnd mo_beds mo_all), (wI G (mo 7) 4 mo_weights), (wI G (mo 10) 48 mo_bed), (wZ G (mo 14) 2 mo_isKept), (wI G (mo 15) 2 mo_keptBeds), (wI G (mo 16) 96 mo_keptBed), (wI G (mo 17) 8 mo_keptWeights)] (some (.int R.1)) [(oX11 mo mo_length mo_at mo_faultAt mo_parts mo_entries mo_ringEarth mo_lead mo_ring mo_jumpMany mo_curveEnd mo_beds mo_all), (wI G (mo 7) 4 mo_weights), (wI G (mo 10) 48 mo_bed), (wZ G (mo 14) 2 R.2.1), (wI G (mo 15) 2 R.2.2.1), (wI G (mo 16) 96 R.2.2.2.1), (wI G (mo 17) 8 R.2.2.2.2)] := by
  refine RW.mk (by decide +kernel) (Nat.le_of_ble_eq_true rfl) ?_
  intro p e s m below meth c ls A C hP hD hA hz hK hl hS
  have hx := C.1
  have hb := C.2.1
  have hown : s.vm.findClass RX11 = some m.cls := C.2.2.2.2.2.1
  have ht := C.2.2.2.2.2.2
  have hl : lv_has ls 3 [(0, .ref (mo 0)), (1, .int a1)] := hl
  show Wc_X11_keep l G mo mo_length mo_at mo_faultAt mo_parts mo_entries mo_weights mo_ringEarth mo_lead mo_ring mo_jumpMany mo_curveEnd mo_beds mo_bed mo_all mo_isKept mo_keptBeds mo_keptBed mo_keptWeights a1 R p e s m below meth c A s.heap [] (F0 m 0 ls [])
  obtain ⟨H, eH, hP, hS⟩ : ∃ H, H = s.heap ∧ va_P G.1 vwCl [(oX11 mo mo_length mo_at mo_faultAt mo_parts mo_entries mo_ringEarth mo_lead mo_ring mo_jumpMany mo_curveEnd mo_beds mo_all), (wI G (mo 7) 4 mo_weights), (wI G (mo 10) 48 mo_bed), (wZ G (mo 14) 2 mo_isKept), (wI G (mo 15) 2 mo_keptBeds), (wI G (mo 16) 96 mo_keptBed), (wI G (mo 17) 8 mo_keptWeights)] H ∧ va_S A s.heap H [] := ⟨_, rfl, hP, hS⟩
  obtain ⟨locs, el, hS⟩ : ∃ locs : List Loc, locs = [] ∧ va_S A s.heap H locs := ⟨_, rfl, hS⟩
  have key : Wc_X11_keep l G mo mo_length mo_at mo_faultAt mo_parts mo_entries mo_weights mo_ringEarth mo_lead mo_ring mo_jumpMany mo_curveEnd mo_beds mo_bed mo_all mo_isKept mo_keptBeds mo_keptBed mo_keptWeights a1 R p e s m below meth c A H locs (F0 m 0 ls []) := by
    refine lv_iload_n hx hb dX11_keep_0 rfl (lv_at hl 1 rfl) ?_
    refine lv_i2l (v := (a1.toInt64)) hx hb dX11_keep_1 rfl ?_
    refine lv_lconst (v := 0) hx hb dX11_keep_2 (by decide) ?_
    refine lv_lconst (v := 1) hx hb dX11_keep_3 (by decide) ?_
    obtain ⟨q1, r1, hf⟩ := bd_s hf
    refine ro_S (n := 3) (As := [.long (a1.toInt64), .long (0 : Int64), .long (1 : Int64)]) (rest := []) (c_X11_in l G (a1.toInt64) (0 : Int64) (1 : Int64) q1 r1) C (hK.at hS hz) (hP.sub [] rfl) hl kcode_X11_in kml_X11_65 kst_X11_in kini_X11 (by decide +kernel) ⟨⟨rfl, rfl⟩, Nat.le_of_ble_eq_true rfl, Nat.le_of_ble_eq_true rfl⟩ ⟨Nat.zero_le _, Nat.zero_le _⟩ rfl rfl (Nat.le_of_ble_eq_true rfl) dX11_keep_4 rfl ?_
    refine lv_if_ne (tgt := 12) hx hb dX11_keep_7 (by decide) (fun c2 => ?_) (fun c2 => ?_)
    · have hf := o_f c2 hf
      refine lv_aload_n hx hb dX11_keep_12 rfl (lv_at hl 0 rfl) ?_
      refine va_get (D := G.1) (ci := 11) (v := .ref (mo 14)) (C := RX11) (T := TX11) (N := 29) hx hb ht twX11 hown hK.1 hP 0 rfl rfl 25 (by decide) (ht _ kfl_X11_50) (fun _ h9 => h9) rfl dX11_keep_13 ?_
      refine lv_iload_n hx hb dX11_keep_16 rfl (lv_at hl 1 rfl) ?_
      refine lv_iconst (v := 1) hx hb dX11_keep_17 (by decide) ?_
      obtain ⟨g3, hf⟩ := gd_s hf
      refine va_zast hx hb hK.1 hP hD hS 3 2 rfl rfl g3 dX11_keep_18 (fun H locs hP hD hS => ?_)
      have hP : va_P G.1 vwCl [(oX11 mo mo_length mo_at mo_faultAt mo_parts mo_entries mo_ringEarth mo_lead mo_ring mo_jumpMany mo_curveEnd mo_beds mo_all), (wI G (mo 7) 4 mo_weights), (wI G (mo 10) 48 mo_bed), (wZ G (mo 14) 2 (upd mo_isKept a1.toNatClampNeg (vp_nar .boolean (1 : Int32)))), (wI G (mo 15) 2 mo_keptBeds), (wI G (mo 16) 96 mo_keptBed), (wI G (mo 17) 8 mo_keptWeights)] H := hP
      have hD : va_D A [(oX11 mo mo_length mo_at mo_faultAt mo_parts mo_entries mo_ringEarth mo_lead mo_ring mo_jumpMany mo_curveEnd mo_beds mo_all), (wI G (mo 7) 4 mo_weights), (wI G (mo 10) 48 mo_bed), (wZ G (mo 14) 2 (upd mo_isKept a1.toNatClampNeg (vp_nar .boolean (1 : Int32)))), (wI G (mo 15) 2 mo_keptBeds), (wI G (mo 16) 96 mo_keptBed), (wI G (mo 17) 8 mo_keptWeights)] := hD
      refine lv_aload_n hx hb dX11_keep_19 rfl (lv_at hl 0 rfl) ?_
      refine va_get (D := G.1) (ci := 11) (v := .ref (mo 15)) (C := RX11) (T := TX11) (N := 29) hx hb ht twX11 hown hK.1 hP 0 rfl rfl 26 (by decide) (ht _ kfl_X11_54) (fun _ h9 => h9) rfl dX11_keep_20 ?_
      refine lv_iload_n hx hb dX11_keep_23 rfl (lv_at hl 1 rfl) ?_
      refine lv_aload_n hx hb dX11_keep_24 rfl (lv_at hl 0 rfl) ?_
      refine va_get (D := G.1) (ci := 11) (v := .int mo_beds) (C := RX11) (T := TX11) (N := 29) hx hb ht twX11 hown hK.1 hP 0 rfl rfl 19 (by decide) (ht _ kfl_X11_180) (fun _ h9 => h9) rfl dX11_keep_25 ?_
      obtain ⟨g4, hf⟩ := gd_s hf
      refine va_iast hx hb hK.1 hP hD hS 4 0 rfl rfl g4 dX11_keep_28 (fun H locs hP hD hS => ?_)
      have hP : va_P G.1 vwCl [(oX11 mo mo_length mo_at mo_faultAt mo_parts mo_entries mo_ringEarth mo_lead mo_ring mo_jumpMany mo_curveEnd mo_beds mo_all), (wI G (mo 7) 4 mo_weights), (wI G (mo 10) 48 mo_bed), (wZ G (mo 14) 2 (upd mo_isKept a1.toNatClampNeg (vp_nar .boolean (1 : Int32)))), (wI G (mo 15) 2 (upd mo_keptBeds a1.toNatClampNeg mo_beds)), (wI G (mo 16) 96 mo_keptBed), (wI G (mo 17) 8 mo_keptWeights)] H := hP
      have hD : va_D A [(oX11 mo mo_length mo_at mo_faultAt mo_parts mo_entries mo_ringEarth mo_lead mo_ring mo_jumpMany mo_curveEnd mo_beds mo_all), (wI G (mo 7) 4 mo_weights), (wI G (mo 10) 48 mo_bed), (wZ G (mo 14) 2 (upd mo_isKept a1.toNatClampNeg (vp_nar .boolean (1 : Int32)))), (wI G (mo 15) 2 (upd mo_keptBeds a1.toNatClampNeg mo_beds)), (wI G (mo 16) 96 mo_keptBed), (wI G (mo 17) 8 mo_keptWeights)] := hD
      refine lv_iconst (v := 0) hx hb dX11_keep_29 (by decide) ?_
      refine lv_istore_n (lv' := [(2, .int (0 : Int32)), (0, .ref (mo 0)), (1, .int a1)]) hx hb dX11_keep_30 rfl hl (by decide) rfl (fun ls hl => ?_)
      have hx60_5 : ∀ (mo_isKept : Nat → Int32) (mo_keptBeds : Nat → Int32) (mo_keptBed : Nat → Int32) (H : Heap) (locs : List Loc) (ls : Array Slot), f_X11_keep_x60_5 mo_weights mo_beds mo_keptWeights a1 mo_isKept mo_keptBeds mo_keptBed = some R → va_P G.1 vwCl [(oX11 mo mo_length mo_at mo_faultAt mo_parts mo_entries mo_ringEarth mo_lead mo_ring mo_jumpMany mo_curveEnd mo_beds mo_all), (wI G (mo 7) 4 mo_weights), (wI G (mo 10) 48 mo_bed), (wZ G (mo 14) 2 mo_isKept), (wI G (mo 15) 2 mo_keptBeds), (wI G (mo 16) 96 mo_keptBed), (wI G (mo 17) 8 mo_keptWeights)] H → va_D A [(oX11 mo mo_length mo_at mo_faultAt mo_parts mo_entries mo_ringEarth mo_lead mo_ring mo_jumpMany mo_curveEnd mo_beds mo_all), (wI G (mo 7) 4 mo_weights), (wI G (mo 10) 48 mo_bed), (wZ G (mo 14) 2 mo_isKept), (wI G (mo 15) 2 mo_keptBeds), (wI G (mo 16) 96 mo_keptBed), (wI G (mo 17) 8 mo_keptWeights)] → va_S A s.heap H locs → lv_has ls 3 [(0, .ref (mo 0)), (1, .int a1)] → Wc_X11_keep l G mo mo_length mo_at mo_faultAt mo_parts mo_entries mo_weights mo_ringEarth mo_lead mo_ring mo_jumpMany mo_curveEnd mo_beds mo_bed mo_all mo_isKept mo_keptBeds mo_keptBed mo_keptWeights a1 R p e s m below meth c A H locs (F0 m 60 ls []) := by
        intro mo_isKept mo_keptBeds mo_keptBed H locs ls hf hP hD hS hl
        refine lv_iconst (v := 0) hx hb dX11_keep_60 (by decide) ?_
        refine lv_istore_n (lv' := [(2, .int (0 : Int32)), (0, .ref (mo 0)), (1, .int a1)]) hx hb dX11_keep_61 rfl hl (by decide) rfl (fun ls hl => ?_)
        have hx89_6 : ∀ (mo_keptWeights : Nat → Int32) (H : Heap) (locs : List Loc) (ls : Array Slot), f_X11_keep_x89_6 mo_beds mo_isKept mo_keptBeds mo_keptBed mo_keptWeights = some R → va_P G.1 vwCl [(oX11 mo mo_length mo_at mo_faultAt mo_parts mo_entries mo_ringEarth mo_lead mo_ring mo_jumpMany mo_curveEnd mo_beds mo_all), (wI G (mo 7) 4 mo_weights), (wI G (mo 10) 48 mo_bed), (wZ G (mo 14) 2 mo_isKept), (wI G (mo 15) 2 mo_keptBeds), (wI G (mo 16) 96 mo_keptBed), (wI G (mo 17) 8 mo_keptWeights)] H → va_D A [(oX11 mo mo_length mo_at mo_faultAt mo_parts mo_entries mo_ringEarth mo_lead mo_ring mo_jumpMany mo_curveEnd mo_beds mo_all), (wI G (mo 7) 4 mo_weights), (wI G (mo 10) 48 mo_bed), (wZ G (mo 14) 2 mo_isKept), (wI G (mo 15) 2 mo_keptBeds), (wI G (mo 16) 96 mo_keptBed), (wI G (mo 17) 8 mo_keptWeights)] → va_S A s.heap H locs → lv_has ls 3 [(0, .ref (mo 0))] → Wc_X11_keep l G mo mo_length mo_at mo_faultAt mo_parts mo_entries mo_weights mo_ringEarth mo_lead mo_ring mo_jumpMany mo_curveEnd mo_beds mo_bed mo_all mo_isKept mo_keptBeds mo_keptBed mo_keptWeights a1 R p e s m below meth c A H locs (F0 m 89 ls []) := by
          intro mo_keptWeights H locs ls hf hP hD hS hl
          refine lv_aload_n hx hb dX11_keep_89 rfl (lv_at hl 0 rfl) ?_
          refine va_get (D := G.1) (ci := 11) (v := .int mo_beds) (C := RX11) (T := TX11) (N := 29) hx hb ht twX11 hown hK.1 hP 0 rfl rfl 19 (by decide) (ht _ kfl_X11_180) (fun _ h9 => h9) rfl dX11_keep_90 ?_
          have h9 := Option.some.inj hf
          subst h9
          exact rw_iret C rfl hP hD hS dX11_keep_93
        obtain ⟨rL6, hL6, hk6⟩ := bd_s hf
        refine lp_W (P := fun st => ∀ (H : Heap) (locs : List Loc) (ls : Array Slot), va_P G.1 vwCl [(oX11 mo mo_length mo_at mo_faultAt mo_parts mo_entries mo_ringEarth mo_lead mo_ring mo_jumpMany mo_curveEnd mo_beds mo_all), (wI G (mo 7) 4 mo_weights), (wI G (mo 10) 48 mo_bed), (wZ G (mo 14) 2 mo_isKept), (wI G (mo 15) 2 mo_keptBeds), (wI G (mo 16) 96 mo_keptBed), (wI G (mo 17) 8 st.2)] H → va_D A [(oX11 mo mo_length mo_at mo_faultAt mo_parts mo_entries mo_ringEarth mo_lead mo_ring mo_jumpMany mo_curveEnd mo_beds mo_all), (wI G (mo 7) 4 mo_weights), (wI G (mo 10) 48 mo_bed), (wZ G (mo 14) 2 mo_isKept), (wI G (mo 15) 2 mo_keptBeds), (wI G (mo 16) 96 mo_keptBed), (wI G (mo 17) 8 st.2)] → va_S A s.heap H locs → lv_has ls 3 [(0, .ref (mo 0)), (1, .int a1), (2, .int st.1)] → Wc_X11_keep l G mo mo_length mo_at mo_faultAt mo_parts mo_entries mo_weights mo_ringEarth mo_lead mo_ring mo_jumpMany mo_curveEnd mo_beds mo_bed mo_all mo_isKept mo_keptBeds mo_keptBed mo_keptWeights a1 R p e s m below meth c A H locs (F0 m 62 ls [])) ?_ FU ((0 : Int32), mo_keptWeights) hL6 H locs ls hP hD hS (lv_sub hl [1, 2, 0] rfl)
        intro ⟨v2, mo_keptWeights⟩ oc6 hf hI hE H locs ls hP hD hS hl
        have hP : va_P G.1 vwCl [(oX11 mo mo_length mo_at mo_faultAt mo_parts mo_entries mo_ringEarth mo_lead mo_ring mo_jumpMany mo_curveEnd mo_beds mo_all), (wI G (mo 7) 4 mo_weights), (wI G (mo 10) 48 mo_bed), (wZ G (mo 14) 2 mo_isKept), (wI G (mo 15) 2 mo_keptBeds), (wI G (mo 16) 96 mo_keptBed), (wI G (mo 17) 8 mo_keptWeights)] H := hP
        have hD : va_D A [(oX11 mo mo_length mo_at mo_faultAt mo_parts mo_entries mo_ringEarth mo_lead mo_ring mo_jumpMany mo_curveEnd mo_beds mo_all), (wI G (mo 7) 4 mo_weights), (wI G (mo 10) 48 mo_bed), (wZ G (mo 14) 2 mo_isKept), (wI G (mo 15) 2 mo_keptBeds), (wI G (mo 16) 96 mo_keptBed), (wI G (mo 17) 8 mo_keptWeights)] := hD
        have hl : lv_has ls 3 [(0, .ref (mo 0)), (1, .int a1), (2, .int v2)] := hl
        have hf : f_X11_keep_b62 mo_weights a1 v2 mo_keptWeights = some oc6 := hf
        refine lv_iload_n hx hb dX11_keep_62 rfl (lv_at hl 2 rfl) ?_
        refine lv_iconst (v := 4) hx hb dX11_keep_63 (by decide) ?_
        refine lv_icmp_ge (tgt := 89) hx hb dX11_keep_64 (by decide) (fun c8 => ?_) (fun c8 => ?_)
        · have hf := o_t c8 hf
          cases hf
          have hf : f_X11_keep_x89_6 mo_beds mo_isKept mo_keptBeds mo_keptBed mo_keptWeights = some R := by have h9 := hk6; rw [← hE _ rfl] at h9; exact h9
          exact hx89_6 mo_keptWeights H locs ls hf hP hD hS (lv_sub hl [0] rfl)
        · have hf := o_f c8 hf
          refine lv_aload_n hx hb dX11_keep_67 rfl (lv_at hl 0 rfl) ?_
          refine va_get (D := G.1) (ci := 11) (v := .ref (mo 17)) (C := RX11) (T := TX11) (N := 29) hx hb ht twX11 hown hK.1 hP 0 rfl rfl 28 (by decide) (ht _ kfl_X11_60) (fun _ h9 => h9) rfl dX11_keep_68 ?_
          refine lv_iconst (v := 4) hx hb dX11_keep_71 (by decide) ?_
          refine lv_iload_n hx hb dX11_keep_72 rfl (lv_at hl 1 rfl) ?_
          refine lv_imul hx hb dX11_keep_73 ?_
          refine lv_iload_n hx hb dX11_keep_74 rfl (lv_at hl 2 rfl) ?_
          refine lv_iadd hx hb dX11_keep_75 ?_
          refine lv_aload_n hx hb dX11_keep_76 rfl (lv_at hl 0 rfl) ?_
          refine va_get (D := G.1) (ci := 11) (v := .ref (mo 7)) (C := RX11) (T := TX11) (N := 29) hx hb ht twX11 hown hK.1 hP 0 rfl rfl 11 (by decide) (ht _ kfl_X11_28) (fun _ h9 => h9) rfl dX11_keep_77 ?_
          refine lv_iload_n hx hb dX11_keep_80 rfl (lv_at hl 2 rfl) ?_
          obtain ⟨g9, hf⟩ := gd_s hf
          refine va_iald hx hb hK.1 hP 1 0 rfl rfl g9 dX11_keep_81 ?_
          obtain ⟨g10, hf⟩ := gd_s hf
          refine va_iast hx hb hK.1 hP hD hS 6 0 rfl rfl g10 dX11_keep_82 (fun H locs hP hD hS => ?_)
          have hP : va_P G.1 vwCl [(oX11 mo mo_length mo_at mo_faultAt mo_parts mo_entries mo_ringEarth mo_lead mo_ring mo_jumpMany mo_curveEnd mo_beds mo_all), (wI G (mo 7) 4 mo_weights), (wI G (mo 10) 48 mo_bed), (wZ G (mo 14) 2 mo_isKept), (wI G (mo 15) 2 mo_keptBeds), (wI G (mo 16) 96 mo_keptBed), (wI G (mo 17) 8 (upd mo_keptWeights (((4 : Int32) * a1) + v2).toNatClampNeg (mo_weights v2.toNatClampNeg)))] H := hP
          have hD : va_D A [(oX11 mo mo_length mo_at mo_faultAt mo_parts mo_entries mo_ringEarth mo_lead mo_ring mo_jumpMany mo_curveEnd mo_beds mo_all), (wI G (mo 7) 4 mo_weights), (wI G (mo 10) 48 mo_bed), (wZ G (mo 14) 2 mo_isKept), (wI G (mo 15) 2 mo_keptBeds), (wI G (mo 16) 96 mo_keptBed), (wI G (mo 17) 8 (upd mo_keptWeights (((4 : Int32) * a1) + v2).toNatClampNeg (mo_weights v2.toNatClampNeg)))] := hD
          refine lv_iinc (v := (v2 + (1 : Int32))) (lv' := [(2, .int (v2 + (1 : Int32))), (0, .ref (mo 0)), (1, .int a1)]) hx hb dX11_keep_83 hl (k := 2) rfl (by rfl) (by decide) rfl (fun ls hl => ?_)
          refine lv_goto (tgt := 62) hx hb dX11_keep_86 (by decide) ?_
          cases hf
          exact hI _ rfl H locs ls hP hD hS (lv_sub hl [1, 2, 0] rfl)
      obtain ⟨rL5, hL5, hk5⟩ := bd_s hf
      refine lp_W (P := fun st => ∀ (H : Heap) (locs : List Loc) (ls : Array Slot), va_P G.1 vwCl [(oX11 mo mo_length mo_at mo_faultAt mo_parts mo_entries mo_ringEarth mo_lead mo_ring mo_jumpMany mo_curveEnd mo_beds mo_all), (wI G (mo 7) 4 mo_weights), (wI G (mo 10) 48 mo_bed), (wZ G (mo 14) 2 st.2.1), (wI G (mo 15) 2 st.2.2.1), (wI G (mo 16) 96 st.2.2.2), (wI G (mo 17) 8 mo_keptWeights)] H → va_D A [(oX11 mo mo_length mo_at mo_faultAt mo_parts mo_entries mo_ringEarth mo_lead mo_ring mo_jumpMany mo_curveEnd mo_beds mo_all), (wI G (mo 7) 4 mo_weights), (wI G (mo 10) 48 mo_bed), (wZ G (mo 14) 2 st.2.1), (wI G (mo 15) 2 st.2.2.1), (wI G (mo 16) 96 st.2.2.2), (wI G (mo 17) 8 mo_keptWeights)] → va_S A s.heap H locs → lv_has ls 3 [(0, .ref (mo 0)), (1, .int a1), (2, .int st.1)] → Wc_X11_keep l G mo mo_length mo_at mo_faultAt mo_parts mo_entries mo_weights mo_ringEarth mo_lead mo_ring mo_jumpMany mo_curveEnd mo_beds mo_bed mo_all mo_isKept mo_keptBeds mo_keptBed mo_keptWeights a1 R p e s m below meth c A H locs (F0 m 31 ls [])) ?_ FU ((0 : Int32), (upd mo_isKept a1.toNatClampNeg (vp_nar .boolean (1 : Int32))), (upd mo_keptBeds a1.toNatClampNeg mo_beds), mo_keptBed) hL5 H locs ls hP hD hS (lv_sub hl [1, 2, 0] rfl)
      intro ⟨v2, mo_isKept, mo_keptBeds, mo_keptBed⟩ oc5 hf hI hE H locs ls hP hD hS hl
      have hP : va_P G.1 vwCl [(oX11 mo mo_length mo_at mo_faultAt mo_parts mo_entries mo_ringEarth mo_lead mo_ring mo_jumpMany mo_curveEnd mo_beds mo_all), (wI G (mo 7) 4 mo_weights), (wI G (mo 10) 48 mo_bed), (wZ G (mo 14) 2 mo_isKept), (wI G (mo 15) 2 mo_keptBeds), (wI G (mo 16) 96 mo_keptBed), (wI G (mo 17) 8 mo_keptWeights)] H := hP
      have hD : va_D A [(oX11 mo mo_length mo_at mo_faultAt mo_parts mo_entries mo_ringEarth mo_lead mo_ring mo_jumpMany mo_curveEnd mo_beds mo_all), (wI G (mo 7) 4 mo_weights), (wI G (mo 10) 48 mo_bed), (wZ G (mo 14) 2 mo_isKept), (wI G (mo 15) 2 mo_keptBeds), (wI G (mo 16) 96 mo_keptBed), (wI G (mo 17) 8 mo_keptWeights)] := hD
      have hl : lv_has ls 3 [(0, .ref (mo 0)), (1, .int a1), (2, .int v2)] := hl
      have hf : f_X11_keep_b31 mo_bed a1 v2 mo_isKept mo_keptBeds mo_keptBed = some oc5 := hf
      refine lv_iload_n hx hb dX11_keep_31 rfl (lv_at hl 2 rfl) ?_
      refine lv_bipush (v := 48) hx hb dX11_keep_32 (by decide) ?_
      refine lv_icmp_ge (tgt := 60) hx hb dX11_keep_34 (by decide) (fun c11 => ?_) (fun c11 => ?_)
      · have hf := o_t c11 hf
        cases hf
        have hf : f_X11_keep_x60_5 mo_weights mo_beds mo_keptWeights a1 mo_isKept mo_keptBeds mo_keptBed = some R := by have h9 := hk5; rw [← hE _ rfl] at h9; exact h9
        exact hx60_5 mo_isKept mo_keptBeds mo_keptBed H locs ls hf hP hD hS (lv_sub hl [0, 1] rfl)
      · have hf := o_f c11 hf
        refine lv_aload_n hx hb dX11_keep_37 rfl (lv_at hl 0 rfl) ?_
        refine va_get (D := G.1) (ci := 11) (v := .ref (mo 16)) (C := RX11) (T := TX11) (N := 29) hx hb ht twX11 hown hK.1 hP 0 rfl rfl 27 (by decide) (ht _ kfl_X11_57) (fun _ h9 => h9) rfl dX11_keep_38 ?_
        refine lv_bipush (v := 48) hx hb dX11_keep_41 (by decide) ?_
        refine lv_iload_n hx hb dX11_keep_43 rfl (lv_at hl 1 rfl) ?_
        refine lv_imul hx hb dX11_keep_44 ?_
        refine lv_iload_n hx hb dX11_keep_45 rfl (lv_at hl 2 rfl) ?_
        refine lv_iadd hx hb dX11_keep_46 ?_
        refine lv_aload_n hx hb dX11_keep_47 rfl (lv_at hl 0 rfl) ?_
        refine va_get (D := G.1) (ci := 11) (v := .ref (mo 10)) (C := RX11) (T := TX11) (N := 29) hx hb ht twX11 hown hK.1 hP 0 rfl rfl 20 (by decide) (ht _ kfl_X11_37) (fun _ h9 => h9) rfl dX11_keep_48 ?_
        refine lv_iload_n hx hb dX11_keep_51 rfl (lv_at hl 2 rfl) ?_
        obtain ⟨g12, hf⟩ := gd_s hf
        refine va_iald hx hb hK.1 hP 2 0 rfl rfl g12 dX11_keep_52 ?_
        obtain ⟨g13, hf⟩ := gd_s hf
        refine va_iast hx hb hK.1 hP hD hS 5 0 rfl rfl g13 dX11_keep_53 (fun H locs hP hD hS => ?_)
        have hP : va_P G.1 vwCl [(oX11 mo mo_length mo_at mo_faultAt mo_parts mo_entries mo_ringEarth mo_lead mo_ring mo_jumpMany mo_curveEnd mo_beds mo_all), (wI G (mo 7) 4 mo_weights), (wI G (mo 10) 48 mo_bed), (wZ G (mo 14) 2 mo_isKept), (wI G (mo 15) 2 mo_keptBeds), (wI G (mo 16) 96 (upd mo_keptBed (((48 : Int32) * a1) + v2).toNatClampNeg (mo_bed v2.toNatClampNeg))), (wI G (mo 17) 8 mo_keptWeights)] H := hP
        have hD : va_D A [(oX11 mo mo_length mo_at mo_faultAt mo_parts mo_entries mo_ringEarth mo_lead mo_ring mo_jumpMany mo_curveEnd mo_beds mo_all), (wI G (mo 7) 4 mo_weights), (wI G (mo 10) 48 mo_bed), (wZ G (mo 14) 2 mo_isKept), (wI G (mo 15) 2 mo_keptBeds), (wI G (mo 16) 96 (upd mo_keptBed (((48 : Int32) * a1) + v2).toNatClampNeg (mo_bed v2.toNatClampNeg))), (wI G (mo 17) 8 mo_keptWeights)] := hD
        refine lv_iinc (v := (v2 + (1 : Int32))) (lv' := [(2, .int (v2 + (1 : Int32))), (0, .ref (mo 0)), (1, .int a1)]) hx hb dX11_keep_54 hl (k := 2) rfl (by rfl) (by decide) rfl (fun ls hl => ?_)
        refine lv_goto (tgt := 31) hx hb dX11_keep_57 (by decide) ?_
        cases hf
        exact hI _ rfl H locs ls hP hD hS (lv_sub hl [1, 2, 0] rfl)
    · have hf := o_t c2 hf
      refine lv_iconst (v := -1) hx hb dX11_keep_10 (by decide) ?_
      have h9 := Option.some.inj hf
      subst h9
      exact rw_iret C rfl hP hD hS dX11_keep_11
  rw [eH, el] at key
  exact key
abbrev Wc_X11_again (l : Launch) (G : TG) (mo : Nat → Nat) (mo_length : Int32) (mo_at : Int32) (mo_faultAt : Int32) (mo_parts : Int32) (mo_entries : Int32) (mo_weights : Nat → Int32) (mo_ringEarth : Int32) (mo_lead : Int32) (mo_ring : Int32) (mo_jumpMany : Int32) (mo_curveEnd : Int32) (mo_beds : Int32) (mo_bed : Nat → Int32) (mo_all : Int64) (mo_isKept : Nat → Int32) (mo_keptBeds : Nat → Int32) (mo_keptBed : Nat → Int32) (mo_keptWeights : Nat → Int32) (a1 : Int32) (R : Int32 × (Nat → Int32) × Int32 × (Nat → Int32)) (p : Program) (e : Env) (s : State) (m : MethodId) (below : List Frame) (meth : Method) (c : Code) (A : Nat → Prop) (H : Heap) (locs : List Loc) (g : JFrame) : Prop := W p l e ({ frames := 1, cells := 0, slots := 0, locals := 25 }) s m ([.ref (mo 0), .int a1] : List Value).toArray below meth c H locs 0 0 (MQ below (rwQ G (some (.int R.1)) [(oX11 mo mo_length mo_at mo_faultAt mo_parts mo_entries mo_ringEarth mo_lead mo_ring mo_jumpMany mo_curveEnd R.2.2.1 mo_all), (wI G (mo 7) 4 R.2.1), (wI G (mo 10) 48 R.2.2.2), (wZ G (mo 14) 2 mo_isKept), (wI G (mo 15) 2 mo_keptBeds), (wI G (mo 16) 96 mo_keptBed), (wI G (mo 17) 8 mo_keptWeights)] A) ([.ref (mo 0), .int a1] : List Value).toArray s 0 0 A) g
set_option maxHeartbeats 4000000 in
set_option maxRecDepth 100000 in
theorem c_X11_again (l : Launch) (G : TG) (mo : Nat → Nat) (mo_length : Int32) (mo_at : Int32) (mo_faultAt : Int32) (mo_parts : Int32) (mo_entries : Int32) (mo_weights : Nat → Int32) (mo_ringEarth : Int32) (mo_lead : Int32) (mo_ring : Int32) (mo_jumpMany : Int32) (mo_curveEnd : Int32) (mo_beds : Int32) (mo_bed : Nat → Int32) (mo_all : Int64) (mo_isKept : Nat → Int32) (mo_keptBeds : Nat → Int32) (mo_keptBed : Nat → Int32) (mo_keptWeights : Nat → Int32) (a1 : Int32) (R : Int32 × (Nat → Int32) × Int32 × (Nat → Int32)) (hf : f_X11_again mo_weights mo_beds mo_bed mo_isKept mo_keptBeds mo_keptBed mo_keptWeights a1 = some R) : RW l yX11_again cX11_again 3 (some .int) ({ frames := 1, cells := 0, slots := 0, locals := 25 }) G [.ref (mo 0), .int a1] [(oX11 mo mo_length mo_at mo_faultAt mo_parts mo_entries mo_ringEarth mo_lead mo_ring mo_jumpMany mo_curveEnd mo_beds mo_all), (wI G (mo 7) 4 mo_weights), (wI G (mo 10) 48 mo_bed), (wZ G (mo 14) 2 mo_isKept), (wI G (mo 15) 2 mo_keptBeds), (wI G (mo 16) 96 mo_keptBed), (wI G (mo 17) 8 mo_keptWeights)] (some (.int R.1)) [(oX11 mo mo_length mo_at mo_faultAt mo_parts mo_entries mo_ringEarth mo_lead mo_ring mo_jumpMany mo_curveEnd R.2.2.1 mo_all), (wI G (mo 7) 4 R.2.1), (wI G (mo 10) 48 R.2.2.2), (wZ G (mo 14) 2 mo_isKept), (wI G (mo 15) 2 mo_keptBeds), (wI G (mo 16) 96 mo_keptBed), (wI G (mo 17) 8 mo_keptWeights)] := by
  refine RW.mk (by decide +kernel) (Nat.le_of_ble_eq_true rfl) ?_
  intro p e s m below meth c ls A C hP hD hA hz hK hl hS
  have hx := C.1
  have hb := C.2.1
  have hown : s.vm.findClass RX11 = some m.cls := C.2.2.2.2.2.1
  have ht := C.2.2.2.2.2.2
  have hl : lv_has ls 3 [(0, .ref (mo 0)), (1, .int a1)] := hl
  show Wc_X11_again l G mo mo_length mo_at mo_faultAt mo_parts mo_entries mo_weights mo_ringEarth mo_lead mo_ring mo_jumpMany mo_curveEnd mo_beds mo_bed mo_all mo_isKept mo_keptBeds mo_keptBed mo_keptWeights a1 R p e s m below meth c A s.heap [] (F0 m 0 ls [])
  obtain ⟨H, eH, hP, hS⟩ : ∃ H, H = s.heap ∧ va_P G.1 vwCl [(oX11 mo mo_length mo_at mo_faultAt mo_parts mo_entries mo_ringEarth mo_lead mo_ring mo_jumpMany mo_curveEnd mo_beds mo_all), (wI G (mo 7) 4 mo_weights), (wI G (mo 10) 48 mo_bed), (wZ G (mo 14) 2 mo_isKept), (wI G (mo 15) 2 mo_keptBeds), (wI G (mo 16) 96 mo_keptBed), (wI G (mo 17) 8 mo_keptWeights)] H ∧ va_S A s.heap H [] := ⟨_, rfl, hP, hS⟩
  obtain ⟨locs, el, hS⟩ : ∃ locs : List Loc, locs = [] ∧ va_S A s.heap H locs := ⟨_, rfl, hS⟩
  have key : Wc_X11_again l G mo mo_length mo_at mo_faultAt mo_parts mo_entries mo_weights mo_ringEarth mo_lead mo_ring mo_jumpMany mo_curveEnd mo_beds mo_bed mo_all mo_isKept mo_keptBeds mo_keptBed mo_keptWeights a1 R p e s m below meth c A H locs (F0 m 0 ls []) := by
    refine lv_iload_n hx hb dX11_again_0 rfl (lv_at hl 1 rfl) ?_
    refine lv_i2l (v := (a1.toInt64)) hx hb dX11_again_1 rfl ?_
    refine lv_lconst (v := 0) hx hb dX11_again_2 (by decide) ?_
    refine lv_lconst (v := 1) hx hb dX11_again_3 (by decide) ?_
    obtain ⟨q1, r1, hf⟩ := bd_s hf
    refine ro_S (n := 3) (As := [.long (a1.toInt64), .long (0 : Int64), .long (1 : Int64)]) (rest := []) (c_X11_in l G (a1.toInt64) (0 : Int64) (1 : Int64) q1 r1) C (hK.at hS hz) (hP.sub [] rfl) hl kcode_X11_in kml_X11_65 kst_X11_in kini_X11 (by decide +kernel) ⟨⟨rfl, rfl⟩, Nat.le_of_ble_eq_true rfl, Nat.le_of_ble_eq_true rfl⟩ ⟨Nat.zero_le _, Nat.zero_le _⟩ rfl rfl (Nat.le_of_ble_eq_true rfl) dX11_again_4 rfl ?_
    refine lv_if_ne (tgt := 12) hx hb dX11_again_7 (by decide) (fun c2 => ?_) (fun c2 => ?_)
    · have hf := o_f c2 hf
      refine lv_aload_n hx hb dX11_again_12 rfl (lv_at hl 0 rfl) ?_
      refine va_get (D := G.1) (ci := 11) (v := .ref (mo 14)) (C := RX11) (T := TX11) (N := 29) hx hb ht twX11 hown hK.1 hP 0 rfl rfl 25 (by decide) (ht _ kfl_X11_50) (fun _ h9 => h9) rfl dX11_again_13 ?_
      refine lv_iload_n hx hb dX11_again_16 rfl (lv_at hl 1 rfl) ?_
      obtain ⟨g3, hf⟩ := gd_s hf
      refine va_zald hx hb hK.1 hP 3 2 rfl rfl g3 dX11_again_17 ?_
      refine lv_if_ne (tgt := 24) hx hb dX11_again_18 (by decide) (fun c4 => ?_) (fun c4 => ?_)
      · have hf := o_f c4 hf
        refine lv_aload_n hx hb dX11_again_24 rfl (lv_at hl 0 rfl) ?_
        refine lv_aload_n hx hb dX11_again_25 rfl (lv_at hl 0 rfl) ?_
        refine va_get (D := G.1) (ci := 11) (v := .ref (mo 15)) (C := RX11) (T := TX11) (N := 29) hx hb ht twX11 hown hK.1 hP 0 rfl rfl 26 (by decide) (ht _ kfl_X11_54) (fun _ h9 => h9) rfl dX11_again_26 ?_
        refine lv_iload_n hx hb dX11_again_29 rfl (lv_at hl 1 rfl) ?_
        obtain ⟨g5, hf⟩ := gd_s hf
        refine va_iald hx hb hK.1 hP 4 0 rfl rfl g5 dX11_again_30 ?_
        refine va_put (D := G.1) (ci := 11) (v := .int (mo_keptBeds a1.toNatClampNeg)) (ty := .int) (C := RX11) (T := TX11) (N := 29) hx hb ht twX11 tyX11 tyX11_ok nmX11 hown hK.1 hP hD hS 0 rfl rfl 19 (by decide) (ht _ kfl_X11_180) (fun _ h9 => h9) rfl (by decide +kernel) rfl rfl (Nat.le_of_ble_eq_true rfl) dX11_again_31 (fun H locs hP hD hS => ?_)
        have hP : va_P G.1 vwCl [(oX11 mo mo_length mo_at mo_faultAt mo_parts mo_entries mo_ringEarth mo_lead mo_ring mo_jumpMany mo_curveEnd (mo_keptBeds a1.toNatClampNeg) mo_all), (wI G (mo 7) 4 mo_weights), (wI G (mo 10) 48 mo_bed), (wZ G (mo 14) 2 mo_isKept), (wI G (mo 15) 2 mo_keptBeds), (wI G (mo 16) 96 mo_keptBed), (wI G (mo 17) 8 mo_keptWeights)] H := hP
        have hD : va_D A [(oX11 mo mo_length mo_at mo_faultAt mo_parts mo_entries mo_ringEarth mo_lead mo_ring mo_jumpMany mo_curveEnd (mo_keptBeds a1.toNatClampNeg) mo_all), (wI G (mo 7) 4 mo_weights), (wI G (mo 10) 48 mo_bed), (wZ G (mo 14) 2 mo_isKept), (wI G (mo 15) 2 mo_keptBeds), (wI G (mo 16) 96 mo_keptBed), (wI G (mo 17) 8 mo_keptWeights)] := hD
        refine lv_iconst (v := 0) hx hb dX11_again_34 (by decide) ?_
        refine lv_istore_n (lv' := [(2, .int (0 : Int32)), (0, .ref (mo 0)), (1, .int a1)]) hx hb dX11_again_35 rfl hl (by decide) rfl (fun ls hl => ?_)
        have hx65_6 : ∀ (mo_beds : Int32) (mo_bed : Nat → Int32) (H : Heap) (locs : List Loc) (ls : Array Slot), f_X11_again_x65_6 mo_weights mo_keptWeights a1 mo_beds mo_bed = some R → va_P G.1 vwCl [(oX11 mo mo_length mo_at mo_faultAt mo_parts mo_entries mo_ringEarth mo_lead mo_ring mo_jumpMany mo_curveEnd mo_beds mo_all), (wI G (mo 7) 4 mo_weights), (wI G (mo 10) 48 mo_bed), (wZ G (mo 14) 2 mo_isKept), (wI G (mo 15) 2 mo_keptBeds), (wI G (mo 16) 96 mo_keptBed), (wI G (mo 17) 8 mo_keptWeights)] H → va_D A [(oX11 mo mo_length mo_at mo_faultAt mo_parts mo_entries mo_ringEarth mo_lead mo_ring mo_jumpMany mo_curveEnd mo_beds mo_all), (wI G (mo 7) 4 mo_weights), (wI G (mo 10) 48 mo_bed), (wZ G (mo 14) 2 mo_isKept), (wI G (mo 15) 2 mo_keptBeds), (wI G (mo 16) 96 mo_keptBed), (wI G (mo 17) 8 mo_keptWeights)] → va_S A s.heap H locs → lv_has ls 3 [(0, .ref (mo 0)), (1, .int a1)] → Wc_X11_again l G mo mo_length mo_at mo_faultAt mo_parts mo_entries mo_weights mo_ringEarth mo_lead mo_ring mo_jumpMany mo_curveEnd mo_beds mo_bed mo_all mo_isKept mo_keptBeds mo_keptBed mo_keptWeights a1 R p e s m below meth c A H locs (F0 m 65 ls []) := by
          intro mo_beds mo_bed H locs ls hf hP hD hS hl
          refine lv_iconst (v := 0) hx hb dX11_again_65 (by decide) ?_
          refine lv_istore_n (lv' := [(2, .int (0 : Int32)), (0, .ref (mo 0)), (1, .int a1)]) hx hb dX11_again_66 rfl hl (by decide) rfl (fun ls hl => ?_)
          have hx94_7 : ∀ (mo_weights : Nat → Int32) (H : Heap) (locs : List Loc) (ls : Array Slot), f_X11_again_x94_7 mo_beds mo_bed mo_weights = some R → va_P G.1 vwCl [(oX11 mo mo_length mo_at mo_faultAt mo_parts mo_entries mo_ringEarth mo_lead mo_ring mo_jumpMany mo_curveEnd mo_beds mo_all), (wI G (mo 7) 4 mo_weights), (wI G (mo 10) 48 mo_bed), (wZ G (mo 14) 2 mo_isKept), (wI G (mo 15) 2 mo_keptBeds), (wI G (mo 16) 96 mo_keptBed), (wI G (mo 17) 8 mo_keptWeights)] H → va_D A [(oX11 mo mo_length mo_at mo_faultAt mo_parts mo_entries mo_ringEarth mo_lead mo_ring mo_jumpMany mo_curveEnd mo_beds mo_all), (wI G (mo 7) 4 mo_weights), (wI G (mo 10) 48 mo_bed), (wZ G (mo 14) 2 mo_isKept), (wI G (mo 15) 2 mo_keptBeds), (wI G (mo 16) 96 mo_keptBed), (wI G (mo 17) 8 mo_keptWeights)] → va_S A s.heap H locs → lv_has ls 3 [(0, .ref (mo 0))] → Wc_X11_again l G mo mo_length mo_at mo_faultAt mo_parts mo_entries mo_weights mo_ringEarth mo_lead mo_ring mo_jumpMany mo_curveEnd mo_beds mo_bed mo_all mo_isKept mo_keptBeds mo_keptBed mo_keptWeights a1 R p e s m below meth c A H locs (F0 m 94 ls []) := by
            intro mo_weights H locs ls hf hP hD hS hl
            refine lv_aload_n hx hb dX11_again_94 rfl (lv_at hl 0 rfl) ?_
            refine va_get (D := G.1) (ci := 11) (v := .int mo_beds) (C := RX11) (T := TX11) (N := 29) hx hb ht twX11 hown hK.1 hP 0 rfl rfl 19 (by decide) (ht _ kfl_X11_180) (fun _ h9 => h9) rfl dX11_again_95 ?_
            have h9 := Option.some.inj hf
            subst h9
            exact rw_iret C rfl hP hD hS dX11_again_98
          obtain ⟨rL7, hL7, hk7⟩ := bd_s hf
          refine lp_W (P := fun st => ∀ (H : Heap) (locs : List Loc) (ls : Array Slot), va_P G.1 vwCl [(oX11 mo mo_length mo_at mo_faultAt mo_parts mo_entries mo_ringEarth mo_lead mo_ring mo_jumpMany mo_curveEnd mo_beds mo_all), (wI G (mo 7) 4 st.2), (wI G (mo 10) 48 mo_bed), (wZ G (mo 14) 2 mo_isKept), (wI G (mo 15) 2 mo_keptBeds), (wI G (mo 16) 96 mo_keptBed), (wI G (mo 17) 8 mo_keptWeights)] H → va_D A [(oX11 mo mo_length mo_at mo_faultAt mo_parts mo_entries mo_ringEarth mo_lead mo_ring mo_jumpMany mo_curveEnd mo_beds mo_all), (wI G (mo 7) 4 st.2), (wI G (mo 10) 48 mo_bed), (wZ G (mo 14) 2 mo_isKept), (wI G (mo 15) 2 mo_keptBeds), (wI G (mo 16) 96 mo_keptBed), (wI G (mo 17) 8 mo_keptWeights)] → va_S A s.heap H locs → lv_has ls 3 [(0, .ref (mo 0)), (1, .int a1), (2, .int st.1)] → Wc_X11_again l G mo mo_length mo_at mo_faultAt mo_parts mo_entries mo_weights mo_ringEarth mo_lead mo_ring mo_jumpMany mo_curveEnd mo_beds mo_bed mo_all mo_isKept mo_keptBeds mo_keptBed mo_keptWeights a1 R p e s m below meth c A H locs (F0 m 67 ls [])) ?_ FU ((0 : Int32), mo_weights) hL7 H locs ls hP hD hS (lv_sub hl [1, 2, 0] rfl)
          intro ⟨v2, mo_weights⟩ oc7 hf hI hE H locs ls hP hD hS hl
          have hP : va_P G.1 vwCl [(oX11 mo mo_length mo_at mo_faultAt mo_parts mo_entries mo_ringEarth mo_lead mo_ring mo_jumpMany mo_curveEnd mo_beds mo_all), (wI G (mo 7) 4 mo_weights), (wI G (mo 10) 48 mo_bed), (wZ G (mo 14) 2 mo_isKept), (wI G (mo 15) 2 mo_keptBeds), (wI G (mo 16) 96 mo_keptBed), (wI G (mo 17) 8 mo_keptWeights)] H := hP
          have hD : va_D A [(oX11 mo mo_length mo_at mo_faultAt mo_parts mo_entries mo_ringEarth mo_lead mo_ring mo_jumpMany mo_curveEnd mo_beds mo_all), (wI G (mo 7) 4 mo_weights), (wI G (mo 10) 48 mo_bed), (wZ G (mo 14) 2 mo_isKept), (wI G (mo 15) 2 mo_keptBeds), (wI G (mo 16) 96 mo_keptBed), (wI G (mo 17) 8 mo_keptWeights)] := hD
          have hl : lv_has ls 3 [(0, .ref (mo 0)), (1, .int a1), (2, .int v2)] := hl
          have hf : f_X11_again_b67 mo_keptWeights a1 v2 mo_weights = some oc7 := hf
          refine lv_iload_n hx hb dX11_again_67 rfl (lv_at hl 2 rfl) ?_
          refine lv_iconst (v := 4) hx hb dX11_again_68 (by decide) ?_
          refine lv_icmp_ge (tgt := 94) hx hb dX11_again_69 (by decide) (fun c9 => ?_) (fun c9 => ?_)
          · have hf := o_t c9 hf
            cases hf
            have hf : f_X11_again_x94_7 mo_beds mo_bed mo_weights = some R := by have h9 := hk7; rw [← hE _ rfl] at h9; exact h9
            exact hx94_7 mo_weights H locs ls hf hP hD hS (lv_sub hl [0] rfl)
          · have hf := o_f c9 hf
            refine lv_aload_n hx hb dX11_again_72 rfl (lv_at hl 0 rfl) ?_
            refine va_get (D := G.1) (ci := 11) (v := .ref (mo 7)) (C := RX11) (T := TX11) (N := 29) hx hb ht twX11 hown hK.1 hP 0 rfl rfl 11 (by decide) (ht _ kfl_X11_28) (fun _ h9 => h9) rfl dX11_again_73 ?_
            refine lv_iload_n hx hb dX11_again_76 rfl (lv_at hl 2 rfl) ?_
            refine lv_aload_n hx hb dX11_again_77 rfl (lv_at hl 0 rfl) ?_
            refine va_get (D := G.1) (ci := 11) (v := .ref (mo 17)) (C := RX11) (T := TX11) (N := 29) hx hb ht twX11 hown hK.1 hP 0 rfl rfl 28 (by decide) (ht _ kfl_X11_60) (fun _ h9 => h9) rfl dX11_again_78 ?_
            refine lv_iconst (v := 4) hx hb dX11_again_81 (by decide) ?_
            refine lv_iload_n hx hb dX11_again_82 rfl (lv_at hl 1 rfl) ?_
            refine lv_imul hx hb dX11_again_83 ?_
            refine lv_iload_n hx hb dX11_again_84 rfl (lv_at hl 2 rfl) ?_
            refine lv_iadd hx hb dX11_again_85 ?_
            obtain ⟨g10, hf⟩ := gd_s hf
            refine va_iald hx hb hK.1 hP 6 0 rfl rfl g10 dX11_again_86 ?_
            obtain ⟨g11, hf⟩ := gd_s hf
            refine va_iast hx hb hK.1 hP hD hS 1 0 rfl rfl g11 dX11_again_87 (fun H locs hP hD hS => ?_)
            have hP : va_P G.1 vwCl [(oX11 mo mo_length mo_at mo_faultAt mo_parts mo_entries mo_ringEarth mo_lead mo_ring mo_jumpMany mo_curveEnd mo_beds mo_all), (wI G (mo 7) 4 (upd mo_weights v2.toNatClampNeg (mo_keptWeights (((4 : Int32) * a1) + v2).toNatClampNeg))), (wI G (mo 10) 48 mo_bed), (wZ G (mo 14) 2 mo_isKept), (wI G (mo 15) 2 mo_keptBeds), (wI G (mo 16) 96 mo_keptBed), (wI G (mo 17) 8 mo_keptWeights)] H := hP
            have hD : va_D A [(oX11 mo mo_length mo_at mo_faultAt mo_parts mo_entries mo_ringEarth mo_lead mo_ring mo_jumpMany mo_curveEnd mo_beds mo_all), (wI G (mo 7) 4 (upd mo_weights v2.toNatClampNeg (mo_keptWeights (((4 : Int32) * a1) + v2).toNatClampNeg))), (wI G (mo 10) 48 mo_bed), (wZ G (mo 14) 2 mo_isKept), (wI G (mo 15) 2 mo_keptBeds), (wI G (mo 16) 96 mo_keptBed), (wI G (mo 17) 8 mo_keptWeights)] := hD
            refine lv_iinc (v := (v2 + (1 : Int32))) (lv' := [(2, .int (v2 + (1 : Int32))), (0, .ref (mo 0)), (1, .int a1)]) hx hb dX11_again_88 hl (k := 2) rfl (by rfl) (by decide) rfl (fun ls hl => ?_)
            refine lv_goto (tgt := 67) hx hb dX11_again_91 (by decide) ?_
            cases hf
            exact hI _ rfl H locs ls hP hD hS (lv_sub hl [1, 2, 0] rfl)
        obtain ⟨rL6, hL6, hk6⟩ := bd_s hf
        refine lp_W (P := fun st => ∀ (H : Heap) (locs : List Loc) (ls : Array Slot), va_P G.1 vwCl [(oX11 mo mo_length mo_at mo_faultAt mo_parts mo_entries mo_ringEarth mo_lead mo_ring mo_jumpMany mo_curveEnd st.2.1 mo_all), (wI G (mo 7) 4 mo_weights), (wI G (mo 10) 48 st.2.2), (wZ G (mo 14) 2 mo_isKept), (wI G (mo 15) 2 mo_keptBeds), (wI G (mo 16) 96 mo_keptBed), (wI G (mo 17) 8 mo_keptWeights)] H → va_D A [(oX11 mo mo_length mo_at mo_faultAt mo_parts mo_entries mo_ringEarth mo_lead mo_ring mo_jumpMany mo_curveEnd st.2.1 mo_all), (wI G (mo 7) 4 mo_weights), (wI G (mo 10) 48 st.2.2), (wZ G (mo 14) 2 mo_isKept), (wI G (mo 15) 2 mo_keptBeds), (wI G (mo 16) 96 mo_keptBed), (wI G (mo 17) 8 mo_keptWeights)] → va_S A s.heap H locs → lv_has ls 3 [(0, .ref (mo 0)), (1, .int a1), (2, .int st.1)] → Wc_X11_again l G mo mo_length mo_at mo_faultAt mo_parts mo_entries mo_weights mo_ringEarth mo_lead mo_ring mo_jumpMany mo_curveEnd mo_beds mo_bed mo_all mo_isKept mo_keptBeds mo_keptBed mo_keptWeights a1 R p e s m below meth c A H locs (F0 m 36 ls [])) ?_ FU ((0 : Int32), (mo_keptBeds a1.toNatClampNeg), mo_bed) hL6 H locs ls hP hD hS (lv_sub hl [1, 2, 0] rfl)
        intro ⟨v2, mo_beds, mo_bed⟩ oc6 hf hI hE H locs ls hP hD hS hl
        have hP : va_P G.1 vwCl [(oX11 mo mo_length mo_at mo_faultAt mo_parts mo_entries mo_ringEarth mo_lead mo_ring mo_jumpMany mo_curveEnd mo_beds mo_all), (wI G (mo 7) 4 mo_weights), (wI G (mo 10) 48 mo_bed), (wZ G (mo 14) 2 mo_isKept), (wI G (mo 15) 2 mo_keptBeds), (wI G (mo 16) 96 mo_keptBed), (wI G (mo 17) 8 mo_keptWeights)] H := hP
        have hD : va_D A [(oX11 mo mo_length mo_at mo_faultAt mo_parts mo_entries mo_ringEarth mo_lead mo_ring mo_jumpMany mo_curveEnd mo_beds mo_all), (wI G (mo 7) 4 mo_weights), (wI G (mo 10) 48 mo_bed), (wZ G (mo 14) 2 mo_isKept), (wI G (mo 15) 2 mo_keptBeds), (wI G (mo 16) 96 mo_keptBed), (wI G (mo 17) 8 mo_keptWeights)] := hD
        have hl : lv_has ls 3 [(0, .ref (mo 0)), (1, .int a1), (2, .int v2)] := hl
        have hf : f_X11_again_b36 mo_keptBed a1 v2 mo_beds mo_bed = some oc6 := hf
        refine lv_iload_n hx hb dX11_again_36 rfl (lv_at hl 2 rfl) ?_
        refine lv_bipush (v := 48) hx hb dX11_again_37 (by decide) ?_
        refine lv_icmp_ge (tgt := 65) hx hb dX11_again_39 (by decide) (fun c12 => ?_) (fun c12 => ?_)
        · have hf := o_t c12 hf
          cases hf
          have hf : f_X11_again_x65_6 mo_weights mo_keptWeights a1 mo_beds mo_bed = some R := by have h9 := hk6; rw [← hE _ rfl] at h9; exact h9
          exact hx65_6 mo_beds mo_bed H locs ls hf hP hD hS (lv_sub hl [0, 1] rfl)
        · have hf := o_f c12 hf
          refine lv_aload_n hx hb dX11_again_42 rfl (lv_at hl 0 rfl) ?_
          refine va_get (D := G.1) (ci := 11) (v := .ref (mo 10)) (C := RX11) (T := TX11) (N := 29) hx hb ht twX11 hown hK.1 hP 0 rfl rfl 20 (by decide) (ht _ kfl_X11_37) (fun _ h9 => h9) rfl dX11_again_43 ?_
          refine lv_iload_n hx hb dX11_again_46 rfl (lv_at hl 2 rfl) ?_
          refine lv_aload_n hx hb dX11_again_47 rfl (lv_at hl 0 rfl) ?_
          refine va_get (D := G.1) (ci := 11) (v := .ref (mo 16)) (C := RX11) (T := TX11) (N := 29) hx hb ht twX11 hown hK.1 hP 0 rfl rfl 27 (by decide) (ht _ kfl_X11_57) (fun _ h9 => h9) rfl dX11_again_48 ?_
          refine lv_bipush (v := 48) hx hb dX11_again_51 (by decide) ?_
          refine lv_iload_n hx hb dX11_again_53 rfl (lv_at hl 1 rfl) ?_
          refine lv_imul hx hb dX11_again_54 ?_
          refine lv_iload_n hx hb dX11_again_55 rfl (lv_at hl 2 rfl) ?_
          refine lv_iadd hx hb dX11_again_56 ?_
          obtain ⟨g13, hf⟩ := gd_s hf
          refine va_iald hx hb hK.1 hP 5 0 rfl rfl g13 dX11_again_57 ?_
          obtain ⟨g14, hf⟩ := gd_s hf
          refine va_iast hx hb hK.1 hP hD hS 2 0 rfl rfl g14 dX11_again_58 (fun H locs hP hD hS => ?_)
          have hP : va_P G.1 vwCl [(oX11 mo mo_length mo_at mo_faultAt mo_parts mo_entries mo_ringEarth mo_lead mo_ring mo_jumpMany mo_curveEnd mo_beds mo_all), (wI G (mo 7) 4 mo_weights), (wI G (mo 10) 48 (upd mo_bed v2.toNatClampNeg (mo_keptBed (((48 : Int32) * a1) + v2).toNatClampNeg))), (wZ G (mo 14) 2 mo_isKept), (wI G (mo 15) 2 mo_keptBeds), (wI G (mo 16) 96 mo_keptBed), (wI G (mo 17) 8 mo_keptWeights)] H := hP
          have hD : va_D A [(oX11 mo mo_length mo_at mo_faultAt mo_parts mo_entries mo_ringEarth mo_lead mo_ring mo_jumpMany mo_curveEnd mo_beds mo_all), (wI G (mo 7) 4 mo_weights), (wI G (mo 10) 48 (upd mo_bed v2.toNatClampNeg (mo_keptBed (((48 : Int32) * a1) + v2).toNatClampNeg))), (wZ G (mo 14) 2 mo_isKept), (wI G (mo 15) 2 mo_keptBeds), (wI G (mo 16) 96 mo_keptBed), (wI G (mo 17) 8 mo_keptWeights)] := hD
          refine lv_iinc (v := (v2 + (1 : Int32))) (lv' := [(2, .int (v2 + (1 : Int32))), (0, .ref (mo 0)), (1, .int a1)]) hx hb dX11_again_59 hl (k := 2) rfl (by rfl) (by decide) rfl (fun ls hl => ?_)
          refine lv_goto (tgt := 36) hx hb dX11_again_62 (by decide) ?_
          cases hf
          exact hI _ rfl H locs ls hP hD hS (lv_sub hl [1, 2, 0] rfl)
      · have hf := o_t c4 hf
        refine lv_bipush (v := -3) hx hb dX11_again_21 (by decide) ?_
        have h9 := Option.some.inj hf
        subst h9
        exact rw_iret C rfl hP hD hS dX11_again_23
    · have hf := o_t c2 hf
      refine lv_iconst (v := -1) hx hb dX11_again_10 (by decide) ?_
      have h9 := Option.some.inj hf
      subst h9
      exact rw_iret C rfl hP hD hS dX11_again_11
  rw [eH, el] at key
  exact key
abbrev Wc_X11_count (l : Launch) (G : TG) (mo : Nat → Nat) (mo_length : Int32) (mo_at : Int32) (mo_faultAt : Int32) (mo_parts : Int32) (mo_entries : Int32) (mo_weights : Nat → Int32) (mo_ringEarth : Int32) (mo_lead : Int32) (mo_ring : Int32) (mo_jumpMany : Int32) (mo_curveEnd : Int32) (mo_beds : Int32) (mo_bed : Nat → Int32) (mo_all : Int64) (a1 : Int32) (R : Int32) (p : Program) (e : Env) (s : State) (m : MethodId) (below : List Frame) (meth : Method) (c : Code) (H : Heap) (locs : List Loc) (g : JFrame) : Prop := W p l e ({ frames := 1, cells := 0, slots := 0, locals := 21 }) s m ([.ref (mo 0), .int a1] : List Value).toArray below meth c H locs 0 0 (MQ below (roQ (some (.int R))) ([.ref (mo 0), .int a1] : List Value).toArray s 0 0 (fun _ => False)) g
set_option maxHeartbeats 4000000 in
set_option maxRecDepth 100000 in
theorem c_X11_count (l : Launch) (G : TG) (mo : Nat → Nat) (mo_length : Int32) (mo_at : Int32) (mo_faultAt : Int32) (mo_parts : Int32) (mo_entries : Int32) (mo_weights : Nat → Int32) (mo_ringEarth : Int32) (mo_lead : Int32) (mo_ring : Int32) (mo_jumpMany : Int32) (mo_curveEnd : Int32) (mo_beds : Int32) (mo_bed : Nat → Int32) (mo_all : Int64) (a1 : Int32) (R : Int32) (hf : f_X11_count mo_length mo_weights mo_beds mo_bed a1 = some R) : RO l yX11_count cX11_count 5 (some .int) ({ frames := 1, cells := 0, slots := 0, locals := 21 }) G [.ref (mo 0), .int a1] [(oX11 mo mo_length mo_at mo_faultAt mo_parts mo_entries mo_ringEarth mo_lead mo_ring mo_jumpMany mo_curveEnd mo_beds mo_all), (wI G (mo 7) 4 mo_weights), (wI G (mo 10) 48 mo_bed)] (some (.int R)) := by
  refine RO.mk (by decide +kernel) (Nat.le_of_ble_eq_true rfl) ?_
  intro p e s m below meth c ls C hP hK hl
  have hx := C.1
  have hb := C.2.1
  have hown : s.vm.findClass RX11 = some m.cls := C.2.2.2.2.2.1
  have ht := C.2.2.2.2.2.2
  have hl : lv_has ls 5 [(0, .ref (mo 0)), (1, .int a1)] := hl
  show Wc_X11_count l G mo mo_length mo_at mo_faultAt mo_parts mo_entries mo_weights mo_ringEarth mo_lead mo_ring mo_jumpMany mo_curveEnd mo_beds mo_bed mo_all a1 R p e s m below meth c s.heap [] (F0 m 0 ls [])
  refine lv_iconst (v := 0) hx hb dX11_count_0 (by decide) ?_
  refine lv_istore_n (lv' := [(2, .int (0 : Int32)), (0, .ref (mo 0)), (1, .int a1)]) hx hb dX11_count_1 rfl hl (by decide) rfl (fun ls hl => ?_)
  refine lv_iconst (v := 0) hx hb dX11_count_2 (by decide) ?_
  refine lv_istore_n (lv' := [(3, .int (0 : Int32)), (2, .int (0 : Int32)), (0, .ref (mo 0)), (1, .int a1)]) hx hb dX11_count_3 rfl hl (by decide) rfl (fun ls hl => ?_)
  refine lv_iconst (v := 0) hx hb dX11_count_4 (by decide) ?_
  refine lv_istore (lv' := [(4, .int (0 : Int32)), (3, .int (0 : Int32)), (2, .int (0 : Int32)), (0, .ref (mo 0)), (1, .int a1)]) hx hb dX11_count_5 hl (by decide) rfl (fun ls hl => ?_)
  have hx39_1 : ∀ (v2 : Int32) (ls : Array Slot), f_X11_count_x39_1 mo_length mo_weights mo_beds a1 v2 = some R → lv_has ls 5 [(0, .ref (mo 0)), (1, .int a1), (2, .int v2), (3, .int (0 : Int32))] → Wc_X11_count l G mo mo_length mo_at mo_faultAt mo_parts mo_entries mo_weights mo_ringEarth mo_lead mo_ring mo_jumpMany mo_curveEnd mo_beds mo_bed mo_all a1 R p e s m below meth c s.heap [] (F0 m 39 ls []) := by
    intro v2 ls hf hl
    refine lv_iconst (v := 0) hx hb dX11_count_39 (by decide) ?_
    refine lv_istore (lv' := [(4, .int (0 : Int32)), (0, .ref (mo 0)), (1, .int a1), (2, .int v2), (3, .int (0 : Int32))]) hx hb dX11_count_40 hl (by decide) rfl (fun ls hl => ?_)
    have hx64_2 : ∀ (v3 : Int32) (ls : Array Slot), f_X11_count_x64_2 mo_length mo_beds a1 v2 v3 = some R → lv_has ls 5 [(0, .ref (mo 0)), (1, .int a1), (2, .int v2), (3, .int v3)] → Wc_X11_count l G mo mo_length mo_at mo_faultAt mo_parts mo_entries mo_weights mo_ringEarth mo_lead mo_ring mo_jumpMany mo_curveEnd mo_beds mo_bed mo_all a1 R p e s m below meth c s.heap [] (F0 m 64 ls []) := by
      intro v3 ls hf hl
      refine lv_iload_n hx hb dX11_count_64 rfl (lv_at hl 1 rfl) ?_
      by_cases c3_0 : a1 = (0 : Int32)
      · have hf := o_t c3_0 hf
        refine lv_tsI (tgt := 96) hx hb dX11_count_65 c3_0 (by decide) (by decide) rfl (by decide) ?_
        refine lv_aload_n hx hb dX11_count_96 rfl (lv_at hl 0 rfl) ?_
        refine va_get (D := G.1) (ci := 11) (v := .int mo_length) (C := RX11) (T := TX11) (N := 29) hx hb ht twX11 hown hK.1 hP 0 rfl rfl 3 (by decide) (ht _ kfl_X11_69) (fun _ h9 => h9) rfl dX11_count_97 ?_
        have h9 := Option.some.inj hf
        subst h9
        exact ro_iret C rfl dX11_count_100
      have hf := o_f c3_0 hf
      by_cases c3_1 : a1 = (1 : Int32)
      · have hf := o_t c3_1 hf
        refine lv_tsI (tgt := 101) hx hb dX11_count_65 c3_1 (by decide) (by decide) rfl (by decide) ?_
        refine lv_aload_n hx hb dX11_count_101 rfl (lv_at hl 0 rfl) ?_
        refine va_get (D := G.1) (ci := 11) (v := .int mo_beds) (C := RX11) (T := TX11) (N := 29) hx hb ht twX11 hown hK.1 hP 0 rfl rfl 19 (by decide) (ht _ kfl_X11_180) (fun _ h9 => h9) rfl dX11_count_102 ?_
        have h9 := Option.some.inj hf
        subst h9
        exact ro_iret C rfl dX11_count_105
      have hf := o_f c3_1 hf
      by_cases c3_2 : a1 = (2 : Int32)
      · have hf := o_t c3_2 hf
        refine lv_tsI (tgt := 106) hx hb dX11_count_65 c3_2 (by decide) (by decide) rfl (by decide) ?_
        refine lv_iload_n hx hb dX11_count_106 rfl (lv_at hl 2 rfl) ?_
        have h9 := Option.some.inj hf
        subst h9
        exact ro_iret C rfl dX11_count_107
      have hf := o_f c3_2 hf
      by_cases c3_3 : a1 = (3 : Int32)
      · have hf := o_t c3_3 hf
        refine lv_tsI (tgt := 108) hx hb dX11_count_65 c3_3 (by decide) (by decide) rfl (by decide) ?_
        refine lv_iload_n hx hb dX11_count_108 rfl (lv_at hl 3 rfl) ?_
        have h9 := Option.some.inj hf
        subst h9
        exact ro_iret C rfl dX11_count_109
      have hf := o_f c3_3 hf
      refine lv_tableOut (tgt := 110) hx hb dX11_count_65 (ts3 c3_0 c3_1 c3_2 c3_3) (by decide) ?_
      refine lv_bipush (v := -2) hx hb dX11_count_110 (by decide) ?_
      have h9 := Option.some.inj hf
      subst h9
      exact ro_iret C rfl dX11_count_112
    obtain ⟨rL2, hL2, hk2⟩ := bd_s hf
    refine lp_W (P := fun st => ∀ (ls : Array Slot), lv_has ls 5 [(0, .ref (mo 0)), (1, .int a1), (2, .int v2), (3, .int st.1), (4, .int st.2)] → Wc_X11_count l G mo mo_length mo_at mo_faultAt mo_parts mo_entries mo_weights mo_ringEarth mo_lead mo_ring mo_jumpMany mo_curveEnd mo_beds mo_bed mo_all a1 R p e s m below meth c s.heap [] (F0 m 42 ls [])) ?_ FU ((0 : Int32), (0 : Int32)) hL2 ls (lv_sub hl [1, 2, 3, 4, 0] rfl)
    intro ⟨v3, v4⟩ oc2 hf hI hE ls hl
    have hl : lv_has ls 5 [(0, .ref (mo 0)), (1, .int a1), (2, .int v2), (3, .int v3), (4, .int v4)] := hl
    have hf : f_X11_count_b42 mo_weights v3 v4 = some oc2 := hf
    refine lv_iload hx hb dX11_count_42 (lv_at hl 4 rfl) ?_
    refine lv_iconst (v := 4) hx hb dX11_count_44 (by decide) ?_
    refine lv_icmp_ge (tgt := 64) hx hb dX11_count_45 (by decide) (fun c9 => ?_) (fun c9 => ?_)
    · have hf := o_t c9 hf
      cases hf
      have hf : f_X11_count_x64_2 mo_length mo_beds a1 v2 v3 = some R := by have h9 := hk2; rw [← hE _ rfl] at h9; exact h9
      exact hx64_2 v3 ls hf (lv_sub hl [0, 1, 2, 3] rfl)
    · have hf := o_f c9 hf
      refine lv_iload_n hx hb dX11_count_48 rfl (lv_at hl 3 rfl) ?_
      refine lv_aload_n hx hb dX11_count_49 rfl (lv_at hl 0 rfl) ?_
      refine va_get (D := G.1) (ci := 11) (v := .ref (mo 7)) (C := RX11) (T := TX11) (N := 29) hx hb ht twX11 hown hK.1 hP 0 rfl rfl 11 (by decide) (ht _ kfl_X11_28) (fun _ h9 => h9) rfl dX11_count_50 ?_
      refine lv_iload hx hb dX11_count_53 (lv_at hl 4 rfl) ?_
      obtain ⟨g10, hf⟩ := gd_s hf
      refine va_iald hx hb hK.1 hP 1 0 rfl rfl g10 dX11_count_55 ?_
      refine lv_iadd hx hb dX11_count_56 ?_
      refine lv_istore_n (lv' := [(3, .int (v3 + (mo_weights v4.toNatClampNeg))), (0, .ref (mo 0)), (1, .int a1), (2, .int v2), (4, .int v4)]) hx hb dX11_count_57 rfl hl (by decide) rfl (fun ls hl => ?_)
      refine lv_iinc (v := (v4 + (1 : Int32))) (lv' := [(4, .int (v4 + (1 : Int32))), (3, .int (v3 + (mo_weights v4.toNatClampNeg))), (0, .ref (mo 0)), (1, .int a1), (2, .int v2)]) hx hb dX11_count_58 hl (k := 4) rfl (by rfl) (by decide) rfl (fun ls hl => ?_)
      refine lv_goto (tgt := 42) hx hb dX11_count_61 (by decide) ?_
      cases hf
      exact hI _ rfl ls (lv_sub hl [2, 3, 4, 1, 0] rfl)
  obtain ⟨rL1, hL1, hk1⟩ := bd_s hf
  refine lp_W (P := fun st => ∀ (ls : Array Slot), lv_has ls 5 [(0, .ref (mo 0)), (1, .int a1), (2, .int st.1), (3, .int (0 : Int32)), (4, .int st.2)] → Wc_X11_count l G mo mo_length mo_at mo_faultAt mo_parts mo_entries mo_weights mo_ringEarth mo_lead mo_ring mo_jumpMany mo_curveEnd mo_beds mo_bed mo_all a1 R p e s m below meth c s.heap [] (F0 m 7 ls [])) ?_ FU ((0 : Int32), (0 : Int32)) hL1 ls (lv_sub hl [3, 4, 2, 1, 0] rfl)
  intro ⟨v2, v4⟩ oc1 hf hI hE ls hl
  have hl : lv_has ls 5 [(0, .ref (mo 0)), (1, .int a1), (2, .int v2), (3, .int (0 : Int32)), (4, .int v4)] := hl
  have hf : f_X11_count_b7 mo_beds mo_bed v2 v4 = some oc1 := hf
  refine lv_iload hx hb dX11_count_7 (lv_at hl 4 rfl) ?_
  refine lv_aload_n hx hb dX11_count_9 rfl (lv_at hl 0 rfl) ?_
  refine va_get (D := G.1) (ci := 11) (v := .int mo_beds) (C := RX11) (T := TX11) (N := 29) hx hb ht twX11 hown hK.1 hP 0 rfl rfl 19 (by decide) (ht _ kfl_X11_180) (fun _ h9 => h9) rfl dX11_count_10 ?_
  refine lv_icmp_ge (tgt := 39) hx hb dX11_count_13 (by decide) (fun c11 => ?_) (fun c11 => ?_)
  · have hf := o_t c11 hf
    cases hf
    have hf : f_X11_count_x39_1 mo_length mo_weights mo_beds a1 v2 = some R := by have h9 := hk1; rw [← hE _ rfl] at h9; exact h9
    exact hx39_1 v2 ls hf (lv_sub hl [0, 1, 2, 3] rfl)
  · have hf := o_f c11 hf
    refine lv_iload_n hx hb dX11_count_16 rfl (lv_at hl 2 rfl) ?_
    refine lv_aload_n hx hb dX11_count_17 rfl (lv_at hl 0 rfl) ?_
    refine lv_iload hx hb dX11_count_18 (lv_at hl 4 rfl) ?_
    obtain ⟨q12, r12, hf⟩ := bd_s hf
    refine ro_V (n := 1) (As := [.int v4]) (rest := [.int v2]) (c_X11_isIcy l G mo mo_length mo_at mo_faultAt mo_parts mo_entries mo_ringEarth mo_lead mo_ring mo_jumpMany mo_curveEnd mo_beds mo_bed mo_all v4 q12 r12) C hK (hP.sub [0, 2] rfl) hl kcode_X11_isIcy kml_X11_195 kim_X11_isIcy ksel_X11_isIcy kini_X11 (by decide +kernel) ⟨⟨rfl, rfl⟩, Nat.le_of_ble_eq_true rfl, Nat.le_of_ble_eq_true rfl⟩ ⟨Nat.zero_le _, Nat.zero_le _⟩ rfl rfl rfl rfl rfl (Nat.le_of_ble_eq_true rfl) dX11_count_20 rfl ?_
    refine lv_if_eq (tgt := 30) hx hb dX11_count_23 (by decide) (fun c13 => ?_) (fun c13 => ?_)
    · have hf := o_t c13 hf
      refine lv_iconst (v := 0) hx hb dX11_count_30 (by decide) ?_
      refine lv_iadd hx hb dX11_count_31 ?_
      refine lv_istore_n (lv' := [(2, .int (v2 + (0 : Int32))), (0, .ref (mo 0)), (1, .int a1), (3, .int (0 : Int32)), (4, .int v4)]) hx hb dX11_count_32 rfl hl (by decide) rfl (fun ls hl => ?_)
      refine lv_iinc (v := (v4 + (1 : Int32))) (lv' := [(4, .int (v4 + (1 : Int32))), (2, .int (v2 + (0 : Int32))), (0, .ref (mo 0)), (1, .int a1), (3, .int (0 : Int32))]) hx hb dX11_count_33 hl (k := 4) rfl (by rfl) (by decide) rfl (fun ls hl => ?_)
      refine lv_goto (tgt := 7) hx hb dX11_count_36 (by decide) ?_
      cases hf
      exact hI _ rfl ls (lv_sub hl [2, 3, 1, 4, 0] rfl)
    · have hf := o_f c13 hf
      refine lv_iconst (v := 1) hx hb dX11_count_26 (by decide) ?_
      refine lv_goto (tgt := 31) hx hb dX11_count_27 (by decide) ?_
      refine lv_iadd hx hb dX11_count_31 ?_
      refine lv_istore_n (lv' := [(2, .int (v2 + (1 : Int32))), (0, .ref (mo 0)), (1, .int a1), (3, .int (0 : Int32)), (4, .int v4)]) hx hb dX11_count_32 rfl hl (by decide) rfl (fun ls hl => ?_)
      refine lv_iinc (v := (v4 + (1 : Int32))) (lv' := [(4, .int (v4 + (1 : Int32))), (2, .int (v2 + (1 : Int32))), (0, .ref (mo 0)), (1, .int a1), (3, .int (0 : Int32))]) hx hb dX11_count_33 hl (k := 4) rfl (by rfl) (by decide) rfl (fun ls hl => ?_)
      refine lv_goto (tgt := 7) hx hb dX11_count_36 (by decide) ?_
      cases hf
      exact hI _ rfl ls (lv_sub hl [2, 3, 1, 4, 0] rfl)
