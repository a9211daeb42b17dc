abbrev Wc_X11_again (l : Launch) (G : TG) (mo : Nat → Nat) (mo_length : Int32) (mo_at : Int32) (mo_faultAt : Int32) (mo_parts : Int32) (mo_entries : Int32) (mo_weights : Nat → Int32) (mo_ringEarth : Int32) (mo_lead : Int32) (mo_ring : Int32) (mo_jumpMany : Int32) (mo_curveEnd : Int32) (mo_beds : Int32) (mo_bed : Nat → Int32) (mo_all : Int64) (mo_isKept : Nat → Int32) (mo_keptBeds : Nat → Int32) (mo_keptBed : Nat → Int32) (mo_keptWeights : Nat → Int32) (a1 : Int32) (R : Int32 × (Nat → Int32) × Int32 × (Nat → Int32)) (p : Program) (e : Env) (s : State) (m : MethodId) (below : List Frame) (meth : Method) (c : Code) (A : Nat → Prop) (H : Heap) (locs : List Loc) (g : JFrame) : Prop := W p l e ({ frames := 1, cells := 0, slots := 0, locals := 25 }) s m ([.ref (mo 0), .int a1] : List Value).toArray below meth c H locs 0 0 (MQ below (rwQ G (some (.int R.1)) [(oX11 mo mo_length mo_at mo_faultAt mo_parts mo_entries mo_ringEarth mo_lead mo_ring mo_jumpMany mo_curveEnd R.2.2.1 mo_all), (wI G (mo 7) 4 R.2.1), (wI G (mo 10) 48 R.2.2.2), (wZ G (mo 14) 2 mo_isKept), (wI G (mo 15) 2 mo_keptBeds), (wI G (mo 16) 96 mo_keptBed), (wI G (mo 17) 8 mo_keptWeights)] A) ([.ref (mo 0), .int a1] : List Value).toArray s 0 0 A) g
set_option maxHeartbeats 4000000 in
set_option maxRecDepth 100000 in
theorem c_X11_again (l : Launch) (G : TG) (mo : Nat → Nat) (mo_length : Int32) (mo_at : Int32) (mo_faultAt : Int32) (mo_parts : Int32) (mo_entries : Int32) (mo_weights : Nat → Int32) (mo_ringEarth : Int32) (mo_lead : Int32) (mo_ring : Int32) (mo_jumpMany : Int32) (mo_curveEnd : Int32) (mo_beds : Int32) (mo_bed : Nat → Int32) (mo_all : Int64) (mo_isKept : Nat → Int32) (mo_keptBeds : Nat → Int32) (mo_keptBed : Nat → Int32) (mo_keptWeights : Nat → Int32) (a1 : Int32) (R : Int32 × (Nat → Int32) × Int32 × (Nat → Int32)) (hf : f_X11_again mo_weights mo_beds mo_bed mo_isKept mo_keptBeds mo_keptBed mo_keptWeights a1 = some R) : RW l yX11_again cX11_again 3 (some .int) ({ frames := 1, cells := 0, slots := 0, locals := 25 }) G [.ref (mo 0), .int a1] [(oX11 mo mo_length mo_at mo_faultAt mo_parts mo_entries mo_ringEarth mo_lead mo_ring mo_jumpMany mo_curveEnd mo_beds mo_all), (wI G (mo 7) 4 mo_weights), (wI G (mo 10) 48 mo_bed), (wZ G (mo 14) 2 mo_isKept), (wI G (mo 15) 2 mo_keptBeds), (wI G (mo 16) 96 mo_keptBed), (wI G (mo 17) 8 mo_keptWeights)] (some (.int R.1)) [(oX11 mo mo_length mo_at mo_faultAt mo_parts mo_entries mo_ringEarth mo_lead mo_ring mo_jumpMany mo_curveEnd R.2.2.1 mo_all), (wI G (mo 7) 4 R.2.1), (wI G (mo 10) 48 R.2.2.2), (wZ G (mo 14) 2 mo_isKept), (wI G (mo 15) 2 mo_keptBeds), (wI G (mo 16) 96 mo_keptBed), (wI G (mo 17) 8 mo_keptWeights)] := by
  refine RW.mk (by decide +kernel) (Nat.le_of_ble_eq_true rfl) ?_
  intro p e s m below meth c ls A C hP hD hA hz hK hl hS
  have hx := C.1
  have hb := C.2.1
  have hown : s.vm.findClass RX11 = some m.cls := C.2.2.2.2.2.1
  have ht := C.2.2.2.2.2.2
  have hl : lv_has ls 3 [(0, .ref (mo 0)), (1, .int a1)] := hl
  show Wc_X11_again l G mo mo_length mo_at mo_faultAt mo_parts mo_entries mo_weights mo_ringEarth mo_lead mo_ring mo_jumpMany mo_curveEnd mo_beds mo_bed mo_all mo_isKept mo_keptBeds mo_keptBed mo_keptWeights a1 R p e s m below meth c A s.heap [] (F0 m 0 ls [])
  obtain ⟨H, eH, hP, hS⟩ : ∃ H, H = s.heap ∧ va_P G.1 vwCl [(oX11 mo mo_length mo_at mo_faultAt mo_parts mo_entries mo_ringEarth mo_lead mo_ring mo_jumpMany mo_curveEnd mo_beds mo_all), (wI G (mo 7) 4 mo_weights), (wI G (mo 10) 48 mo_bed), (wZ G (mo 14) 2 mo_isKept), (wI G (mo 15) 2 mo_keptBeds), (wI G (mo 16) 96 mo_keptBed), (wI G (mo 17) 8 mo_keptWeights)] H ∧ va_S A s.heap H [] := ⟨_, rfl, hP, hS⟩
  obtain ⟨locs, el, hS⟩ : ∃ locs : List Loc, locs = [] ∧ va_S A s.heap H locs := ⟨_, rfl, hS⟩
  have key : Wc_X11_again l G mo mo_length mo_at mo_faultAt mo_parts mo_entries mo_weights mo_ringEarth mo_lead mo_ring mo_jumpMany mo_curveEnd mo_beds mo_bed mo_all mo_isKept mo_keptBeds mo_keptBed mo_keptWeights a1 R p e s m below meth c A H locs (F0 m 0 ls []) := by
    refine lv_iload_n hx hb dX11_again_0 rfl (lv_at hl 1 rfl) ?_
    refine lv_i2l (v := (a1.toInt64)) hx hb dX11_again_1 rfl ?_
    refine lv_lconst (v := 0) hx hb dX11_again_2 (by decide) ?_
    refine lv_lconst (v := 1) hx hb dX11_again_3 (by decide) ?_
    obtain ⟨q1, r1, hf⟩ := bd_s hf
    refine ro_S (n := 3) (As := [.long (a1.toInt64), .long (0 : Int64), .long (1 : Int64)]) (rest := []) (c_X11_in l G (a1.toInt64) (0 : Int64) (1 : Int64) q1 r1) C (hK.at hS hz) (hP.sub [] rfl) hl kcode_X11_in kml_X11_65 kst_X11_in kini_X11 (by decide +kernel) ⟨⟨rfl, rfl⟩, Nat.le_of_ble_eq_true rfl, Nat.le_of_ble_eq_true rfl⟩ ⟨Nat.zero_le _, Nat.zero_le _⟩ rfl rfl (Nat.le_of_ble_eq_true rfl) dX11_again_4 rfl ?_
    refine lv_if_ne (tgt := 12) hx hb dX11_again_7 (by decide) (fun c2 => ?_) (fun c2 => ?_)
    · have hf := o_f c2 hf
      refine lv_aload_n hx hb dX11_again_12 rfl (lv_at hl 0 rfl) ?_
      refine va_get (D := G.1) (ci := 11) (v := .ref (mo 14)) (C := RX11) (T := TX11) (N := 29) hx hb ht twX11 hown hK.1 hP 0 rfl rfl 25 (by decide) (ht _ kfl_X11_50) (fun _ h9 => h9) rfl dX11_again_13 ?_
      refine lv_iload_n hx hb dX11_again_16 rfl (lv_at hl 1 rfl) ?_
      obtain ⟨g3, hf⟩ := gd_s hf
      refine va_zald hx hb hK.1 hP 3 2 rfl rfl g3 dX11_again_17 ?_
      refine lv_if_ne (tgt := 24) hx hb dX11_again_18 (by decide) (fun c4 => ?_) (fun c4 => ?_)
      · have hf := o_f c4 hf
        refine lv_aload_n hx hb dX11_again_24 rfl (lv_at hl 0 rfl) ?_
        refine lv_aload_n hx hb dX11_again_25 rfl (lv_at hl 0 rfl) ?_
        refine va_get (D := G.1) (ci := 11) (v := .ref (mo 15)) (C := RX11) (T := TX11) (N := 29) hx hb ht twX11 hown hK.1 hP 0 rfl rfl 26 (by decide) (ht _ kfl_X11_54) (fun _ h9 => h9) rfl dX11_again_26 ?_
        refine lv_iload_n hx hb dX11_again_29 rfl (lv_at hl 1 rfl) ?_
        obtain ⟨g5, hf⟩ := gd_s hf
        refine va_iald hx hb hK.1 hP 4 0 rfl rfl g5 dX11_again_30 ?_
        refine va_put (D := G.1) (ci := 11) (v := .int (mo_keptBeds a1.toNatClampNeg)) (ty := .int) (C := RX11) (T := TX11) (N := 29) hx hb ht twX11 tyX11 tyX11_ok nmX11 hown hK.1 hP hD hS 0 rfl rfl 19 (by decide) (ht _ kfl_X11_180) (fun _ h9 => h9) rfl (by decide +kernel) rfl rfl (Nat.le_of_ble_eq_true rfl) dX11_again_31 (fun H locs hP hD hS => ?_)
        have hP : va_P G.1 vwCl [(oX11 mo mo_length mo_at mo_faultAt mo_parts mo_entries mo_ringEarth mo_lead mo_ring mo_jumpMany mo_curveEnd (mo_keptBeds a1.toNatClampNeg) mo_all), (wI G (mo 7) 4 mo_weights), (wI G (mo 10) 48 mo_bed), (wZ G (mo 14) 2 mo_isKept), (wI G (mo 15) 2 mo_keptBeds), (wI G (mo 16) 96 mo_keptBed), (wI G (mo 17) 8 mo_keptWeights)] H := hP
        have hD : va_D A [(oX11 mo mo_length mo_at mo_faultAt mo_parts mo_entries mo_ringEarth mo_lead mo_ring mo_jumpMany mo_curveEnd (mo_keptBeds a1.toNatClampNeg) mo_all), (wI G (mo 7) 4 mo_weights), (wI G (mo 10) 48 mo_bed), (wZ G (mo 14) 2 mo_isKept), (wI G (mo 15) 2 mo_keptBeds), (wI G (mo 16) 96 mo_keptBed), (wI G (mo 17) 8 mo_keptWeights)] := hD
        refine lv_iconst (v := 0) hx hb dX11_again_34 (by decide) ?_
        refine lv_istore_n (lv' := [(2, .int (0 : Int32)), (0, .ref (mo 0)), (1, .int a1)]) hx hb dX11_again_35 rfl hl (by decide) rfl (fun ls hl => ?_)
        have hx65_6 : ∀ (mo_beds : Int32) (mo_bed : Nat → Int32) (H : Heap) (locs : List Loc) (ls : Array Slot), f_X11_again_x65_6 mo_weights mo_keptWeights a1 mo_beds mo_bed = some R → va_P G.1 vwCl [(oX11 mo mo_length mo_at mo_faultAt mo_parts mo_entries mo_ringEarth mo_lead mo_ring mo_jumpMany mo_curveEnd mo_beds mo_all), (wI G (mo 7) 4 mo_weights), (wI G (mo 10) 48 mo_bed), (wZ G (mo 14) 2 mo_isKept), (wI G (mo 15) 2 mo_keptBeds), (wI G (mo 16) 96 mo_keptBed), (wI G (mo 17) 8 mo_keptWeights)] H → va_D A [(oX11 mo mo_length mo_at mo_faultAt mo_parts mo_entries mo_ringEarth mo_lead mo_ring mo_jumpMany mo_curveEnd mo_beds mo_all), (wI G (mo 7) 4 mo_weights), (wI G (mo 10) 48 mo_bed), (wZ G (mo 14) 2 mo_isKept), (wI G (mo 15) 2 mo_keptBeds), (wI G (mo 16) 96 mo_keptBed), (wI G (mo 17) 8 mo_keptWeights)] → va_S A s.heap H locs → lv_has ls 3 [(0, .ref (mo 0)), (1, .int a1)] → Wc_X11_again l G mo mo_length mo_at mo_faultAt mo_parts mo_entries mo_weights mo_ringEarth mo_lead mo_ring mo_jumpMany mo_curveEnd mo_beds mo_bed mo_all mo_isKept mo_keptBeds mo_keptBed mo_keptWeights a1 R p e s m below meth c A H locs (F0 m 65 ls []) := by
          intro mo_beds mo_bed H locs ls hf hP hD hS hl
          refine lv_iconst (v := 0) hx hb dX11_again_65 (by decide) ?_
          refine lv_istore_n (lv' := [(2, .int (0 : Int32)), (0, .ref (mo 0)), (1, .int a1)]) hx hb dX11_again_66 rfl hl (by decide) rfl (fun ls hl => ?_)
          have hx94_7 : ∀ (mo_weights : Nat → Int32) (H : Heap) (locs : List Loc) (ls : Array Slot), f_X11_again_x94_7 mo_beds mo_bed mo_weights = some R → va_P G.1 vwCl [(oX11 mo mo_length mo_at mo_faultAt mo_parts mo_entries mo_ringEarth mo_lead mo_ring mo_jumpMany mo_curveEnd mo_beds mo_all), (wI G (mo 7) 4 mo_weights), (wI G (mo 10) 48 mo_bed), (wZ G (mo 14) 2 mo_isKept), (wI G (mo 15) 2 mo_keptBeds), (wI G (mo 16) 96 mo_keptBed), (wI G (mo 17) 8 mo_keptWeights)] H → va_D A [(oX11 mo mo_length mo_at mo_faultAt mo_parts mo_entries mo_ringEarth mo_lead mo_ring mo_jumpMany mo_curveEnd mo_beds mo_all), (wI G (mo 7) 4 mo_weights), (wI G (mo 10) 48 mo_bed), (wZ G (mo 14) 2 mo_isKept), (wI G (mo 15) 2 mo_keptBeds), (wI G (mo 16) 96 mo_keptBed), (wI G (mo 17) 8 mo_keptWeights)] → va_S A s.heap H locs → lv_has ls 3 [(0, .ref (mo 0))] → Wc_X11_again l G mo mo_length mo_at mo_faultAt mo_parts mo_entries mo_weights mo_ringEarth mo_lead mo_ring mo_jumpMany mo_curveEnd mo_beds mo_bed mo_all mo_isKept mo_keptBeds mo_keptBed mo_keptWeights a1 R p e s m below meth c A H locs (F0 m 94 ls []) := by
            intro mo_weights H locs ls hf hP hD hS hl
            refine lv_aload_n hx hb dX11_again_94 rfl (lv_at hl 0 rfl) ?_
            refine va_get (D := G.1) (ci := 11) (v := .int mo_beds) (C := RX11) (T := TX11) (N := 29) hx hb ht twX11 hown hK.1 hP 0 rfl rfl 19 (by decide) (ht _ kfl_X11_180) (fun _ h9 => h9) rfl dX11_again_95 ?_
            have h9 := Option.some.inj hf
            subst h9
            exact rw_iret C rfl hP hD hS dX11_again_98
          obtain ⟨rL7, hL7, hk7⟩ := bd_s hf
          refine lp_W (P := fun st => ∀ (H : Heap) (locs : List Loc) (ls : Array Slot), va_P G.1 vwCl [(oX11 mo mo_length mo_at mo_faultAt mo_parts mo_entries mo_ringEarth mo_lead mo_ring mo_jumpMany mo_curveEnd mo_beds mo_all), (wI G (mo 7) 4 st.2), (wI G (mo 10) 48 mo_bed), (wZ G (mo 14) 2 mo_isKept), (wI G (mo 15) 2 mo_keptBeds), (wI G (mo 16) 96 mo_keptBed), (wI G (mo 17) 8 mo_keptWeights)] H → va_D A [(oX11 mo mo_length mo_at mo_faultAt mo_parts mo_entries mo_ringEarth mo_lead mo_ring mo_jumpMany mo_curveEnd mo_beds mo_all), (wI G (mo 7) 4 st.2), (wI G (mo 10) 48 mo_bed), (wZ G (mo 14) 2 mo_isKept), (wI G (mo 15) 2 mo_keptBeds), (wI G (mo 16) 96 mo_keptBed), (wI G (mo 17) 8 mo_keptWeights)] → va_S A s.heap H locs → lv_has ls 3 [(0, .ref (mo 0)), (1, .int a1), (2, .int st.1)] → Wc_X11_again l G mo mo_length mo_at mo_faultAt mo_parts mo_entries mo_weights mo_ringEarth mo_lead mo_ring mo_jumpMany mo_curveEnd mo_beds mo_bed mo_all mo_isKept mo_keptBeds mo_keptBed mo_keptWeights a1 R p e s m below meth c A H locs (F0 m 67 ls [])) ?_ FU ((0 : Int32), mo_weights) hL7 H locs ls hP hD hS (lv_sub hl [1, 2, 0] rfl)
          intro ⟨v2, mo_weights⟩ oc7 hf hI hE H locs ls hP hD hS hl
          have hP : va_P G.1 vwCl [(oX11 mo mo_length mo_at mo_faultAt mo_parts mo_entries mo_ringEarth mo_lead mo_ring mo_jumpMany mo_curveEnd mo_beds mo_all), (wI G (mo 7) 4 mo_weights), (wI G (mo 10) 48 mo_bed), (wZ G (mo 14) 2 mo_isKept), (wI G (mo 15) 2 mo_keptBeds), (wI G (mo 16) 96 mo_keptBed), (wI G (mo 17) 8 mo_keptWeights)] H := hP
          have hD : va_D A [(oX11 mo mo_length mo_at mo_faultAt mo_parts mo_entries mo_ringEarth mo_lead mo_ring mo_jumpMany mo_curveEnd mo_beds mo_all), (wI G (mo 7) 4 mo_weights), (wI G (mo 10) 48 mo_bed), (wZ G (mo 14) 2 mo_isKept), (wI G (mo 15) 2 mo_keptBeds), (wI G (mo 16) 96 mo_keptBed), (wI G (mo 17) 8 mo_keptWeights)] := hD
          have hl : lv_has ls 3 [(0, .ref (mo 0)), (1, .int a1), (2, .int v2)] := hl
          have hf : f_X11_again_b67 mo_keptWeights a1 v2 mo_weights = some oc7 := hf
          refine lv_iload_n hx hb dX11_again_67 rfl (lv_at hl 2 rfl) ?_
          refine lv_iconst (v := 4) hx hb dX11_again_68 (by decide) ?_
          refine lv_icmp_ge (tgt := 94) hx hb dX11_again_69 (by decide) (fun c9 => ?_) (fun c9 => ?_)
          · have hf := o_t c9 hf
            cases hf
            have hf : f_X11_again_x94_7 mo_beds mo_bed mo_weights = some R := by have h9 := hk7; rw [← hE _ rfl] at h9; exact h9
            exact hx94_7 mo_weights H locs ls hf hP hD hS (lv_sub hl [0] rfl)
          · have hf := o_f c9 hf
            refine lv_aload_n hx hb dX11_again_72 rfl (lv_at hl 0 rfl) ?_
            refine va_get (D := G.1) (ci := 11) (v := .ref (mo 7)) (C := RX11) (T := TX11) (N := 29) hx hb ht twX11 hown hK.1 hP 0 rfl rfl 11 (by decide) (ht _ kfl_X11_28) (fun _ h9 => h9) rfl dX11_again_73 ?_
            refine lv_iload_n hx hb dX11_again_76 rfl (lv_at hl 2 rfl) ?_
            refine lv_aload_n hx hb dX11_again_77 rfl (lv_at hl 0 rfl) ?_
            refine va_get (D := G.1) (ci := 11) (v := .ref (mo 17)) (C := RX11) (T := TX11) (N := 29) hx hb ht twX11 hown hK.1 hP 0 rfl rfl 28 (by decide) (ht _ kfl_X11_60) (fun _ h9 => h9) rfl dX11_again_78 ?_
            refine lv_iconst (v := 4) hx hb dX11_again_81 (by decide) ?_
            refine lv_iload_n hx hb dX11_again_82 rfl (lv_at hl 1 rfl) ?_
            refine lv_imul hx hb dX11_again_83 ?_
            refine lv_iload_n hx hb dX11_again_84 rfl (lv_at hl 2 rfl) ?_
            refine lv_iadd hx hb dX11_again_85 ?_
            obtain ⟨g10, hf⟩ := gd_s hf
            refine va_iald hx hb hK.1 hP 6 0 rfl rfl g10 dX11_again_86 ?_
            obtain ⟨g11, hf⟩ := gd_s hf
            refine va_iast hx hb hK.1 hP hD hS 1 0 rfl rfl g11 dX11_again_87 (fun H locs hP hD hS => ?_)
            have hP : va_P G.1 vwCl [(oX11 mo mo_length mo_at mo_faultAt mo_parts mo_entries mo_ringEarth mo_lead mo_ring mo_jumpMany mo_curveEnd mo_beds mo_all), (wI G (mo 7) 4 (upd mo_weights v2.toNatClampNeg (mo_keptWeights (((4 : Int32) * a1) + v2).toNatClampNeg))), (wI G (mo 10) 48 mo_bed), (wZ G (mo 14) 2 mo_isKept), (wI G (mo 15) 2 mo_keptBeds), (wI G (mo 16) 96 mo_keptBed), (wI G (mo 17) 8 mo_keptWeights)] H := hP
            have hD : va_D A [(oX11 mo mo_length mo_at mo_faultAt mo_parts mo_entries mo_ringEarth mo_lead mo_ring mo_jumpMany mo_curveEnd mo_beds mo_all), (wI G (mo 7) 4 (upd mo_weights v2.toNatClampNeg (mo_keptWeights (((4 : Int32) * a1) + v2).toNatClampNeg))), (wI G (mo 10) 48 mo_bed), (wZ G (mo 14) 2 mo_isKept), (wI G (mo 15) 2 mo_keptBeds), (wI G (mo 16) 96 mo_keptBed), (wI G (mo 17) 8 mo_keptWeights)] := hD
            refine lv_iinc (v := (v2 + (1 : Int32))) (lv' := [(2, .int (v2 + (1 : Int32))), (0, .ref (mo 0)), (1, .int a1)]) hx hb dX11_again_88 hl (k := 2) rfl (by rfl) (by decide) rfl (fun ls hl => ?_)
            refine lv_goto (tgt := 67) hx hb dX11_again_91 (by decide) ?_
            cases hf
            exact hI _ rfl H locs ls hP hD hS (lv_sub hl [1, 2, 0] rfl)
        obtain ⟨rL6, hL6, hk6⟩ := bd_s hf
        refine lp_W (P := fun st => ∀ (H : Heap) (locs : List Loc) (ls : Array Slot), va_P G.1 vwCl [(oX11 mo mo_length mo_at mo_faultAt mo_parts mo_entries mo_ringEarth mo_lead mo_ring mo_jumpMany mo_curveEnd st.2.1 mo_all), (wI G (mo 7) 4 mo_weights), (wI G (mo 10) 48 st.2.2), (wZ G (mo 14) 2 mo_isKept), (wI G (mo 15) 2 mo_keptBeds), (wI G (mo 16) 96 mo_keptBed), (wI G (mo 17) 8 mo_keptWeights)] H → va_D A [(oX11 mo mo_length mo_at mo_faultAt mo_parts mo_entries mo_ringEarth mo_lead mo_ring mo_jumpMany mo_curveEnd st.2.1 mo_all), (wI G (mo 7) 4 mo_weights), (wI G (mo 10) 48 st.2.2), (wZ G (mo 14) 2 mo_isKept), (wI G (mo 15) 2 mo_keptBeds), (wI G (mo 16) 96 mo_keptBed), (wI G (mo 17) 8 mo_keptWeights)] → va_S A s.heap H locs → lv_has ls 3 [(0, .ref (mo 0)), (1, .int a1), (2, .int st.1)] → Wc_X11_again l G mo mo_length mo_at mo_faultAt mo_parts mo_entries mo_weights mo_ringEarth mo_lead mo_ring mo_jumpMany mo_curveEnd mo_beds mo_bed mo_all mo_isKept mo_keptBeds mo_keptBed mo_keptWeights a1 R p e s m below meth c A H locs (F0 m 36 ls [])) ?_ FU ((0 : Int32), (mo_keptBeds a1.toNatClampNeg), mo_bed) hL6 H locs ls hP hD hS (lv_sub hl [1, 2, 0] rfl)
        intro ⟨v2, mo_beds, mo_bed⟩ oc6 hf hI hE H locs ls hP hD hS hl
        have hP : va_P G.1 vwCl [(oX11 mo mo_length mo_at mo_faultAt mo_parts mo_entries mo_ringEarth mo_lead mo_ring mo_jumpMany mo_curveEnd mo_beds mo_all), (wI G (mo 7) 4 mo_weights), (wI G (mo 10) 48 mo_bed), (wZ G (mo 14) 2 mo_isKept), (wI G (mo 15) 2 mo_keptBeds), (wI G (mo 16) 96 mo_keptBed), (wI G (mo 17) 8 mo_keptWeights)] H := hP
        have hD : va_D A [(oX11 mo mo_length mo_at mo_faultAt mo_parts mo_entries mo_ringEarth mo_lead mo_ring mo_jumpMany mo_curveEnd mo_beds mo_all), (wI G (mo 7) 4 mo_weights), (wI G (mo 10) 48 mo_bed), (wZ G (mo 14) 2 mo_isKept), (wI G (mo 15) 2 mo_keptBeds), (wI G (mo 16) 96 mo_keptBed), (wI G (mo 17) 8 mo_keptWeights)] := hD
        have hl : lv_has ls 3 [(0, .ref (mo 0)), (1, .int a1), (2, .int v2)] := hl
        have hf : f_X11_again_b36 mo_keptBed a1 v2 mo_beds mo_bed = some oc6 := hf
        refine lv_iload_n hx hb dX11_again_36 rfl (lv_at hl 2 rfl) ?_
        refine lv_bipush (v := 48) hx hb dX11_again_37 (by decide) ?_
        refine lv_icmp_ge (tgt := 65) hx hb dX11_again_39 (by decide) (fun c12 => ?_) (fun c12 => ?_)
        · have hf := o_t c12 hf
          cases hf
          have hf : f_X11_again_x65_6 mo_weights mo_keptWeights a1 mo_beds mo_bed = some R := by have h9 := hk6; rw [← hE _ rfl] at h9; exact h9
          exact hx65_6 mo_beds mo_bed H locs ls hf hP hD hS (lv_sub hl [0, 1] rfl)
        · have hf := o_f c12 hf
          refine lv_aload_n hx hb dX11_again_42 rfl (lv_at hl 0 rfl) ?_
          refine va_get (D := G.1) (ci := 11) (v := .ref (mo 10)) (C := RX11) (T := TX11) (N := 29) hx hb ht twX11 hown hK.1 hP 0 rfl rfl 20 (by decide) (ht _ kfl_X11_37) (fun _ h9 => h9) rfl dX11_again_43 ?_
          refine lv_iload_n hx hb dX11_again_46 rfl (lv_at hl 2 rfl) ?_
          refine lv_aload_n hx hb dX11_again_47 rfl (lv_at hl 0 rfl) ?_
          refine va_get (D := G.1) (ci := 11) (v := .ref (mo 16)) (C := RX11) (T := TX11) (N := 29) hx hb ht twX11 hown hK.1 hP 0 rfl rfl 27 (by decide) (ht _ kfl_X11_57) (fun _ h9 => h9) rfl dX11_again_48 ?_
          refine lv_bipush (v := 48) hx hb dX11_again_51 (by decide) ?_
          refine lv_iload_n hx hb dX11_again_53 rfl (lv_at hl 1 rfl) ?_
          refine lv_imul hx hb dX11_again_54 ?_
          refine lv_iload_n hx hb dX11_again_55 rfl (lv_at hl 2 rfl) ?_
          refine lv_iadd hx hb dX11_again_56 ?_
          obtain ⟨g13, hf⟩ := gd_s hf
          refine va_iald hx hb hK.1 hP 5 0 rfl rfl g13 dX11_again_57 ?_
          obtain ⟨g14, hf⟩ := gd_s hf
          refine va_iast hx hb hK.1 hP hD hS 2 0 rfl rfl g14 dX11_again_58 (fun H locs hP hD hS => ?_)
          have hP : va_P G.1 vwCl [(oX11 mo mo_length mo_at mo_faultAt mo_parts mo_entries mo_ringEarth mo_lead mo_ring mo_jumpMany mo_curveEnd mo_beds mo_all), (wI G (mo 7) 4 mo_weights), (wI G (mo 10) 48 (upd mo_bed v2.toNatClampNeg (mo_keptBed (((48 : Int32) * a1) + v2).toNatClampNeg))), (wZ G (mo 14) 2 mo_isKept), (wI G (mo 15) 2 mo_keptBeds), (wI G (mo 16) 96 mo_keptBed), (wI G (mo 17) 8 mo_keptWeights)] H := hP
          have hD : va_D A [(oX11 mo mo_length mo_at mo_faultAt mo_parts mo_entries mo_ringEarth mo_lead mo_ring mo_jumpMany mo_curveEnd mo_beds mo_all), (wI G (mo 7) 4 mo_weights), (wI G (mo 10) 48 (upd mo_bed v2.toNatClampNeg (mo_keptBed (((48 : Int32) * a1) + v2).toNatClampNeg))), (wZ G (mo 14) 2 mo_isKept), (wI G (mo 15) 2 mo_keptBeds), (wI G (mo 16) 96 mo_keptBed), (wI G (mo 17) 8 mo_keptWeights)] := hD
          refine lv_iinc (v := (v2 + (1 : Int32))) (lv' := [(2, .int (v2 + (1 : Int32))), (0, .ref (mo 0)), (1, .int a1)]) hx hb dX11_again_59 hl (k := 2) rfl (by rfl) (by decide) rfl (fun ls hl => ?_)
          refine lv_goto (tgt := 36) hx hb dX11_again_62 (by decide) ?_
          cases hf
          exact hI _ rfl H locs ls hP hD hS (lv_sub hl [1, 2, 0] rfl)
      · have hf := o_t c4 hf
        refine lv_bipush (v := -3) hx hb dX11_again_21 (by decide) ?_
        have h9 := Option.some.inj hf
        subst h9
        exact rw_iret C rfl hP hD hS dX11_again_23
    · have hf := o_t c2 hf
      refine lv_iconst (v := -1) hx hb dX11_again_10 (by decide) ?_
      have h9 := Option.some.inj hf
      subst h9
      exact rw_iret C rfl hP hD hS dX11_again_11
  rw [eH, el] at key
  exact key
abbrev Wc_X11_count (l : Launch) (G : TG) (mo : Nat → Nat) (mo_length : Int32) (mo_at : Int32) (mo_faultAt : Int32) (mo_parts : Int32) (mo_entries : Int32) (mo_weights : Nat → Int32) (mo_ringEarth : Int32) (mo_lead : Int32) (mo_ring : Int32) (mo_jumpMany : Int32) (mo_curveEnd : Int32) (mo_beds : Int32) (mo_bed : Nat → Int32) (mo_all : Int64) (a1 : Int32) (R : Int32) (p : Program) (e : Env) (s : State) (m : MethodId) (below : List Frame) (meth : Method) (c : Code) (H : Heap) (locs : List Loc) (g : JFrame) : Prop := W p l e ({ frames := 1, cells := 0, slots := 0, locals := 21 }) s m ([.ref (mo 0), .int a1] : List Value).toArray below meth c H locs 0 0 (MQ below (roQ (some (.int R))) ([.ref (mo 0), .int a1] : List Value).toArray s 0 0 (fun _ => False)) g
set_option maxHeartbeats 4000000 in
set_option maxRecDepth 100000 in
theorem c_X11_count (l : Launch) (G : TG) (mo : Nat → Nat) (mo_length : Int32) (mo_at : Int32) (mo_faultAt : Int32) (mo_parts : Int32) (mo_entries : Int32) (mo_weights : Nat → Int32) (mo_ringEarth : Int32) (mo_lead : Int32) (mo_ring : Int32) (mo_jumpMany : Int32) (mo_curveEnd : Int32) (mo_beds : Int32) (mo_bed : Nat → Int32) (mo_all : Int64) (a1 : Int32) (R : Int32) (hf : f_X11_count mo_length mo_weights mo_beds mo_bed a1 = some R) : RO l yX11_count cX11_count 5 (some .int) ({ frames := 1, cells := 0, slots := 0, locals := 21 }) G [.ref (mo 0), .int a1] [(oX11 mo mo_length mo_at mo_faultAt mo_parts mo_entries mo_ringEarth mo_lead mo_ring mo_jumpMany mo_curveEnd mo_beds mo_all), (wI G (mo 7) 4 mo_weights), (wI G (mo 10) 48 mo_bed)] (some (.int R)) := by
  refine RO.mk (by decide +kernel) (Nat.le_of_ble_eq_true rfl) ?_
  intro p e s m below meth c ls C hP hK hl
  have hx := C.1
  have hb := C.2.1
  have hown : s.vm.findClass RX11 = some m.cls := C.2.2.2.2.2.1
  have ht := C.2.2.2.2.2.2
  have hl : lv_has ls 5 [(0, .ref (mo 0)), (1, .int a1)] := hl
  show Wc_X11_count l G mo mo_length mo_at mo_faultAt mo_parts mo_entries mo_weights mo_ringEarth mo_lead mo_ring mo_jumpMany mo_curveEnd mo_beds mo_bed mo_all a1 R p e s m below meth c s.heap [] (F0 m 0 ls [])
  refine lv_iconst (v := 0) hx hb dX11_count_0 (by decide) ?_
  refine lv_istore_n (lv' := [(2, .int (0 : Int32)), (0, .ref (mo 0)), (1, .int a1)]) hx hb dX11_count_1 rfl hl (by decide) rfl (fun ls hl => ?_)
  refine lv_iconst (v := 0) hx hb dX11_count_2 (by decide) ?_
  refine lv_istore_n (lv' := [(3, .int (0 : Int32)), (2, .int (0 : Int32)), (0, .ref (mo 0)), (1, .int a1)]) hx hb dX11_count_3 rfl hl (by decide) rfl (fun ls hl => ?_)
  refine lv_iconst (v := 0) hx hb dX11_count_4 (by decide) ?_
  refine lv_istore (lv' := [(4, .int (0 : Int32)), (3, .int (0 : Int32)), (2, .int (0 : Int32)), (0, .ref (mo 0)), (1, .int a1)]) hx hb dX11_count_5 hl (by decide) rfl (fun ls hl => ?_)
  have hx39_1 : ∀ (v2 : Int32) (ls : Array Slot), f_X11_count_x39_1 mo_length mo_weights mo_beds a1 v2 = some R → lv_has ls 5 [(0, .ref (mo 0)), (1, .int a1), (2, .int v2), (3, .int (0 : Int32))] → Wc_X11_count l G mo mo_length mo_at mo_faultAt mo_parts mo_entries mo_weights mo_ringEarth mo_lead mo_ring mo_jumpMany mo_curveEnd mo_beds mo_bed mo_all a1 R p e s m below meth c s.heap [] (F0 m 39 ls []) := by
    intro v2 ls hf hl
    refine lv_iconst (v := 0) hx hb dX11_count_39 (by decide) ?_
    refine lv_istore (lv' := [(4, .int (0 : Int32)), (0, .ref (mo 0)), (1, .int a1), (2, .int v2), (3, .int (0 : Int32))]) hx hb dX11_count_40 hl (by decide) rfl (fun ls hl => ?_)
    have hx64_2 : ∀ (v3 : Int32) (ls : Array Slot), f_X11_count_x64_2 mo_length mo_beds a1 v2 v3 = some R → lv_has ls 5 [(0, .ref (mo 0)), (1, .int a1), (2, .int v2), (3, .int v3)] → Wc_X11_count l G mo mo_length mo_at mo_faultAt mo_parts mo_entries mo_weights mo_ringEarth mo_lead mo_ring mo_jumpMany mo_curveEnd mo_beds mo_bed mo_all a1 R p e s m below meth c s.heap [] (F0 m 64 ls []) := by
      intro v3 ls hf hl
      refine lv_iload_n hx hb dX11_count_64 rfl (lv_at hl 1 rfl) ?_
      by_cases c3_0 : a1 = (0 : Int32)
      · have hf := o_t c3_0 hf
        refine lv_tsI (tgt := 96) hx hb dX11_count_65 c3_0 (by decide) (by decide) rfl (by decide) ?_
        refine lv_aload_n hx hb dX11_count_96 rfl (lv_at hl 0 rfl) ?_
        refine va_get (D := G.1) (ci := 11) (v := .int mo_length) (C := RX11) (T := TX11) (N := 29) hx hb ht twX11 hown hK.1 hP 0 rfl rfl 3 (by decide) (ht _ kfl_X11_69) (fun _ h9 => h9) rfl dX11_count_97 ?_
        have h9 := Option.some.inj hf
        subst h9
        exact ro_iret C rfl dX11_count_100
      have hf := o_f c3_0 hf
      by_cases c3_1 : a1 = (1 : Int32)
      · have hf := o_t c3_1 hf
        refine lv_tsI (tgt := 101) hx hb dX11_count_65 c3_1 (by decide) (by decide) rfl (by decide) ?_
        refine lv_aload_n hx hb dX11_count_101 rfl (lv_at hl 0 rfl) ?_
        refine va_get (D := G.1) (ci := 11) (v := .int mo_beds) (C := RX11) (T := TX11) (N := 29) hx hb ht twX11 hown hK.1 hP 0 rfl rfl 19 (by decide) (ht _ kfl_X11_180) (fun _ h9 => h9) rfl dX11_count_102 ?_
        have h9 := Option.some.inj hf
        subst h9
        exact ro_iret C rfl dX11_count_105
      have hf := o_f c3_1 hf
      by_cases c3_2 : a1 = (2 : Int32)
      · have hf := o_t c3_2 hf
        refine lv_tsI (tgt := 106) hx hb dX11_count_65 c3_2 (by decide) (by decide) rfl (by decide) ?_
        refine lv_iload_n hx hb dX11_count_106 rfl (lv_at hl 2 rfl) ?_
        have h9 := Option.some.inj hf
        subst h9
        exact ro_iret C rfl dX11_count_107
      have hf := o_f c3_2 hf
      by_cases c3_3 : a1 = (3 : Int32)
      · have hf := o_t c3_3 hf
        refine lv_tsI (tgt := 108) hx hb dX11_count_65 c3_3 (by decide) (by decide) rfl (by decide) ?_
        refine lv_iload_n hx hb dX11_count_108 rfl (lv_at hl 3 rfl) ?_
        have h9 := Option.some.inj hf
        subst h9
        exact ro_iret C rfl dX11_count_109
      have hf := o_f c3_3 hf
      refine lv_tableOut (tgt := 110) hx hb dX11_count_65 (ts3 c3_0 c3_1 c3_2 c3_3) (by decide) ?_
      refine lv_bipush (v := -2) hx hb dX11_count_110 (by decide) ?_
      have h9 := Option.some.inj hf
      subst h9
      exact ro_iret C rfl dX11_count_112
    obtain ⟨rL2, hL2, hk2⟩ := bd_s hf
    refine lp_W (P := fun st => ∀ (ls : Array Slot), lv_has ls 5 [(0, .ref (mo 0)), (1, .int a1), (2, .int v2), (3, .int st.1), (4, .int st.2)] → Wc_X11_count l G mo mo_length mo_at mo_faultAt mo_parts mo_entries mo_weights mo_ringEarth mo_lead mo_ring mo_jumpMany mo_curveEnd mo_beds mo_bed mo_all a1 R p e s m below meth c s.heap [] (F0 m 42 ls [])) ?_ FU ((0 : Int32), (0 : Int32)) hL2 ls (lv_sub hl [1, 2, 3, 4, 0] rfl)
    intro ⟨v3, v4⟩ oc2 hf hI hE ls hl
    have hl : lv_has ls 5 [(0, .ref (mo 0)), (1, .int a1), (2, .int v2), (3, .int v3), (4, .int v4)] := hl
    have hf : f_X11_count_b42 mo_weights v3 v4 = some oc2 := hf
    refine lv_iload hx hb dX11_count_42 (lv_at hl 4 rfl) ?_
    refine lv_iconst (v := 4) hx hb dX11_count_44 (by decide) ?_
    refine lv_icmp_ge (tgt := 64) hx hb dX11_count_45 (by decide) (fun c9 => ?_) (fun c9 => ?_)
    · have hf := o_t c9 hf
      cases hf
      have hf : f_X11_count_x64_2 mo_length mo_beds a1 v2 v3 = some R := by have h9 := hk2; rw [← hE _ rfl] at h9; exact h9
      exact hx64_2 v3 ls hf (lv_sub hl [0, 1, 2, 3] rfl)
    · have hf := o_f c9 hf
      refine lv_iload_n hx hb dX11_count_48 rfl (lv_at hl 3 rfl) ?_
      refine lv_aload_n hx hb dX11_count_49 rfl (lv_at hl 0 rfl) ?_
      refine va_get (D := G.1) (ci := 11) (v := .ref (mo 7)) (C := RX11) (T := TX11) (N := 29) hx hb ht twX11 hown hK.1 hP 0 rfl rfl 11 (by decide) (ht _ kfl_X11_28) (fun _ h9 => h9) rfl dX11_count_50 ?_
      refine lv_iload hx hb dX11_count_53 (lv_at hl 4 rfl) ?_
      obtain ⟨g10, hf⟩ := gd_s hf
      refine va_iald hx hb hK.1 hP 1 0 rfl rfl g10 dX11_count_55 ?_
      refine lv_iadd hx hb dX11_count_56 ?_
      refine lv_istore_n (lv' := [(3, .int (v3 + (mo_weights v4.toNatClampNeg))), (0, .ref (mo 0)), (1, .int a1), (2, .int v2), (4, .int v4)]) hx hb dX11_count_57 rfl hl (by decide) rfl (fun ls hl => ?_)
      refine lv_iinc (v := (v4 + (1 : Int32))) (lv' := [(4, .int (v4 + (1 : Int32))), (3, .int (v3 + (mo_weights v4.toNatClampNeg))), (0, .ref (mo 0)), (1, .int a1), (2, .int v2)]) hx hb dX11_count_58 hl (k := 4) rfl (by rfl) (by decide) rfl (fun ls hl => ?_)
      refine lv_goto (tgt := 42) hx hb dX11_count_61 (by decide) ?_
      cases hf
      exact hI _ rfl ls (lv_sub hl [2, 3, 4, 1, 0] rfl)
  obtain ⟨rL1, hL1, hk1⟩ := bd_s hf
  refine lp_W (P := fun st => ∀ (ls : Array Slot), lv_has ls 5 [(0, .ref (mo 0)), (1, .int a1), (2, .int st.1), (3, .int (0 : Int32)), (4, .int st.2)] → Wc_X11_count l G mo mo_length mo_at mo_faultAt mo_parts mo_entries mo_weights mo_ringEarth mo_lead mo_ring mo_jumpMany mo_curveEnd mo_beds mo_bed mo_all a1 R p e s m below meth c s.heap [] (F0 m 7 ls [])) ?_ FU ((0 : Int32), (0 : Int32)) hL1 ls (lv_sub hl [3, 4, 2, 1, 0] rfl)
  intro ⟨v2, v4⟩ oc1 hf hI hE ls hl
  have hl : lv_has ls 5 [(0, .ref (mo 0)), (1, .int a1), (2, .int v2), (3, .int (0 : Int32)), (4, .int v4)] := hl
  have hf : f_X11_count_b7 mo_beds mo_bed v2 v4 = some oc1 := hf
  refine lv_iload hx hb dX11_count_7 (lv_at hl 4 rfl) ?_
  refine lv_aload_n hx hb dX11_count_9 rfl (lv_at hl 0 rfl) ?_
  refine va_get (D := G.1) (ci := 11) (v := .int mo_beds) (C := RX11) (T := TX11) (N := 29) hx hb ht twX11 hown hK.1 hP 0 rfl rfl 19 (by decide) (ht _ kfl_X11_180) (fun _ h9 => h9) rfl dX11_count_10 ?_
  refine lv_icmp_ge (tgt := 39) hx hb dX11_count_13 (by decide) (fun c11 => ?_) (fun c11 => ?_)
  · have hf := o_t c11 hf
    cases hf
    have hf : f_X11_count_x39_1 mo_length mo_weights mo_beds a1 v2 = some R := by have h9 := hk1; rw [← hE _ rfl] at h9; exact h9
    exact hx39_1 v2 ls hf (lv_sub hl [0, 1, 2, 3] rfl)
  · have hf := o_f c11 hf
    refine lv_iload_n hx hb dX11_count_16 rfl (lv_at hl 2 rfl) ?_
    refine lv_aload_n hx hb dX11_count_17 rfl (lv_at hl 0 rfl) ?_
    refine lv_iload hx hb dX11_count_18 (lv_at hl 4 rfl) ?_
    obtain ⟨q12, r12, hf⟩ := bd_s hf
    refine ro_V (n := 1) (As := [.int v4]) (rest := [.int v2]) (c_X11_isIcy l G mo mo_length mo_at mo_faultAt mo_parts mo_entries mo_ringEarth mo_lead mo_ring mo_jumpMany mo_curveEnd mo_beds mo_bed mo_all v4 q12 r12) C hK (hP.sub [0, 2] rfl) hl kcode_X11_isIcy kml_X11_195 kim_X11_isIcy ksel_X11_isIcy kini_X11 (by decide +kernel) ⟨⟨rfl, rfl⟩, Nat.le_of_ble_eq_true rfl, Nat.le_of_ble_eq_true rfl⟩ ⟨Nat.zero_le _, Nat.zero_le _⟩ rfl rfl rfl rfl rfl (Nat.le_of_ble_eq_true rfl) dX11_count_20 rfl ?_
    refine lv_if_eq (tgt := 30) hx hb dX11_count_23 (by decide) (fun c13 => ?_) (fun c13 => ?_)
    · have hf := o_t c13 hf
      refine lv_iconst (v := 0) hx hb dX11_count_30 (by decide) ?_
      refine lv_iadd hx hb dX11_count_31 ?_
      refine lv_istore_n (lv' := [(2, .int (v2 + (0 : Int32))), (0, .ref (mo 0)), (1, .int a1), (3, .int (0 : Int32)), (4, .int v4)]) hx hb dX11_count_32 rfl hl (by decide) rfl (fun ls hl => ?_)
      refine lv_iinc (v := (v4 + (1 : Int32))) (lv' := [(4, .int (v4 + (1 : Int32))), (2, .int (v2 + (0 : Int32))), (0, .ref (mo 0)), (1, .int a1), (3, .int (0 : Int32))]) hx hb dX11_count_33 hl (k := 4) rfl (by rfl) (by decide) rfl (fun ls hl => ?_)
      refine lv_goto (tgt := 7) hx hb dX11_count_36 (by decide) ?_
      cases hf
      exact hI _ rfl ls (lv_sub hl [2, 3, 1, 4, 0] rfl)
    · have hf := o_f c13 hf
      refine lv_iconst (v := 1) hx hb dX11_count_26 (by decide) ?_
      refine lv_goto (tgt := 31) hx hb dX11_count_27 (by decide) ?_
      refine lv_iadd hx hb dX11_count_31 ?_
      refine lv_istore_n (lv' := [(2, .int (v2 + (1 : Int32))), (0, .ref (mo 0)), (1, .int a1), (3, .int (0 : Int32)), (4, .int v4)]) hx hb dX11_count_32 rfl hl (by decide) rfl (fun ls hl => ?_)
      refine lv_iinc (v := (v4 + (1 : Int32))) (lv' := [(4, .int (v4 + (1 : Int32))), (2, .int (v2 + (1 : Int32))), (0, .ref (mo 0)), (1, .int a1), (3, .int (0 : Int32))]) hx hb dX11_count_33 hl (k := 4) rfl (by rfl) (by decide) rfl (fun ls hl => ?_)
      refine lv_goto (tgt := 7) hx hb dX11_count_36 (by decide) ?_
      cases hf
      exact hI _ rfl ls (lv_sub hl [2, 3, 1, 4, 0] rfl)
