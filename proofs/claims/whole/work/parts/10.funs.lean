abbrev wI (G : TG) (a n : Nat) (f : Nat → Int32) : Nat × va_E := (a, .inl (G.2.1.1, n, .inl f))
abbrev wJ (G : TG) (a n : Nat) (f : Nat → Int64) : Nat × va_E := (a, .inl (G.2.1.2.1, n, .inr (.inl f)))
abbrev wZ (G : TG) (a n : Nat) (f : Nat → Int32) : Nat × va_E := (a, .inl (G.2.1.2.2.1, n, .inl f))
def slF (a b : Nat) : Nat → Option Nat := va_up (va_up (fun _ => none) 0 (some a)) 1 (some b)
abbrev wS (G : TG) (a b0 b1 : Nat) : Nat × va_E := (a, .inl (G.2.1.2.2.2, 2, .inr (.inr (.inr (.inr (slF b0 b1))))))
theorem slF_0 {i : Int32} {a b : Nat} (h : i = 0) : slF a b i.toNatClampNeg = some a := by subst h; rfl
theorem slF_1 {i : Int32} {a b : Nat} (g : vp_in i 2) (h : ¬ i = 0) : slF a b i.toNatClampNeg = some b := by
  obtain ⟨j, hj, e⟩ := vp_in_of g (by decide)
  subst e
  have h2 : j ≠ 0 := fun e => h (by rw [e]; rfl)
  have h3 : j = 1 := by omega
  subst h3
  rfl
theorem va_slot {p : Program} {l : Launch} {e : Env} {R : Room} {s : State} {m : MethodId} {args : Array Value} {below : List Frame} {meth : Method} {c : Code} {H : Heap} {locs : List Loc} {cells slots : Nat} {Q : State → Prop} {cc : ByteArray} {pc : Nat} {ls : Array Slot} {rest : List Value} {D : va_G} {cl : List vw_C} {tys : List (ClassId × FieldType)} {ws : va_W} {a q : Nat} (hexec : p.tables.exec = Jvm.exec) (hb : c.code = cc) (hK : va_K D cl tys s) (hP : va_P D cl ws H) (q0 t0 : Nat) {cA : ClassId} {C : String} {n : Nat} {f : Nat → Option Nat} (ha : ws[q0]? = some (a, .inl (cA, n, .inr (.inr (.inr (.inr f)))))) (ht : tys[t0]? = some (cA, .object C)) {i : Int32} (hin : vp_in i n) (hq : f i.toNatClampNeg = some q) (hdg : decode cc pc = .ok (.aaload, 1))
    (kk : W p l e R s m args below meth c H locs cells slots Q (F0 m (pc + 1) ls (.ref q :: rest))) : W p l e R s m args below meth c H locs cells slots Q (F0 m pc ls (.int i :: .ref a :: rest)) := by
  refine va_aldq hexec hb hK hP q0 t0 ha ht hin hdg ?_
  rw [hq]
  exact kk
abbrev oX0 (o : Nat → Nat) : Nat × va_E := (o 0, .inr (0, [.ref (o 1)]))
abbrev oX1 (o : Nat → Nat) (f_found : Int32) (f_end : Int32) : Nat × va_E := (o 0, .inr (1, [.ref (o 1), .int f_found, .int f_end]))
abbrev oX2 (o : Nat → Nat) (f_found : Int32) : Nat × va_E := (o 0, .inr (2, [.ref (o 1), .int f_found]))
abbrev oX3 (o : Nat → Nat) : Nat × va_E := (o 0, .inr (3, [.ref (o 1)]))
abbrev oX4 (o : Nat → Nat) (f_beds : Int32) (f_isKept : Int32) : Nat × va_E := (o 0, .inr (4, [.ref (o 1), .ref (o 2), .int f_beds, .int f_isKept]))
abbrev oX5 (o : Nat → Nat) (f_all : Int64) : Nat × va_E := (o 0, .inr (5, [.ref (o 1), .ref (o 2), .long f_all]))
abbrev oX6 (o : Nat → Nat) (f_parts : Int32) (f_figuresDue : Int32) (f_place : Int32) (f_bandDue : Int32) : Nat × va_E := (o 0, .inr (6, [.ref (o 1), .int f_parts, .int f_figuresDue, .int f_place, .int f_bandDue]))
abbrev oX7 (o : Nat → Nat) (f_length : Int32) (f_lead : Int32) : Nat × va_E := (o 0, .inr (7, [.ref (o 1), .ref (o 2), .int f_length, .int f_lead]))
abbrev oX8 (o : Nat → Nat) (f_entries : Int32) (f_due : Int32) (f_roundAhead : Int32) (f_tens : Int32) (f_roundNow : Int32) (f_bandAhead : Int32) : Nat × va_E := (o 0, .inr (8, [.ref (o 1), .int f_entries, .int f_due, .int f_roundAhead, .int f_tens, .int f_roundNow, .int f_bandAhead]))
abbrev oX9 (o : Nat → Nat) (f_length : Int32) : Nat × va_E := (o 0, .inr (9, [.ref (o 1), .int f_length]))
abbrev oX10 (x t9 t6 t8 t3 t7 t1 t0 t4 t5 t2 : Nat → Nat) : Nat × va_E := (x 0, .inr (10, [.ref (t9 0), .ref (t6 0), .ref (t8 0), .ref (t3 0), .ref (t7 0), .ref (t1 0), .ref (t0 0), .ref (t4 0), .ref (t5 0), .ref (t2 0), .ref (x 1)]))
abbrev oX11 (o : Nat → Nat) (f_length : Int32) (f_at : Int32) (f_faultAt : Int32) (f_parts : Int32) (f_entries : Int32) (f_ringEarth : Int32) (f_lead : Int32) (f_ring : Int32) (f_jumpMany : Int32) (f_curveEnd : Int32) (f_beds : Int32) (f_all : Int64) : Nat × va_E := (o 0, .inr (11, [.ref (o 1), .ref (o 2), .ref (o 3), .int f_length, .int f_at, .int f_faultAt, .int f_parts, .ref (o 4), .ref (o 5), .int f_entries, .ref (o 6), .ref (o 7), .ref (o 8), .int f_ringEarth, .int f_lead, .int f_ring, .ref (o 9), .int f_jumpMany, .int f_curveEnd, .int f_beds, .ref (o 10), .ref (o 11), .long f_all, .ref (o 12), .ref (o 13), .ref (o 14), .ref (o 15), .ref (o 16), .ref (o 17)]))
def f_X10_within (a0 : Int32) (a1 : Int32) (a2 : Int32) : Option (Int32) :=
  (if a0 < a1 then some (0 : Int32) else (if a2 < a0 then some (0 : Int32) else some (1 : Int32)))
def f_X10_isStory (a0 : Int32) : Option (Int32) :=
  (f_X10_within a0 (0 : Int32) (3 : Int32)).bind (fun q1 => zb q1 (some q1))
def f_X10_isRound (a0 : Int32) : Option (Int32) :=
  (f_X10_within a0 (0 : Int32) (99 : Int32)).bind (fun q1 => zb q1 (some q1))
def f_X0_tell (o_ice : Nat → Int32) (a1 : Int32) (a2 : Int32) (a3 : Int32) : Option ((Nat → Int32)) :=
  (f_X10_isStory a1).bind (fun q1 => (if q1 = (0 : Int32) then some o_ice else (f_X10_isRound a2).bind (fun q4 => (if q4 = (0 : Int32) then some o_ice else gd ((a1 * (100 : Int32)) + a2) 400 (some (upd o_ice ((a1 * (100 : Int32)) + a2).toNatClampNeg a3))))))
def f_X0_iceOf (o_ice : Nat → Int32) (a1 : Int32) (a2 : Int32) : Option (Int32) :=
  (f_X10_isStory a1).bind (fun q1 => (if q1 = (0 : Int32) then some (0 : Int32) else (f_X10_isRound a2).bind (fun q4 => (if q4 = (0 : Int32) then some (0 : Int32) else gd ((a1 * (100 : Int32)) + a2) 400 (some (o_ice ((a1 * (100 : Int32)) + a2).toNatClampNeg))))))
def f_X0_someIce_x30_1 (v4 : Int32) : Option (Int32) :=
  some v4
def f_X0_someIce_b6 (o_ice : Nat → Int32) (a1 : Int32) (a3 : Int32) (v4 : Int32) (v5 : Int32) : Option ((Int32 × Int32) ⊕ (Int32)) :=
  (if a3 < v5 then some (.inr v4) else (f_X0_iceOf o_ice a1 v5).bind (fun q4 => some (.inl ((v4 ||| q4), (v5 + (1 : Int32))))))
def f_X0_someIce (o_ice : Nat → Int32) (a1 : Int32) (a2 : Int32) (a3 : Int32) : Option (Int32) :=
  (lpM (σ := Int32 × Int32) (ρ := Int32) (fun st => f_X0_someIce_b6 o_ice a1 a3 st.1 st.2) FU ((0 : Int32), a2)).bind (fun sx => f_X0_someIce_x30_1 sx)
def f_X0_lastingIce_x31_1 (v4 : Int32) : Option (Int32) :=
  some v4
def f_X0_lastingIce_b7 (o_ice : Nat → Int32) (a1 : Int32) (a3 : Int32) (v4 : Int32) (v5 : Int32) : Option ((Int32 × Int32) ⊕ (Int32)) :=
  (if a3 < v5 then some (.inr v4) else (f_X0_iceOf o_ice a1 v5).bind (fun q4 => some (.inl ((v4 &&& q4), (v5 + (1 : Int32))))))
def f_X0_lastingIce (o_ice : Nat → Int32) (a1 : Int32) (a2 : Int32) (a3 : Int32) : Option (Int32) :=
  (lpM (σ := Int32 × Int32) (ρ := Int32) (fun st => f_X0_lastingIce_b7 o_ice a1 a3 st.1 st.2) FU ((63 : Int32), a2)).bind (fun sx => f_X0_lastingIce_x31_1 sx)
def f_X10_hasIce (a0 : Int32) (a1 : Int32) : Option (Int32) :=
  (if ((a0 >>> (a1 &&& (31 : Int32))) &&& (1 : Int32)) = (1 : Int32) then some (1 : Int32) else some (0 : Int32))
def f_X3_takenBy (o_law : Nat → Int32) (a1 : Int32) (a2 : Int32) : Option (Int32) :=
  (if a1 < (0 : Int32) then some (0 : Int32) else (if a1 < (6 : Int32) then gd a1 12 ((f_X10_hasIce a2 a1).bind (fun q5 => (if q5 = (0 : Int32) then some ((o_law a1.toNatClampNeg) * (10 : Int32)) else gd (6 : Int32) 12 (some ((o_law a1.toNatClampNeg) * ((10 : Int32) - (o_law (6 : Int32).toNatClampNeg))))))) else some (0 : Int32)))
def f_X3_fortyWarmth (o_law : Nat → Int32) (a1 : Int32) (a2 : Int32) (a3 : Int32) : Option (Int32) :=
  (some (if (a1 - (1 : Int32)) < (0 : Int32) then (0 : Int32) else (a1 - (1 : Int32)))).bind (fun u1 => (some (if (5 : Int32) < (a1 + (1 : Int32)) then (5 : Int32) else (a1 + (1 : Int32)))).bind (fun u2 => (f_X3_takenBy o_law a1 a2).bind (fun q3 => (f_X3_takenBy o_law u1 a2).bind (fun q4 => (f_X3_takenBy o_law u2 a2).bind (fun q5 => gd (7 : Int32) 12 (some (((((2 : Int32) * q3) + q4) + q5) + (((40 : Int32) * (o_law (7 : Int32).toNatClampNeg)) * a3))))))))
def f_X3_iceAfter_x85_5 (v5 : Int32) : Option (Int32) :=
  some v5
def f_X3_iceAfter_j70 (v5 : Int32) (v6 : Int32) : Option ((Int32 × Int32) ⊕ (Int32)) :=
  (some (v5 ||| ((1 : Int32) <<< (v6 &&& (31 : Int32))))).bind (fun u7 => some (.inl (u7, (v6 + (1 : Int32)))))
def f_X3_iceAfter_b31 (o_law : Nat → Int32) (a1 : Int32) (a2 : Int32) (u2 : Int32) (u4 : Int32) (v5 : Int32) (v6 : Int32) : Option ((Int32 × Int32) ⊕ (Int32)) :=
  (if (6 : Int32) ≤ v6 then some (.inr v5) else (f_X3_fortyWarmth o_law v6 a1 a2).bind (fun q9 => (if q9 < u2 then f_X3_iceAfter_j70 v5 v6 else (if u4 ≤ q9 then some (.inl (v5, (v6 + (1 : Int32)))) else (f_X10_hasIce a1 v6).bind (fun q12 => (if q12 = (0 : Int32) then some (.inl (v5, (v6 + (1 : Int32)))) else f_X3_iceAfter_j70 v5 v6))))))
def f_X3_iceAfter (o_law : Nat → Int32) (a1 : Int32) (a2 : Int32) : Option (Int32) :=
  gd (8 : Int32) 12 ((some ((40 : Int32) * (o_law (8 : Int32).toNatClampNeg))).bind (fun u2 => gd (9 : Int32) 12 ((some (u2 + ((40 : Int32) * (o_law (9 : Int32).toNatClampNeg)))).bind (fun u4 => (lpM (σ := Int32 × Int32) (ρ := Int32) (fun st => f_X3_iceAfter_b31 o_law a1 a2 u2 u4 st.1 st.2) FU ((0 : Int32), (0 : Int32))).bind (fun sx => f_X3_iceAfter_x85_5 sx)))))
def f_X3_settled_x37_1 : Option (Int32) :=
  some (-9 : Int32)
def f_X3_settled_b5 (o_law : Nat → Int32) (a2 : Int32) (v3 : Int32) (v4 : Int32) : Option ((Int32 × Int32) ⊕ ((Unit) ⊕ (Int32))) :=
  (if (63 : Int32) < v4 then some (.inr (.inl ())) else (f_X3_iceAfter o_law v3 a2).bind (fun q4 => (if q4 = v3 then some (.inr (.inr v3)) else some (.inl (q4, (v4 + (1 : Int32)))))))
def f_X3_settled (o_law : Nat → Int32) (a1 : Int32) (a2 : Int32) : Option (Int32) :=
  (lpM (σ := Int32 × Int32) (ρ := (Unit) ⊕ (Int32)) (fun st => f_X3_settled_b5 o_law a2 st.1 st.2) FU (a1, (0 : Int32))).bind (fun so => Sum.elim (fun sx => f_X3_settled_x37_1) (fun r => some r) so)
def f_J6_bitCount_0f7a4 (a0 : Int32) : Option (Int32) :=
  (some (a0 - (((a0.toUInt32 >>> ((1 : Int32).toUInt32 &&& Int32.toUInt32 31)).toInt32) &&& (1431655765 : Int32)))).bind (fun u1 => (some ((u1 &&& (858993459 : Int32)) + (((u1.toUInt32 >>> ((2 : Int32).toUInt32 &&& Int32.toUInt32 31)).toInt32) &&& (858993459 : Int32)))).bind (fun u2 => (some ((u2 + ((u2.toUInt32 >>> ((4 : Int32).toUInt32 &&& Int32.toUInt32 31)).toInt32)) &&& (252645135 : Int32))).bind (fun u3 => (some (u3 + ((u3.toUInt32 >>> ((8 : Int32).toUInt32 &&& Int32.toUInt32 31)).toInt32))).bind (fun u4 => (some (u4 + ((u4.toUInt32 >>> ((16 : Int32).toUInt32 &&& Int32.toUInt32 31)).toInt32))).bind (fun u5 => some (u5 &&& (63 : Int32)))))))
def f_X1_isJump (a0 : Int32) (a1 : Int32) : Option (Int32) :=
  (f_J6_bitCount_0f7a4 a0).bind (fun q1 => (f_J6_bitCount_0f7a4 a1).bind (fun q2 => (if (if (0 : Int32) ≤ (q1 - q2) then (q1 - q2) else (0 : Int32) - (q1 - q2)) < (2 : Int32) then some (0 : Int32) else some (1 : Int32))))
def f_X1_add (o_airs : Nat → Int32) (o_found : Int32) (a1 : Int32) : Option ((Nat → Int32) × Int32) :=
  (if (100 : Int32) ≤ o_found then some (o_airs, o_found) else gd o_found 100 (some ((upd o_airs o_found.toNatClampNeg a1), (o_found + (1 : Int32)))))
def f_X1_follow_x110_2 (o_airs : Nat → Int32) (o_found : Int32) (o_end : Int32) : Option ((Nat → Int32) × Int32 × Int32) :=
  some (o_airs, o_found, o_end)
def f_X1_follow_j98 (v7 : Int32) (v8 : Int32) (o_airs : Nat → Int32) (o_found : Int32) : Option ((Int32 × (Nat → Int32) × Int32 × Int32) ⊕ ((Nat → Int32) × Int32 × Int32)) :=
  some (.inl ((v7 + (1 : Int32)), o_airs, o_found, v8))
def f_X1_follow_b35 (p1_law : Nat → Int32) (a3 : Int32) (k0 : Int32) (u1 : Int32) (v7 : Int32) (o_airs : Nat → Int32) (o_found : Int32) (o_end : Int32) : Option ((Int32 × (Nat → Int32) × Int32 × Int32) ⊕ ((Nat → Int32) × Int32 × Int32)) :=
  (if u1 < v7 then some (.inr (o_airs, o_found, o_end)) else (if o_end = (-9 : Int32) then some (.inr (o_airs, o_found, o_end)) else (f_X3_settled p1_law o_end (a3 + (k0 * v7))).bind (fun q6 => (if q6 = (-9 : Int32) then f_X1_follow_j98 v7 q6 o_airs o_found else (f_X1_isJump o_end q6).bind (fun q8 => (if q8 = (0 : Int32) then f_X1_follow_j98 v7 q6 o_airs o_found else (f_X1_add o_airs o_found (a3 + (k0 * v7))).bind (fun q10 => f_X1_follow_j98 v7 q6 q10.1 q10.2)))))))
def f_X1_follow_j11 (p1_law : Nat → Int32) (a2 : Int32) (a3 : Int32) (a4 : Int32) (k0 : Int32) (o_airs : Nat → Int32) : Option ((Nat → Int32) × Int32 × Int32) :=
  (some (if (0 : Int32) ≤ (a4 - a3) then (a4 - a3) else (0 : Int32) - (a4 - a3))).bind (fun u1 => (lpM (σ := Int32 × (Nat → Int32) × Int32 × Int32) (ρ := (Nat → Int32) × Int32 × Int32) (fun st => f_X1_follow_b35 p1_law a3 k0 u1 st.1 st.2.1 st.2.2.1 st.2.2.2) FU ((0 : Int32), o_airs, (0 : Int32), a2)).bind (fun sx => f_X1_follow_x110_2 sx.1 sx.2.1 sx.2.2))
def f_X1_follow (o_airs : Nat → Int32) (p1_law : Nat → Int32) (a2 : Int32) (a3 : Int32) (a4 : Int32) : Option ((Nat → Int32) × Int32 × Int32) :=
  (if a3 ≤ a4 then f_X1_follow_j11 p1_law a2 a3 a4 (1 : Int32) o_airs else f_X1_follow_j11 p1_law a2 a3 a4 (-1 : Int32) o_airs)
def f_X1_airOf (o_airs : Nat → Int32) (o_found : Int32) (a1 : Int32) : Option (Int32) :=
  (f_X10_within a1 (0 : Int32) (o_found - (1 : Int32))).bind (fun q1 => (if q1 = (0 : Int32) then some (-9 : Int32) else gd a1 100 (some (o_airs a1.toNatClampNeg))))
def f_X4_markOf_j24 (o_marks : Nat → Int32) (a1 : Int32) (a2 : Int32) (k0 : Int32) : Option (Int32) :=
  (if k0 = (0 : Int32) then some (0 : Int32) else gd ((a1 * (6 : Int32)) + a2) 48 (some (o_marks ((a1 * (6 : Int32)) + a2).toNatClampNeg)))
def f_X4_markOf_j23 (o_marks : Nat → Int32) (a1 : Int32) (a2 : Int32) : Option (Int32) :=
  f_X4_markOf_j24 o_marks a1 a2 (0 : Int32)
def f_X4_markOf (o_marks : Nat → Int32) (a1 : Int32) (a2 : Int32) : Option (Int32) :=
  (f_X10_within a1 (0 : Int32) (7 : Int32)).bind (fun q5 => (if q5 = (0 : Int32) then f_X4_markOf_j23 o_marks a1 a2 else (f_X10_within a2 (0 : Int32) (5 : Int32)).bind (fun q7 => (if q7 = (0 : Int32) then f_X4_markOf_j23 o_marks a1 a2 else f_X4_markOf_j24 o_marks a1 a2 (1 : Int32)))))
def f_X4_hasSign (o_marks : Nat → Int32) (a1 : Int32) (a2 : Int32) : Option (Int32) :=
  (f_X4_markOf o_marks a1 (1 : Int32)).bind (fun q1 => (if (q1 &&& a2) = (0 : Int32) then some (0 : Int32) else some (1 : Int32)))
def f_X4_isIcy (o_marks : Nat → Int32) (a1 : Int32) : Option (Int32) :=
  (f_X4_hasSign o_marks a1 (3 : Int32)).bind (fun q1 => zb q1 (some q1))
def f_X2_firstCommonRound_x52_1 (v1 : Int32) (v2 : Int32) : Option (Int32) :=
  (if v2 < v1 then some (-9 : Int32) else some v1)
def f_X2_firstCommonRound_b8 (p0_marks : Nat → Int32) (p0_beds : Int32) (v1 : Int32) (v2 : Int32) (v3 : Int32) : Option ((Int32 × Int32 × Int32) ⊕ (Int32 × Int32)) :=
  (if p0_beds ≤ v3 then some (.inr (v1, v2)) else (f_X4_isIcy p0_marks v3).bind (fun q6 => (if q6 = (0 : Int32) then some (.inl (v1, v2, (v3 + (1 : Int32)))) else (f_X4_markOf p0_marks v3 (2 : Int32)).bind (fun q8 => (f_X4_markOf p0_marks v3 (3 : Int32)).bind (fun q9 => some (.inl ((if v1 < q8 then q8 else v1), (if q9 < v2 then q9 else v2), (v3 + (1 : Int32)))))))))
def f_X2_firstCommonRound (p0_marks : Nat → Int32) (p0_beds : Int32) : Option (Int32) :=
  (lpM (σ := Int32 × Int32 × Int32) (ρ := Int32 × Int32) (fun st => f_X2_firstCommonRound_b8 p0_marks p0_beds st.1 st.2.1 st.2.2) FU ((-9 : Int32), (100 : Int32), (0 : Int32))).bind (fun sx => f_X2_firstCommonRound_x52_1 sx.1 sx.2)
def f_X2_firstEndBehind_x72_1 (v2 : Int32) : Option (Int32) :=
  some v2
def f_X2_firstEndBehind_j44 (v2 : Int32) (v3 : Int32) (v4 : Int32) (k0 : Int32) : Option ((Int32 × Int32) ⊕ (Int32)) :=
  (if k0 = (0 : Int32) then some (.inl (v2, (v3 + (1 : Int32)))) else (if v2 = (-9 : Int32) then some (.inl (v4, (v3 + (1 : Int32)))) else (if v2 ≤ v4 then some (.inl (v2, (v3 + (1 : Int32)))) else some (.inl (v4, (v3 + (1 : Int32)))))))
def f_X2_firstEndBehind_j43 (v2 : Int32) (v3 : Int32) (v4 : Int32) : Option ((Int32 × Int32) ⊕ (Int32)) :=
  f_X2_firstEndBehind_j44 v2 v3 v4 (0 : Int32)
def f_X2_firstEndBehind_b5 (p0_marks : Nat → Int32) (p0_beds : Int32) (a1 : Int32) (v2 : Int32) (v3 : Int32) : Option ((Int32 × Int32) ⊕ (Int32)) :=
  (if p0_beds ≤ v3 then some (.inr v2) else (f_X4_markOf p0_marks v3 (3 : Int32)).bind (fun q7 => (f_X4_isIcy p0_marks v3).bind (fun q8 => (if q8 = (0 : Int32) then f_X2_firstEndBehind_j43 v2 v3 q7 else (f_X4_markOf p0_marks v3 (2 : Int32)).bind (fun q10 => (if q10 ≤ a1 then f_X2_firstEndBehind_j43 v2 v3 q7 else f_X2_firstEndBehind_j44 v2 v3 q7 (1 : Int32)))))))
def f_X2_firstEndBehind (p0_marks : Nat → Int32) (p0_beds : Int32) (a1 : Int32) : Option (Int32) :=
  (lpM (σ := Int32 × Int32) (ρ := Int32) (fun st => f_X2_firstEndBehind_b5 p0_marks p0_beds a1 st.1 st.2) FU ((-9 : Int32), (0 : Int32))).bind (fun sx => f_X2_firstEndBehind_x72_1 sx)
def f_X2_part_x62_1 (o_rounds : Nat → Int32) (o_found : Int32) : Option ((Nat → Int32) × Int32) :=
  some (o_rounds, o_found)
def f_X2_part_b9 (p1_marks : Nat → Int32) (p1_beds : Int32) (v2 : Int32) (v3 : Int32) (o_rounds : Nat → Int32) (o_found : Int32) : Option ((Int32 × Int32 × (Nat → Int32) × Int32) ⊕ ((Nat → Int32) × Int32)) :=
  (if (8 : Int32) ≤ v3 then some (.inr (o_rounds, o_found)) else (f_X2_firstEndBehind p1_marks p1_beds v2).bind (fun q4 => (if q4 = (-9 : Int32) then some (.inr (o_rounds, o_found)) else gd o_found 8 (some (.inl (q4, (v3 + (1 : Int32)), (upd o_rounds o_found.toNatClampNeg q4), (o_found + (1 : Int32))))))))
def f_X2_part (o_rounds : Nat → Int32) (p1_marks : Nat → Int32) (p1_beds : Int32) : Option ((Nat → Int32) × Int32) :=
  (lpM (σ := Int32 × Int32 × (Nat → Int32) × Int32) (ρ := (Nat → Int32) × Int32) (fun st => f_X2_part_b9 p1_marks p1_beds st.1 st.2.1 st.2.2.1 st.2.2.2) FU ((-1 : Int32), (0 : Int32), o_rounds, (0 : Int32))).bind (fun sx => f_X2_part_x62_1 sx.1 sx.2)
def f_X2_roundOf (o_rounds : Nat → Int32) (o_found : Int32) (a1 : Int32) : Option (Int32) :=
  (f_X10_within a1 (0 : Int32) (o_found - (1 : Int32))).bind (fun q1 => (if q1 = (0 : Int32) then some (-9 : Int32) else gd a1 8 (some (o_rounds a1.toNatClampNeg))))
def f_X4_liesIn (o_marks : Nat → Int32) (a1 : Int32) (a2 : Int32) : Option (Int32) :=
  (f_X4_markOf o_marks a1 (0 : Int32)).bind (fun q1 => (if q1 = a2 then some (1 : Int32) else some (0 : Int32)))
def f_X2_isInOrder_x50_1 : Option (Int32) :=
  some (1 : Int32)
def f_X2_isInOrder_b4 (p0_marks : Nat → Int32) (p0_beds : Int32) (a1 : Int32) (v2 : Int32) (v3 : Int32) : Option ((Int32 × Int32) ⊕ ((Unit) ⊕ (Int32))) :=
  (if p0_beds ≤ v3 then some (.inr (.inl ())) else (f_X4_liesIn p0_marks v3 a1).bind (fun q4 => (if q4 = (0 : Int32) then some (.inl (v2, (v3 + (1 : Int32)))) else (f_X4_markOf p0_marks v3 (2 : Int32)).bind (fun q6 => (f_X4_markOf p0_marks v3 (3 : Int32)).bind (fun q7 => (if (if v2 < q6 then q6 else v2) ≤ q7 then some (.inl ((if v2 < q6 then q6 else v2), (v3 + (1 : Int32)))) else some (.inr (.inr (0 : Int32)))))))))
def f_X2_isInOrder (p0_marks : Nat → Int32) (p0_beds : Int32) (a1 : Int32) : Option (Int32) :=
  (lpM (σ := Int32 × Int32) (ρ := (Unit) ⊕ (Int32)) (fun st => f_X2_isInOrder_b4 p0_marks p0_beds a1 st.1 st.2) FU ((0 : Int32), (0 : Int32))).bind (fun so => Sum.elim (fun sx => f_X2_isInOrder_x50_1) (fun r => some r) so)
def f_X2_earliestBelow_x40_1 (v3 : Int32) : Option (Int32) :=
  some v3
def f_X2_earliestBelow_b6 (p0_marks : Nat → Int32) (a1 : Int32) (a2 : Int32) (v3 : Int32) (v4 : Int32) : Option ((Int32 × Int32) ⊕ (Int32)) :=
  (if a2 ≤ v4 then some (.inr v3) else (f_X4_liesIn p0_marks v4 a1).bind (fun q4 => (if q4 = (0 : Int32) then some (.inl (v3, (v4 + (1 : Int32)))) else (f_X4_markOf p0_marks v4 (2 : Int32)).bind (fun q6 => some (.inl ((if v3 < q6 then q6 else v3), (v4 + (1 : Int32))))))))
def f_X2_earliestBelow (p0_marks : Nat → Int32) (a1 : Int32) (a2 : Int32) : Option (Int32) :=
  (lpM (σ := Int32 × Int32) (ρ := Int32) (fun st => f_X2_earliestBelow_b6 p0_marks a1 a2 st.1 st.2) FU ((-9 : Int32), (0 : Int32))).bind (fun sx => f_X2_earliestBelow_x40_1 sx)
def f_X2_latestFrom_x43_1 (v3 : Int32) : Option (Int32) :=
  some v3
def f_X2_latestFrom_b6 (p0_marks : Nat → Int32) (p0_beds : Int32) (a1 : Int32) (v3 : Int32) (v4 : Int32) : Option ((Int32 × Int32) ⊕ (Int32)) :=
  (if p0_beds ≤ v4 then some (.inr v3) else (f_X4_liesIn p0_marks v4 a1).bind (fun q4 => (if q4 = (0 : Int32) then some (.inl (v3, (v4 + (1 : Int32)))) else (f_X4_markOf p0_marks v4 (3 : Int32)).bind (fun q6 => some (.inl ((if q6 < v3 then q6 else v3), (v4 + (1 : Int32))))))))
def f_X2_latestFrom (p0_marks : Nat → Int32) (p0_beds : Int32) (a1 : Int32) (a2 : Int32) : Option (Int32) :=
  (lpM (σ := Int32 × Int32) (ρ := Int32) (fun st => f_X2_latestFrom_b6 p0_marks p0_beds a1 st.1 st.2) FU ((99 : Int32), a2)).bind (fun sx => f_X2_latestFrom_x43_1 sx)
def f_X3_stateOf (a0 : Int32) (a1 : Int32) : Option (Int32) :=
  some (((100 : Int32) * a0) + a1)
def f_X3_iceIn (a0 : Int32) : Option (Int32) :=
  dz (100 : Int32) (some (a0 / (100 : Int32)))
def f_X3_airIn (a0 : Int32) : Option (Int32) :=
  dz (100 : Int32) (some (a0 - a0 / (100 : Int32) * (100 : Int32)))
def f_X3_airAfter (o_law : Nat → Int32) (a1 : Int32) (a2 : Int32) : Option (Int32) :=
  (f_J6_bitCount_0f7a4 a1).bind (fun q1 => gd (10 : Int32) 12 (gd (11 : Int32) 12 ((some ((a2 + (o_law (10 : Int32).toNatClampNeg)) - ((o_law (11 : Int32).toNatClampNeg) * ((6 : Int32) - q1)))).bind (fun u4 => some (if (0 : Int32) < (if u4 < (99 : Int32) then u4 else (99 : Int32)) then (if u4 < (99 : Int32) then u4 else (99 : Int32)) else (0 : Int32))))))
def f_X3_stateAfter (o_law : Nat → Int32) (a1 : Int32) : Option (Int32) :=
  (f_X3_iceIn a1).bind (fun q1 => (f_X3_airIn a1).bind (fun q2 => (f_X3_iceAfter o_law q1 q2).bind (fun q3 => (f_X3_airAfter o_law q1 q2).bind (fun q4 => (f_X3_stateOf q3 q4).bind (fun q5 => some q5)))))
def f_X3_isRest (o_law : Nat → Int32) (a1 : Int32) (a2 : Int32) : Option (Int32) :=
  (f_X3_iceAfter o_law a1 a2).bind (fun q1 => (if q1 = a1 then some (1 : Int32) else some (0 : Int32)))
def f_X4_mark (o_marks : Nat → Int32) (a1 : Int32) (a2 : Int32) (a3 : Int32) : Option ((Nat → Int32)) :=
  (f_X10_within a1 (0 : Int32) (7 : Int32)).bind (fun q1 => (if q1 = (0 : Int32) then some o_marks else (f_X10_within a2 (0 : Int32) (5 : Int32)).bind (fun q4 => (if q4 = (0 : Int32) then some o_marks else gd ((a1 * (6 : Int32)) + a2) 48 (some (upd o_marks ((a1 * (6 : Int32)) + a2).toNatClampNeg a3))))))
def f_X4_slideTenths_j29 (o_marks : Nat → Int32) (a1 : Int32) (v2 : Int32) : Option (Int32) :=
  (f_X4_hasSign o_marks a1 (4 : Int32)).bind (fun q1 => (if q1 = (0 : Int32) then some v2 else some (v2 + (-1 : Int32))))
def f_X4_slideTenths_j16 (o_marks : Nat → Int32) (a1 : Int32) (k0 : Int32) : Option (Int32) :=
  (f_X4_hasSign o_marks a1 (2 : Int32)).bind (fun q5 => (if q5 = (0 : Int32) then f_X4_slideTenths_j29 o_marks a1 k0 else f_X4_slideTenths_j29 o_marks a1 (k0 + (-1 : Int32))))
def f_X4_slideTenths (o_marks : Nat → Int32) (a1 : Int32) : Option (Int32) :=
  (f_X4_hasSign o_marks a1 (8 : Int32)).bind (fun q7 => (if q7 = (0 : Int32) then f_X4_slideTenths_j16 o_marks a1 (2 : Int32) else f_X4_slideTenths_j16 o_marks a1 (6 : Int32)))
def f_X4_icyBeds_x29_1 (v1 : Int32) : Option (Int32) :=
  some v1
def f_X4_icyBeds_b4 (o_marks : Nat → Int32) (o_beds : Int32) (v1 : Int32) (v2 : Int32) : Option ((Int32 × Int32) ⊕ (Int32)) :=
  (if o_beds ≤ v2 then some (.inr v1) else (f_X4_isIcy o_marks v2).bind (fun q4 => (if q4 = (0 : Int32) then some (.inl (v1, (v2 + (1 : Int32)))) else some (.inl ((v1 + (1 : Int32)), (v2 + (1 : Int32)))))))
def f_X4_icyBeds (o_marks : Nat → Int32) (o_beds : Int32) : Option (Int32) :=
  (lpM (σ := Int32 × Int32) (ρ := Int32) (fun st => f_X4_icyBeds_b4 o_marks o_beds st.1 st.2) FU ((0 : Int32), (0 : Int32))).bind (fun sx => f_X4_icyBeds_x29_1 sx)
def f_X4_weightsTogether_x24_1 (v1 : Int32) : Option (Int32) :=
  some v1
def f_X4_weightsTogether_b4 (o_weights : Nat → Int32) (v1 : Int32) (v2 : Int32) : Option ((Int32 × Int32) ⊕ (Int32)) :=
  (if (4 : Int32) ≤ v2 then some (.inr v1) else gd v2 4 (some (.inl ((v1 + (o_weights v2.toNatClampNeg)), (v2 + (1 : Int32))))))
def f_X4_weightsTogether (o_weights : Nat → Int32) : Option (Int32) :=
  (lpM (σ := Int32 × Int32) (ρ := Int32) (fun st => f_X4_weightsTogether_b4 o_weights st.1 st.2) FU ((0 : Int32), (0 : Int32))).bind (fun sx => f_X4_weightsTogether_x24_1 sx)
def f_X4_copyFrom (o_marks : Nat → Int32) (o_weights : Nat → Int32) (p1_marks : Nat → Int32) (p1_weights : Nat → Int32) (p1_beds : Int32) : Option ((Nat → Int32) × (Nat → Int32) × Int32) :=
  some ((va_cpy p1_marks o_marks (0 : Int32).toNatClampNeg (0 : Int32).toNatClampNeg (48 : Int32).toNatClampNeg), (va_cpy p1_weights o_weights (0 : Int32).toNatClampNeg (0 : Int32).toNatClampNeg (4 : Int32).toNatClampNeg), p1_beds)
def f_X5_hundredths_j117 (v7 : Int32) (v8 : Int32) (v9 : Int32) (k0 : Int32) (k1 : Int32) : Option (Int32) :=
  (if v8 = (0 : Int32) then some ((k0 * k1) + (((10 : Int32) - v7) * v9)) else some ((k0 * k1) + (((10 : Int32) - v7) * (10 : Int32))))
def f_X5_hundredths_j69 (v7 : Int32) (k0 : Int32) (k1 : Int32) : Option (Int32) :=
  some ((k0 * k1) + (((10 : Int32) - v7) * (10 : Int32)))
def f_X5_hundredths (p0_ice : Nat → Int32) (p1_marks : Nat → Int32) (a2 : Int32) (a3 : Int32) : Option (Int32) :=
  (f_X4_markOf p1_marks a3 (2 : Int32)).bind (fun q5 => (f_X4_markOf p1_marks a3 (3 : Int32)).bind (fun q6 => (f_X4_markOf p1_marks a3 (4 : Int32)).bind (fun q7 => (f_X4_markOf p1_marks a3 (5 : Int32)).bind (fun q8 => (f_X4_isIcy p1_marks a3).bind (fun q9 => (if q9 = (0 : Int32) then (f_X0_lastingIce p0_ice a2 q5 q6).bind (fun q15 => (f_X10_hasIce q15 q7).bind (fun q16 => (if q16 = (0 : Int32) then f_X5_hundredths_j69 q8 q8 (10 : Int32) else f_X5_hundredths_j69 q8 q8 (5 : Int32)))) else (f_X0_someIce p0_ice a2 q5 q6).bind (fun q11 => (f_X4_slideTenths p1_marks a3).bind (fun q12 => (f_X10_hasIce q11 q7).bind (fun q13 => (if q13 = (0 : Int32) then f_X5_hundredths_j117 q8 q11 q12 q8 q12 else f_X5_hundredths_j117 q8 q11 q12 q8 (10 : Int32)))))))))))
def f_X5_explainedBy_x78_1 (v4 : Int32) : Option (Int32) :=
  some v4
def f_X5_explainedBy_b6 (p0_ice : Nat → Int32) (p1_marks : Nat → Int32) (p1_beds : Int32) (a2 : Int32) (a3 : Int32) (v4 : Int32) (v5 : Int32) : Option ((Int32 × Int32) ⊕ (Int32)) :=
  (if p1_beds ≤ v5 then some (.inr v4) else (f_X4_markOf p1_marks v5 (2 : Int32)).bind (fun q4 => (f_X4_markOf p1_marks v5 (3 : Int32)).bind (fun q5 => (f_X0_someIce p0_ice a2 q4 q5).bind (fun q6 => (f_X4_markOf p1_marks v5 (4 : Int32)).bind (fun q7 => (some (if (0 : Int32) ≤ (q7 - a3) then (q7 - a3) else (0 : Int32) - (q7 - a3))).bind (fun u8 => (f_X4_isIcy p1_marks v5).bind (fun q9 => (if q9 = (0 : Int32) then some (.inl (v4, (v5 + (1 : Int32)))) else (f_X10_hasIce q6 u8).bind (fun q11 => (if q11 = (0 : Int32) then some (.inl (v4, (v5 + (1 : Int32)))) else some (.inl ((v4 + (1 : Int32)), (v5 + (1 : Int32))))))))))))))
def f_X5_explainedBy (p0_ice : Nat → Int32) (p1_marks : Nat → Int32) (p1_beds : Int32) (a2 : Int32) (a3 : Int32) : Option (Int32) :=
  (lpM (σ := Int32 × Int32) (ρ := Int32) (fun st => f_X5_explainedBy_b6 p0_ice p1_marks p1_beds a2 a3 st.1 st.2) FU ((0 : Int32), (0 : Int32))).bind (fun sx => f_X5_explainedBy_x78_1 sx)
def f_X5_weighWithout_x95_1 (o_shares : Nat → Int64) (o_all : Int64) : Option ((Nat → Int64) × Int64) :=
  some (o_shares, o_all)
def f_X5_weighWithout_x70_5 (v3 : Int32) (o_shares : Nat → Int64) (o_all : Int64) (v4 : Int64) : Option ((Int32 × (Nat → Int64) × Int64) ⊕ ((Nat → Int64) × Int64)) :=
  gd v3 4 (some (.inl ((v3 + (1 : Int32)), (vp_updL o_shares v3.toNatClampNeg v4), (o_all + v4))))
def f_X5_weighWithout_b24 (o_chances : Nat → Int32) (p1_beds : Int32) (a2 : Int32) (v3 : Int32) (v4 : Int64) (v6 : Int32) : Option ((Int64 × Int32) ⊕ (Int64)) :=
  (if p1_beds ≤ v6 then some (.inr v4) else (if (8 : Int32) ≤ v6 then some (.inr v4) else (if v6 = a2 then some (.inl (v4, (v6 + (1 : Int32)))) else gd ((v3 * (8 : Int32)) + v6) 32 ((some (v4 * ((o_chances ((v3 * (8 : Int32)) + v6).toNatClampNeg).toInt64))).bind (fun u11 => some (.inl (u11, (v6 + (1 : Int32)))))))))
def f_X5_weighWithout_b7 (o_chances : Nat → Int32) (p1_weights : Nat → Int32) (p1_beds : Int32) (a2 : Int32) (v3 : Int32) (o_shares : Nat → Int64) (o_all : Int64) : Option ((Int32 × (Nat → Int64) × Int64) ⊕ ((Nat → Int64) × Int64)) :=
  (if (4 : Int32) ≤ v3 then some (.inr (o_shares, o_all)) else gd v3 4 ((lpM (σ := Int64 × Int32) (ρ := Int64) (fun st => f_X5_weighWithout_b24 o_chances p1_beds a2 v3 st.1 st.2) FU (((p1_weights v3.toNatClampNeg).toInt64), (0 : Int32))).bind (fun sx => f_X5_weighWithout_x70_5 v3 o_shares o_all sx)))
def f_X5_weighWithout (o_shares : Nat → Int64) (o_chances : Nat → Int32) (p1_weights : Nat → Int32) (p1_beds : Int32) (a2 : Int32) : Option ((Nat → Int64) × Int64) :=
  (lpM (σ := Int32 × (Nat → Int64) × Int64) (ρ := (Nat → Int64) × Int64) (fun st => f_X5_weighWithout_b7 o_chances p1_weights p1_beds a2 st.1 st.2.1 st.2.2) FU ((0 : Int32), o_shares, (0 : Int64))).bind (fun sx => f_X5_weighWithout_x95_1 sx.1 sx.2)
def f_X5_weigh_x58_1 (o_shares : Nat → Int64) (p2_weights : Nat → Int32) (p2_beds : Int32) (o_chances : Nat → Int32) : Option ((Nat → Int64) × (Nat → Int32) × Int64) :=
  (f_X5_weighWithout o_shares o_chances p2_weights p2_beds (-9 : Int32)).bind (fun q2 => some (q2.1, o_chances, q2.2))
def f_X5_weigh_x52_5 (v3 : Int32) (o_chances : Nat → Int32) : Option ((Int32 × (Nat → Int32)) ⊕ ((Nat → Int32))) :=
  some (.inl ((v3 + (1 : Int32)), o_chances))
def f_X5_weigh_b10 (p1_ice : Nat → Int32) (p2_marks : Nat → Int32) (p2_beds : Int32) (v3 : Int32) (v4 : Int32) (o_chances : Nat → Int32) : Option ((Int32 × (Nat → Int32)) ⊕ ((Nat → Int32))) :=
  (if p2_beds ≤ v4 then some (.inr o_chances) else (if (8 : Int32) ≤ v4 then some (.inr o_chances) else (f_X5_hundredths p1_ice p2_marks v3 v4).bind (fun q8 => gd ((v3 * (8 : Int32)) + v4) 32 (some (.inl ((v4 + (1 : Int32)), (upd o_chances ((v3 * (8 : Int32)) + v4).toNatClampNeg q8)))))))
def f_X5_weigh_b2 (p1_ice : Nat → Int32) (p2_marks : Nat → Int32) (p2_beds : Int32) (v3 : Int32) (o_chances : Nat → Int32) : Option ((Int32 × (Nat → Int32)) ⊕ ((Nat → Int32))) :=
  (if (4 : Int32) ≤ v3 then some (.inr o_chances) else (lpM (σ := Int32 × (Nat → Int32)) (ρ := (Nat → Int32)) (fun st => f_X5_weigh_b10 p1_ice p2_marks p2_beds v3 st.1 st.2) FU ((0 : Int32), o_chances)).bind (fun sx => f_X5_weigh_x52_5 v3 sx))
def f_X5_weigh (o_shares : Nat → Int64) (o_chances : Nat → Int32) (p1_ice : Nat → Int32) (p2_marks : Nat → Int32) (p2_weights : Nat → Int32) (p2_beds : Int32) : Option ((Nat → Int64) × (Nat → Int32) × Int64) :=
  (lpM (σ := Int32 × (Nat → Int32)) (ρ := (Nat → Int32)) (fun st => f_X5_weigh_b2 p1_ice p2_marks p2_beds st.1 st.2) FU ((0 : Int32), o_chances)).bind (fun sx => f_X5_weigh_x58_1 o_shares p2_weights p2_beds sx)
def f_X5_greatest_x33_1 (v1 : Int32) : Option (Int32) :=
  some v1
def f_X5_greatest_b4 (o_shares : Nat → Int64) (v1 : Int32) (v2 : Int32) : Option ((Int32 × Int32) ⊕ (Int32)) :=
  (if (4 : Int32) ≤ v2 then some (.inr v1) else gd v2 4 (gd v1 4 ((if (lg_cmp (o_shares v2.toNatClampNeg) (o_shares v1.toNatClampNeg)) ≤ (0 : Int32) then some (.inl (v1, (v2 + (1 : Int32)))) else some (.inl (v2, (v2 + (1 : Int32))))))))
def f_X5_greatest (o_shares : Nat → Int64) : Option (Int32) :=
  (lpM (σ := Int32 × Int32) (ρ := Int32) (fun st => f_X5_greatest_b4 o_shares st.1 st.2) FU ((0 : Int32), (1 : Int32))).bind (fun sx => f_X5_greatest_x33_1 sx)
def f_X5_millionths_x62_4 (v4 : Int32) : Option (Int32) :=
  some v4
def f_X5_millionths_b22 (a2 : Int64) (v4 : Int32) (v5 : Int64) (v7 : Int32) : Option ((Int32 × Int64 × Int32) ⊕ (Int32)) :=
  (if (6 : Int32) ≤ v7 then some (.inr v4) else dzL a2 ((some (((10 : Int32) * v4) + (((v5 * (10 : Int64)) / a2).toInt32))).bind (fun u8 => dzL a2 ((some ((v5 * (10 : Int64)) - (v5 * (10 : Int64)) / a2 * a2)).bind (fun u10 => some (.inl (u8, u10, (v7 + (1 : Int32)))))))))
def f_X5_millionths (a0 : Int64) (a2 : Int64) : Option (Int32) :=
  (if (0 : Int32) < (lg_cmp a2 (0 : Int64)) then dzL a2 (dzL a2 ((lpM (σ := Int32 × Int64 × Int32) (ρ := Int32) (fun st => f_X5_millionths_b22 a2 st.1 st.2.1 st.2.2) FU (((a0 / a2).toInt32), (a0 - a0 / a2 * a2), (0 : Int32))).bind (fun sx => f_X5_millionths_x62_4 sx))) else some (0 : Int32))
def f_X5_bedThatMovesMost_x86_4 (v4 : Int32) (o_shares : Nat → Int64) (o_all : Int64) : Option (Int32 × (Nat → Int64) × Int64) :=
  some (v4, o_shares, o_all)
def f_X5_bedThatMovesMost_b29 (o_chances : Nat → Int32) (p1_weights : Nat → Int32) (p1_beds : Int32) (q1 : Int32) (q3 : Int32) (v4 : Int32) (v5 : Int32) (v6 : Int32) (o_shares : Nat → Int64) (o_all : Int64) : Option ((Int32 × Int32 × Int32 × (Nat → Int64) × Int64) ⊕ (Int32 × (Nat → Int64) × Int64)) :=
  (if p1_beds ≤ v6 then some (.inr (v4, o_shares, o_all)) else (f_X5_weighWithout o_shares o_chances p1_weights p1_beds v6).bind (fun q7 => gd q1 4 ((f_X5_millionths (q7.1 q1.toNatClampNeg) q7.2).bind (fun q9 => (some (if (0 : Int32) ≤ (q9 - q3) then (q9 - q3) else (0 : Int32) - (q9 - q3))).bind (fun u10 => (if u10 ≤ v5 then some (.inl (v4, v5, (v6 + (1 : Int32)), q7.1, q7.2)) else some (.inl (v6, u10, (v6 + (1 : Int32)), q7.1, q7.2))))))))
def f_X5_bedThatMovesMost (o_shares : Nat → Int64) (o_chances : Nat → Int32) (o_all : Int64) (p1_weights : Nat → Int32) (p1_beds : Int32) : Option (Int32 × (Nat → Int64) × Int64) :=
  (f_X5_greatest o_shares).bind (fun q1 => gd q1 4 ((f_X5_millionths (o_shares q1.toNatClampNeg) o_all).bind (fun q3 => (lpM (σ := Int32 × Int32 × Int32 × (Nat → Int64) × Int64) (ρ := Int32 × (Nat → Int64) × Int64) (fun st => f_X5_bedThatMovesMost_b29 o_chances p1_weights p1_beds q1 q3 st.1 st.2.1 st.2.2.1 st.2.2.2.1 st.2.2.2.2) FU ((-9 : Int32), (-1 : Int32), (0 : Int32), o_shares, o_all)).bind (fun sx => f_X5_bedThatMovesMost_x86_4 sx.1 sx.2.1 sx.2.2))))
def f_X5_shareWithIce_x44_1 (v4 : Int64) : Option (Int64) :=
  some v4
def f_X5_shareWithIce_b6 (o_shares : Nat → Int64) (p1_ice : Nat → Int32) (a2 : Int32) (a3 : Int32) (v4 : Int64) (v6 : Int32) : Option ((Int64 × Int32) ⊕ (Int64)) :=
  (if (4 : Int32) ≤ v6 then some (.inr v4) else (f_X0_iceOf p1_ice v6 a3).bind (fun q4 => (f_X10_hasIce q4 a2).bind (fun q5 => (if q5 = (0 : Int32) then some (.inl (v4, (v6 + (1 : Int32)))) else gd v6 4 (some (.inl ((v4 + (o_shares v6.toNatClampNeg)), (v6 + (1 : Int32)))))))))
def f_X5_shareWithIce (o_shares : Nat → Int64) (p1_ice : Nat → Int32) (a2 : Int32) (a3 : Int32) : Option (Int64) :=
  (lpM (σ := Int64 × Int32) (ρ := Int64) (fun st => f_X5_shareWithIce_b6 o_shares p1_ice a2 a3 st.1 st.2) FU ((0 : Int64), (0 : Int32))).bind (fun sx => f_X5_shareWithIce_x44_1 sx)
def f_X5_whereToGo_x86_1 (v2 : Int32) : Option (Int32) :=
  some v2
def f_X5_whereToGo_x80_4 (v5 : Int32) (v2 : Int32) (v3 : Int64) : Option ((Int32 × Int64 × Int32) ⊕ (Int32)) :=
  some (.inl (v2, v3, (v5 + (1 : Int32))))
def f_X5_whereToGo_b22 (o_shares : Nat → Int64) (o_all : Int64) (p1_ice : Nat → Int32) (v5 : Int32) (v2 : Int32) (v3 : Int64) (v6 : Int32) : Option ((Int32 × Int64 × Int32) ⊕ (Int32 × Int64)) :=
  (if (10 : Int32) ≤ v6 then some (.inr (v2, v3)) else (f_X5_shareWithIce o_shares p1_ice v5 ((10 : Int32) * v6)).bind (fun q6 => (some (if (0 : Int64) < (((2 : Int64) * q6) - o_all) then (((2 : Int64) * q6) - o_all) else -(((2 : Int64) * q6) - o_all))).bind (fun u7 => (if (0 : Int32) ≤ (lg_cmp u7 v3) then some (.inl (v2, v3, (v6 + (1 : Int32)))) else some (.inl ((((10 : Int32) * v5) + v6), u7, (v6 + (1 : Int32))))))))
def f_X5_whereToGo_b12 (o_shares : Nat → Int64) (o_all : Int64) (p1_ice : Nat → Int32) (v2 : Int32) (v3 : Int64) (v5 : Int32) : Option ((Int32 × Int64 × Int32) ⊕ (Int32)) :=
  (if (6 : Int32) ≤ v5 then some (.inr v2) else (lpM (σ := Int32 × Int64 × Int32) (ρ := Int32 × Int64) (fun st => f_X5_whereToGo_b22 o_shares o_all p1_ice v5 st.1 st.2.1 st.2.2) FU (v2, v3, (0 : Int32))).bind (fun sx => f_X5_whereToGo_x80_4 v5 sx.1 sx.2))
def f_X5_whereToGo (o_shares : Nat → Int64) (o_all : Int64) (p1_ice : Nat → Int32) : Option (Int32) :=
  (lpM (σ := Int32 × Int64 × Int32) (ρ := Int32) (fun st => f_X5_whereToGo_b12 o_shares o_all p1_ice st.1 st.2.1 st.2.2) FU ((0 : Int32), (o_all + (1 : Int64)), (0 : Int32))).bind (fun sx => f_X5_whereToGo_x86_1 sx)
def f_X6_begin_x21_1 (o_numbers : Nat → Int32) : Option ((Nat → Int32) × Int32 × Int32 × Int32 × Int32) :=
  some (o_numbers, (0 : Int32), (0 : Int32), (0 : Int32), (0 : Int32))
def f_X6_begin_b2 (v1 : Int32) (o_numbers : Nat → Int32) : Option ((Int32 × (Nat → Int32)) ⊕ ((Nat → Int32))) :=
  (if (12 : Int32) ≤ v1 then some (.inr o_numbers) else gd v1 12 (some (.inl ((v1 + (1 : Int32)), (upd o_numbers v1.toNatClampNeg (-1 : Int32))))))
def f_X6_begin (o_numbers : Nat → Int32) : Option ((Nat → Int32) × Int32 × Int32 × Int32 × Int32) :=
  (lpM (σ := Int32 × (Nat → Int32)) (ρ := (Nat → Int32)) (fun st => f_X6_begin_b2 st.1 st.2) FU ((0 : Int32), o_numbers)).bind (fun sx => f_X6_begin_x21_1 sx)
def f_X10_figure (a0 : Int32) : Option (Int32) :=
  (if a0 < (48 : Int32) then some (-9 : Int32) else (if (57 : Int32) < a0 then some (-9 : Int32) else some (a0 - (48 : Int32))))
def f_X6_takesFigure (o_numbers : Nat → Int32) (o_parts : Int32) (o_figuresDue : Int32) (o_place : Int32) (a1 : Int32) : Option (Int32 × (Nat → Int32) × Int32 × Int32) :=
  (f_X10_figure a1).bind (fun q1 => (if q1 = (-9 : Int32) then some ((0 : Int32), o_numbers, o_parts, o_figuresDue) else (f_X10_within o_place (0 : Int32) (11 : Int32)).bind (fun q4 => (if q4 = (0 : Int32) then some ((0 : Int32), o_numbers, o_parts, o_figuresDue) else gd o_place 12 (gd o_place 12 ((if (o_figuresDue - (1 : Int32)) = (0 : Int32) then some ((1 : Int32), (upd o_numbers o_place.toNatClampNeg (((10 : Int32) * (o_numbers o_place.toNatClampNeg)) + q1)), (o_parts + (1 : Int32)), (o_figuresDue - (1 : Int32))) else some ((1 : Int32), (upd o_numbers o_place.toNatClampNeg (((10 : Int32) * (o_numbers o_place.toNatClampNeg)) + q1)), o_parts, (o_figuresDue - (1 : Int32))))))))))
def f_X10_isBand (a0 : Int32) : Option (Int32) :=
  (f_X10_within a0 (0 : Int32) (5 : Int32)).bind (fun q1 => zb q1 (some q1))
def f_X6_opens_j52 (k1 : Int32) (o_numbers : Nat → Int32) (o_place : Int32) : Option (Int32 × (Nat → Int32) × Int32 × Int32) :=
  some ((1 : Int32), o_numbers, k1, o_place)
def f_X6_opens_j47 (o_numbers : Nat → Int32) (o_place : Int32) : Option (Int32 × (Nat → Int32) × Int32 × Int32) :=
  f_X6_opens_j52 (2 : Int32) o_numbers o_place
def f_X6_opens (o_numbers : Nat → Int32) (o_figuresDue : Int32) (o_place : Int32) (a1 : Int32) : Option (Int32 × (Nat → Int32) × Int32 × Int32) :=
  (f_X10_within a1 (0 : Int32) (11 : Int32)).bind (fun q2 => (if q2 = (0 : Int32) then some ((0 : Int32), o_numbers, o_figuresDue, o_place) else gd a1 12 ((if (o_numbers a1.toNatClampNeg) = (-1 : Int32) then gd a1 12 ((if a1 < (6 : Int32) then f_X6_opens_j47 (upd o_numbers a1.toNatClampNeg (0 : Int32)) a1 else (if a1 = (8 : Int32) then f_X6_opens_j47 (upd o_numbers a1.toNatClampNeg (0 : Int32)) a1 else f_X6_opens_j52 (1 : Int32) (upd o_numbers a1.toNatClampNeg (0 : Int32)) a1))) else some ((0 : Int32), o_numbers, o_figuresDue, o_place)))))
def f_X6_takesBand (o_numbers : Nat → Int32) (o_figuresDue : Int32) (o_place : Int32) (a1 : Int32) : Option (Int32 × (Nat → Int32) × Int32 × Int32 × Int32) :=
  (f_X10_figure a1).bind (fun q1 => (f_X10_isBand q1).bind (fun q2 => (if q2 = (0 : Int32) then some ((0 : Int32), o_numbers, o_figuresDue, o_place, (0 : Int32)) else (f_X6_opens o_numbers o_figuresDue o_place q1).bind (fun q5 => (if q5.1 = (0 : Int32) then some ((0 : Int32), q5.2.1, q5.2.2.1, q5.2.2.2, (0 : Int32)) else some ((1 : Int32), q5.2.1, q5.2.2.1, q5.2.2.2, (0 : Int32)))))))
def f_X6_someBandIsUntold_x26_1 : Option (Int32) :=
  some (0 : Int32)
def f_X6_someBandIsUntold_b2 (o_numbers : Nat → Int32) (v1 : Int32) : Option ((Int32) ⊕ ((Unit) ⊕ (Int32))) :=
  (if (6 : Int32) ≤ v1 then some (.inr (.inl ())) else gd v1 12 ((if (o_numbers v1.toNatClampNeg) = (-1 : Int32) then some (.inr (.inr (1 : Int32))) else some (.inl (v1 + (1 : Int32))))))
def f_X6_someBandIsUntold (o_numbers : Nat → Int32) : Option (Int32) :=
  (lpM (σ := Int32) (ρ := (Unit) ⊕ (Int32)) (fun st => f_X6_someBandIsUntold_b2 o_numbers st) FU (0 : Int32)).bind (fun so => Sum.elim (fun sx => f_X6_someBandIsUntold_x26_1) (fun r => some r) so)
def f_J0_isLatin1_aae02 : Option (Int32) :=
  some (1 : Int32)
def f_J0_coder_7d493 : Option (Int32) :=
  some (0 : Int32)
def f_J0_length_8abf5 : Option (Int32) :=
  (f_J0_coder_7d493).bind (fun q1 => some ((6 : Int32) >>> (q1 &&& (31 : Int32))))
def f_J1_canEncode_9a6ad (a0 : Int32) : Option (Int32) :=
  (if a0 < (0 : Int32) then some (0 : Int32) else (if (255 : Int32) < a0 then some (0 : Int32) else some (1 : Int32)))
def f_J1_indexOfChar_4cfef_x31_1 : Option (Int32) :=
  some (-1 : Int32)
def f_J1_indexOfChar_4cfef_b7 (a3 : Int32) (v4 : Int32) (v5 : Int32) : Option ((Int32 × Int32) ⊕ ((Unit) ⊕ (Int32))) :=
  (if a3 ≤ v5 then some (.inr (.inl ())) else gd v5 6 ((if (kB v5.toNatClampNeg) = v4 then some (.inr (.inr v5)) else some (.inl (v4, (v5 + (1 : Int32)))))))
def f_J1_indexOfChar_4cfef (a1 : Int32) (a2 : Int32) (a3 : Int32) : Option (Int32) :=
  (lpM (σ := Int32 × Int32) (ρ := (Unit) ⊕ (Int32)) (fun st => f_J1_indexOfChar_4cfef_b7 a3 st.1 st.2) FU ((a1.toInt8.toInt32), a2)).bind (fun so => Sum.elim (fun sx => f_J1_indexOfChar_4cfef_x31_1) (fun r => some r) so)
def f_J1_indexOf_4cfef (a1 : Int32) (a2 : Int32) (a3 : Int32) : Option (Int32) :=
  (f_J1_canEncode_9a6ad a1).bind (fun q1 => (if q1 = (0 : Int32) then some (-1 : Int32) else (some (if a2 < (0 : Int32) then (0 : Int32) else a2)).bind (fun u3 => (some (if (6 : Int32) < a3 then (6 : Int32) else a3)).bind (fun u4 => (if u3 < u4 then (f_J1_indexOfChar_4cfef a1 u3 u4).bind (fun q6 => some q6) else some (-1 : Int32))))))
def f_J0_indexOf_7cf53 (a1 : Int32) (a2 : Int32) : Option (Int32) :=
  (f_J0_isLatin1_aae02).bind (fun q1 => (if q1 = (0 : Int32) then (f_J0_length_8abf5).bind (fun q3 => none) else (f_J0_length_8abf5).bind (fun q4 => (f_J1_indexOf_4cfef a1 a2 q4).bind (fun q5 => some q5))))
def f_J0_indexOf_0f7a4 (a1 : Int32) : Option (Int32) :=
  (f_J0_indexOf_7cf53 a1 (0 : Int32)).bind (fun q1 => some q1)
def f_X6_takesKind (o_numbers : Nat → Int32) (o_figuresDue : Int32) (o_place : Int32) (o_bandDue : Int32) (a1 : Int32) : Option (Int32 × (Nat → Int32) × Int32 × Int32 × Int32) :=
  (if a1 = (76 : Int32) then (f_X6_someBandIsUntold o_numbers).bind (fun q9 => zb q9 (zb q9 (some (q9, o_numbers, o_figuresDue, o_place, q9)))) else (f_J0_indexOf_0f7a4 ((a1.toUInt32 % 65536).toInt32)).bind (fun q2 => (if q2 < (0 : Int32) then some ((0 : Int32), o_numbers, o_figuresDue, o_place, o_bandDue) else (f_X6_opens o_numbers o_figuresDue o_place ((6 : Int32) + q2)).bind (fun q5 => (if q5.1 = (0 : Int32) then some ((0 : Int32), q5.2.1, q5.2.2.1, q5.2.2.2, o_bandDue) else some ((1 : Int32), q5.2.1, q5.2.2.1, q5.2.2.2, o_bandDue))))))
def f_X6_takes (o_numbers : Nat → Int32) (o_parts : Int32) (o_figuresDue : Int32) (o_place : Int32) (o_bandDue : Int32) (a1 : Int32) : Option (Int32 × (Nat → Int32) × Int32 × Int32 × Int32 × Int32) :=
  (if o_figuresDue ≤ (0 : Int32) then (if o_bandDue = (0 : Int32) then (f_X6_takesKind o_numbers o_figuresDue o_place o_bandDue a1).bind (fun q3 => zb q3.1 (some (q3.1, q3.2.1, o_parts, q3.2.2.1, q3.2.2.2.1, q3.2.2.2.2))) else (f_X6_takesBand o_numbers o_figuresDue o_place a1).bind (fun q5 => zb q5.1 (some (q5.1, q5.2.1, o_parts, q5.2.2.1, q5.2.2.2.1, q5.2.2.2.2)))) else (f_X6_takesFigure o_numbers o_parts o_figuresDue o_place a1).bind (fun q7 => zb q7.1 (some (q7.1, q7.2.1, q7.2.2.1, q7.2.2.2, o_place, o_bandDue))))
def f_X6_faultOf_j55 (p1_length : Int32) (o_numbers : Nat → Int32) (o_parts : Int32) (o_figuresDue : Int32) (o_place : Int32) (o_bandDue : Int32) : Option (Int32 × (Nat → Int32) × Int32 × Int32 × Int32 × Int32) :=
  some (p1_length, o_numbers, o_parts, o_figuresDue, o_place, o_bandDue)
def f_X6_faultOf_x41_3 (p1_length : Int32) (o_numbers : Nat → Int32) (o_parts : Int32) (o_figuresDue : Int32) (o_place : Int32) (o_bandDue : Int32) : Option (Int32 × (Nat → Int32) × Int32 × Int32 × Int32 × Int32) :=
  (if (0 : Int32) < o_figuresDue then f_X6_faultOf_j55 p1_length o_numbers o_parts o_figuresDue o_place o_bandDue else (if o_bandDue = (0 : Int32) then some ((-9 : Int32), o_numbers, o_parts, o_figuresDue, o_place, o_bandDue) else f_X6_faultOf_j55 p1_length o_numbers o_parts o_figuresDue o_place o_bandDue))
def f_X6_faultOf_b6 (p1_signs : Nat → Int32) (p1_length : Int32) (v2 : Int32) (o_numbers : Nat → Int32) (o_parts : Int32) (o_figuresDue : Int32) (o_place : Int32) (o_bandDue : Int32) : Option ((Int32 × (Nat → Int32) × Int32 × Int32 × Int32 × Int32) ⊕ (((Nat → Int32) × Int32 × Int32 × Int32 × Int32) ⊕ (Int32 × (Nat → Int32) × Int32 × Int32 × Int32 × Int32))) :=
  (if p1_length ≤ v2 then some (.inr (.inl (o_numbers, o_parts, o_figuresDue, o_place, o_bandDue))) else (if (48 : Int32) ≤ v2 then some (.inr (.inl (o_numbers, o_parts, o_figuresDue, o_place, o_bandDue))) else gd v2 48 ((f_X6_takes o_numbers o_parts o_figuresDue o_place o_bandDue (p1_signs v2.toNatClampNeg)).bind (fun q10 => (if q10.1 = (0 : Int32) then some (.inr (.inr (v2, q10.2.1, q10.2.2.1, q10.2.2.2.1, q10.2.2.2.2.1, q10.2.2.2.2.2))) else some (.inl ((v2 + (1 : Int32)), q10.2.1, q10.2.2.1, q10.2.2.2.1, q10.2.2.2.2.1, q10.2.2.2.2.2)))))))
def f_X6_faultOf (o_numbers : Nat → Int32) (p1_signs : Nat → Int32) (p1_length : Int32) : Option (Int32 × (Nat → Int32) × Int32 × Int32 × Int32 × Int32) :=
  (f_X6_begin o_numbers).bind (fun q2 => (lpM (σ := Int32 × (Nat → Int32) × Int32 × Int32 × Int32 × Int32) (ρ := ((Nat → Int32) × Int32 × Int32 × Int32 × Int32) ⊕ (Int32 × (Nat → Int32) × Int32 × Int32 × Int32 × Int32)) (fun st => f_X6_faultOf_b6 p1_signs p1_length st.1 st.2.1 st.2.2.1 st.2.2.2.1 st.2.2.2.2.1 st.2.2.2.2.2) FU ((0 : Int32), q2.1, q2.2.1, q2.2.2.1, q2.2.2.2.1, q2.2.2.2.2)).bind (fun so => Sum.elim (fun sx => f_X6_faultOf_x41_3 p1_length sx.1 sx.2.1 sx.2.2.1 sx.2.2.2.1 sx.2.2.2.2) (fun r => some r) so))
def f_X6_giveTo_x30_1 (p1_law : Nat → Int32) : Option ((Nat → Int32)) :=
  some p1_law
def f_X6_giveTo_b2 (o_numbers : Nat → Int32) (v2 : Int32) (p1_law : Nat → Int32) : Option ((Int32 × (Nat → Int32)) ⊕ ((Nat → Int32))) :=
  (if (12 : Int32) ≤ v2 then some (.inr p1_law) else gd v2 12 (gd v2 12 (some (.inl ((v2 + (1 : Int32)), (upd p1_law v2.toNatClampNeg (if (o_numbers v2.toNatClampNeg) < (0 : Int32) then (0 : Int32) else (o_numbers v2.toNatClampNeg))))))))
def f_X6_giveTo (o_numbers : Nat → Int32) (p1_law : Nat → Int32) : Option ((Nat → Int32)) :=
  (lpM (σ := Int32 × (Nat → Int32)) (ρ := (Nat → Int32)) (fun st => f_X6_giveTo_b2 o_numbers st.1 st.2) FU ((0 : Int32), p1_law)).bind (fun sx => f_X6_giveTo_x30_1 sx)
def f_X7_isNew (o_placeBehind : Nat → Int32) (a1 : Int32) : Option (Int32) :=
  (f_X10_within a1 (0 : Int32) (6399 : Int32)).bind (fun q1 => (if q1 = (0 : Int32) then some (0 : Int32) else gd a1 6400 ((if (o_placeBehind a1.toNatClampNeg) = (0 : Int32) then some (1 : Int32) else some (0 : Int32)))))
def f_X7_follow_x138_1 (k1 : Int32) (o_states : Nat → Int32) (o_length : Int32) (o_placeBehind : Nat → Int32) : Option ((Nat → Int32) × (Nat → Int32) × Int32 × Int32) :=
  some (o_states, o_placeBehind, o_length, k1)
def f_X7_follow_b110 (o_states : Nat → Int32) (o_length : Int32) (v5 : Int32) (o_placeBehind : Nat → Int32) : Option ((Int32 × (Nat → Int32)) ⊕ ((Nat → Int32))) :=
  (if o_length ≤ v5 then some (.inr o_placeBehind) else gd v5 6400 (gd (o_states v5.toNatClampNeg) 6400 (some (.inl ((v5 + (1 : Int32)), (upd o_placeBehind (o_states v5.toNatClampNeg).toNatClampNeg (0 : Int32)))))))
def f_X7_follow_j104 (k1 : Int32) (o_states : Nat → Int32) (o_placeBehind : Nat → Int32) (o_length : Int32) : Option ((Nat → Int32) × (Nat → Int32) × Int32 × Int32) :=
  (lpM (σ := Int32 × (Nat → Int32)) (ρ := (Nat → Int32)) (fun st => f_X7_follow_b110 o_states o_length st.1 st.2) FU ((0 : Int32), o_placeBehind)).bind (fun sx => f_X7_follow_x138_1 k1 o_states o_length sx)
def f_X7_follow_x74_7 (v4 : Int32) (o_states : Nat → Int32) (o_placeBehind : Nat → Int32) (o_length : Int32) : Option ((Nat → Int32) × (Nat → Int32) × Int32 × Int32) :=
  (f_X10_within v4 (0 : Int32) (6399 : Int32)).bind (fun q8 => (if q8 = (0 : Int32) then f_X7_follow_j104 (0 : Int32) o_states o_placeBehind o_length else gd v4 6400 (f_X7_follow_j104 (if ((o_placeBehind v4.toNatClampNeg) - (1 : Int32)) < (0 : Int32) then (0 : Int32) else ((o_placeBehind v4.toNatClampNeg) - (1 : Int32))) o_states o_placeBehind o_length)))
def f_X7_follow_b12 (p1_law : Nat → Int32) (v4 : Int32) (o_states : Nat → Int32) (o_placeBehind : Nat → Int32) (o_length : Int32) : Option ((Int32 × (Nat → Int32) × (Nat → Int32) × Int32) ⊕ (Int32 × (Nat → Int32) × (Nat → Int32) × Int32)) :=
  (if (6400 : Int32) ≤ o_length then some (.inr (v4, o_states, o_placeBehind, o_length)) else (f_X7_isNew o_placeBehind v4).bind (fun q12 => (if q12 = (0 : Int32) then some (.inr (v4, o_states, o_placeBehind, o_length)) else gd o_length 6400 (gd v4 6400 ((f_X3_stateAfter p1_law v4).bind (fun q16 => some (.inl (q16, (upd o_states o_length.toNatClampNeg v4), (upd o_placeBehind v4.toNatClampNeg (o_length + (1 : Int32))), (o_length + (1 : Int32))))))))))
def f_X7_follow (o_states : Nat → Int32) (o_placeBehind : Nat → Int32) (p1_law : Nat → Int32) (a2 : Int32) (a3 : Int32) : Option ((Nat → Int32) × (Nat → Int32) × Int32 × Int32) :=
  (f_X3_stateOf a2 a3).bind (fun q6 => (lpM (σ := Int32 × (Nat → Int32) × (Nat → Int32) × Int32) (ρ := Int32 × (Nat → Int32) × (Nat → Int32) × Int32) (fun st => f_X7_follow_b12 p1_law st.1 st.2.1 st.2.2.1 st.2.2.2) FU (q6, o_states, o_placeBehind, (0 : Int32))).bind (fun sx => f_X7_follow_x74_7 sx.1 sx.2.1 sx.2.2.1 sx.2.2.2))
def f_X7_ring (o_length : Int32) (o_lead : Int32) : Option (Int32) :=
  some (o_length - o_lead)
def f_X7_stateAt_j34 (o_states : Nat → Int32) (o_length : Int32) (v2 : Int32) : Option (Int32) :=
  (f_X10_within v2 (0 : Int32) (o_length - (1 : Int32))).bind (fun q1 => (if q1 = (0 : Int32) then some (-9 : Int32) else gd v2 6400 (some (o_states v2.toNatClampNeg))))
def f_X7_stateAt (o_states : Nat → Int32) (o_length : Int32) (o_lead : Int32) (a1 : Int32) : Option (Int32) :=
  (if a1 < o_length then f_X7_stateAt_j34 o_states o_length a1 else (f_X7_ring o_length o_lead).bind (fun q7 => (if q7 ≤ (0 : Int32) then f_X7_stateAt_j34 o_states o_length a1 else (f_X7_ring o_length o_lead).bind (fun q9 => dz q9 ((some (o_lead + ((a1 - o_lead) - (a1 - o_lead) / q9 * q9))).bind (fun u11 => f_X7_stateAt_j34 o_states o_length u11))))))
def f_X7_whiteInRing_x38_1 (v1 : Int32) : Option (Int32) :=
  some v1
def f_X7_whiteInRing_b7 (o_states : Nat → Int32) (o_length : Int32) (v1 : Int32) (v2 : Int32) : Option ((Int32 × Int32) ⊕ (Int32)) :=
  (if o_length ≤ v2 then some (.inr v1) else gd v2 6400 ((f_X3_iceIn (o_states v2.toNatClampNeg)).bind (fun q5 => (if q5 = (63 : Int32) then some (.inl ((v1 + (1 : Int32)), (v2 + (1 : Int32)))) else some (.inl (v1, (v2 + (1 : Int32))))))))
def f_X7_whiteInRing (o_states : Nat → Int32) (o_length : Int32) (o_lead : Int32) : Option (Int32) :=
  (lpM (σ := Int32 × Int32) (ρ := Int32) (fun st => f_X7_whiteInRing_b7 o_states o_length st.1 st.2) FU ((0 : Int32), o_lead)).bind (fun sx => f_X7_whiteInRing_x38_1 sx)
def f_X7_leastAirInRing_x36_1 (v1 : Int32) : Option (Int32) :=
  some v1
def f_X7_leastAirInRing_b8 (o_states : Nat → Int32) (o_length : Int32) (v1 : Int32) (v2 : Int32) : Option ((Int32 × Int32) ⊕ (Int32)) :=
  (if o_length ≤ v2 then some (.inr v1) else gd v2 6400 ((f_X3_airIn (o_states v2.toNatClampNeg)).bind (fun q5 => some (.inl ((if q5 < v1 then q5 else v1), (v2 + (1 : Int32)))))))
def f_X7_leastAirInRing (o_states : Nat → Int32) (o_length : Int32) (o_lead : Int32) : Option (Int32) :=
  (lpM (σ := Int32 × Int32) (ρ := Int32) (fun st => f_X7_leastAirInRing_b8 o_states o_length st.1 st.2) FU ((100 : Int32), o_lead)).bind (fun sx => f_X7_leastAirInRing_x36_1 sx)
def f_X7_greatestAirInRing_x35_1 (v1 : Int32) : Option (Int32) :=
  some v1
def f_X7_greatestAirInRing_b7 (o_states : Nat → Int32) (o_length : Int32) (v1 : Int32) (v2 : Int32) : Option ((Int32 × Int32) ⊕ (Int32)) :=
  (if o_length ≤ v2 then some (.inr v1) else gd v2 6400 ((f_X3_airIn (o_states v2.toNatClampNeg)).bind (fun q5 => some (.inl ((if v1 < q5 then q5 else v1), (v2 + (1 : Int32)))))))
def f_X7_greatestAirInRing (o_states : Nat → Int32) (o_length : Int32) (o_lead : Int32) : Option (Int32) :=
  (lpM (σ := Int32 × Int32) (ρ := Int32) (fun st => f_X7_greatestAirInRing_b7 o_states o_length st.1 st.2) FU ((0 : Int32), o_lead)).bind (fun sx => f_X7_greatestAirInRing_x35_1 sx)
def f_X7_firstWhite_x41_1 : Option (Int32) :=
  some (-9 : Int32)
def f_X7_firstWhite_j29 (a1 : Int32) (v2 : Int32) (k0 : Int32) : Option ((Int32) ⊕ ((Unit) ⊕ (Int32))) :=
  (if k0 = a1 then some (.inr (.inr v2)) else some (.inl (v2 + (1 : Int32))))
def f_X7_firstWhite_b2 (o_states : Nat → Int32) (o_length : Int32) (a1 : Int32) (v2 : Int32) : Option ((Int32) ⊕ ((Unit) ⊕ (Int32))) :=
  (if o_length ≤ v2 then some (.inr (.inl ())) else gd v2 6400 ((f_X3_iceIn (o_states v2.toNatClampNeg)).bind (fun q7 => (if q7 = (63 : Int32) then f_X7_firstWhite_j29 a1 v2 (1 : Int32) else f_X7_firstWhite_j29 a1 v2 (0 : Int32)))))
def f_X7_firstWhite (o_states : Nat → Int32) (o_length : Int32) (a1 : Int32) : Option (Int32) :=
  (lpM (σ := Int32) (ρ := (Unit) ⊕ (Int32)) (fun st => f_X7_firstWhite_b2 o_states o_length a1 st) FU (0 : Int32)).bind (fun so => Sum.elim (fun sx => f_X7_firstWhite_x41_1) (fun r => some r) so)
def f_X8_begin_x21_1 (o_iceFrom : Nat → Int32) : Option ((Nat → Int32) × Int32 × Int32 × Int32 × Int32 × Int32 × Int32) :=
  some (o_iceFrom, (0 : Int32), (0 : Int32), (-1 : Int32), (0 : Int32), (0 : Int32), (-1 : Int32))
def f_X8_begin_b2 (v1 : Int32) (o_iceFrom : Nat → Int32) : Option ((Int32 × (Nat → Int32)) ⊕ ((Nat → Int32))) :=
  (if (100 : Int32) ≤ v1 then some (.inr o_iceFrom) else gd v1 100 (some (.inl ((v1 + (1 : Int32)), (upd o_iceFrom v1.toNatClampNeg (-1 : Int32))))))
def f_X8_begin (o_iceFrom : Nat → Int32) : Option ((Nat → Int32) × Int32 × Int32 × Int32 × Int32 × Int32 × Int32) :=
  (lpM (σ := Int32 × (Nat → Int32)) (ρ := (Nat → Int32)) (fun st => f_X8_begin_b2 st.1 st.2) FU ((0 : Int32), o_iceFrom)).bind (fun sx => f_X8_begin_x21_1 sx)
def f_X8_takesTens (o_roundAhead : Int32) (a1 : Int32) : Option (Int32 × Int32 × Int32) :=
  (f_X10_figure a1).bind (fun q1 => (if q1 = (-9 : Int32) then some ((0 : Int32), (1 : Int32), q1) else (if (((10 : Int32) * q1) + (9 : Int32)) ≤ o_roundAhead then some ((0 : Int32), (1 : Int32), q1) else some ((1 : Int32), (1 : Int32), q1))))
def f_X8_takesOnes (o_roundAhead : Int32) (o_tens : Int32) (a1 : Int32) : Option (Int32 × Int32 × Int32) :=
  (f_X10_figure a1).bind (fun q1 => (if q1 = (-9 : Int32) then some ((0 : Int32), (2 : Int32), (((10 : Int32) * o_tens) + q1)) else (if (((10 : Int32) * o_tens) + q1) ≤ o_roundAhead then some ((0 : Int32), (2 : Int32), (((10 : Int32) * o_tens) + q1)) else some ((1 : Int32), (2 : Int32), (((10 : Int32) * o_tens) + q1)))))
def f_X8_takesColon (o_iceFrom : Nat → Int32) (o_entries : Int32) (o_due : Int32) (o_roundNow : Int32) (o_bandAhead : Int32) (a1 : Int32) : Option (Int32 × (Nat → Int32) × Int32 × Int32 × Int32) :=
  (if a1 = (58 : Int32) then (f_X10_isRound o_roundNow).bind (fun q3 => (if q3 = (0 : Int32) then some ((0 : Int32), o_iceFrom, o_entries, o_due, o_bandAhead) else gd o_roundNow 100 (some ((1 : Int32), (upd o_iceFrom o_roundNow.toNatClampNeg (0 : Int32)), (o_entries + (1 : Int32)), (3 : Int32), (-1 : Int32))))) else some ((0 : Int32), o_iceFrom, o_entries, o_due, o_bandAhead))
def f_X8_takesNextEntry (o_roundNow : Int32) : Option (Int32 × Int32 × Int32) :=
  (if (99 : Int32) ≤ o_roundNow then some ((0 : Int32), (0 : Int32), o_roundNow) else some ((1 : Int32), (0 : Int32), o_roundNow))
def f_X8_takesBand (o_iceFrom : Nat → Int32) (o_roundNow : Int32) (o_bandAhead : Int32) (a1 : Int32) : Option (Int32 × (Nat → Int32) × Int32) :=
  (f_X10_figure a1).bind (fun q1 => (f_X10_isBand q1).bind (fun q2 => (if q2 = (0 : Int32) then some ((0 : Int32), o_iceFrom, o_bandAhead) else (if q1 ≤ o_bandAhead then some ((0 : Int32), o_iceFrom, o_bandAhead) else (f_X10_isRound o_roundNow).bind (fun q7 => (if q7 = (0 : Int32) then some ((0 : Int32), o_iceFrom, o_bandAhead) else gd o_roundNow 100 (gd o_roundNow 100 (some ((1 : Int32), (upd o_iceFrom o_roundNow.toNatClampNeg ((o_iceFrom o_roundNow.toNatClampNeg) ||| ((1 : Int32) <<< (q1 &&& (31 : Int32))))), q1)))))))))
def f_X8_takes (o_iceFrom : Nat → Int32) (o_entries : Int32) (o_due : Int32) (o_roundAhead : Int32) (o_tens : Int32) (o_roundNow : Int32) (o_bandAhead : Int32) (a1 : Int32) : Option (Int32 × (Nat → Int32) × Int32 × Int32 × Int32 × Int32 × Int32 × Int32) :=
  (if o_due = (0 : Int32) then (f_X8_takesTens o_roundAhead a1).bind (fun q2 => zb q2.1 (some (q2.1, o_iceFrom, o_entries, q2.2.1, o_roundAhead, q2.2.2, o_roundNow, o_bandAhead))) else (if o_due = (1 : Int32) then (f_X8_takesOnes o_roundAhead o_tens a1).bind (fun q4 => zb q4.1 (some (q4.1, o_iceFrom, o_entries, q4.2.1, o_roundAhead, o_tens, q4.2.2, o_bandAhead))) else (if o_due = (2 : Int32) then (f_X8_takesColon o_iceFrom o_entries o_due o_roundNow o_bandAhead a1).bind (fun q6 => zb q6.1 (some (q6.1, q6.2.1, q6.2.2.1, q6.2.2.2.1, o_roundAhead, o_tens, o_roundNow, q6.2.2.2.2))) else (if a1 = (59 : Int32) then (f_X8_takesNextEntry o_roundNow).bind (fun q11 => zb q11.1 (some (q11.1, o_iceFrom, o_entries, q11.2.1, q11.2.2, o_tens, o_roundNow, o_bandAhead))) else (f_X8_takesBand o_iceFrom o_roundNow o_bandAhead a1).bind (fun q9 => zb q9.1 (some (q9.1, q9.2.1, o_entries, o_due, o_roundAhead, o_tens, o_roundNow, q9.2.2)))))))
def f_X8_faultOf_x41_2 (p1_length : Int32) (o_iceFrom : Nat → Int32) (o_entries : Int32) (o_due : Int32) (o_roundAhead : Int32) (o_tens : Int32) (o_roundNow : Int32) (o_bandAhead : Int32) : Option (Int32 × (Nat → Int32) × Int32 × Int32 × Int32 × Int32 × Int32 × Int32) :=
  (if o_due = (3 : Int32) then some ((-9 : Int32), o_iceFrom, o_entries, o_due, o_roundAhead, o_tens, o_roundNow, o_bandAhead) else some (p1_length, o_iceFrom, o_entries, o_due, o_roundAhead, o_tens, o_roundNow, o_bandAhead))
def f_X8_faultOf_b6 (p1_signs : Nat → Int32) (p1_length : Int32) (v2 : Int32) (o_iceFrom : Nat → Int32) (o_entries : Int32) (o_due : Int32) (o_roundAhead : Int32) (o_tens : Int32) (o_roundNow : Int32) (o_bandAhead : Int32) : Option ((Int32 × (Nat → Int32) × Int32 × Int32 × Int32 × Int32 × Int32 × Int32) ⊕ (((Nat → Int32) × Int32 × Int32 × Int32 × Int32 × Int32 × Int32) ⊕ (Int32 × (Nat → Int32) × Int32 × Int32 × Int32 × Int32 × Int32 × Int32))) :=
  (if p1_length ≤ v2 then some (.inr (.inl (o_iceFrom, o_entries, o_due, o_roundAhead, o_tens, o_roundNow, o_bandAhead))) else (if (48 : Int32) ≤ v2 then some (.inr (.inl (o_iceFrom, o_entries, o_due, o_roundAhead, o_tens, o_roundNow, o_bandAhead))) else gd v2 48 ((f_X8_takes o_iceFrom o_entries o_due o_roundAhead o_tens o_roundNow o_bandAhead (p1_signs v2.toNatClampNeg)).bind (fun q9 => (if q9.1 = (0 : Int32) then some (.inr (.inr (v2, q9.2.1, q9.2.2.1, q9.2.2.2.1, q9.2.2.2.2.1, q9.2.2.2.2.2.1, q9.2.2.2.2.2.2.1, q9.2.2.2.2.2.2.2))) else some (.inl ((v2 + (1 : Int32)), q9.2.1, q9.2.2.1, q9.2.2.2.1, q9.2.2.2.2.1, q9.2.2.2.2.2.1, q9.2.2.2.2.2.2.1, q9.2.2.2.2.2.2.2)))))))
def f_X8_faultOf (o_iceFrom : Nat → Int32) (p1_signs : Nat → Int32) (p1_length : Int32) : Option (Int32 × (Nat → Int32) × Int32 × Int32 × Int32 × Int32 × Int32 × Int32) :=
  (f_X8_begin o_iceFrom).bind (fun q1 => (lpM (σ := Int32 × (Nat → Int32) × Int32 × Int32 × Int32 × Int32 × Int32 × Int32) (ρ := ((Nat → Int32) × Int32 × Int32 × Int32 × Int32 × Int32 × Int32) ⊕ (Int32 × (Nat → Int32) × Int32 × Int32 × Int32 × Int32 × Int32 × Int32)) (fun st => f_X8_faultOf_b6 p1_signs p1_length st.1 st.2.1 st.2.2.1 st.2.2.2.1 st.2.2.2.2.1 st.2.2.2.2.2.1 st.2.2.2.2.2.2.1 st.2.2.2.2.2.2.2) FU ((0 : Int32), q1.1, q1.2.1, q1.2.2.1, q1.2.2.2.1, q1.2.2.2.2.1, q1.2.2.2.2.2.1, q1.2.2.2.2.2.2)).bind (fun so => Sum.elim (fun sx => f_X8_faultOf_x41_2 p1_length sx.1 sx.2.1 sx.2.2.1 sx.2.2.2.1 sx.2.2.2.2.1 sx.2.2.2.2.2.1 sx.2.2.2.2.2.2) (fun r => some r) so))
def f_X8_giveTo_x45_1 (p1_ice : Nat → Int32) : Option ((Nat → Int32)) :=
  some p1_ice
def f_X8_giveTo_j31 (a2 : Int32) (v3 : Int32) (v4 : Int32) (p1_ice : Nat → Int32) : Option ((Int32 × Int32 × (Nat → Int32)) ⊕ ((Nat → Int32))) :=
  (f_X0_tell p1_ice a2 v4 v3).bind (fun q3 => some (.inl (v3, (v4 + (1 : Int32)), q3)))
def f_X8_giveTo_b5 (o_iceFrom : Nat → Int32) (a2 : Int32) (v3 : Int32) (v4 : Int32) (p1_ice : Nat → Int32) : Option ((Int32 × Int32 × (Nat → Int32)) ⊕ ((Nat → Int32))) :=
  (if (100 : Int32) ≤ v4 then some (.inr p1_ice) else gd v4 100 ((if (o_iceFrom v4.toNatClampNeg) = (-1 : Int32) then f_X8_giveTo_j31 a2 v3 v4 p1_ice else gd v4 100 (f_X8_giveTo_j31 a2 (o_iceFrom v4.toNatClampNeg) v4 p1_ice))))
def f_X8_giveTo (o_iceFrom : Nat → Int32) (p1_ice : Nat → Int32) (a2 : Int32) : Option ((Nat → Int32)) :=
  (lpM (σ := Int32 × Int32 × (Nat → Int32)) (ρ := (Nat → Int32)) (fun st => f_X8_giveTo_b5 o_iceFrom a2 st.1 st.2.1 st.2.2) FU ((0 : Int32), (0 : Int32), p1_ice)).bind (fun sx => f_X8_giveTo_x45_1 sx)
def f_X9_hasRoomFor (o_length : Int32) (a1 : Int32) : Option (Int32) :=
  (if ((48 : Int32) - o_length) < a1 then some (0 : Int32) else some (1 : Int32))
def f_X9_put_x56_1 (o_signs : Nat → Int32) (o_length : Int32) : Option ((Nat → Int32) × Int32) :=
  some (o_signs, o_length)
def f_X9_put_b5 (a2 : Int64) (v4 : Int32) (o_signs : Nat → Int32) (o_length : Int32) : Option ((Int32 × (Nat → Int32) × Int32) ⊕ ((Nat → Int32) × Int32)) :=
  (if v4 < (0 : Int32) then some (.inr (o_signs, o_length)) else (if (48 : Int32) ≤ o_length then some (.inr (o_signs, o_length)) else gd o_length 48 (some (.inl ((v4 + (-1 : Int32)), (upd o_signs o_length.toNatClampNeg ((((a2.toUInt64 >>> (((8 : Int32) * v4).toInt64.toUInt64 &&& Int64.toUInt64 63)).toInt64).toInt32) &&& (255 : Int32))), (o_length + (1 : Int32)))))))
def f_X9_put (o_signs : Nat → Int32) (o_length : Int32) (a1 : Int32) (a2 : Int64) : Option ((Nat → Int32) × Int32) :=
  (lpM (σ := Int32 × (Nat → Int32) × Int32) (ρ := (Nat → Int32) × Int32) (fun st => f_X9_put_b5 a2 st.1 st.2.1 st.2.2) FU ((a1 - (1 : Int32)), o_signs, o_length)).bind (fun sx => f_X9_put_x56_1 sx.1 sx.2)
def f_X10_write (t9_signs : Nat → Int32) (t9_length : Int32) (a1 : Int32) (a2 : Int64) : Option (Int32 × (Nat → Int32) × Int32) :=
  (f_X10_within a1 (1 : Int32) (8 : Int32)).bind (fun q1 => (if q1 = (0 : Int32) then some ((-2 : Int32), t9_signs, t9_length) else (f_X9_hasRoomFor t9_length a1).bind (fun q3 => (if q3 = (0 : Int32) then some ((-4 : Int32), t9_signs, t9_length) else (f_X9_put t9_signs t9_length a1 a2).bind (fun q5 => some (q5.2, q5.1, q5.2))))))
def f_X10_wipe (t9_length : Int32) : Option (Int32 × Int32) :=
  some (t9_length, (0 : Int32))
def f_X10_fault (t9_signs : Nat → Int32) (t9_length : Int32) (t6_numbers : Nat → Int32) (t6_parts : Int32) (t6_figuresDue : Int32) (t6_place : Int32) (t6_bandDue : Int32) (t8_iceFrom : Nat → Int32) (t8_entries : Int32) (t8_due : Int32) (t8_roundAhead : Int32) (t8_tens : Int32) (t8_roundNow : Int32) (t8_bandAhead : Int32) (a1 : Int32) : Option (Int32 × (Nat → Int32) × Int32 × Int32 × Int32 × Int32 × (Nat → Int32) × Int32 × Int32 × Int32 × Int32 × Int32 × Int32) :=
  (if a1 = (0 : Int32) then (f_X6_faultOf t6_numbers t9_signs t9_length).bind (fun q2 => some (q2.1, q2.2.1, q2.2.2.1, q2.2.2.2.1, q2.2.2.2.2.1, q2.2.2.2.2.2, t8_iceFrom, t8_entries, t8_due, t8_roundAhead, t8_tens, t8_roundNow, t8_bandAhead)) else (f_X8_faultOf t8_iceFrom t9_signs t9_length).bind (fun q4 => some (q4.1, t6_numbers, t6_parts, t6_figuresDue, t6_place, t6_bandDue, q4.2.1, q4.2.2.1, q4.2.2.2.1, q4.2.2.2.2.1, q4.2.2.2.2.2.1, q4.2.2.2.2.2.2.1, q4.2.2.2.2.2.2.2)))
def f_X10_law (t9_signs : Nat → Int32) (t9_length : Int32) (t6_numbers : Nat → Int32) (t3_law : Nat → Int32) : Option (Int32 × (Nat → Int32) × Int32 × Int32 × Int32 × Int32 × (Nat → Int32)) :=
  (f_X6_faultOf t6_numbers t9_signs t9_length).bind (fun q1 => (if q1.1 = (-9 : Int32) then (f_X6_giveTo q1.2.1 t3_law).bind (fun q3 => some (q1.2.2.1, q1.2.1, q1.2.2.1, q1.2.2.2.1, q1.2.2.2.2.1, q1.2.2.2.2.2, q3)) else some ((-3 : Int32), q1.2.1, q1.2.2.1, q1.2.2.2.1, q1.2.2.2.2.1, q1.2.2.2.2.2, t3_law)))
def f_X10_lawful (t3_law : Nat → Int32) (a1 : Int32) : Option (Int32) :=
  (f_X10_within a1 (0 : Int32) (11 : Int32)).bind (fun q1 => (if q1 = (0 : Int32) then some (-2 : Int32) else gd a1 12 (some (t3_law a1.toNatClampNeg))))
def f_X10_story (t9_signs : Nat → Int32) (t9_length : Int32) (t8_iceFrom : Nat → Int32) (t8_entries : Int32) (t8_due : Int32) (t8_roundAhead : Int32) (t8_tens : Int32) (t8_roundNow : Int32) (t8_bandAhead : Int32) (t0_ice : Nat → Int32) (a1 : Int32) : Option (Int32 × (Nat → Int32) × Int32 × Int32 × Int32 × Int32 × Int32 × Int32 × (Nat → Int32)) :=
  (f_X10_isStory a1).bind (fun q1 => (if q1 = (0 : Int32) then some ((-1 : Int32), t8_iceFrom, t8_entries, t8_due, t8_roundAhead, t8_tens, t8_roundNow, t8_bandAhead, t0_ice) else (f_X8_faultOf t8_iceFrom t9_signs t9_length).bind (fun q3 => (if q3.1 = (-9 : Int32) then (f_X8_giveTo q3.2.1 t0_ice a1).bind (fun q5 => some (q3.2.2.1, q3.2.1, q3.2.2.1, q3.2.2.2.1, q3.2.2.2.2.1, q3.2.2.2.2.2.1, q3.2.2.2.2.2.2.1, q3.2.2.2.2.2.2.2, q5)) else some ((-3 : Int32), q3.2.1, q3.2.2.1, q3.2.2.2.1, q3.2.2.2.2.1, q3.2.2.2.2.2.1, q3.2.2.2.2.2.2.1, q3.2.2.2.2.2.2.2, t0_ice)))))
def f_X10_isIce (a0 : Int32) : Option (Int32) :=
  (f_X10_within a0 (0 : Int32) (63 : Int32)).bind (fun q1 => zb q1 (some q1))
def f_X10_isAir (a0 : Int32) : Option (Int32) :=
  (f_X10_within a0 (0 : Int32) (99 : Int32)).bind (fun q1 => zb q1 (some q1))
def f_X10_lived_x92_9 (v4 : Int32) (t0_ice : Nat → Int32) : Option (Int32 × (Nat → Int32)) :=
  some (v4, t0_ice)
def f_X10_lived_j75 (t3_law : Nat → Int32) (v4 : Int32) (v5 : Int32) (v6 : Int32) (t0_ice : Nat → Int32) : Option ((Int32 × Int32 × Int32 × (Nat → Int32)) ⊕ (Int32 × (Nat → Int32))) :=
  (f_X3_stateAfter t3_law v5).bind (fun q11 => some (.inl (v4, q11, (v6 + (1 : Int32)), t0_ice)))
def f_X10_lived_b39 (t3_law : Nat → Int32) (a1 : Int32) (v4 : Int32) (v5 : Int32) (v6 : Int32) (t0_ice : Nat → Int32) : Option ((Int32 × Int32 × Int32 × (Nat → Int32)) ⊕ (Int32 × (Nat → Int32))) :=
  (if (100 : Int32) ≤ v6 then some (.inr (v4, t0_ice)) else (f_X3_iceIn v5).bind (fun q13 => (f_X0_tell t0_ice a1 v6 q13).bind (fun q14 => (if q13 = (63 : Int32) then f_X10_lived_j75 t3_law (v4 + (1 : Int32)) v5 v6 q14 else f_X10_lived_j75 t3_law v4 v5 v6 q14))))
def f_X10_lived (t3_law : Nat → Int32) (t0_ice : Nat → Int32) (a1 : Int32) (a2 : Int32) (a3 : Int32) : Option (Int32 × (Nat → Int32)) :=
  (f_X10_isStory a1).bind (fun q1 => (if q1 = (0 : Int32) then some ((-1 : Int32), t0_ice) else (f_X10_isIce a2).bind (fun q3 => (if q3 = (0 : Int32) then some ((-2 : Int32), t0_ice) else (f_X10_isAir a3).bind (fun q6 => (if q6 = (0 : Int32) then some ((-2 : Int32), t0_ice) else (f_X3_stateOf a2 a3).bind (fun q8 => (lpM (σ := Int32 × Int32 × Int32 × (Nat → Int32)) (ρ := Int32 × (Nat → Int32)) (fun st => f_X10_lived_b39 t3_law a1 st.1 st.2.1 st.2.2.1 st.2.2.2) FU ((0 : Int32), q8, (0 : Int32), t0_ice)).bind (fun sx => f_X10_lived_x92_9 sx.1 sx.2))))))))
def f_X10_at (t0_ice : Nat → Int32) (a1 : Int32) (a2 : Int32) : Option (Int32) :=
  (f_X10_isStory a1).bind (fun q1 => (if q1 = (0 : Int32) then some (-1 : Int32) else (f_X10_isRound a2).bind (fun q3 => (if q3 = (0 : Int32) then some (-2 : Int32) else (f_X0_iceOf t0_ice a1 a2).bind (fun q5 => some q5)))))
def f_X10_warmth (t3_law : Nat → Int32) (a1 : Int32) (a2 : Int32) (a3 : Int32) : Option (Int32) :=
  (f_X10_isBand a1).bind (fun q1 => (if q1 = (0 : Int32) then some (-1 : Int32) else (f_X10_isIce a2).bind (fun q3 => (if q3 = (0 : Int32) then some (-2 : Int32) else (f_X10_isAir a3).bind (fun q6 => (if q6 = (0 : Int32) then some (-2 : Int32) else (f_X3_fortyWarmth t3_law a1 a2 a3).bind (fun q8 => some q8)))))))
def f_X10_round (t3_law : Nat → Int32) (a1 : Int32) (a2 : Int32) : Option (Int32) :=
  (f_X10_isIce a1).bind (fun q1 => (if q1 = (0 : Int32) then some (-2 : Int32) else (f_X10_isAir a2).bind (fun q4 => (if q4 = (0 : Int32) then some (-2 : Int32) else (f_X3_stateOf a1 a2).bind (fun q6 => (f_X3_stateAfter t3_law q6).bind (fun q7 => some q7))))))
def f_X10_after (t3_law : Nat → Int32) (t7_states : Nat → Int32) (t7_placeBehind : Nat → Int32) (t7_length : Int32) (t7_lead : Int32) (a1 : Int32) (a2 : Int32) (a3 : Int32) : Option (Int32 × (Nat → Int32) × (Nat → Int32) × Int32 × Int32) :=
  (f_X10_isIce a1).bind (fun q1 => (if q1 = (0 : Int32) then some ((-2 : Int32), t7_states, t7_placeBehind, t7_length, t7_lead) else (f_X10_isAir a2).bind (fun q4 => (if q4 = (0 : Int32) then some ((-2 : Int32), t7_states, t7_placeBehind, t7_length, t7_lead) else (f_X10_within a3 (0 : Int32) (100000 : Int32)).bind (fun q7 => (if q7 = (0 : Int32) then some ((-2 : Int32), t7_states, t7_placeBehind, t7_length, t7_lead) else (f_X7_follow t7_states t7_placeBehind t3_law a1 a2).bind (fun q9 => (f_X7_stateAt q9.1 q9.2.2.1 q9.2.2.2 a3).bind (fun q10 => some (q10, q9.1, q9.2.1, q9.2.2.1, q9.2.2.2)))))))))
def f_X10_run (t3_law : Nat → Int32) (t7_states : Nat → Int32) (t7_placeBehind : Nat → Int32) (t7_length : Int32) (t7_lead : Int32) (a1 : Int32) (a2 : Int32) (a3 : Int32) : Option (Int32 × (Nat → Int32) × (Nat → Int32) × Int32 × Int32) :=
  (f_X10_isIce a1).bind (fun q1 => (if q1 = (0 : Int32) then some ((-2 : Int32), t7_states, t7_placeBehind, t7_length, t7_lead) else (f_X10_isAir a2).bind (fun q4 => (if q4 = (0 : Int32) then some ((-2 : Int32), t7_states, t7_placeBehind, t7_length, t7_lead) else (f_X10_within a3 (0 : Int32) (4 : Int32)).bind (fun q7 => (if q7 = (0 : Int32) then some ((-2 : Int32), t7_states, t7_placeBehind, t7_length, t7_lead) else (f_X7_follow t7_states t7_placeBehind t3_law a1 a2).bind (fun q9 => (if a3 = (0 : Int32) then some (q9.2.2.2, q9.1, q9.2.1, q9.2.2.1, q9.2.2.2) else (if a3 = (1 : Int32) then (f_X7_ring q9.2.2.1 q9.2.2.2).bind (fun q12 => some (q12, q9.1, q9.2.1, q9.2.2.1, q9.2.2.2)) else (if a3 = (2 : Int32) then (f_X7_whiteInRing q9.1 q9.2.2.1 q9.2.2.2).bind (fun q14 => some (q14, q9.1, q9.2.1, q9.2.2.1, q9.2.2.2)) else (if a3 = (3 : Int32) then (f_X7_leastAirInRing q9.1 q9.2.2.1 q9.2.2.2).bind (fun q16 => some (q16, q9.1, q9.2.1, q9.2.2.1, q9.2.2.2)) else (f_X7_greatestAirInRing q9.1 q9.2.2.1 q9.2.2.2).bind (fun q18 => some (q18, q9.1, q9.2.1, q9.2.2.1, q9.2.2.2)))))))))))))
def f_X10_till (t3_law : Nat → Int32) (t7_states : Nat → Int32) (t7_placeBehind : Nat → Int32) (t7_length : Int32) (t7_lead : Int32) (a1 : Int32) (a2 : Int32) (a3 : Int32) : Option (Int32 × (Nat → Int32) × (Nat → Int32) × Int32 × Int32) :=
  (f_X10_isIce a1).bind (fun q1 => (if q1 = (0 : Int32) then some ((-2 : Int32), t7_states, t7_placeBehind, t7_length, t7_lead) else (f_X10_isAir a2).bind (fun q4 => (if q4 = (0 : Int32) then some ((-2 : Int32), t7_states, t7_placeBehind, t7_length, t7_lead) else (f_X7_follow t7_states t7_placeBehind t3_law a1 a2).bind (fun q6 => (f_X7_firstWhite q6.1 q6.2.2.1 a3).bind (fun q7 => some (q7, q6.1, q6.2.1, q6.2.2.1, q6.2.2.2)))))))
def f_X10_rests_x41_3 (v2 : Int32) : Option (Int32) :=
  some v2
def f_X10_rests_b14 (t3_law : Nat → Int32) (a1 : Int32) (v2 : Int32) (v3 : Int32) : Option ((Int32 × Int32) ⊕ (Int32)) :=
  (if (63 : Int32) < v3 then some (.inr v2) else (f_X3_isRest t3_law v3 a1).bind (fun q6 => (if q6 = (0 : Int32) then some (.inl (v2, (v3 + (1 : Int32)))) else some (.inl ((v2 + (1 : Int32)), (v3 + (1 : Int32)))))))
def f_X10_rests (t3_law : Nat → Int32) (a1 : Int32) : Option (Int32) :=
  (f_X10_isAir a1).bind (fun q1 => (if q1 = (0 : Int32) then some (-2 : Int32) else (lpM (σ := Int32 × Int32) (ρ := Int32) (fun st => f_X10_rests_b14 t3_law a1 st.1 st.2) FU ((0 : Int32), (0 : Int32))).bind (fun sx => f_X10_rests_x41_3 sx)))
def f_X10_rest_x52_3 : Option (Int32) :=
  some (-9 : Int32)
def f_X10_rest_b15 (t3_law : Nat → Int32) (a1 : Int32) (a2 : Int32) (v3 : Int32) (v4 : Int32) : Option ((Int32 × Int32) ⊕ ((Unit) ⊕ (Int32))) :=
  (if (63 : Int32) < v4 then some (.inr (.inl ())) else (f_X3_isRest t3_law v4 a1).bind (fun q6 => (if q6 = (0 : Int32) then some (.inl (v3, (v4 + (1 : Int32)))) else (if v3 = a2 then some (.inr (.inr v4)) else some (.inl ((v3 + (1 : Int32)), (v4 + (1 : Int32))))))))
def f_X10_rest (t3_law : Nat → Int32) (a1 : Int32) (a2 : Int32) : Option (Int32) :=
  (f_X10_isAir a1).bind (fun q1 => (if q1 = (0 : Int32) then some (-2 : Int32) else (lpM (σ := Int32 × Int32) (ρ := (Unit) ⊕ (Int32)) (fun st => f_X10_rest_b15 t3_law a1 a2 st.1 st.2) FU ((0 : Int32), (0 : Int32))).bind (fun so => Sum.elim (fun sx => f_X10_rest_x52_3) (fun r => some r) so)))
def f_X10_settle (t3_law : Nat → Int32) (a1 : Int32) (a2 : Int32) : Option (Int32) :=
  (f_X10_isIce a1).bind (fun q1 => (if q1 = (0 : Int32) then some (-2 : Int32) else (f_X10_isAir a2).bind (fun q4 => (if q4 = (0 : Int32) then some (-2 : Int32) else (f_X3_settled t3_law a1 a2).bind (fun q6 => some q6)))))
def f_X10_jumps (t3_law : Nat → Int32) (t1_airs : Nat → Int32) (t1_found : Int32) (t1_end : Int32) (a1 : Int32) (a2 : Int32) (a3 : Int32) : Option (Int32 × (Nat → Int32) × Int32 × Int32) :=
  (f_X10_isIce a1).bind (fun q1 => (if q1 = (0 : Int32) then some ((-2 : Int32), t1_airs, t1_found, t1_end) else (f_X10_isAir a2).bind (fun q4 => (if q4 = (0 : Int32) then some ((-2 : Int32), t1_airs, t1_found, t1_end) else (f_X10_isAir a3).bind (fun q7 => (if q7 = (0 : Int32) then some ((-2 : Int32), t1_airs, t1_found, t1_end) else (f_X1_follow t1_airs t3_law a1 a2 a3).bind (fun q9 => some (q9.2.1, q9.1, q9.2.1, q9.2.2))))))))
def f_X10_jump (t3_law : Nat → Int32) (t1_airs : Nat → Int32) (t1_found : Int32) (t1_end : Int32) (a1 : Int32) (a2 : Int32) (a3 : Int32) (a4 : Int32) : Option (Int32 × (Nat → Int32) × Int32 × Int32) :=
  (f_X10_isIce a1).bind (fun q1 => (if q1 = (0 : Int32) then some ((-2 : Int32), t1_airs, t1_found, t1_end) else (f_X10_isAir a2).bind (fun q4 => (if q4 = (0 : Int32) then some ((-2 : Int32), t1_airs, t1_found, t1_end) else (f_X10_isAir a3).bind (fun q7 => (if q7 = (0 : Int32) then some ((-2 : Int32), t1_airs, t1_found, t1_end) else (f_X1_follow t1_airs t3_law a1 a2 a3).bind (fun q9 => (f_X1_airOf q9.1 q9.2.1 a4).bind (fun q10 => some (q10, q9.1, q9.2.1, q9.2.2)))))))))
def f_X10_curve (t3_law : Nat → Int32) (t1_airs : Nat → Int32) (t1_found : Int32) (t1_end : Int32) (a1 : Int32) (a2 : Int32) (a3 : Int32) : Option (Int32 × (Nat → Int32) × Int32 × Int32) :=
  (f_X10_isIce a1).bind (fun q1 => (if q1 = (0 : Int32) then some ((-2 : Int32), t1_airs, t1_found, t1_end) else (f_X10_isAir a2).bind (fun q4 => (if q4 = (0 : Int32) then some ((-2 : Int32), t1_airs, t1_found, t1_end) else (f_X10_isAir a3).bind (fun q7 => (if q7 = (0 : Int32) then some ((-2 : Int32), t1_airs, t1_found, t1_end) else (f_X1_follow t1_airs t3_law a1 a2 a3).bind (fun q9 => some (q9.2.2, q9.1, q9.2.1, q9.2.2))))))))
def f_X10_least_x41_1 : Option (Int32) :=
  some (-9 : Int32)
def f_X10_least_b14 (t3_law : Nat → Int32) (a1 : Int32) (k0 : Int32) (v3 : Int32) : Option ((Int32) ⊕ ((Unit) ⊕ (Int32))) :=
  (if (100 : Int32) ≤ v3 then some (.inr (.inl ())) else (f_X3_isRest t3_law k0 v3).bind (fun q4 => (if q4 = a1 then some (.inr (.inr v3)) else some (.inl (v3 + (1 : Int32))))))
def f_X10_least_j11 (t3_law : Nat → Int32) (a1 : Int32) (k0 : Int32) : Option (Int32) :=
  (lpM (σ := Int32) (ρ := (Unit) ⊕ (Int32)) (fun st => f_X10_least_b14 t3_law a1 k0 st) FU (0 : Int32)).bind (fun so => Sum.elim (fun sx => f_X10_least_x41_1) (fun r => some r) so)
def f_X10_least (t3_law : Nat → Int32) (a1 : Int32) : Option (Int32) :=
  (if a1 = (0 : Int32) then f_X10_least_j11 t3_law a1 (63 : Int32) else f_X10_least_j11 t3_law a1 (62 : Int32))
def f_X10_isLand (a0 : Int32) : Option (Int32) :=
  (f_X10_within a0 (0 : Int32) (3 : Int32)).bind (fun q1 => zb q1 (some q1))
def f_X10_bed (t4_marks : Nat → Int32) (t4_beds : Int32) (a1 : Int32) (a2 : Int32) (a3 : Int32) (a4 : Int32) (a5 : Int32) (a6 : Int32) : Option (Int32 × (Nat → Int32) × Int32) :=
  (f_X10_isLand a1).bind (fun q1 => (if q1 = (0 : Int32) then some ((-1 : Int32), t4_marks, t4_beds) else (f_X10_isBand a5).bind (fun q4 => (if q4 = (0 : Int32) then some ((-1 : Int32), t4_marks, t4_beds) else (f_X10_within a2 (0 : Int32) (15 : Int32)).bind (fun q6 => (if q6 = (0 : Int32) then some ((-2 : Int32), t4_marks, t4_beds) else (f_X10_isRound a3).bind (fun q9 => (if q9 = (0 : Int32) then some ((-2 : Int32), t4_marks, t4_beds) else (f_X10_isRound a4).bind (fun q12 => (if q12 = (0 : Int32) then some ((-2 : Int32), t4_marks, t4_beds) else (if a4 < a3 then some ((-2 : Int32), t4_marks, t4_beds) else (f_X10_within a6 (0 : Int32) (10 : Int32)).bind (fun q17 => (if q17 = (0 : Int32) then some ((-2 : Int32), t4_marks, t4_beds) else (if t4_beds < (8 : Int32) then (f_X4_mark t4_marks t4_beds (0 : Int32) a1).bind (fun q20 => (f_X4_mark q20 t4_beds (1 : Int32) a2).bind (fun q21 => (f_X4_mark q21 t4_beds (2 : Int32) a3).bind (fun q22 => (f_X4_mark q22 t4_beds (3 : Int32) a4).bind (fun q23 => (f_X4_mark q23 t4_beds (4 : Int32) a5).bind (fun q24 => (f_X4_mark q24 t4_beds (5 : Int32) a6).bind (fun q25 => some (t4_beds, q25, (t4_beds + (1 : Int32))))))))) else some ((-4 : Int32), t4_marks, t4_beds)))))))))))))))
def f_X10_forget (t4_beds : Int32) : Option (Int32 × Int32) :=
  (if (0 : Int32) < t4_beds then some ((t4_beds - (1 : Int32)), (t4_beds - (1 : Int32))) else some ((-3 : Int32), t4_beds))
def f_X10_isBed (t4_beds : Int32) (a1 : Int32) : Option (Int32) :=
  (f_X10_within a1 (0 : Int32) (t4_beds - (1 : Int32))).bind (fun q1 => zb q1 (some q1))
def f_X10_about (t4_marks : Nat → Int32) (t4_beds : Int32) (a1 : Int32) (a2 : Int32) : Option (Int32) :=
  (f_X10_isBed t4_beds a1).bind (fun q1 => (if q1 = (0 : Int32) then some (-1 : Int32) else (f_X10_within a2 (0 : Int32) (7 : Int32)).bind (fun q3 => (if q3 = (0 : Int32) then some (-2 : Int32) else (if a2 = (6 : Int32) then (f_X4_slideTenths t4_marks a1).bind (fun q13 => some q13) else (if a2 = (7 : Int32) then (f_X4_isIcy t4_marks a1).bind (fun q9 => (if q9 = (0 : Int32) then some (0 : Int32) else some (1 : Int32))) else (f_X4_markOf t4_marks a1 a2).bind (fun q7 => some q7)))))))
def f_X10_explains (t0_ice : Nat → Int32) (t4_marks : Nat → Int32) (t4_beds : Int32) (a1 : Int32) (a2 : Int32) : Option (Int32) :=
  (f_X10_isStory a1).bind (fun q1 => (if q1 = (0 : Int32) then some (-1 : Int32) else (f_X10_isBed t4_beds a2).bind (fun q4 => (if q4 = (0 : Int32) then some (-1 : Int32) else (f_X4_isIcy t4_marks a2).bind (fun q6 => (if q6 = (0 : Int32) then some (-3 : Int32) else (f_X4_markOf t4_marks a2 (2 : Int32)).bind (fun q8 => (f_X4_markOf t4_marks a2 (3 : Int32)).bind (fun q9 => (f_X0_someIce t0_ice a1 q8 q9).bind (fun q10 => (f_X4_markOf t4_marks a2 (4 : Int32)).bind (fun q11 => (f_X10_hasIce q10 q11).bind (fun q12 => (if q12 = (0 : Int32) then (if q10 = (0 : Int32) then some (0 : Int32) else some (1 : Int32)) else some (2 : Int32)))))))))))))
def f_X10_greatestCommon_x44_1 (v4 : Int64) : Option (Int64) :=
  some v4
def f_X10_greatestCommon_b9 (v4 : Int64) (v6 : Int64) (v8 : Int32) : Option ((Int64 × Int64 × Int32) ⊕ (Int64)) :=
  (if (100 : Int32) ≤ v8 then some (.inr v4) else (if (lg_cmp v6 (0 : Int64)) = (0 : Int32) then some (.inr v4) else dzL v6 (some (.inl (v6, (v4 - v4 / v6 * v6), (v8 + (1 : Int32)))))))
def f_X10_greatestCommon (a0 : Int64) (a2 : Int64) : Option (Int64) :=
  (lpM (σ := Int64 × Int64 × Int32) (ρ := Int64) (fun st => f_X10_greatestCommon_b9 st.1 st.2.1 st.2.2) FU (a0, a2, (0 : Int32))).bind (fun sx => f_X10_greatestCommon_x44_1 sx)
def f_X10_told (a0 : Int64) (a2 : Int64) (a4 : Int32) : Option (Int64) :=
  (f_X10_greatestCommon a0 a2).bind (fun q1 => (if (0 : Int32) < (lg_cmp q1 (0 : Int64)) then (if a4 = (0 : Int32) then dzL q1 (some (a2 / q1)) else dzL q1 (some (a0 / q1))) else some (-9 : Int64)))
def f_X10_chance_j15 : Option (Int64) :=
  some (-1 : Int64)
def f_X10_chance (t0_ice : Nat → Int32) (t4_marks : Nat → Int32) (t4_beds : Int32) (a1 : Int32) (a2 : Int32) (a3 : Int32) : Option (Int64) :=
  (f_X10_isStory a1).bind (fun q2 => (if q2 = (0 : Int32) then f_X10_chance_j15 else (f_X10_isBed t4_beds a2).bind (fun q4 => (if q4 = (0 : Int32) then f_X10_chance_j15 else (f_X5_hundredths t0_ice t4_marks a1 a2).bind (fun q6 => (f_X10_told (q6.toInt64) (100 : Int64) a3).bind (fun q7 => some q7))))))
def f_X10_weight (t4_weights : Nat → Int32) (a1 : Int32) (a2 : Int32) : Option (Int32 × (Nat → Int32)) :=
  (f_X10_isStory a1).bind (fun q1 => (if q1 = (0 : Int32) then some ((-1 : Int32), t4_weights) else (f_X10_within a2 (0 : Int32) (9 : Int32)).bind (fun q3 => (if q3 = (0 : Int32) then some ((-2 : Int32), t4_weights) else gd a1 4 (gd a1 4 (some ((t4_weights a1.toNatClampNeg), (upd t4_weights a1.toNatClampNeg a2))))))))
def f_X10_odds (t0_ice : Nat → Int32) (t4_marks : Nat → Int32) (t4_weights : Nat → Int32) (t4_beds : Int32) (t5_shares : Nat → Int64) (t5_chances : Nat → Int32) (t5_all : Int64) (a1 : Int32) (a2 : Int32) : Option (Int64 × (Nat → Int64) × (Nat → Int32) × Int64) :=
  (f_X10_isStory a1).bind (fun q1 => (if q1 = (0 : Int32) then some ((-1 : Int64), t5_shares, t5_chances, t5_all) else (f_X5_weigh t5_shares t5_chances t0_ice t4_marks t4_weights t4_beds).bind (fun q3 => (if (lg_cmp q3.2.2 (0 : Int64)) = (0 : Int32) then some ((-3 : Int64), q3.1, q3.2.1, q3.2.2) else gd a1 4 ((f_X10_told (q3.1 a1.toNatClampNeg) q3.2.2 a2).bind (fun q6 => some (q6, q3.1, q3.2.1, q3.2.2)))))))
def f_X10_best (t0_ice : Nat → Int32) (t4_marks : Nat → Int32) (t4_weights : Nat → Int32) (t4_beds : Int32) (t5_shares : Nat → Int64) (t5_chances : Nat → Int32) : Option (Int32 × (Nat → Int64) × (Nat → Int32) × Int64) :=
  (f_X5_weigh t5_shares t5_chances t0_ice t4_marks t4_weights t4_beds).bind (fun q1 => (if (lg_cmp q1.2.2 (0 : Int64)) = (0 : Int32) then some ((-3 : Int32), q1.1, q1.2.1, q1.2.2) else (f_X5_greatest q1.1).bind (fun q3 => some (q3, q1.1, q1.2.1, q1.2.2))))
def f_X10_mover (t0_ice : Nat → Int32) (t4_marks : Nat → Int32) (t4_weights : Nat → Int32) (t4_beds : Int32) (t5_shares : Nat → Int64) (t5_chances : Nat → Int32) : Option (Int32 × (Nat → Int64) × (Nat → Int32) × Int64) :=
  (f_X5_weigh t5_shares t5_chances t0_ice t4_marks t4_weights t4_beds).bind (fun q1 => (if (lg_cmp q1.2.2 (0 : Int64)) = (0 : Int32) then some ((-3 : Int32), q1.1, q1.2.1, q1.2.2) else (f_X5_bedThatMovesMost q1.1 q1.2.1 q1.2.2 t4_weights t4_beds).bind (fun q3 => some (q3.1, q3.2.1, q1.2.1, q3.2.2))))
def f_X10_next (t0_ice : Nat → Int32) (t4_marks : Nat → Int32) (t4_weights : Nat → Int32) (t4_beds : Int32) (t5_shares : Nat → Int64) (t5_chances : Nat → Int32) : Option (Int32 × (Nat → Int64) × (Nat → Int32) × Int64) :=
  (f_X5_weigh t5_shares t5_chances t0_ice t4_marks t4_weights t4_beds).bind (fun q1 => (if (lg_cmp q1.2.2 (0 : Int64)) = (0 : Int32) then some ((-3 : Int32), q1.1, q1.2.1, q1.2.2) else (f_X5_whereToGo q1.1 q1.2.2 t0_ice).bind (fun q3 => some (q3, q1.1, q1.2.1, q1.2.2))))
def f_X10_once (t4_marks : Nat → Int32) (t4_beds : Int32) : Option (Int32) :=
  (f_X2_firstCommonRound t4_marks t4_beds).bind (fun q1 => some q1)
def f_X10_times (t4_marks : Nat → Int32) (t4_beds : Int32) (t2_rounds : Nat → Int32) : Option (Int32 × (Nat → Int32) × Int32) :=
  (f_X2_part t2_rounds t4_marks t4_beds).bind (fun q1 => some (q1.2, q1.1, q1.2))
def f_X10_time (t4_marks : Nat → Int32) (t4_beds : Int32) (t2_rounds : Nat → Int32) (a1 : Int32) : Option (Int32 × (Nat → Int32) × Int32) :=
  (f_X2_part t2_rounds t4_marks t4_beds).bind (fun q1 => (f_X2_roundOf q1.1 q1.2 a1).bind (fun q2 => some (q2, q1.1, q1.2)))
def f_X10_order (t4_marks : Nat → Int32) (t4_beds : Int32) (a1 : Int32) : Option (Int32) :=
  (f_X10_isLand a1).bind (fun q1 => (if q1 = (0 : Int32) then some (-1 : Int32) else (f_X2_isInOrder t4_marks t4_beds a1).bind (fun q3 => (if q3 = (0 : Int32) then some (0 : Int32) else some (1 : Int32)))))
def f_X10_gap (t4_marks : Nat → Int32) (t4_beds : Int32) (a1 : Int32) : Option (Int32) :=
  (f_X10_isBed t4_beds a1).bind (fun q1 => (if q1 = (0 : Int32) then some (-1 : Int32) else (f_X4_markOf t4_marks a1 (0 : Int32)).bind (fun q3 => (f_X2_earliestBelow t4_marks q3 a1).bind (fun q4 => (if q4 = (-9 : Int32) then some (-3 : Int32) else (f_X2_isInOrder t4_marks t4_beds q3).bind (fun q7 => (if q7 = (0 : Int32) then some (-3 : Int32) else (f_X2_latestFrom t4_marks t4_beds q3 a1).bind (fun q9 => some (q9 - q4)))))))))
def f_X10_pole (t0_ice : Nat → Int32) (t4_marks : Nat → Int32) (t4_beds : Int32) (a1 : Int32) (a2 : Int32) : Option (Int32) :=
  (f_X10_isStory a1).bind (fun q1 => (if q1 = (0 : Int32) then some (-1 : Int32) else (f_X10_isBand a2).bind (fun q3 => (if q3 = (0 : Int32) then some (-2 : Int32) else (f_X5_explainedBy t0_ice t4_marks t4_beds a1 a2).bind (fun q5 => some q5)))))
def f_X10_elsewhere_x57_3 (v2 : Int32) : Option (Int32) :=
  some v2
def f_X10_elsewhere_b16 (t0_ice : Nat → Int32) (t4_marks : Nat → Int32) (t4_beds : Int32) (a1 : Int32) (v2 : Int32) (v3 : Int32) (v4 : Int32) : Option ((Int32 × Int32 × Int32) ⊕ (Int32)) :=
  (if (6 : Int32) ≤ v4 then some (.inr v2) else (f_X5_explainedBy t0_ice t4_marks t4_beds a1 v4).bind (fun q6 => (if q6 ≤ v3 then some (.inl (v2, v3, (v4 + (1 : Int32)))) else some (.inl (v4, q6, (v4 + (1 : Int32)))))))
def f_X10_elsewhere (t0_ice : Nat → Int32) (t4_marks : Nat → Int32) (t4_beds : Int32) (a1 : Int32) : Option (Int32) :=
  (f_X10_isStory a1).bind (fun q1 => (if q1 = (0 : Int32) then some (-1 : Int32) else (lpM (σ := Int32 × Int32 × Int32) (ρ := Int32) (fun st => f_X10_elsewhere_b16 t0_ice t4_marks t4_beds a1 st.1 st.2.1 st.2.2) FU ((0 : Int32), (-1 : Int32), (0 : Int32))).bind (fun sx => f_X10_elsewhere_x57_3 sx)))
def f_X10_isSlot (a0 : Int32) : Option (Int32) :=
  (f_X10_within a0 (0 : Int32) (1 : Int32)).bind (fun q1 => zb q1 (some q1))
def f_X10_keep (t4_marks : Nat → Int32) (t4_weights : Nat → Int32) (t4_beds : Int32) (u0_marks : Nat → Int32) (u0_weights : Nat → Int32) (u0_beds : Int32) (u0_isKept : Int32) (u1_marks : Nat → Int32) (u1_weights : Nat → Int32) (u1_beds : Int32) (u1_isKept : Int32) (a1 : Int32) : Option (Int32 × (Nat → Int32) × (Nat → Int32) × Int32 × Int32 × (Nat → Int32) × (Nat → Int32) × Int32 × Int32) :=
  (f_X10_isSlot a1).bind (fun q1 => (if q1 = (0 : Int32) then some ((-1 : Int32), u0_marks, u0_weights, u0_beds, u0_isKept, u1_marks, u1_weights, u1_beds, u1_isKept) else gd a1 2 ((if a1 = (0 : Int32) then (f_X4_copyFrom u0_marks u0_weights t4_marks t4_weights t4_beds).bind (fun q4 => gd a1 2 (some (t4_beds, q4.1, q4.2.1, q4.2.2, (1 : Int32), u1_marks, u1_weights, u1_beds, u1_isKept))) else (f_X4_copyFrom u1_marks u1_weights t4_marks t4_weights t4_beds).bind (fun q7 => gd a1 2 (some (t4_beds, u0_marks, u0_weights, u0_beds, u0_isKept, q7.1, q7.2.1, q7.2.2, (1 : Int32))))))))
def f_X10_again (t4_marks : Nat → Int32) (t4_weights : Nat → Int32) (t4_beds : Int32) (u0_marks : Nat → Int32) (u0_weights : Nat → Int32) (u0_beds : Int32) (u0_isKept : Int32) (u1_marks : Nat → Int32) (u1_weights : Nat → Int32) (u1_beds : Int32) (u1_isKept : Int32) (a1 : Int32) : Option (Int32 × (Nat → Int32) × (Nat → Int32) × Int32) :=
  (f_X10_isSlot a1).bind (fun q1 => (if q1 = (0 : Int32) then some ((-1 : Int32), t4_marks, t4_weights, t4_beds) else gd a1 2 ((if a1 = (0 : Int32) then (if u0_isKept = (0 : Int32) then some ((-3 : Int32), t4_marks, t4_weights, t4_beds) else gd a1 2 ((f_X4_copyFrom t4_marks t4_weights u0_marks u0_weights u0_beds).bind (fun q6 => some (q6.2.2, q6.1, q6.2.1, q6.2.2)))) else (if u1_isKept = (0 : Int32) then some ((-3 : Int32), t4_marks, t4_weights, t4_beds) else gd a1 2 ((f_X4_copyFrom t4_marks t4_weights u1_marks u1_weights u1_beds).bind (fun q11 => some (q11.2.2, q11.1, q11.2.1, q11.2.2))))))))
def f_X10_count (t9_length : Int32) (t4_marks : Nat → Int32) (t4_weights : Nat → Int32) (t4_beds : Int32) (a1 : Int32) : Option (Int32) :=
  (if a1 = (0 : Int32) then some t9_length else (if a1 = (1 : Int32) then some t4_beds else (if a1 = (2 : Int32) then (f_X4_icyBeds t4_marks t4_beds).bind (fun q4 => some q4) else (if a1 = (3 : Int32) then (f_X4_weightsTogether t4_weights).bind (fun q6 => some q6) else some (-2 : Int32)))))
def f_X11_in (a0 : Int64) (a2 : Int64) (a4 : Int64) : Option (Int32) :=
  (if (lg_cmp a0 a2) < (0 : Int32) then some (0 : Int32) else (if (0 : Int32) < (lg_cmp a0 a4) then some (0 : Int32) else some (1 : Int32)))
def f_X11_ones_x24_1 (v1 : Int32) : Option (Int32) :=
  some v1
def f_X11_ones_b4 (a0 : Int32) (v1 : Int32) (v2 : Int32) : Option ((Int32 × Int32) ⊕ (Int32)) :=
  (if (6 : Int32) ≤ v2 then some (.inr v1) else (some (v1 + ((a0 >>> (v2 &&& (31 : Int32))) &&& (1 : Int32)))).bind (fun u4 => some (.inl (u4, (v2 + (1 : Int32))))))
def f_X11_ones (a0 : Int32) : Option (Int32) :=
  (lpM (σ := Int32 × Int32) (ρ := Int32) (fun st => f_X11_ones_b4 a0 st.1 st.2) FU ((0 : Int32), (0 : Int32))).bind (fun sx => f_X11_ones_x24_1 sx)
def f_X11_write_x76_4 (mo_text : Nat → Int32) (mo_length : Int32) : Option (Int32 × (Nat → Int32) × Int32) :=
  some (mo_length, mo_text, mo_length)
def f_X11_write_b34 (a2 : Int64) (v4 : Int32) (mo_text : Nat → Int32) (mo_length : Int32) : Option ((Int32 × (Nat → Int32) × Int32) ⊕ ((Nat → Int32) × Int32)) :=
  (if v4 < (0 : Int32) then some (.inr (mo_text, mo_length)) else gd mo_length 48 (some (.inl ((v4 + (-1 : Int32)), (upd mo_text mo_length.toNatClampNeg (((a2 >>> (((8 : Int32) * v4).toInt64 &&& (63 : Int64))) &&& (255 : Int64)).toInt32)), (mo_length + (1 : Int32))))))
def f_X11_write (mo_text : Nat → Int32) (mo_length : Int32) (a1 : Int32) (a2 : Int64) : Option (Int32 × (Nat → Int32) × Int32) :=
  (f_X11_in (a1.toInt64) (1 : Int64) (8 : Int64)).bind (fun q1 => (if q1 = (0 : Int32) then some ((-2 : Int32), mo_text, mo_length) else (if (mo_length + a1) ≤ (48 : Int32) then (lpM (σ := Int32 × (Nat → Int32) × Int32) (ρ := (Nat → Int32) × Int32) (fun st => f_X11_write_b34 a2 st.1 st.2.1 st.2.2) FU ((a1 - (1 : Int32)), mo_text, mo_length)).bind (fun sx => f_X11_write_x76_4 sx.1 sx.2) else some ((-4 : Int32), mo_text, mo_length))))
def f_X11_wipe (mo_length : Int32) : Option (Int32 × Int32) :=
  some (mo_length, (0 : Int32))
def f_X11_fail_j21 (k1 : Int32) : Option (Int32) :=
  some k1
def f_X11_fail (mo_at : Int32) (mo_faultAt : Int32) : Option (Int32) :=
  (if mo_faultAt = (-9 : Int32) then f_X11_fail_j21 mo_at else f_X11_fail_j21 mo_faultAt)
def f_X11_isNext (mo_text : Nat → Int32) (mo_length : Int32) (mo_at : Int32) (mo_faultAt : Int32) (a1 : Int32) : Option (Int32) :=
  (if mo_faultAt = (-9 : Int32) then (if mo_length ≤ mo_at then some (0 : Int32) else gd mo_at 48 ((if (mo_text mo_at.toNatClampNeg) = a1 then some (1 : Int32) else some (0 : Int32)))) else some (0 : Int32))
def f_X11_figure_j57 (mo_at : Int32) (mo_faultAt : Int32) : Option (Int32 × Int32 × Int32) :=
  (f_X11_fail mo_at mo_faultAt).bind (fun q1 => some ((0 : Int32), mo_at, q1))
def f_X11_figure_j36 (a1 : Int32) (k0 : Int32) (mo_at : Int32) (mo_faultAt : Int32) : Option (Int32 × Int32 × Int32) :=
  (f_X11_in (k0.toInt64) (0 : Int64) (9 : Int64)).bind (fun q3 => (if q3 = (0 : Int32) then f_X11_figure_j57 mo_at mo_faultAt else (if ((a1 >>> (k0 &&& (31 : Int32))) &&& (1 : Int32)) = (0 : Int32) then f_X11_figure_j57 mo_at mo_faultAt else some (k0, (mo_at + (1 : Int32)), mo_faultAt))))
def f_X11_figure_j35 (a1 : Int32) (mo_at : Int32) (mo_faultAt : Int32) : Option (Int32 × Int32 × Int32) :=
  f_X11_figure_j36 a1 (-1 : Int32) mo_at mo_faultAt
def f_X11_figure (mo_text : Nat → Int32) (mo_length : Int32) (mo_at : Int32) (mo_faultAt : Int32) (a1 : Int32) : Option (Int32 × Int32 × Int32) :=
  (if mo_faultAt = (-9 : Int32) then (if mo_length ≤ mo_at then f_X11_figure_j35 a1 mo_at mo_faultAt else gd mo_at 48 (f_X11_figure_j36 a1 ((mo_text mo_at.toNatClampNeg) - (48 : Int32)) mo_at mo_faultAt)) else f_X11_figure_j35 a1 mo_at mo_faultAt)
def f_X11_placeOf (a0 : Int32) : Option (Int32) :=
  (if a0 = (82 : Int32) then some (6 : Int32) else (if a0 = (71 : Int32) then some (7 : Int32) else (if a0 = (70 : Int32) then some (8 : Int32) else (if a0 = (77 : Int32) then some (9 : Int32) else (if a0 = (86 : Int32) then some (10 : Int32) else (if a0 = (87 : Int32) then some (11 : Int32) else some (-9 : Int32)))))))
def f_X11_readLaw_x236_2 (mo_read : Nat → Int32) (mo_at : Int32) (mo_faultAt : Int32) (mo_parts : Int32) : Option (Int32 × (Nat → Int32) × Int32 × Int32 × Int32) :=
  some (mo_faultAt, mo_read, mo_at, mo_faultAt, mo_parts)
def f_X11_readLaw_j221 (k0 : Int32) (k1 : Int32) (mo_read : Nat → Int32) (mo_at : Int32) (mo_faultAt : Int32) (mo_parts : Int32) : Option ((Int32 × (Nat → Int32) × Int32 × Int32 × Int32) ⊕ ((Nat → Int32) × Int32 × Int32 × Int32)) :=
  some (.inl ((k0 ||| k1), mo_read, mo_at, mo_faultAt, (mo_parts + (1 : Int32))))
def f_X11_readLaw_j207 (v1 : Int32) (v2 : Int32) (mo_read : Nat → Int32) (mo_at : Int32) (mo_faultAt : Int32) (mo_parts : Int32) : Option ((Int32 × (Nat → Int32) × Int32 × Int32 × Int32) ⊕ ((Nat → Int32) × Int32 × Int32 × Int32)) :=
  (if v2 = (-9 : Int32) then f_X11_readLaw_j221 v1 (0 : Int32) mo_read mo_at mo_faultAt mo_parts else f_X11_readLaw_j221 v1 ((1 : Int32) <<< (v2 &&& (31 : Int32))) mo_read mo_at mo_faultAt mo_parts)
def f_X11_readLaw_j203 (v1 : Int32) (v2 : Int32) (mo_read : Nat → Int32) (mo_at : Int32) (mo_faultAt : Int32) (mo_parts : Int32) : Option ((Int32 × (Nat → Int32) × Int32 × Int32 × Int32) ⊕ ((Nat → Int32) × Int32 × Int32 × Int32)) :=
  (f_X11_fail mo_at mo_faultAt).bind (fun q5 => f_X11_readLaw_j207 v1 v2 mo_read mo_at q5 mo_parts)
def f_X11_readLaw_j199 (v1 : Int32) (v2 : Int32) (k1 : Int32) (k2 : Int32) (mo_read : Nat → Int32) (mo_at : Int32) (mo_faultAt : Int32) (mo_parts : Int32) : Option ((Int32 × (Nat → Int32) × Int32 × Int32 × Int32) ⊕ ((Nat → Int32) × Int32 × Int32 × Int32)) :=
  gd k1 12 (f_X11_readLaw_j207 v1 v2 (upd mo_read k1.toNatClampNeg k2) mo_at mo_faultAt mo_parts)
def f_X11_readLaw_j140 (mo_text : Nat → Int32) (mo_length : Int32) (v1 : Int32) (v2 : Int32) (mo_read : Nat → Int32) (mo_at : Int32) (mo_faultAt : Int32) (mo_parts : Int32) : Option ((Int32 × (Nat → Int32) × Int32 × Int32 × Int32) ⊕ ((Nat → Int32) × Int32 × Int32 × Int32)) :=
  (if v2 = (-9 : Int32) then f_X11_readLaw_j203 v1 v2 mo_read mo_at mo_faultAt mo_parts else (if ((v1 >>> (v2 &&& (31 : Int32))) &&& (1 : Int32)) = (0 : Int32) then (f_X11_figure mo_text mo_length (mo_at + (1 : Int32)) mo_faultAt (1023 : Int32)).bind (fun q9 => (if v2 = (8 : Int32) then (f_X11_figure mo_text mo_length q9.2.1 q9.2.2 (1023 : Int32)).bind (fun q11 => f_X11_readLaw_j199 v1 v2 v2 (((10 : Int32) * q9.1) + q11.1) mo_read q11.2.1 q11.2.2 mo_parts) else f_X11_readLaw_j199 v1 v2 v2 q9.1 mo_read q9.2.1 q9.2.2 mo_parts)) else f_X11_readLaw_j203 v1 v2 mo_read mo_at mo_faultAt mo_parts))
def f_X11_readLaw_b39 (mo_text : Nat → Int32) (mo_length : Int32) (v1 : Int32) (mo_read : Nat → Int32) (mo_at : Int32) (mo_faultAt : Int32) (mo_parts : Int32) : Option ((Int32 × (Nat → Int32) × Int32 × Int32 × Int32) ⊕ ((Nat → Int32) × Int32 × Int32 × Int32)) :=
  (if mo_faultAt = (-9 : Int32) then (if mo_length ≤ mo_at then some (.inr (mo_read, mo_at, mo_faultAt, mo_parts)) else gd mo_at 48 ((f_X11_placeOf (mo_text mo_at.toNatClampNeg)).bind (fun q15 => (f_X11_isNext mo_text mo_length mo_at mo_faultAt (76 : Int32)).bind (fun q16 => (if q16 = (0 : Int32) then f_X11_readLaw_j140 mo_text mo_length v1 q15 mo_read mo_at mo_faultAt mo_parts else (if (v1 &&& (63 : Int32)) = (63 : Int32) then f_X11_readLaw_j140 mo_text mo_length v1 q15 mo_read mo_at mo_faultAt mo_parts else (f_X11_figure mo_text mo_length (mo_at + (1 : Int32)) mo_faultAt ((63 : Int32) &&& (v1 ^^^ (-1 : Int32)))).bind (fun q19 => (f_X11_figure mo_text mo_length q19.2.1 q19.2.2 (1023 : Int32)).bind (fun q20 => (f_X11_figure mo_text mo_length q20.2.1 q20.2.2 (1023 : Int32)).bind (fun q21 => gd q19.1 12 (f_X11_readLaw_j207 v1 q19.1 (upd mo_read q19.1.toNatClampNeg (((10 : Int32) * q20.1) + q21.1)) q21.2.1 q21.2.2 mo_parts)))))))))) else some (.inr (mo_read, mo_at, mo_faultAt, mo_parts)))
def f_X11_readLaw_x39_1 (mo_text : Nat → Int32) (mo_length : Int32) (mo_read : Nat → Int32) : Option (Int32 × (Nat → Int32) × Int32 × Int32 × Int32) :=
  (lpM (σ := Int32 × (Nat → Int32) × Int32 × Int32 × Int32) (ρ := (Nat → Int32) × Int32 × Int32 × Int32) (fun st => f_X11_readLaw_b39 mo_text mo_length st.1 st.2.1 st.2.2.1 st.2.2.2.1 st.2.2.2.2) FU ((0 : Int32), mo_read, (0 : Int32), (-9 : Int32), (0 : Int32))).bind (fun sx => f_X11_readLaw_x236_2 sx.1 sx.2.1 sx.2.2.1 sx.2.2.2)
def f_X11_readLaw_b20 (v2 : Int32) (mo_read : Nat → Int32) : Option ((Int32 × (Nat → Int32)) ⊕ ((Nat → Int32))) :=
  (if (12 : Int32) ≤ v2 then some (.inr mo_read) else gd v2 12 (some (.inl ((v2 + (1 : Int32)), (upd mo_read v2.toNatClampNeg (0 : Int32))))))
def f_X11_readLaw (mo_read : Nat → Int32) (mo_text : Nat → Int32) (mo_length : Int32) : Option (Int32 × (Nat → Int32) × Int32 × Int32 × Int32) :=
  (lpM (σ := Int32 × (Nat → Int32)) (ρ := (Nat → Int32)) (fun st => f_X11_readLaw_b20 st.1 st.2) FU ((0 : Int32), mo_read)).bind (fun sx => f_X11_readLaw_x39_1 mo_text mo_length sx)
def f_X11_readEntry_x210_1 (v5 : Int32) (mo_entryRound : Nat → Int32) (mo_entryIce : Nat → Int32) (mo_entries : Int32) (v6 : Int32) (mo_at : Int32) (mo_faultAt : Int32) : Option (Int32 × Int32 × Int32 × (Nat → Int32) × (Nat → Int32) × Int32) :=
  gd mo_entries 48 (gd mo_entries 48 ((if mo_faultAt = (-9 : Int32) then some (v5, mo_at, mo_faultAt, (upd mo_entryRound mo_entries.toNatClampNeg v5), (upd mo_entryIce mo_entries.toNatClampNeg v6), (mo_entries + (1 : Int32))) else some ((99 : Int32), mo_at, mo_faultAt, (upd mo_entryRound mo_entries.toNatClampNeg v5), (upd mo_entryIce mo_entries.toNatClampNeg v6), (mo_entries + (1 : Int32))))))
def f_X11_readEntry_j198 (v8 : Int32) (k0 : Int32) (k1 : Int32) (mo_at : Int32) (mo_faultAt : Int32) : Option ((Int32 × Int32 × Int32 × Int32) ⊕ (Int32 × Int32 × Int32)) :=
  some (.inl ((k0 ||| k1), (v8 + (1 : Int32)), mo_at, mo_faultAt))
def f_X11_readEntry_b131 (mo_text : Nat → Int32) (mo_length : Int32) (v6 : Int32) (v7 : Int32) (mo_at : Int32) (mo_faultAt : Int32) : Option ((Int32 × Int32 × Int32 × Int32) ⊕ (Int32 × Int32 × Int32)) :=
  (if mo_faultAt = (-9 : Int32) then (if mo_length ≤ mo_at then some (.inr (v6, mo_at, mo_faultAt)) else gd mo_at 48 ((if (mo_text mo_at.toNatClampNeg) = (59 : Int32) then some (.inr (v6, mo_at, mo_faultAt)) else (f_X11_figure mo_text mo_length mo_at mo_faultAt (((63 : Int32) >>> (v7 &&& (31 : Int32))) <<< (v7 &&& (31 : Int32)))).bind (fun q11 => (if q11.2.2 = (-9 : Int32) then f_X11_readEntry_j198 q11.1 v6 ((1 : Int32) <<< (q11.1 &&& (31 : Int32))) q11.2.1 q11.2.2 else f_X11_readEntry_j198 q11.1 v6 (0 : Int32) q11.2.1 q11.2.2))))) else some (.inr (v6, mo_at, mo_faultAt)))
def f_X11_readEntry_j125 (mo_text : Nat → Int32) (mo_length : Int32) (v5 : Int32) (mo_at : Int32) (mo_faultAt : Int32) (mo_entryRound : Nat → Int32) (mo_entryIce : Nat → Int32) (mo_entries : Int32) : Option (Int32 × Int32 × Int32 × (Nat → Int32) × (Nat → Int32) × Int32) :=
  (lpM (σ := Int32 × Int32 × Int32 × Int32) (ρ := Int32 × Int32 × Int32) (fun st => f_X11_readEntry_b131 mo_text mo_length st.1 st.2.1 st.2.2.1 st.2.2.2) FU ((0 : Int32), (0 : Int32), mo_at, mo_faultAt)).bind (fun sx => f_X11_readEntry_x210_1 v5 mo_entryRound mo_entryIce mo_entries sx.1 sx.2.1 sx.2.2)
def f_X11_readEntry_x86_15 (mo_text : Nat → Int32) (mo_length : Int32) (mo_entryRound : Nat → Int32) (mo_entryIce : Nat → Int32) (mo_entries : Int32) (q14 : Int32 × Int32 × Int32) (v4 : Int32) : Option (Int32 × Int32 × Int32 × (Nat → Int32) × (Nat → Int32) × Int32) :=
  (f_X11_figure mo_text mo_length q14.2.1 q14.2.2 v4).bind (fun q16 => (f_X11_isNext mo_text mo_length q16.2.1 q16.2.2 (58 : Int32)).bind (fun q17 => (if q17 = (0 : Int32) then (f_X11_fail q16.2.1 q16.2.2).bind (fun q19 => f_X11_readEntry_j125 mo_text mo_length (((10 : Int32) * q14.1) + q16.1) q16.2.1 q19 mo_entryRound mo_entryIce mo_entries) else f_X11_readEntry_j125 mo_text mo_length (((10 : Int32) * q14.1) + q16.1) (q16.2.1 + (1 : Int32)) q16.2.2 mo_entryRound mo_entryIce mo_entries)))
def f_X11_readEntry_j77 (v5 : Int32) (k0 : Int32) (k1 : Int32) : Option ((Int32 × Int32) ⊕ (Int32)) :=
  some (.inl ((k0 ||| k1), (v5 + (1 : Int32))))
def f_X11_readEntry_b49 (a1 : Int32) (q14 : Int32 × Int32 × Int32) (v4 : Int32) (v5 : Int32) : Option ((Int32 × Int32) ⊕ (Int32)) :=
  (if (10 : Int32) ≤ v5 then some (.inr v4) else (if (((10 : Int32) * q14.1) + v5) ≤ a1 then f_X11_readEntry_j77 v5 v4 (0 : Int32) else f_X11_readEntry_j77 v5 v4 ((1 : Int32) <<< (v5 &&& (31 : Int32)))))
def f_X11_readEntry_x37_13 (mo_text : Nat → Int32) (mo_length : Int32) (mo_at : Int32) (mo_faultAt : Int32) (mo_entryRound : Nat → Int32) (mo_entryIce : Nat → Int32) (mo_entries : Int32) (a1 : Int32) (v2 : Int32) : Option (Int32 × Int32 × Int32 × (Nat → Int32) × (Nat → Int32) × Int32) :=
  (f_X11_figure mo_text mo_length mo_at mo_faultAt v2).bind (fun q14 => (lpM (σ := Int32 × Int32) (ρ := Int32) (fun st => f_X11_readEntry_b49 a1 q14 st.1 st.2) FU ((0 : Int32), (0 : Int32))).bind (fun sx => f_X11_readEntry_x86_15 mo_text mo_length mo_entryRound mo_entryIce mo_entries q14 sx))
def f_X11_readEntry_j29 (v3 : Int32) (k0 : Int32) (k1 : Int32) : Option ((Int32 × Int32) ⊕ (Int32)) :=
  some (.inl ((k0 ||| k1), (v3 + (1 : Int32))))
def f_X11_readEntry_b4_13 (a1 : Int32) (v2 : Int32) (v3 : Int32) : Option ((Int32 × Int32) ⊕ (Int32)) :=
  (if (10 : Int32) ≤ v3 then some (.inr v2) else (if (((10 : Int32) * v3) + (9 : Int32)) ≤ a1 then f_X11_readEntry_j29 v3 v2 (0 : Int32) else f_X11_readEntry_j29 v3 v2 ((1 : Int32) <<< (v3 &&& (31 : Int32)))))
def f_X11_readEntry (mo_text : Nat → Int32) (mo_length : Int32) (mo_at : Int32) (mo_faultAt : Int32) (mo_entryRound : Nat → Int32) (mo_entryIce : Nat → Int32) (mo_entries : Int32) (a1 : Int32) : Option (Int32 × Int32 × Int32 × (Nat → Int32) × (Nat → Int32) × Int32) :=
  (lpM (σ := Int32 × Int32) (ρ := Int32) (fun st => f_X11_readEntry_b4_13 a1 st.1 st.2) FU ((0 : Int32), (0 : Int32))).bind (fun sx => f_X11_readEntry_x37_13 mo_text mo_length mo_at mo_faultAt mo_entryRound mo_entryIce mo_entries a1 sx)
def f_X11_readStory_j96 (mo_at : Int32) (mo_faultAt : Int32) (mo_entryRound : Nat → Int32) (mo_entryIce : Nat → Int32) (mo_entries : Int32) : Option (Int32 × Int32 × Int32 × (Nat → Int32) × (Nat → Int32) × Int32) :=
  some (mo_faultAt, mo_at, mo_faultAt, mo_entryRound, mo_entryIce, mo_entries)
def f_X11_readStory_x72_2 (mo_length : Int32) (mo_at : Int32) (mo_faultAt : Int32) (mo_entryRound : Nat → Int32) (mo_entryIce : Nat → Int32) (mo_entries : Int32) : Option (Int32 × Int32 × Int32 × (Nat → Int32) × (Nat → Int32) × Int32) :=
  (if mo_faultAt = (-9 : Int32) then (if mo_length ≤ mo_at then f_X11_readStory_j96 mo_at mo_faultAt mo_entryRound mo_entryIce mo_entries else (f_X11_fail mo_at mo_faultAt).bind (fun q5 => f_X11_readStory_j96 mo_at q5 mo_entryRound mo_entryIce mo_entries)) else f_X11_readStory_j96 mo_at mo_faultAt mo_entryRound mo_entryIce mo_entries)
def f_X11_readStory_j65 (v1 : Int32) (v2 : Int32) (k1 : Int32) (k2 : Int32) (mo_faultAt : Int32) (mo_entryRound : Nat → Int32) (mo_entryIce : Nat → Int32) (mo_entries : Int32) : Option ((Int32 × Int32 × Int32 × Int32 × (Nat → Int32) × (Nat → Int32) × Int32) ⊕ (Int32 × Int32 × (Nat → Int32) × (Nat → Int32) × Int32)) :=
  some (.inl (v1, v2, (k1 + k2), mo_faultAt, mo_entryRound, mo_entryIce, mo_entries))
def f_X11_readStory_j50 (v1 : Int32) (k0 : Int32) (mo_at : Int32) (mo_faultAt : Int32) (mo_entryRound : Nat → Int32) (mo_entryIce : Nat → Int32) (mo_entries : Int32) : Option ((Int32 × Int32 × Int32 × Int32 × (Nat → Int32) × (Nat → Int32) × Int32) ⊕ (Int32 × Int32 × (Nat → Int32) × (Nat → Int32) × Int32)) :=
  (if k0 = (0 : Int32) then f_X11_readStory_j65 v1 k0 mo_at (0 : Int32) mo_faultAt mo_entryRound mo_entryIce mo_entries else f_X11_readStory_j65 v1 k0 mo_at (1 : Int32) mo_faultAt mo_entryRound mo_entryIce mo_entries)
def f_X11_readStory_j49 (v1 : Int32) (mo_at : Int32) (mo_faultAt : Int32) (mo_entryRound : Nat → Int32) (mo_entryIce : Nat → Int32) (mo_entries : Int32) : Option ((Int32 × Int32 × Int32 × Int32 × (Nat → Int32) × (Nat → Int32) × Int32) ⊕ (Int32 × Int32 × (Nat → Int32) × (Nat → Int32) × Int32)) :=
  f_X11_readStory_j50 v1 (0 : Int32) mo_at mo_faultAt mo_entryRound mo_entryIce mo_entries
def f_X11_readStory_b20 (mo_text : Nat → Int32) (mo_length : Int32) (v1 : Int32) (v2 : Int32) (mo_at : Int32) (mo_faultAt : Int32) (mo_entryRound : Nat → Int32) (mo_entryIce : Nat → Int32) (mo_entries : Int32) : Option ((Int32 × Int32 × Int32 × Int32 × (Nat → Int32) × (Nat → Int32) × Int32) ⊕ (Int32 × Int32 × (Nat → Int32) × (Nat → Int32) × Int32)) :=
  (if v2 = (0 : Int32) then some (.inr (mo_at, mo_faultAt, mo_entryRound, mo_entryIce, mo_entries)) else (f_X11_readEntry mo_text mo_length mo_at mo_faultAt mo_entryRound mo_entryIce mo_entries v1).bind (fun q8 => (f_X11_isNext mo_text mo_length q8.2.1 q8.2.2.1 (59 : Int32)).bind (fun q9 => (if q9 = (0 : Int32) then f_X11_readStory_j49 q8.1 q8.2.1 q8.2.2.1 q8.2.2.2.1 q8.2.2.2.2.1 q8.2.2.2.2.2 else (if (99 : Int32) ≤ q8.1 then f_X11_readStory_j49 q8.1 q8.2.1 q8.2.2.1 q8.2.2.2.1 q8.2.2.2.2.1 q8.2.2.2.2.2 else f_X11_readStory_j50 q8.1 (1 : Int32) q8.2.1 q8.2.2.1 q8.2.2.2.1 q8.2.2.2.2.1 q8.2.2.2.2.2)))))
def f_X11_readStory (mo_text : Nat → Int32) (mo_length : Int32) (mo_entryRound : Nat → Int32) (mo_entryIce : Nat → Int32) : Option (Int32 × Int32 × Int32 × (Nat → Int32) × (Nat → Int32) × Int32) :=
  (lpM (σ := Int32 × Int32 × Int32 × Int32 × (Nat → Int32) × (Nat → Int32) × Int32) (ρ := Int32 × Int32 × (Nat → Int32) × (Nat → Int32) × Int32) (fun st => f_X11_readStory_b20 mo_text mo_length st.1 st.2.1 st.2.2.1 st.2.2.2.1 st.2.2.2.2.1 st.2.2.2.2.2.1 st.2.2.2.2.2.2) FU ((-1 : Int32), (1 : Int32), (0 : Int32), (-9 : Int32), mo_entryRound, mo_entryIce, (0 : Int32))).bind (fun sx => f_X11_readStory_x72_2 mo_length sx.1 sx.2.1 sx.2.2.1 sx.2.2.2.1 sx.2.2.2.2)
def f_X11_fault (mo_read : Nat → Int32) (mo_text : Nat → Int32) (mo_length : Int32) (mo_parts : Int32) (mo_entryRound : Nat → Int32) (mo_entryIce : Nat → Int32) (mo_entries : Int32) (a1 : Int32) : Option (Int32 × (Nat → Int32) × Int32 × Int32 × Int32 × (Nat → Int32) × (Nat → Int32) × Int32) :=
  (if a1 = (0 : Int32) then (f_X11_readLaw mo_read mo_text mo_length).bind (fun q2 => some (q2.1, q2.2.1, q2.2.2.1, q2.2.2.2.1, q2.2.2.2.2, mo_entryRound, mo_entryIce, mo_entries)) else (f_X11_readStory mo_text mo_length mo_entryRound mo_entryIce).bind (fun q4 => some (q4.1, mo_read, q4.2.1, q4.2.2.1, mo_parts, q4.2.2.2.1, q4.2.2.2.2.1, q4.2.2.2.2.2)))
def f_X11_law_x38_3 (q1 : Int32 × (Nat → Int32) × Int32 × Int32 × Int32) (mo_laws : Nat → Int32) : Option (Int32 × (Nat → Int32) × (Nat → Int32) × Int32 × Int32 × Int32) :=
  some (q1.2.2.2.2, q1.2.1, mo_laws, q1.2.2.1, q1.2.2.2.1, q1.2.2.2.2)
def f_X11_law_b14 (q1 : Int32 × (Nat → Int32) × Int32 × Int32 × Int32) (v1 : Int32) (mo_laws : Nat → Int32) : Option ((Int32 × (Nat → Int32)) ⊕ ((Nat → Int32))) :=
  (if (12 : Int32) ≤ v1 then some (.inr mo_laws) else gd v1 12 (gd v1 12 (some (.inl ((v1 + (1 : Int32)), (upd mo_laws v1.toNatClampNeg (q1.2.1 v1.toNatClampNeg)))))))
def f_X11_law (mo_read : Nat → Int32) (mo_laws : Nat → Int32) (mo_text : Nat → Int32) (mo_length : Int32) : Option (Int32 × (Nat → Int32) × (Nat → Int32) × Int32 × Int32 × Int32) :=
  (f_X11_readLaw mo_read mo_text mo_length).bind (fun q1 => (if q1.1 = (-9 : Int32) then (lpM (σ := Int32 × (Nat → Int32)) (ρ := (Nat → Int32)) (fun st => f_X11_law_b14 q1 st.1 st.2) FU ((0 : Int32), mo_laws)).bind (fun sx => f_X11_law_x38_3 q1 sx) else some ((-3 : Int32), q1.2.1, mo_laws, q1.2.2.1, q1.2.2.2.1, q1.2.2.2.2)))
def f_X11_lawful (mo_laws : Nat → Int32) (a1 : Int32) : Option (Int32) :=
  (f_X11_in (a1.toInt64) (0 : Int64) (11 : Int64)).bind (fun q1 => (if q1 = (0 : Int32) then some (-2 : Int32) else gd a1 12 (some (mo_laws a1.toNatClampNeg))))
def f_X11_isStory (a0 : Int32) : Option (Int32) :=
  (f_X11_in (a0.toInt64) (0 : Int64) (3 : Int64)).bind (fun q1 => zb q1 (some q1))
def f_X11_story_x83_5 (q3 : Int32 × Int32 × Int32 × (Nat → Int32) × (Nat → Int32) × Int32) (mo_stories : Nat → Int32) : Option (Int32 × Int32 × Int32 × (Nat → Int32) × (Nat → Int32) × Int32 × (Nat → Int32)) :=
  some (q3.2.2.2.2.2, q3.2.1, q3.2.2.1, q3.2.2.2.1, q3.2.2.2.2.1, q3.2.2.2.2.2, mo_stories)
def f_X11_story_j64 (a1 : Int32) (v2 : Int32) (v3 : Int32) (v4 : Int32) (mo_stories : Nat → Int32) : Option ((Int32 × Int32 × Int32 × (Nat → Int32)) ⊕ ((Nat → Int32))) :=
  gd (((100 : Int32) * a1) + v4) 400 (some (.inl (v2, v3, (v4 + (1 : Int32)), (upd mo_stories (((100 : Int32) * a1) + v4).toNatClampNeg v2))))
def f_X11_story_b28 (a1 : Int32) (q3 : Int32 × Int32 × Int32 × (Nat → Int32) × (Nat → Int32) × Int32) (v2 : Int32) (v3 : Int32) (v4 : Int32) (mo_stories : Nat → Int32) : Option ((Int32 × Int32 × Int32 × (Nat → Int32)) ⊕ ((Nat → Int32))) :=
  (if (100 : Int32) ≤ v4 then some (.inr mo_stories) else (if q3.2.2.2.2.2 ≤ v3 then f_X11_story_j64 a1 v2 v3 v4 mo_stories else gd v3 48 ((if (q3.2.2.2.1 v3.toNatClampNeg) = v4 then gd v3 48 (f_X11_story_j64 a1 (q3.2.2.2.2.1 v3.toNatClampNeg) (v3 + (1 : Int32)) v4 mo_stories) else f_X11_story_j64 a1 v2 v3 v4 mo_stories))))
def f_X11_story (mo_text : Nat → Int32) (mo_length : Int32) (mo_at : Int32) (mo_faultAt : Int32) (mo_entryRound : Nat → Int32) (mo_entryIce : Nat → Int32) (mo_entries : Int32) (mo_stories : Nat → Int32) (a1 : Int32) : Option (Int32 × Int32 × Int32 × (Nat → Int32) × (Nat → Int32) × Int32 × (Nat → Int32)) :=
  (f_X11_isStory a1).bind (fun q1 => (if q1 = (0 : Int32) then some ((-1 : Int32), mo_at, mo_faultAt, mo_entryRound, mo_entryIce, mo_entries, mo_stories) else (f_X11_readStory mo_text mo_length mo_entryRound mo_entryIce).bind (fun q3 => (if q3.1 = (-9 : Int32) then (lpM (σ := Int32 × Int32 × Int32 × (Nat → Int32)) (ρ := (Nat → Int32)) (fun st => f_X11_story_b28 a1 q3 st.1 st.2.1 st.2.2.1 st.2.2.2) FU ((0 : Int32), (0 : Int32), (0 : Int32), mo_stories)).bind (fun sx => f_X11_story_x83_5 q3 sx) else some ((-3 : Int32), q3.2.1, q3.2.2.1, q3.2.2.2.1, q3.2.2.2.2.1, q3.2.2.2.2.2, mo_stories)))))
def f_X11_isEarth (a0 : Int32) (a1 : Int32) : Option (Int32) :=
  (f_X11_in (a0.toInt64) (0 : Int64) (63 : Int64)).bind (fun q1 => (if q1 = (0 : Int32) then some (0 : Int32) else (f_X11_in (a1.toInt64) (0 : Int64) (99 : Int64)).bind (fun q4 => (if q4 = (0 : Int32) then some (0 : Int32) else some (1 : Int32)))))
def f_X11_taken_j18 (mo_laws : Nat → Int32) (a2 : Int32) (k0 : Int32) : Option (Int32) :=
  gd k0 12 ((if ((a2 >>> (k0 &&& (31 : Int32))) &&& (1 : Int32)) = (1 : Int32) then gd (6 : Int32) 12 (some ((mo_laws k0.toNatClampNeg) * ((10 : Int32) - (mo_laws (6 : Int32).toNatClampNeg)))) else some ((mo_laws k0.toNatClampNeg) * (10 : Int32))))
def f_X11_taken (mo_laws : Nat → Int32) (a1 : Int32) (a2 : Int32) : Option (Int32) :=
  (if (0 : Int32) ≤ a1 then (if a1 ≤ (5 : Int32) then f_X11_taken_j18 mo_laws a2 a1 else f_X11_taken_j18 mo_laws a2 (5 : Int32)) else f_X11_taken_j18 mo_laws a2 (0 : Int32))
def f_X11_warmthOf (mo_laws : Nat → Int32) (a1 : Int32) (a2 : Int32) (a3 : Int32) : Option (Int32) :=
  (f_X11_taken mo_laws a1 a2).bind (fun q1 => (f_X11_taken mo_laws (a1 - (1 : Int32)) a2).bind (fun q2 => (f_X11_taken mo_laws (a1 + (1 : Int32)) a2).bind (fun q3 => gd (7 : Int32) 12 (some (((((2 : Int32) * q1) + q2) + q3) + (((40 : Int32) * (mo_laws (7 : Int32).toNatClampNeg)) * a3))))))
def f_X11_iceThen_x99_1 (v3 : Int32) : Option (Int32) :=
  some v3
def f_X11_iceThen_j91 (v4 : Int32) (k0 : Int32) (k1 : Int32) : Option ((Int32 × Int32) ⊕ (Int32)) :=
  some (.inl ((k0 ||| k1), (v4 + (1 : Int32))))
def f_X11_iceThen_j75 (v3 : Int32) (v4 : Int32) (k0 : Int32) : Option ((Int32 × Int32) ⊕ (Int32)) :=
  (if k0 = (0 : Int32) then f_X11_iceThen_j91 v4 v3 (0 : Int32) else f_X11_iceThen_j91 v4 v3 ((1 : Int32) <<< (v4 &&& (31 : Int32))))
def f_X11_iceThen_j74 (v3 : Int32) (v4 : Int32) : Option ((Int32 × Int32) ⊕ (Int32)) :=
  f_X11_iceThen_j75 v3 v4 (0 : Int32)
def f_X11_iceThen_j70 (v3 : Int32) (v4 : Int32) : Option ((Int32 × Int32) ⊕ (Int32)) :=
  f_X11_iceThen_j75 v3 v4 (1 : Int32)
def f_X11_iceThen_b5 (mo_laws : Nat → Int32) (a1 : Int32) (a2 : Int32) (v3 : Int32) (v4 : Int32) : Option ((Int32 × Int32) ⊕ (Int32)) :=
  (if (6 : Int32) ≤ v4 then some (.inr v3) else (f_X11_warmthOf mo_laws v4 a1 a2).bind (fun q5 => gd (8 : Int32) 12 ((if q5 < ((40 : Int32) * (mo_laws (8 : Int32).toNatClampNeg)) then f_X11_iceThen_j70 v3 v4 else gd (8 : Int32) 12 (gd (9 : Int32) 12 ((if ((40 : Int32) * ((mo_laws (8 : Int32).toNatClampNeg) + (mo_laws (9 : Int32).toNatClampNeg))) ≤ q5 then f_X11_iceThen_j74 v3 v4 else (if ((a1 >>> (v4 &&& (31 : Int32))) &&& (1 : Int32)) = (1 : Int32) then f_X11_iceThen_j70 v3 v4 else f_X11_iceThen_j74 v3 v4))))))))
def f_X11_iceThen (mo_laws : Nat → Int32) (a1 : Int32) (a2 : Int32) : Option (Int32) :=
  (lpM (σ := Int32 × Int32) (ρ := Int32) (fun st => f_X11_iceThen_b5 mo_laws a1 a2 st.1 st.2) FU ((0 : Int32), (0 : Int32))).bind (fun sx => f_X11_iceThen_x99_1 sx)
def f_X11_roundOf_j60 (mo_laws : Nat → Int32) (v2 : Int32) (v3 : Int32) (k0 : Int32) : Option (Int32) :=
  (f_X11_iceThen mo_laws v2 v3).bind (fun q1 => some (((100 : Int32) * q1) + k0))
def f_X11_roundOf (mo_laws : Nat → Int32) (a1 : Int32) : Option (Int32) :=
  dz (100 : Int32) (dz (100 : Int32) ((some (a1 - a1 / (100 : Int32) * (100 : Int32))).bind (fun u5 => gd (10 : Int32) 12 (gd (11 : Int32) 12 ((f_X11_ones (a1 / (100 : Int32))).bind (fun q8 => (some ((u5 + (mo_laws (10 : Int32).toNatClampNeg)) - ((mo_laws (11 : Int32).toNatClampNeg) * ((6 : Int32) - q8)))).bind (fun u9 => (if (0 : Int32) ≤ u9 then (if u9 ≤ (99 : Int32) then f_X11_roundOf_j60 mo_laws (a1 / (100 : Int32)) u5 u9 else f_X11_roundOf_j60 mo_laws (a1 / (100 : Int32)) u5 (99 : Int32)) else f_X11_roundOf_j60 mo_laws (a1 / (100 : Int32)) u5 (0 : Int32)))))))))
def f_X11_lived_x92_5 (v5 : Int32) (mo_stories : Nat → Int32) : Option (Int32 × (Nat → Int32)) :=
  some (v5, mo_stories)
def f_X11_lived_j75 (mo_laws : Nat → Int32) (v4 : Int32) (v6 : Int32) (k0 : Int32) (k1 : Int32) (mo_stories : Nat → Int32) : Option ((Int32 × Int32 × Int32 × (Nat → Int32)) ⊕ (Int32 × (Nat → Int32))) :=
  (f_X11_roundOf mo_laws v4).bind (fun q7 => some (.inl (q7, (k0 + k1), (v6 + (1 : Int32)), mo_stories)))
def f_X11_lived_b34 (mo_laws : Nat → Int32) (a1 : Int32) (v4 : Int32) (v5 : Int32) (v6 : Int32) (mo_stories : Nat → Int32) : Option ((Int32 × Int32 × Int32 × (Nat → Int32)) ⊕ (Int32 × (Nat → Int32))) :=
  (if (100 : Int32) ≤ v6 then some (.inr (v5, mo_stories)) else dz (100 : Int32) (gd (((100 : Int32) * a1) + v6) 400 (dz (100 : Int32) ((if (v4 / (100 : Int32)) = (63 : Int32) then f_X11_lived_j75 mo_laws v4 v6 v5 (1 : Int32) (upd mo_stories (((100 : Int32) * a1) + v6).toNatClampNeg (v4 / (100 : Int32))) else f_X11_lived_j75 mo_laws v4 v6 v5 (0 : Int32) (upd mo_stories (((100 : Int32) * a1) + v6).toNatClampNeg (v4 / (100 : Int32))))))))
def f_X11_lived (mo_laws : Nat → Int32) (mo_stories : Nat → Int32) (a1 : Int32) (a2 : Int32) (a3 : Int32) : Option (Int32 × (Nat → Int32)) :=
  (f_X11_isStory a1).bind (fun q1 => (if q1 = (0 : Int32) then some ((-1 : Int32), mo_stories) else (f_X11_isEarth a2 a3).bind (fun q3 => (if q3 = (0 : Int32) then some ((-2 : Int32), mo_stories) else (lpM (σ := Int32 × Int32 × Int32 × (Nat → Int32)) (ρ := Int32 × (Nat → Int32)) (fun st => f_X11_lived_b34 mo_laws a1 st.1 st.2.1 st.2.2.1 st.2.2.2) FU ((((100 : Int32) * a2) + a3), (0 : Int32), (0 : Int32), mo_stories)).bind (fun sx => f_X11_lived_x92_5 sx.1 sx.2)))))
def f_X11_at (mo_stories : Nat → Int32) (a1 : Int32) (a2 : Int32) : Option (Int32) :=
  (f_X11_isStory a1).bind (fun q1 => (if q1 = (0 : Int32) then some (-1 : Int32) else (f_X11_in (a2.toInt64) (0 : Int64) (99 : Int64)).bind (fun q3 => (if q3 = (0 : Int32) then some (-2 : Int32) else gd (((100 : Int32) * a1) + a2) 400 (some (mo_stories (((100 : Int32) * a1) + a2).toNatClampNeg))))))
def f_X11_warmth (mo_laws : Nat → Int32) (a1 : Int32) (a2 : Int32) (a3 : Int32) : Option (Int32) :=
  (f_X11_in (a1.toInt64) (0 : Int64) (5 : Int64)).bind (fun q1 => (if q1 = (0 : Int32) then some (-1 : Int32) else (f_X11_isEarth a2 a3).bind (fun q3 => (if q3 = (0 : Int32) then some (-2 : Int32) else (f_X11_warmthOf mo_laws a1 a2 a3).bind (fun q6 => some q6)))))
def f_X11_round (mo_laws : Nat → Int32) (a1 : Int32) (a2 : Int32) : Option (Int32) :=
  (f_X11_isEarth a1 a2).bind (fun q1 => (if q1 = (0 : Int32) then some (-2 : Int32) else (f_X11_roundOf mo_laws (((100 : Int32) * a1) + a2)).bind (fun q4 => some q4)))
def f_X11_after_x54_6 (v4 : Int32) : Option (Int32) :=
  some v4
def f_X11_after_b34 (mo_laws : Nat → Int32) (a3 : Int32) (v4 : Int32) (v5 : Int32) : Option ((Int32 × Int32) ⊕ (Int32)) :=
  (if a3 ≤ v5 then some (.inr v4) else (f_X11_roundOf mo_laws v4).bind (fun q9 => some (.inl (q9, (v5 + (1 : Int32))))))
def f_X11_after (mo_laws : Nat → Int32) (a1 : Int32) (a2 : Int32) (a3 : Int32) : Option (Int32) :=
  (f_X11_isEarth a1 a2).bind (fun q1 => (if q1 = (0 : Int32) then some (-2 : Int32) else (f_X11_in (a3.toInt64) (0 : Int64) (100000 : Int64)).bind (fun q4 => (if q4 = (0 : Int32) then some (-2 : Int32) else (lpM (σ := Int32 × Int32) (ρ := Int32) (fun st => f_X11_after_b34 mo_laws a3 st.1 st.2) FU ((((100 : Int32) * a1) + a2), (0 : Int32))).bind (fun sx => f_X11_after_x54_6 sx)))))
def f_X11_layRun_x64_2 (v3 : Int32) (v4 : Int32) (mo_metAt : Nat → Int32) : Option ((Nat → Int32) × Int32 × Int32 × Int32) :=
  gd v3 6400 (some (mo_metAt, v3, (mo_metAt v3.toNatClampNeg), (v4 - (mo_metAt v3.toNatClampNeg))))
def f_X11_layRun_b33 (mo_laws : Nat → Int32) (v3 : Int32) (v4 : Int32) (mo_metAt : Nat → Int32) : Option ((Int32 × Int32 × (Nat → Int32)) ⊕ (Int32 × Int32 × (Nat → Int32))) :=
  gd v3 6400 ((if (mo_metAt v3.toNatClampNeg) = (-9 : Int32) then gd v3 6400 ((f_X11_roundOf mo_laws v3).bind (fun q8 => some (.inl (q8, (v4 + (1 : Int32)), (upd mo_metAt v3.toNatClampNeg v4))))) else some (.inr (v3, v4, mo_metAt))))
def f_X11_layRun_x23_1 (mo_laws : Nat → Int32) (a1 : Int32) (a2 : Int32) (mo_metAt : Nat → Int32) : Option ((Nat → Int32) × Int32 × Int32 × Int32) :=
  (lpM (σ := Int32 × Int32 × (Nat → Int32)) (ρ := Int32 × Int32 × (Nat → Int32)) (fun st => f_X11_layRun_b33 mo_laws st.1 st.2.1 st.2.2) FU ((((100 : Int32) * a1) + a2), (0 : Int32), mo_metAt)).bind (fun sx => f_X11_layRun_x64_2 sx.1 sx.2.1 sx.2.2)
def f_X11_layRun_b2 (v3 : Int32) (mo_metAt : Nat → Int32) : Option ((Int32 × (Nat → Int32)) ⊕ ((Nat → Int32))) :=
  (if (6400 : Int32) ≤ v3 then some (.inr mo_metAt) else gd v3 6400 (some (.inl ((v3 + (1 : Int32)), (upd mo_metAt v3.toNatClampNeg (-9 : Int32))))))
def f_X11_layRun (mo_laws : Nat → Int32) (mo_metAt : Nat → Int32) (a1 : Int32) (a2 : Int32) : Option ((Nat → Int32) × Int32 × Int32 × Int32) :=
  (lpM (σ := Int32 × (Nat → Int32)) (ρ := (Nat → Int32)) (fun st => f_X11_layRun_b2 st.1 st.2) FU ((0 : Int32), mo_metAt)).bind (fun sx => f_X11_layRun_x23_1 mo_laws a1 a2 sx)
def f_X11_run_x135_7 (a3 : Int32) (q6 : (Nat → Int32) × Int32 × Int32 × Int32) (v4 : Int32) (v5 : Int32) (v6 : Int32) : Option (Int32 × (Nat → Int32) × Int32 × Int32 × Int32) :=
  (if a3 = (0 : Int32) then some (q6.2.2.1, q6.1, q6.2.1, q6.2.2.1, q6.2.2.2) else (if a3 = (1 : Int32) then some (q6.2.2.2, q6.1, q6.2.1, q6.2.2.1, q6.2.2.2) else (if a3 = (2 : Int32) then some (v4, q6.1, q6.2.1, q6.2.2.1, q6.2.2.2) else (if a3 = (3 : Int32) then some (v5, q6.1, q6.2.1, q6.2.2.1, q6.2.2.2) else some (v6, q6.1, q6.2.1, q6.2.2.1, q6.2.2.2)))))
def f_X11_run_j119 (mo_laws : Nat → Int32) (v4 : Int32) (v5 : Int32) (v7 : Int32) (v8 : Int32) (k0 : Int32) : Option ((Int32 × Int32 × Int32 × Int32 × Int32) ⊕ (Int32 × Int32 × Int32)) :=
  (f_X11_roundOf mo_laws v7).bind (fun q17 => some (.inl (v4, v5, k0, q17, (v8 + (1 : Int32)))))
def f_X11_run_j97 (mo_laws : Nat → Int32) (v4 : Int32) (v6 : Int32) (v7 : Int32) (v8 : Int32) (k0 : Int32) : Option ((Int32 × Int32 × Int32 × Int32 × Int32) ⊕ (Int32 × Int32 × Int32)) :=
  dz (100 : Int32) ((if (v7 - v7 / (100 : Int32) * (100 : Int32)) ≤ v6 then f_X11_run_j119 mo_laws v4 k0 v7 v8 v6 else dz (100 : Int32) (f_X11_run_j119 mo_laws v4 k0 v7 v8 (v7 - v7 / (100 : Int32) * (100 : Int32)))))
def f_X11_run_j74 (mo_laws : Nat → Int32) (v5 : Int32) (v6 : Int32) (v7 : Int32) (v8 : Int32) (k0 : Int32) (k1 : Int32) : Option ((Int32 × Int32 × Int32 × Int32 × Int32) ⊕ (Int32 × Int32 × Int32)) :=
  dz (100 : Int32) ((if v5 ≤ (v7 - v7 / (100 : Int32) * (100 : Int32)) then f_X11_run_j97 mo_laws (k0 + k1) v6 v7 v8 v5 else dz (100 : Int32) (f_X11_run_j97 mo_laws (k0 + k1) v6 v7 v8 (v7 - v7 / (100 : Int32) * (100 : Int32)))))
def f_X11_run_b48 (mo_laws : Nat → Int32) (q6 : (Nat → Int32) × Int32 × Int32 × Int32) (v4 : Int32) (v5 : Int32) (v6 : Int32) (v7 : Int32) (v8 : Int32) : Option ((Int32 × Int32 × Int32 × Int32 × Int32) ⊕ (Int32 × Int32 × Int32)) :=
  (if q6.2.2.2 ≤ v8 then some (.inr (v4, v5, v6)) else dz (100 : Int32) ((if (v7 / (100 : Int32)) = (63 : Int32) then f_X11_run_j74 mo_laws v5 v6 v7 v8 v4 (1 : Int32) else f_X11_run_j74 mo_laws v5 v6 v7 v8 v4 (0 : Int32))))
def f_X11_run (mo_laws : Nat → Int32) (mo_metAt : Nat → Int32) (mo_ringEarth : Int32) (mo_lead : Int32) (mo_ring : Int32) (a1 : Int32) (a2 : Int32) (a3 : Int32) : Option (Int32 × (Nat → Int32) × Int32 × Int32 × Int32) :=
  (f_X11_isEarth a1 a2).bind (fun q1 => (if q1 = (0 : Int32) then some ((-2 : Int32), mo_metAt, mo_ringEarth, mo_lead, mo_ring) else (f_X11_in (a3.toInt64) (0 : Int64) (4 : Int64)).bind (fun q4 => (if q4 = (0 : Int32) then some ((-2 : Int32), mo_metAt, mo_ringEarth, mo_lead, mo_ring) else (f_X11_layRun mo_laws mo_metAt a1 a2).bind (fun q6 => (lpM (σ := Int32 × Int32 × Int32 × Int32 × Int32) (ρ := Int32 × Int32 × Int32) (fun st => f_X11_run_b48 mo_laws q6 st.1 st.2.1 st.2.2.1 st.2.2.2.1 st.2.2.2.2) FU ((0 : Int32), (99 : Int32), (0 : Int32), q6.2.1, (0 : Int32))).bind (fun sx => f_X11_run_x135_7 a3 q6 sx.1 sx.2.1 sx.2.2))))))
def f_X11_till_x78_4 (q3 : (Nat → Int32) × Int32 × Int32 × Int32) : Option (Int32 × (Nat → Int32) × Int32 × Int32 × Int32) :=
  some ((-9 : Int32), q3.1, q3.2.1, q3.2.2.1, q3.2.2.2)
def f_X11_till_j57 (mo_laws : Nat → Int32) (a3 : Int32) (q3 : (Nat → Int32) × Int32 × Int32 × Int32) (v4 : Int32) (v5 : Int32) (k0 : Int32) : Option ((Int32 × Int32) ⊕ ((Unit) ⊕ (Int32 × (Nat → Int32) × Int32 × Int32 × Int32))) :=
  (if k0 = a3 then some (.inr (.inr (v5, q3.1, q3.2.1, q3.2.2.1, q3.2.2.2))) else (f_X11_roundOf mo_laws v4).bind (fun q7 => some (.inl (q7, (v5 + (1 : Int32))))))
def f_X11_till_b28 (mo_laws : Nat → Int32) (a3 : Int32) (q3 : (Nat → Int32) × Int32 × Int32 × Int32) (v4 : Int32) (v5 : Int32) : Option ((Int32 × Int32) ⊕ ((Unit) ⊕ (Int32 × (Nat → Int32) × Int32 × Int32 × Int32))) :=
  (if (q3.2.2.1 + q3.2.2.2) ≤ v5 then some (.inr (.inl ())) else dz (100 : Int32) ((if (v4 / (100 : Int32)) = (63 : Int32) then f_X11_till_j57 mo_laws a3 q3 v4 v5 (1 : Int32) else f_X11_till_j57 mo_laws a3 q3 v4 v5 (0 : Int32))))
def f_X11_till (mo_laws : Nat → Int32) (mo_metAt : Nat → Int32) (mo_ringEarth : Int32) (mo_lead : Int32) (mo_ring : Int32) (a1 : Int32) (a2 : Int32) (a3 : Int32) : Option (Int32 × (Nat → Int32) × Int32 × Int32 × Int32) :=
  (f_X11_isEarth a1 a2).bind (fun q1 => (if q1 = (0 : Int32) then some ((-2 : Int32), mo_metAt, mo_ringEarth, mo_lead, mo_ring) else (f_X11_layRun mo_laws mo_metAt a1 a2).bind (fun q3 => (lpM (σ := Int32 × Int32) (ρ := (Unit) ⊕ (Int32 × (Nat → Int32) × Int32 × Int32 × Int32)) (fun st => f_X11_till_b28 mo_laws a3 q3 st.1 st.2) FU ((((100 : Int32) * a1) + a2), (0 : Int32))).bind (fun so => Sum.elim (fun sx => f_X11_till_x78_4 q3) (fun r => some r) so))))
def f_X11_isRest (mo_laws : Nat → Int32) (a1 : Int32) (a2 : Int32) : Option (Int32) :=
  (f_X11_iceThen mo_laws a1 a2).bind (fun q1 => (if q1 = a1 then some (1 : Int32) else some (0 : Int32)))
def f_X11_rests_x48_3 (v2 : Int32) : Option (Int32) :=
  some v2
def f_X11_rests_b19 (mo_laws : Nat → Int32) (a1 : Int32) (v2 : Int32) (v3 : Int32) : Option ((Int32 × Int32) ⊕ (Int32)) :=
  (if (64 : Int32) ≤ v3 then some (.inr v2) else (f_X11_isRest mo_laws v3 a1).bind (fun q6 => (if q6 = (0 : Int32) then some (.inl ((v2 + (0 : Int32)), (v3 + (1 : Int32)))) else some (.inl ((v2 + (1 : Int32)), (v3 + (1 : Int32)))))))
def f_X11_rests (mo_laws : Nat → Int32) (a1 : Int32) : Option (Int32) :=
  (f_X11_in (a1.toInt64) (0 : Int64) (99 : Int64)).bind (fun q1 => (if q1 = (0 : Int32) then some (-2 : Int32) else (lpM (σ := Int32 × Int32) (ρ := Int32) (fun st => f_X11_rests_b19 mo_laws a1 st.1 st.2) FU ((0 : Int32), (0 : Int32))).bind (fun sx => f_X11_rests_x48_3 sx)))
def f_X11_rest_x54_3 : Option (Int32) :=
  some (-9 : Int32)
def f_X11_rest_b20 (mo_laws : Nat → Int32) (a1 : Int32) (a2 : Int32) (v3 : Int32) (v4 : Int32) : Option ((Int32 × Int32) ⊕ ((Unit) ⊕ (Int32))) :=
  (if (64 : Int32) ≤ v4 then some (.inr (.inl ())) else (f_X11_isRest mo_laws v4 a1).bind (fun q6 => (if q6 = (0 : Int32) then some (.inl (v3, (v4 + (1 : Int32)))) else (if v3 = a2 then some (.inr (.inr v4)) else some (.inl ((v3 + (1 : Int32)), (v4 + (1 : Int32))))))))
def f_X11_rest (mo_laws : Nat → Int32) (a1 : Int32) (a2 : Int32) : Option (Int32) :=
  (f_X11_in (a1.toInt64) (0 : Int64) (99 : Int64)).bind (fun q1 => (if q1 = (0 : Int32) then some (-2 : Int32) else (lpM (σ := Int32 × Int32) (ρ := (Unit) ⊕ (Int32)) (fun st => f_X11_rest_b20 mo_laws a1 a2 st.1 st.2) FU ((0 : Int32), (0 : Int32))).bind (fun so => Sum.elim (fun sx => f_X11_rest_x54_3) (fun r => some r) so)))
def f_X11_settleOf_x36_1 : Option (Int32) :=
  some (-9 : Int32)
def f_X11_settleOf_b5 (mo_laws : Nat → Int32) (a2 : Int32) (v3 : Int32) (v4 : Int32) : Option ((Int32 × Int32) ⊕ ((Unit) ⊕ (Int32))) :=
  (if (65 : Int32) ≤ v4 then some (.inr (.inl ())) else (f_X11_isRest mo_laws v3 a2).bind (fun q4 => (if q4 = (0 : Int32) then (f_X11_iceThen mo_laws v3 a2).bind (fun q6 => some (.inl (q6, (v4 + (1 : Int32))))) else some (.inr (.inr v3)))))
def f_X11_settleOf (mo_laws : Nat → Int32) (a1 : Int32) (a2 : Int32) : Option (Int32) :=
  (lpM (σ := Int32 × Int32) (ρ := (Unit) ⊕ (Int32)) (fun st => f_X11_settleOf_b5 mo_laws a2 st.1 st.2) FU (a1, (0 : Int32))).bind (fun so => Sum.elim (fun sx => f_X11_settleOf_x36_1) (fun r => some r) so)
def f_X11_settle (mo_laws : Nat → Int32) (a1 : Int32) (a2 : Int32) : Option (Int32) :=
  (f_X11_isEarth a1 a2).bind (fun q1 => (if q1 = (0 : Int32) then some (-2 : Int32) else (f_X11_settleOf mo_laws a1 a2).bind (fun q4 => some q4)))
def f_X11_layCurve_x136_1 (mo_jumpAir : Nat → Int32) (mo_jumpMany : Int32) (mo_curveEnd : Int32) : Option ((Nat → Int32) × Int32 × Int32) :=
  some (mo_jumpAir, mo_jumpMany, mo_curveEnd)
def f_X11_layCurve_j107 (a3 : Int32) (k0 : Int32) (v6 : Int32) (v7 : Int32) (mo_jumpAir : Nat → Int32) (mo_jumpMany : Int32) : Option ((Int32 × Int32 × (Nat → Int32) × Int32 × Int32) ⊕ (((Nat → Int32) × Int32 × Int32) ⊕ ((Nat → Int32) × Int32 × Int32))) :=
  (if v6 = a3 then some (.inl ((0 : Int32), (v6 + k0), mo_jumpAir, mo_jumpMany, v7)) else some (.inl ((1 : Int32), (v6 + k0), mo_jumpAir, mo_jumpMany, v7)))
def f_X11_layCurve_j86 (a3 : Int32) (k0 : Int32) (v6 : Int32) (v7 : Int32) (mo_jumpAir : Nat → Int32) (mo_jumpMany : Int32) : Option ((Int32 × Int32 × (Nat → Int32) × Int32 × Int32) ⊕ (((Nat → Int32) × Int32 × Int32) ⊕ ((Nat → Int32) × Int32 × Int32))) :=
  gd mo_jumpMany 100 (f_X11_layCurve_j107 a3 k0 v6 v7 (upd mo_jumpAir mo_jumpMany.toNatClampNeg v6) (mo_jumpMany + (1 : Int32)))
def f_X11_layCurve_b28 (mo_laws : Nat → Int32) (a3 : Int32) (k0 : Int32) (v5 : Int32) (v6 : Int32) (mo_jumpAir : Nat → Int32) (mo_jumpMany : Int32) (mo_curveEnd : Int32) : Option ((Int32 × Int32 × (Nat → Int32) × Int32 × Int32) ⊕ (((Nat → Int32) × Int32 × Int32) ⊕ ((Nat → Int32) × Int32 × Int32))) :=
  (if v5 = (0 : Int32) then some (.inr (.inl (mo_jumpAir, mo_jumpMany, mo_curveEnd))) else (f_X11_settleOf mo_laws mo_curveEnd v6).bind (fun q6 => (if q6 = (-9 : Int32) then some (.inr (.inr (mo_jumpAir, mo_jumpMany, (-9 : Int32)))) else (f_X11_ones q6).bind (fun q8 => (f_X11_ones mo_curveEnd).bind (fun q9 => (if (1 : Int32) < (q8 - q9) then f_X11_layCurve_j86 a3 k0 v6 q6 mo_jumpAir mo_jumpMany else (if (-1 : Int32) ≤ (q8 - q9) then f_X11_layCurve_j107 a3 k0 v6 q6 mo_jumpAir mo_jumpMany else f_X11_layCurve_j86 a3 k0 v6 q6 mo_jumpAir mo_jumpMany)))))))
def f_X11_layCurve_j20 (mo_laws : Nat → Int32) (a2 : Int32) (a3 : Int32) (k0 : Int32) (mo_jumpAir : Nat → Int32) (mo_jumpMany : Int32) (mo_curveEnd : Int32) : Option ((Nat → Int32) × Int32 × Int32) :=
  (lpM (σ := Int32 × Int32 × (Nat → Int32) × Int32 × Int32) (ρ := ((Nat → Int32) × Int32 × Int32) ⊕ ((Nat → Int32) × Int32 × Int32)) (fun st => f_X11_layCurve_b28 mo_laws a3 k0 st.1 st.2.1 st.2.2.1 st.2.2.2.1 st.2.2.2.2) FU ((1 : Int32), a2, mo_jumpAir, mo_jumpMany, mo_curveEnd)).bind (fun so => Sum.elim (fun sx => f_X11_layCurve_x136_1 sx.1 sx.2.1 sx.2.2) (fun r => some r) so)
def f_X11_layCurve (mo_laws : Nat → Int32) (mo_jumpAir : Nat → Int32) (a1 : Int32) (a2 : Int32) (a3 : Int32) : Option ((Nat → Int32) × Int32 × Int32) :=
  (if a2 ≤ a3 then f_X11_layCurve_j20 mo_laws a2 a3 (1 : Int32) mo_jumpAir (0 : Int32) a1 else f_X11_layCurve_j20 mo_laws a2 a3 (-1 : Int32) mo_jumpAir (0 : Int32) a1)
def f_X11_jumps (mo_laws : Nat → Int32) (mo_jumpAir : Nat → Int32) (mo_jumpMany : Int32) (mo_curveEnd : Int32) (a1 : Int32) (a2 : Int32) (a3 : Int32) : Option (Int32 × (Nat → Int32) × Int32 × Int32) :=
  (f_X11_isEarth a1 a2).bind (fun q1 => (if q1 = (0 : Int32) then some ((-2 : Int32), mo_jumpAir, mo_jumpMany, mo_curveEnd) else (f_X11_in (a3.toInt64) (0 : Int64) (99 : Int64)).bind (fun q4 => (if q4 = (0 : Int32) then some ((-2 : Int32), mo_jumpAir, mo_jumpMany, mo_curveEnd) else (f_X11_layCurve mo_laws mo_jumpAir a1 a2 a3).bind (fun q6 => some (q6.2.1, q6.1, q6.2.1, q6.2.2))))))
def f_X11_jump (mo_laws : Nat → Int32) (mo_jumpAir : Nat → Int32) (mo_jumpMany : Int32) (mo_curveEnd : Int32) (a1 : Int32) (a2 : Int32) (a3 : Int32) (a4 : Int32) : Option (Int32 × (Nat → Int32) × Int32 × Int32) :=
  (f_X11_isEarth a1 a2).bind (fun q1 => (if q1 = (0 : Int32) then some ((-2 : Int32), mo_jumpAir, mo_jumpMany, mo_curveEnd) else (f_X11_in (a3.toInt64) (0 : Int64) (99 : Int64)).bind (fun q4 => (if q4 = (0 : Int32) then some ((-2 : Int32), mo_jumpAir, mo_jumpMany, mo_curveEnd) else (f_X11_layCurve mo_laws mo_jumpAir a1 a2 a3).bind (fun q6 => (f_X11_in (a4.toInt64) (0 : Int64) ((q6.2.1 - (1 : Int32)).toInt64)).bind (fun q7 => (if q7 = (0 : Int32) then some ((-9 : Int32), q6.1, q6.2.1, q6.2.2) else gd a4 100 (some ((q6.1 a4.toNatClampNeg), q6.1, q6.2.1, q6.2.2)))))))))
def f_X11_curve (mo_laws : Nat → Int32) (mo_jumpAir : Nat → Int32) (mo_jumpMany : Int32) (mo_curveEnd : Int32) (a1 : Int32) (a2 : Int32) (a3 : Int32) : Option (Int32 × (Nat → Int32) × Int32 × Int32) :=
  (f_X11_isEarth a1 a2).bind (fun q1 => (if q1 = (0 : Int32) then some ((-2 : Int32), mo_jumpAir, mo_jumpMany, mo_curveEnd) else (f_X11_in (a3.toInt64) (0 : Int64) (99 : Int64)).bind (fun q4 => (if q4 = (0 : Int32) then some ((-2 : Int32), mo_jumpAir, mo_jumpMany, mo_curveEnd) else (f_X11_layCurve mo_laws mo_jumpAir a1 a2 a3).bind (fun q6 => some (q6.2.2, q6.1, q6.2.1, q6.2.2))))))
def f_X11_least_x43_1 : Option (Int32) :=
  some (-9 : Int32)
def f_X11_least_b2 (mo_laws : Nat → Int32) (a1 : Int32) (v2 : Int32) : Option ((Int32) ⊕ ((Unit) ⊕ (Int32))) :=
  (if (100 : Int32) ≤ v2 then some (.inr (.inl ())) else (if a1 = (0 : Int32) then (f_X11_isRest mo_laws (63 : Int32) v2).bind (fun q5 => (if q5 = (0 : Int32) then some (.inr (.inr v2)) else some (.inl (v2 + (1 : Int32))))) else (f_X11_isRest mo_laws (62 : Int32) v2).bind (fun q8 => (if q8 = (0 : Int32) then some (.inl (v2 + (1 : Int32))) else some (.inr (.inr v2))))))
def f_X11_least (mo_laws : Nat → Int32) (a1 : Int32) : Option (Int32) :=
  (lpM (σ := Int32) (ρ := (Unit) ⊕ (Int32)) (fun st => f_X11_least_b2 mo_laws a1 st) FU (0 : Int32)).bind (fun so => Sum.elim (fun sx => f_X11_least_x43_1) (fun r => some r) so)
def f_X11_isBed (mo_beds : Int32) (a1 : Int32) : Option (Int32) :=
  (f_X11_in (a1.toInt64) (0 : Int64) ((mo_beds - (1 : Int32)).toInt64)).bind (fun q1 => zb q1 (some q1))
def f_X11_bed (mo_beds : Int32) (mo_bed : Nat → Int32) (a1 : Int32) (a2 : Int32) (a3 : Int32) (a4 : Int32) (a5 : Int32) (a6 : Int32) : Option (Int32 × Int32 × (Nat → Int32)) :=
  (f_X11_in (a1.toInt64) (0 : Int64) (3 : Int64)).bind (fun q1 => (if q1 = (0 : Int32) then some ((-1 : Int32), mo_beds, mo_bed) else (f_X11_in (a5.toInt64) (0 : Int64) (5 : Int64)).bind (fun q4 => (if q4 = (0 : Int32) then some ((-1 : Int32), mo_beds, mo_bed) else (f_X11_in (a2.toInt64) (0 : Int64) (15 : Int64)).bind (fun q6 => (if q6 = (0 : Int32) then some ((-2 : Int32), mo_beds, mo_bed) else (f_X11_in (a3.toInt64) (0 : Int64) (99 : Int64)).bind (fun q9 => (if q9 = (0 : Int32) then some ((-2 : Int32), mo_beds, mo_bed) else (f_X11_in (a4.toInt64) (a3.toInt64) (99 : Int64)).bind (fun q12 => (if q12 = (0 : Int32) then some ((-2 : Int32), mo_beds, mo_bed) else (f_X11_in (a6.toInt64) (0 : Int64) (10 : Int64)).bind (fun q15 => (if q15 = (0 : Int32) then some ((-2 : Int32), mo_beds, mo_bed) else (if mo_beds = (8 : Int32) then some ((-4 : Int32), mo_beds, mo_bed) else gd ((6 : Int32) * mo_beds) 48 (gd (((6 : Int32) * mo_beds) + (1 : Int32)) 48 (gd (((6 : Int32) * mo_beds) + (2 : Int32)) 48 (gd (((6 : Int32) * mo_beds) + (3 : Int32)) 48 (gd (((6 : Int32) * mo_beds) + (4 : Int32)) 48 (gd (((6 : Int32) * mo_beds) + (5 : Int32)) 48 (some (((mo_beds + (1 : Int32)) - (1 : Int32)), (mo_beds + (1 : Int32)), (upd (upd (upd (upd (upd (upd mo_bed ((6 : Int32) * mo_beds).toNatClampNeg a1) (((6 : Int32) * mo_beds) + (1 : Int32)).toNatClampNeg a2) (((6 : Int32) * mo_beds) + (2 : Int32)).toNatClampNeg a3) (((6 : Int32) * mo_beds) + (3 : Int32)).toNatClampNeg a4) (((6 : Int32) * mo_beds) + (4 : Int32)).toNatClampNeg a5) (((6 : Int32) * mo_beds) + (5 : Int32)).toNatClampNeg a6)))))))))))))))))))))
def f_X11_forget (mo_beds : Int32) : Option (Int32 × Int32) :=
  (if mo_beds = (0 : Int32) then some ((-3 : Int32), mo_beds) else some ((mo_beds - (1 : Int32)), (mo_beds - (1 : Int32))))
def f_X11_slide_j37 (v2 : Int32) (k0 : Int32) (k1 : Int32) : Option (Int32) :=
  (if (v2 &&& (4 : Int32)) ≤ (0 : Int32) then some ((k0 - k1) - (0 : Int32)) else some ((k0 - k1) - (1 : Int32)))
def f_X11_slide_j25 (v2 : Int32) (k0 : Int32) (k1 : Int32) : Option (Int32) :=
  (if (v2 &&& (2 : Int32)) ≤ (0 : Int32) then f_X11_slide_j37 v2 (k0 + k1) (0 : Int32) else f_X11_slide_j37 v2 (k0 + k1) (1 : Int32))
def f_X11_slide (mo_bed : Nat → Int32) (a1 : Int32) : Option (Int32) :=
  gd (((6 : Int32) * a1) + (1 : Int32)) 48 ((some (mo_bed (((6 : Int32) * a1) + (1 : Int32)).toNatClampNeg)).bind (fun u6 => (if (u6 &&& (8 : Int32)) ≤ (0 : Int32) then f_X11_slide_j25 u6 (2 : Int32) (0 : Int32) else f_X11_slide_j25 u6 (2 : Int32) (4 : Int32))))
def f_X11_isIcy (mo_bed : Nat → Int32) (a1 : Int32) : Option (Int32) :=
  gd (((6 : Int32) * a1) + (1 : Int32)) 48 ((if ((mo_bed (((6 : Int32) * a1) + (1 : Int32)).toNatClampNeg) &&& (3 : Int32)) ≤ (0 : Int32) then some (0 : Int32) else some (1 : Int32)))
def f_X11_about (mo_beds : Int32) (mo_bed : Nat → Int32) (a1 : Int32) (a2 : Int32) : Option (Int32) :=
  (f_X11_isBed mo_beds a1).bind (fun q1 => (if q1 = (0 : Int32) then some (-1 : Int32) else (f_X11_in (a2.toInt64) (0 : Int64) (7 : Int64)).bind (fun q3 => (if q3 = (0 : Int32) then some (-2 : Int32) else (if (6 : Int32) ≤ a2 then (if a2 = (6 : Int32) then (f_X11_slide mo_bed a1).bind (fun q11 => some q11) else (f_X11_isIcy mo_bed a1).bind (fun q7 => (if q7 = (0 : Int32) then some (0 : Int32) else some (1 : Int32)))) else gd (((6 : Int32) * a1) + a2) 48 (some (mo_bed (((6 : Int32) * a1) + a2).toNatClampNeg)))))))
def f_X11_rounds_x82_3 (v4 : Int32) : Option (Int32) :=
  some v4
def f_X11_rounds_b16 (mo_stories : Nat → Int32) (mo_bed : Nat → Int32) (a1 : Int32) (a2 : Int32) (a3 : Int32) (v4 : Int32) (v5 : Int32) : Option ((Int32 × Int32) ⊕ (Int32)) :=
  gd (((6 : Int32) * a2) + (3 : Int32)) 48 ((if (mo_bed (((6 : Int32) * a2) + (3 : Int32)).toNatClampNeg) < v5 then some (.inr v4) else gd (((100 : Int32) * a1) + v5) 400 ((some (mo_stories (((100 : Int32) * a1) + v5).toNatClampNeg)).bind (fun u8 => (if a3 = (6 : Int32) then (if u8 ≤ (0 : Int32) then some (.inl ((v4 + (0 : Int32)), (v5 + (1 : Int32)))) else some (.inl ((v4 + (1 : Int32)), (v5 + (1 : Int32))))) else (some (v4 + ((u8 >>> (a3 &&& (31 : Int32))) &&& (1 : Int32)))).bind (fun u10 => some (.inl (u10, (v5 + (1 : Int32))))))))))
def f_X11_rounds (mo_stories : Nat → Int32) (mo_bed : Nat → Int32) (a1 : Int32) (a2 : Int32) (a3 : Int32) : Option (Int32) :=
  gd (((6 : Int32) * a2) + (2 : Int32)) 48 ((some (mo_bed (((6 : Int32) * a2) + (2 : Int32)).toNatClampNeg)).bind (fun u2 => (lpM (σ := Int32 × Int32) (ρ := Int32) (fun st => f_X11_rounds_b16 mo_stories mo_bed a1 a2 a3 st.1 st.2) FU ((0 : Int32), u2)).bind (fun sx => f_X11_rounds_x82_3 sx)))
def f_X11_explains (mo_stories : Nat → Int32) (mo_beds : Int32) (mo_bed : Nat → Int32) (a1 : Int32) (a2 : Int32) : Option (Int32) :=
  (f_X11_isStory a1).bind (fun q1 => (if q1 = (0 : Int32) then some (-1 : Int32) else (f_X11_isBed mo_beds a2).bind (fun q4 => (if q4 = (0 : Int32) then some (-1 : Int32) else (f_X11_isIcy mo_bed a2).bind (fun q6 => (if q6 = (0 : Int32) then some (-3 : Int32) else gd (((6 : Int32) * a2) + (4 : Int32)) 48 ((f_X11_rounds mo_stories mo_bed a1 a2 (mo_bed (((6 : Int32) * a2) + (4 : Int32)).toNatClampNeg)).bind (fun q9 => (if q9 ≤ (0 : Int32) then (f_X11_rounds mo_stories mo_bed a1 a2 (6 : Int32)).bind (fun q11 => (if q11 ≤ (0 : Int32) then some (0 : Int32) else some (1 : Int32))) else some (2 : Int32))))))))))
def f_X11_chanceOf_j114 (mo_stories : Nat → Int32) (mo_bed : Nat → Int32) (a1 : Int32) (a2 : Int32) (v3 : Int32) (k0 : Int32) (k1 : Int32) : Option (Int32) :=
  (f_X11_rounds mo_stories mo_bed a1 a2 (6 : Int32)).bind (fun q1 => (if q1 ≤ (0 : Int32) then (f_X11_slide mo_bed a2).bind (fun q3 => some ((k0 * k1) + (((10 : Int32) - v3) * q3))) else some ((k0 * k1) + (((10 : Int32) - v3) * (10 : Int32)))))
def f_X11_chanceOf_j88 (v3 : Int32) (k0 : Int32) (k1 : Int32) : Option (Int32) :=
  some ((k0 * k1) + (((10 : Int32) - v3) * (10 : Int32)))
def f_X11_chanceOf_j74 (v3 : Int32) (k0 : Int32) : Option (Int32) :=
  (if k0 = (0 : Int32) then f_X11_chanceOf_j88 v3 v3 (10 : Int32) else f_X11_chanceOf_j88 v3 v3 (5 : Int32))
def f_X11_chanceOf (mo_stories : Nat → Int32) (mo_bed : Nat → Int32) (a1 : Int32) (a2 : Int32) : Option (Int32) :=
  gd (((6 : Int32) * a2) + (5 : Int32)) 48 ((some (mo_bed (((6 : Int32) * a2) + (5 : Int32)).toNatClampNeg)).bind (fun u9 => gd (((6 : Int32) * a2) + (4 : Int32)) 48 ((f_X11_rounds mo_stories mo_bed a1 a2 (mo_bed (((6 : Int32) * a2) + (4 : Int32)).toNatClampNeg)).bind (fun q11 => (f_X11_isIcy mo_bed a2).bind (fun q12 => (if q12 = (0 : Int32) then gd (((6 : Int32) * a2) + (3 : Int32)) 48 (gd (((6 : Int32) * a2) + (2 : Int32)) 48 ((if q11 = (((mo_bed (((6 : Int32) * a2) + (3 : Int32)).toNatClampNeg) - (mo_bed (((6 : Int32) * a2) + (2 : Int32)).toNatClampNeg)) + (1 : Int32)) then f_X11_chanceOf_j74 u9 (1 : Int32) else f_X11_chanceOf_j74 u9 (0 : Int32)))) else (if q11 ≤ (0 : Int32) then (f_X11_slide mo_bed a2).bind (fun q15 => f_X11_chanceOf_j114 mo_stories mo_bed a1 a2 u9 u9 q15) else f_X11_chanceOf_j114 mo_stories mo_bed a1 a2 u9 u9 (10 : Int32))))))))
def f_X11_told_x31_1 (a0 : Int64) (a2 : Int64) (a4 : Int32) (v5 : Int64) : Option (Int64) :=
  (if a4 = (0 : Int32) then dzL v5 (some (a2 / v5)) else dzL v5 (some (a0 / v5)))
def f_X11_told_b6 (v5 : Int64) (v7 : Int64) : Option ((Int64 × Int64) ⊕ (Int64)) :=
  (if (lg_cmp v7 (0 : Int64)) = (0 : Int32) then some (.inr v5) else dzL v7 (some (.inl (v7, (v5 - v5 / v7 * v7)))))
def f_X11_told (a0 : Int64) (a2 : Int64) (a4 : Int32) : Option (Int64) :=
  (lpM (σ := Int64 × Int64) (ρ := Int64) (fun st => f_X11_told_b6 st.1 st.2) FU (a0, a2)).bind (fun sx => f_X11_told_x31_1 a0 a2 a4 sx)
def f_X11_chance_j32 : Option (Int64) :=
  some (-1 : Int64)
def f_X11_chance (mo_stories : Nat → Int32) (mo_beds : Int32) (mo_bed : Nat → Int32) (a1 : Int32) (a2 : Int32) (a3 : Int32) : Option (Int64) :=
  (f_X11_isStory a1).bind (fun q2 => (if q2 = (0 : Int32) then f_X11_chance_j32 else (f_X11_isBed mo_beds a2).bind (fun q4 => (if q4 = (0 : Int32) then f_X11_chance_j32 else (f_X11_chanceOf mo_stories mo_bed a1 a2).bind (fun q6 => (f_X11_told (q6.toInt64) (100 : Int64) a3).bind (fun q7 => some q7))))))
def f_X11_weight (mo_weights : Nat → Int32) (a1 : Int32) (a2 : Int32) : Option (Int32 × (Nat → Int32)) :=
  (f_X11_isStory a1).bind (fun q1 => (if q1 = (0 : Int32) then some ((-1 : Int32), mo_weights) else (f_X11_in (a2.toInt64) (0 : Int64) (9 : Int64)).bind (fun q3 => (if q3 = (0 : Int32) then some ((-2 : Int32), mo_weights) else gd a1 4 (gd a1 4 (some ((mo_weights a1.toNatClampNeg), (upd mo_weights a1.toNatClampNeg a2))))))))
def f_X11_layLots_x87_1 (mo_lots : Nat → Int64) (mo_all : Int64) : Option ((Nat → Int64) × Int64) :=
  some (mo_lots, mo_all)
def f_X11_layLots_x66_6 (v2 : Int32) (mo_all : Int64) (mo_lots : Nat → Int64) : Option ((Int32 × (Nat → Int64) × Int64) ⊕ ((Nat → Int64) × Int64)) :=
  gd v2 4 (some (.inl ((v2 + (1 : Int32)), mo_lots, (mo_all + (mo_lots v2.toNatClampNeg)))))
def f_X11_layLots_j58 (v3 : Int32) (k1 : Int32) (k2 : Int64) (k3 : Int64) (mo_lots : Nat → Int64) : Option ((Int32 × (Nat → Int64)) ⊕ ((Nat → Int64))) :=
  gd k1 4 (some (.inl ((v3 + (1 : Int32)), (vp_updL mo_lots k1.toNatClampNeg (k2 * k3)))))
def f_X11_layLots_b27 (mo_stories : Nat → Int32) (mo_beds : Int32) (mo_bed : Nat → Int32) (a1 : Int32) (v2 : Int32) (v3 : Int32) (mo_lots : Nat → Int64) : Option ((Int32 × (Nat → Int64)) ⊕ ((Nat → Int64))) :=
  (if mo_beds ≤ v3 then some (.inr mo_lots) else gd v2 4 ((if v3 = a1 then f_X11_layLots_j58 v3 v2 (mo_lots v2.toNatClampNeg) (1 : Int64) mo_lots else (f_X11_chanceOf mo_stories mo_bed v2 v3).bind (fun q12 => f_X11_layLots_j58 v3 v2 (mo_lots v2.toNatClampNeg) (q12.toInt64) mo_lots))))
def f_X11_layLots_b7 (mo_stories : Nat → Int32) (mo_weights : Nat → Int32) (mo_beds : Int32) (mo_bed : Nat → Int32) (a1 : Int32) (v2 : Int32) (mo_lots : Nat → Int64) (mo_all : Int64) : Option ((Int32 × (Nat → Int64) × Int64) ⊕ ((Nat → Int64) × Int64)) :=
  (if (4 : Int32) ≤ v2 then some (.inr (mo_lots, mo_all)) else gd v2 4 (gd v2 4 ((lpM (σ := Int32 × (Nat → Int64)) (ρ := (Nat → Int64)) (fun st => f_X11_layLots_b27 mo_stories mo_beds mo_bed a1 v2 st.1 st.2) FU ((0 : Int32), (vp_updL mo_lots v2.toNatClampNeg ((mo_weights v2.toNatClampNeg).toInt64)))).bind (fun sx => f_X11_layLots_x66_6 v2 mo_all sx))))
def f_X11_layLots (mo_stories : Nat → Int32) (mo_weights : Nat → Int32) (mo_beds : Int32) (mo_bed : Nat → Int32) (mo_lots : Nat → Int64) (a1 : Int32) : Option ((Nat → Int64) × Int64) :=
  (lpM (σ := Int32 × (Nat → Int64) × Int64) (ρ := (Nat → Int64) × Int64) (fun st => f_X11_layLots_b7 mo_stories mo_weights mo_beds mo_bed a1 st.1 st.2.1 st.2.2) FU ((0 : Int32), mo_lots, (0 : Int64))).bind (fun sx => f_X11_layLots_x87_1 sx.1 sx.2)
def f_X11_odds (mo_stories : Nat → Int32) (mo_weights : Nat → Int32) (mo_beds : Int32) (mo_bed : Nat → Int32) (mo_lots : Nat → Int64) (mo_all : Int64) (a1 : Int32) (a2 : Int32) : Option (Int64 × (Nat → Int64) × Int64) :=
  (f_X11_isStory a1).bind (fun q1 => (if q1 = (0 : Int32) then some ((-1 : Int64), mo_lots, mo_all) else (f_X11_layLots mo_stories mo_weights mo_beds mo_bed mo_lots (-1 : Int32)).bind (fun q3 => (if (lg_cmp q3.2 (0 : Int64)) = (0 : Int32) then some ((-3 : Int64), q3.1, q3.2) else gd a1 4 ((f_X11_told (q3.1 a1.toNatClampNeg) q3.2 a2).bind (fun q6 => some (q6, q3.1, q3.2)))))))
def f_X11_bestOf_x37_1 (v1 : Int32) : Option (Int32) :=
  some v1
def f_X11_bestOf_b4 (mo_lots : Nat → Int64) (v1 : Int32) (v2 : Int32) : Option ((Int32 × Int32) ⊕ (Int32)) :=
  (if (4 : Int32) ≤ v2 then some (.inr v1) else gd v2 4 (gd v1 4 ((if (lg_cmp (mo_lots v2.toNatClampNeg) (mo_lots v1.toNatClampNeg)) ≤ (0 : Int32) then some (.inl (v1, (v2 + (1 : Int32)))) else some (.inl (v2, (v2 + (1 : Int32))))))))
def f_X11_bestOf (mo_lots : Nat → Int64) : Option (Int32) :=
  (lpM (σ := Int32 × Int32) (ρ := Int32) (fun st => f_X11_bestOf_b4 mo_lots st.1 st.2) FU ((0 : Int32), (1 : Int32))).bind (fun sx => f_X11_bestOf_x37_1 sx)
def f_X11_best (mo_stories : Nat → Int32) (mo_weights : Nat → Int32) (mo_beds : Int32) (mo_bed : Nat → Int32) (mo_lots : Nat → Int64) : Option (Int32 × (Nat → Int64) × Int64) :=
  (f_X11_layLots mo_stories mo_weights mo_beds mo_bed mo_lots (-1 : Int32)).bind (fun q1 => (if (lg_cmp q1.2 (0 : Int64)) = (0 : Int32) then some ((-3 : Int32), q1.1, q1.2) else (f_X11_bestOf q1.1).bind (fun q3 => some (q3, q1.1, q1.2))))
def f_X11_millionths_x81_8 (v4 : Int32) : Option (Int32) :=
  some v4
def f_X11_millionths_b40 (mo_all : Int64) (v2 : Int64) (v4 : Int32) (v5 : Int32) : Option ((Int64 × Int32 × Int32) ⊕ (Int32)) :=
  (if (6 : Int32) ≤ v5 then some (.inr v4) else dzL mo_all ((some (((10 : Int32) * v4) + (((v2 * (10 : Int64)) / mo_all).toInt32))).bind (fun u12 => dzL mo_all ((some ((v2 * (10 : Int64)) - (v2 * (10 : Int64)) / mo_all * mo_all)).bind (fun u14 => some (.inl (u14, u12, (v5 + (1 : Int32)))))))))
def f_X11_millionths (mo_lots : Nat → Int64) (mo_all : Int64) (a1 : Int32) : Option (Int32) :=
  (if (lg_cmp mo_all (0 : Int64)) = (0 : Int32) then some (0 : Int32) else gd a1 4 (dzL mo_all ((some ((mo_lots a1.toNatClampNeg) - (mo_lots a1.toNatClampNeg) / mo_all * mo_all)).bind (fun u4 => gd a1 4 (dzL mo_all ((some (((mo_lots a1.toNatClampNeg) / mo_all).toInt32)).bind (fun u7 => (lpM (σ := Int64 × Int32 × Int32) (ρ := Int32) (fun st => f_X11_millionths_b40 mo_all st.1 st.2.1 st.2.2) FU (u4, u7, (0 : Int32))).bind (fun sx => f_X11_millionths_x81_8 sx))))))))
def f_X11_mover_x112_5 (v3 : Int32) (mo_lots : Nat → Int64) (mo_all : Int64) : Option (Int32 × (Nat → Int64) × Int64) :=
  some (v3, mo_lots, mo_all)
def f_X11_mover_j89 (v4 : Int32) (v5 : Int32) (v6 : Int32) (k0 : Int32) (mo_lots : Nat → Int64) (mo_all : Int64) : Option ((Int32 × Int32 × Int32 × (Nat → Int64) × Int64) ⊕ (Int32 × (Nat → Int64) × Int64)) :=
  (if v6 ≤ v4 then some (.inl (k0, v4, (v5 + (1 : Int32)), mo_lots, mo_all)) else some (.inl (k0, v6, (v5 + (1 : Int32)), mo_lots, mo_all)))
def f_X11_mover_j74 (v3 : Int32) (v4 : Int32) (v5 : Int32) (k0 : Int32) (mo_lots : Nat → Int64) (mo_all : Int64) : Option ((Int32 × Int32 × Int32 × (Nat → Int64) × Int64) ⊕ (Int32 × (Nat → Int64) × Int64)) :=
  (if k0 ≤ v4 then f_X11_mover_j89 v4 v5 k0 v3 mo_lots mo_all else f_X11_mover_j89 v4 v5 k0 v5 mo_lots mo_all)
def f_X11_mover_b37 (mo_stories : Nat → Int32) (mo_weights : Nat → Int32) (mo_beds : Int32) (mo_bed : Nat → Int32) (q3 : Int32) (q4 : Int32) (v3 : Int32) (v4 : Int32) (v5 : Int32) (mo_lots : Nat → Int64) (mo_all : Int64) : Option ((Int32 × Int32 × Int32 × (Nat → Int64) × Int64) ⊕ (Int32 × (Nat → Int64) × Int64)) :=
  (if mo_beds ≤ v5 then some (.inr (v3, mo_lots, mo_all)) else (f_X11_layLots mo_stories mo_weights mo_beds mo_bed mo_lots v5).bind (fun q10 => (f_X11_millionths q10.1 q10.2 q3).bind (fun q11 => (if (0 : Int32) ≤ (q11 - q4) then f_X11_mover_j74 v3 v4 v5 (q11 - q4) q10.1 q10.2 else f_X11_mover_j74 v3 v4 v5 (-(q11 - q4)) q10.1 q10.2))))
def f_X11_mover (mo_stories : Nat → Int32) (mo_weights : Nat → Int32) (mo_beds : Int32) (mo_bed : Nat → Int32) (mo_lots : Nat → Int64) : Option (Int32 × (Nat → Int64) × Int64) :=
  (f_X11_layLots mo_stories mo_weights mo_beds mo_bed mo_lots (-1 : Int32)).bind (fun q1 => (if (lg_cmp q1.2 (0 : Int64)) = (0 : Int32) then some ((-3 : Int32), q1.1, q1.2) else (f_X11_bestOf q1.1).bind (fun q3 => (f_X11_millionths q1.1 q1.2 q3).bind (fun q4 => (lpM (σ := Int32 × Int32 × Int32 × (Nat → Int64) × Int64) (ρ := Int32 × (Nat → Int64) × Int64) (fun st => f_X11_mover_b37 mo_stories mo_weights mo_beds mo_bed q3 q4 st.1 st.2.1 st.2.2.1 st.2.2.2.1 st.2.2.2.2) FU ((-9 : Int32), (-1 : Int32), (0 : Int32), q1.1, q1.2)).bind (fun sx => f_X11_mover_x112_5 sx.1 sx.2.1 sx.2.2)))))
def f_X11_next_x153_3 (q1 : (Nat → Int64) × Int64) (v1 : Int32) : Option (Int32 × (Nat → Int64) × Int64) :=
  some (v1, q1.1, q1.2)
def f_X11_next_j141 (v4 : Int32) (v7 : Int64) : Option ((Int32 × Int64 × Int32) ⊕ (Int32)) :=
  some (.inl (v4, v7, (v4 + (1 : Int32))))
def f_X11_next_j126 (v1 : Int32) (v2 : Int64) (v4 : Int32) (k0 : Int64) : Option ((Int32 × Int64 × Int32) ⊕ (Int32)) :=
  (if (lg_cmp v2 (0 : Int64)) < (0 : Int32) then f_X11_next_j141 v4 k0 else (if (0 : Int32) ≤ (lg_cmp k0 v2) then some (.inl (v1, v2, (v4 + (1 : Int32)))) else f_X11_next_j141 v4 k0))
def f_X11_next_x98_8 (q1 : (Nat → Int64) × Int64) (v1 : Int32) (v2 : Int64) (v4 : Int32) (v5 : Int64) : Option ((Int32 × Int64 × Int32) ⊕ (Int32)) :=
  (if (0 : Int32) ≤ (lg_cmp (((2 : Int64) * v5) - q1.2) (0 : Int64)) then f_X11_next_j126 v1 v2 v4 (((2 : Int64) * v5) - q1.2) else f_X11_next_j126 v1 v2 v4 (-(((2 : Int64) * v5) - q1.2)))
def f_X11_next_j89 (v7 : Int32) (k0 : Int64) (k1 : Int64) : Option ((Int64 × Int32) ⊕ (Int64)) :=
  some (.inl ((k0 + k1), (v7 + (1 : Int32))))
def f_X11_next_b39 (mo_stories : Nat → Int32) (q1 : (Nat → Int64) × Int64) (v4 : Int32) (v5 : Int64) (v7 : Int32) : Option ((Int64 × Int32) ⊕ (Int64)) :=
  (if (4 : Int32) ≤ v7 then some (.inr v5) else dz (10 : Int32) (gd (((100 : Int32) * v7) + ((10 : Int32) * (v4 - v4 / (10 : Int32) * (10 : Int32)))) 400 (dz (10 : Int32) ((if (((mo_stories (((100 : Int32) * v7) + ((10 : Int32) * (v4 - v4 / (10 : Int32) * (10 : Int32)))).toNatClampNeg) >>> ((v4 / (10 : Int32)) &&& (31 : Int32))) &&& (1 : Int32)) = (1 : Int32) then gd v7 4 (f_X11_next_j89 v7 v5 (q1.1 v7.toNatClampNeg)) else f_X11_next_j89 v7 v5 (0 : Int64))))))
def f_X11_next_b26 (mo_stories : Nat → Int32) (q1 : (Nat → Int64) × Int64) (v1 : Int32) (v2 : Int64) (v4 : Int32) : Option ((Int32 × Int64 × Int32) ⊕ (Int32)) :=
  (if (60 : Int32) ≤ v4 then some (.inr v1) else (lpM (σ := Int64 × Int32) (ρ := Int64) (fun st => f_X11_next_b39 mo_stories q1 v4 st.1 st.2) FU ((0 : Int64), (0 : Int32))).bind (fun sx => f_X11_next_x98_8 q1 v1 v2 v4 sx))
def f_X11_next (mo_stories : Nat → Int32) (mo_weights : Nat → Int32) (mo_beds : Int32) (mo_bed : Nat → Int32) (mo_lots : Nat → Int64) : Option (Int32 × (Nat → Int64) × Int64) :=
  (f_X11_layLots mo_stories mo_weights mo_beds mo_bed mo_lots (-1 : Int32)).bind (fun q1 => (if (lg_cmp q1.2 (0 : Int64)) = (0 : Int32) then some ((-3 : Int32), q1.1, q1.2) else (lpM (σ := Int32 × Int64 × Int32) (ρ := Int32) (fun st => f_X11_next_b26 mo_stories q1 st.1 st.2.1 st.2.2) FU ((0 : Int32), (-1 : Int64), (0 : Int32))).bind (fun sx => f_X11_next_x153_3 q1 sx)))
def f_X11_once_x103_1 (v1 : Int32) (v2 : Int32) (v3 : Int32) : Option (Int32) :=
  (if v3 = (0 : Int32) then some (-9 : Int32) else (if v1 ≤ v2 then some v1 else some (-9 : Int32)))
def f_X11_once_j60 (mo_bed : Nat → Int32) (v2 : Int32) (v3 : Int32) (v4 : Int32) (k0 : Int32) : Option ((Int32 × Int32 × Int32 × Int32) ⊕ (Int32 × Int32 × Int32)) :=
  gd (((6 : Int32) * v4) + (3 : Int32)) 48 ((if v2 ≤ (mo_bed (((6 : Int32) * v4) + (3 : Int32)).toNatClampNeg) then some (.inl (k0, v2, (v3 + (1 : Int32)), (v4 + (1 : Int32)))) else gd (((6 : Int32) * v4) + (3 : Int32)) 48 ((some (mo_bed (((6 : Int32) * v4) + (3 : Int32)).toNatClampNeg)).bind (fun u10 => some (.inl (k0, u10, (v3 + (1 : Int32)), (v4 + (1 : Int32))))))))
def f_X11_once_b10 (mo_beds : Int32) (mo_bed : Nat → Int32) (v1 : Int32) (v2 : Int32) (v3 : Int32) (v4 : Int32) : Option ((Int32 × Int32 × Int32 × Int32) ⊕ (Int32 × Int32 × Int32)) :=
  (if mo_beds ≤ v4 then some (.inr (v1, v2, v3)) else (f_X11_isIcy mo_bed v4).bind (fun q12 => (if q12 = (0 : Int32) then some (.inl (v1, v2, v3, (v4 + (1 : Int32)))) else gd (((6 : Int32) * v4) + (2 : Int32)) 48 ((if (mo_bed (((6 : Int32) * v4) + (2 : Int32)).toNatClampNeg) ≤ v1 then f_X11_once_j60 mo_bed v2 v3 v4 v1 else gd (((6 : Int32) * v4) + (2 : Int32)) 48 (f_X11_once_j60 mo_bed v2 v3 v4 (mo_bed (((6 : Int32) * v4) + (2 : Int32)).toNatClampNeg)))))))
def f_X11_once (mo_beds : Int32) (mo_bed : Nat → Int32) : Option (Int32) :=
  (lpM (σ := Int32 × Int32 × Int32 × Int32) (ρ := Int32 × Int32 × Int32) (fun st => f_X11_once_b10 mo_beds mo_bed st.1 st.2.1 st.2.2.1 st.2.2.2) FU ((0 : Int32), (99 : Int32), (0 : Int32), (0 : Int32))).bind (fun sx => f_X11_once_x103_1 sx.1 sx.2.1 sx.2.2)
def f_X11_firstEnd_x74_1 (v2 : Int32) : Option (Int32) :=
  some v2
def f_X11_firstEnd_b5 (mo_beds : Int32) (mo_bed : Nat → Int32) (a1 : Int32) (v2 : Int32) (v3 : Int32) : Option ((Int32 × Int32) ⊕ (Int32)) :=
  (if mo_beds ≤ v3 then some (.inr v2) else gd (((6 : Int32) * v3) + (3 : Int32)) 48 ((some (mo_bed (((6 : Int32) * v3) + (3 : Int32)).toNatClampNeg)).bind (fun u5 => (f_X11_isIcy mo_bed v3).bind (fun q6 => (if q6 = (0 : Int32) then some (.inl (v2, (v3 + (1 : Int32)))) else gd (((6 : Int32) * v3) + (2 : Int32)) 48 ((if (mo_bed (((6 : Int32) * v3) + (2 : Int32)).toNatClampNeg) ≤ a1 then some (.inl (v2, (v3 + (1 : Int32)))) else (if v2 = (-9 : Int32) then some (.inl (u5, (v3 + (1 : Int32)))) else (if v2 ≤ u5 then some (.inl (v2, (v3 + (1 : Int32)))) else some (.inl (u5, (v3 + (1 : Int32)))))))))))))
def f_X11_firstEnd (mo_beds : Int32) (mo_bed : Nat → Int32) (a1 : Int32) : Option (Int32) :=
  (lpM (σ := Int32 × Int32) (ρ := Int32) (fun st => f_X11_firstEnd_b5 mo_beds mo_bed a1 st.1 st.2) FU ((-9 : Int32), (0 : Int32))).bind (fun sx => f_X11_firstEnd_x74_1 sx)
def f_X11_times_x26_2 (v1 : Int32) : Option (Int32) :=
  some v1
def f_X11_times_b8 (mo_beds : Int32) (mo_bed : Nat → Int32) (v1 : Int32) (v2 : Int32) : Option ((Int32 × Int32) ⊕ (Int32)) :=
  (if v2 = (-9 : Int32) then some (.inr v1) else (f_X11_firstEnd mo_beds mo_bed v2).bind (fun q5 => some (.inl ((v1 + (1 : Int32)), q5))))
def f_X11_times (mo_beds : Int32) (mo_bed : Nat → Int32) : Option (Int32) :=
  (f_X11_firstEnd mo_beds mo_bed (-1 : Int32)).bind (fun q1 => (lpM (σ := Int32 × Int32) (ρ := Int32) (fun st => f_X11_times_b8 mo_beds mo_bed st.1 st.2) FU ((0 : Int32), q1)).bind (fun sx => f_X11_times_x26_2 sx))
def f_X11_time_x33_2 : Option (Int32) :=
  some (-9 : Int32)
def f_X11_time_b8 (mo_beds : Int32) (mo_bed : Nat → Int32) (a1 : Int32) (v2 : Int32) (v3 : Int32) : Option ((Int32 × Int32) ⊕ ((Unit) ⊕ (Int32))) :=
  (if v3 = (-9 : Int32) then some (.inr (.inl ())) else (if v2 = a1 then some (.inr (.inr v3)) else (f_X11_firstEnd mo_beds mo_bed v3).bind (fun q6 => some (.inl ((v2 + (1 : Int32)), q6)))))
def f_X11_time (mo_beds : Int32) (mo_bed : Nat → Int32) (a1 : Int32) : Option (Int32) :=
  (f_X11_firstEnd mo_beds mo_bed (-1 : Int32)).bind (fun q1 => (lpM (σ := Int32 × Int32) (ρ := (Unit) ⊕ (Int32)) (fun st => f_X11_time_b8 mo_beds mo_bed a1 st.1 st.2) FU ((0 : Int32), q1)).bind (fun so => Sum.elim (fun sx => f_X11_time_x33_2) (fun r => some r) so))
def f_X11_layOrder_x185_2 (v3 : Int32) (mo_early : Nat → Int32) (mo_late : Nat → Int32) : Option (Int32 × (Nat → Int32) × (Nat → Int32)) :=
  zb v3 (some (v3, mo_early, mo_late))
def f_X11_layOrder_j168 (v5 : Int32) (k0 : Int32) (mo_late : Nat → Int32) : Option ((Int32 × Int32 × (Nat → Int32)) ⊕ ((Nat → Int32))) :=
  gd v5 8 (some (.inl (k0, (v5 + (-1 : Int32)), (upd mo_late v5.toNatClampNeg k0))))
def f_X11_layOrder_b115 (mo_bed : Nat → Int32) (a1 : Int32) (v4 : Int32) (v5 : Int32) (mo_late : Nat → Int32) : Option ((Int32 × Int32 × (Nat → Int32)) ⊕ ((Nat → Int32))) :=
  (if v5 < (0 : Int32) then some (.inr mo_late) else gd ((6 : Int32) * v5) 48 ((if (mo_bed ((6 : Int32) * v5).toNatClampNeg) = a1 then gd (((6 : Int32) * v5) + (3 : Int32)) 48 ((if v4 ≤ (mo_bed (((6 : Int32) * v5) + (3 : Int32)).toNatClampNeg) then f_X11_layOrder_j168 v5 v4 mo_late else gd (((6 : Int32) * v5) + (3 : Int32)) 48 (f_X11_layOrder_j168 v5 (mo_bed (((6 : Int32) * v5) + (3 : Int32)).toNatClampNeg) mo_late))) else some (.inl (v4, (v5 + (-1 : Int32)), mo_late)))))
def f_X11_layOrder_x103_1 (mo_beds : Int32) (mo_bed : Nat → Int32) (mo_late : Nat → Int32) (a1 : Int32) (v3 : Int32) (mo_early : Nat → Int32) : Option (Int32 × (Nat → Int32) × (Nat → Int32)) :=
  (lpM (σ := Int32 × Int32 × (Nat → Int32)) (ρ := (Nat → Int32)) (fun st => f_X11_layOrder_b115 mo_bed a1 st.1 st.2.1 st.2.2) FU ((99 : Int32), (mo_beds - (1 : Int32)), mo_late)).bind (fun sx => f_X11_layOrder_x185_2 v3 mo_early sx)
def f_X11_layOrder_j62 (mo_bed : Nat → Int32) (v3 : Int32) (v4 : Int32) (k0 : Int32) (mo_early : Nat → Int32) : Option ((Int32 × Int32 × Int32 × (Nat → Int32)) ⊕ (Int32 × (Nat → Int32))) :=
  gd v4 8 ((if v3 = (0 : Int32) then some (.inl (k0, (0 : Int32), (v4 + (1 : Int32)), (upd mo_early v4.toNatClampNeg k0))) else gd (((6 : Int32) * v4) + (3 : Int32)) 48 ((if (mo_bed (((6 : Int32) * v4) + (3 : Int32)).toNatClampNeg) < k0 then some (.inl (k0, (0 : Int32), (v4 + (1 : Int32)), (upd mo_early v4.toNatClampNeg k0))) else some (.inl (k0, (1 : Int32), (v4 + (1 : Int32)), (upd mo_early v4.toNatClampNeg k0)))))))
def f_X11_layOrder_b7 (mo_beds : Int32) (mo_bed : Nat → Int32) (a1 : Int32) (v2 : Int32) (v3 : Int32) (v4 : Int32) (mo_early : Nat → Int32) : Option ((Int32 × Int32 × Int32 × (Nat → Int32)) ⊕ (Int32 × (Nat → Int32))) :=
  (if mo_beds ≤ v4 then some (.inr (v3, mo_early)) else gd ((6 : Int32) * v4) 48 ((if (mo_bed ((6 : Int32) * v4).toNatClampNeg) = a1 then gd (((6 : Int32) * v4) + (2 : Int32)) 48 ((if (mo_bed (((6 : Int32) * v4) + (2 : Int32)).toNatClampNeg) ≤ v2 then f_X11_layOrder_j62 mo_bed v3 v4 v2 mo_early else gd (((6 : Int32) * v4) + (2 : Int32)) 48 (f_X11_layOrder_j62 mo_bed v3 v4 (mo_bed (((6 : Int32) * v4) + (2 : Int32)).toNatClampNeg) mo_early))) else some (.inl (v2, v3, (v4 + (1 : Int32)), mo_early)))))
def f_X11_layOrder (mo_beds : Int32) (mo_bed : Nat → Int32) (mo_early : Nat → Int32) (mo_late : Nat → Int32) (a1 : Int32) : Option (Int32 × (Nat → Int32) × (Nat → Int32)) :=
  (lpM (σ := Int32 × Int32 × Int32 × (Nat → Int32)) (ρ := Int32 × (Nat → Int32)) (fun st => f_X11_layOrder_b7 mo_beds mo_bed a1 st.1 st.2.1 st.2.2.1 st.2.2.2) FU ((0 : Int32), (1 : Int32), (0 : Int32), mo_early)).bind (fun sx => f_X11_layOrder_x103_1 mo_beds mo_bed mo_late a1 sx.1 sx.2)
def f_X11_order (mo_beds : Int32) (mo_bed : Nat → Int32) (mo_early : Nat → Int32) (mo_late : Nat → Int32) (a1 : Int32) : Option (Int32 × (Nat → Int32) × (Nat → Int32)) :=
  (f_X11_in (a1.toInt64) (0 : Int64) (3 : Int64)).bind (fun q1 => (if q1 = (0 : Int32) then some ((-1 : Int32), mo_early, mo_late) else (f_X11_layOrder mo_beds mo_bed mo_early mo_late a1).bind (fun q3 => (if q3.1 = (0 : Int32) then some ((0 : Int32), q3.2.1, q3.2.2) else some ((1 : Int32), q3.2.1, q3.2.2)))))
def f_X11_gap_x45_3 (mo_beds : Int32) (mo_bed : Nat → Int32) (mo_early : Nat → Int32) (mo_late : Nat → Int32) (a1 : Int32) (v2 : Int32) : Option (Int32 × (Nat → Int32) × (Nat → Int32)) :=
  (if v2 < (0 : Int32) then some ((-3 : Int32), mo_early, mo_late) else gd ((6 : Int32) * a1) 48 ((f_X11_layOrder mo_beds mo_bed mo_early mo_late (mo_bed ((6 : Int32) * a1).toNatClampNeg)).bind (fun q7 => (if q7.1 = (0 : Int32) then some ((-3 : Int32), q7.2.1, q7.2.2) else gd a1 8 (gd v2 8 (some (((q7.2.2 a1.toNatClampNeg) - (q7.2.1 v2.toNatClampNeg)), q7.2.1, q7.2.2)))))))
def f_X11_gap_b14 (mo_bed : Nat → Int32) (a1 : Int32) (v2 : Int32) : Option ((Int32) ⊕ (Int32)) :=
  (if v2 < (0 : Int32) then some (.inr v2) else gd ((6 : Int32) * v2) 48 (gd ((6 : Int32) * a1) 48 ((if (mo_bed ((6 : Int32) * v2).toNatClampNeg) = (mo_bed ((6 : Int32) * a1).toNatClampNeg) then some (.inr v2) else some (.inl (v2 + (-1 : Int32)))))))
def f_X11_gap (mo_beds : Int32) (mo_bed : Nat → Int32) (mo_early : Nat → Int32) (mo_late : Nat → Int32) (a1 : Int32) : Option (Int32 × (Nat → Int32) × (Nat → Int32)) :=
  (f_X11_isBed mo_beds a1).bind (fun q1 => (if q1 = (0 : Int32) then some ((-1 : Int32), mo_early, mo_late) else (lpM (σ := Int32) (ρ := Int32) (fun st => f_X11_gap_b14 mo_bed a1 st) FU (a1 - (1 : Int32))).bind (fun sx => f_X11_gap_x45_3 mo_beds mo_bed mo_early mo_late a1 sx)))
def f_X11_poleOf_x76_1 (v3 : Int32) : Option (Int32) :=
  some v3
def f_X11_poleOf_j57 (mo_stories : Nat → Int32) (mo_bed : Nat → Int32) (v4 : Int32) (k0 : Int32) (k2 : Int32) (k3 : Int32) (k4 : Int32) : Option ((Int32 × Int32) ⊕ (Int32)) :=
  (f_X11_rounds mo_stories mo_bed k2 k3 k4).bind (fun q3 => (if q3 ≤ (0 : Int32) then some (.inl ((k0 + (0 : Int32)), (v4 + (1 : Int32)))) else some (.inl ((k0 + (1 : Int32)), (v4 + (1 : Int32))))))
def f_X11_poleOf_b5 (mo_stories : Nat → Int32) (mo_beds : Int32) (mo_bed : Nat → Int32) (a1 : Int32) (a2 : Int32) (v3 : Int32) (v4 : Int32) : Option ((Int32 × Int32) ⊕ (Int32)) :=
  (if mo_beds ≤ v4 then some (.inr v3) else gd (((6 : Int32) * v4) + (4 : Int32)) 48 ((some ((mo_bed (((6 : Int32) * v4) + (4 : Int32)).toNatClampNeg) - a2)).bind (fun u7 => (f_X11_isIcy mo_bed v4).bind (fun q8 => (if q8 = (0 : Int32) then some (.inl ((v3 + (0 : Int32)), (v4 + (1 : Int32)))) else (if (0 : Int32) ≤ u7 then f_X11_poleOf_j57 mo_stories mo_bed v4 v3 a1 v4 u7 else f_X11_poleOf_j57 mo_stories mo_bed v4 v3 a1 v4 (-u7)))))))
def f_X11_poleOf (mo_stories : Nat → Int32) (mo_beds : Int32) (mo_bed : Nat → Int32) (a1 : Int32) (a2 : Int32) : Option (Int32) :=
  (lpM (σ := Int32 × Int32) (ρ := Int32) (fun st => f_X11_poleOf_b5 mo_stories mo_beds mo_bed a1 a2 st.1 st.2) FU ((0 : Int32), (0 : Int32))).bind (fun sx => f_X11_poleOf_x76_1 sx)
def f_X11_pole (mo_stories : Nat → Int32) (mo_beds : Int32) (mo_bed : Nat → Int32) (a1 : Int32) (a2 : Int32) : Option (Int32) :=
  (f_X11_isStory a1).bind (fun q1 => (if q1 = (0 : Int32) then some (-1 : Int32) else (f_X11_in (a2.toInt64) (0 : Int64) (5 : Int64)).bind (fun q3 => (if q3 = (0 : Int32) then some (-2 : Int32) else (f_X11_poleOf mo_stories mo_beds mo_bed a1 a2).bind (fun q6 => some q6)))))
def f_X11_elsewhere_x46_3 (v2 : Int32) : Option (Int32) :=
  some v2
def f_X11_elsewhere_b13 (mo_stories : Nat → Int32) (mo_beds : Int32) (mo_bed : Nat → Int32) (a1 : Int32) (v2 : Int32) (v3 : Int32) : Option ((Int32 × Int32) ⊕ (Int32)) :=
  (if (6 : Int32) ≤ v3 then some (.inr v2) else (f_X11_poleOf mo_stories mo_beds mo_bed a1 v3).bind (fun q6 => (f_X11_poleOf mo_stories mo_beds mo_bed a1 v2).bind (fun q7 => (if q6 ≤ q7 then some (.inl (v2, (v3 + (1 : Int32)))) else some (.inl (v3, (v3 + (1 : Int32))))))))
def f_X11_elsewhere (mo_stories : Nat → Int32) (mo_beds : Int32) (mo_bed : Nat → Int32) (a1 : Int32) : Option (Int32) :=
  (f_X11_isStory a1).bind (fun q1 => (if q1 = (0 : Int32) then some (-1 : Int32) else (lpM (σ := Int32 × Int32) (ρ := Int32) (fun st => f_X11_elsewhere_b13 mo_stories mo_beds mo_bed a1 st.1 st.2) FU ((0 : Int32), (1 : Int32))).bind (fun sx => f_X11_elsewhere_x46_3 sx)))
def f_X11_keep_x89_6 (mo_beds : Int32) (mo_isKept : Nat → Int32) (mo_keptBeds : Nat → Int32) (mo_keptBed : Nat → Int32) (mo_keptWeights : Nat → Int32) : Option (Int32 × (Nat → Int32) × (Nat → Int32) × (Nat → Int32) × (Nat → Int32)) :=
  some (mo_beds, mo_isKept, mo_keptBeds, mo_keptBed, mo_keptWeights)
def f_X11_keep_b62 (mo_weights : Nat → Int32) (a1 : Int32) (v2 : Int32) (mo_keptWeights : Nat → Int32) : Option ((Int32 × (Nat → Int32)) ⊕ ((Nat → Int32))) :=
  (if (4 : Int32) ≤ v2 then some (.inr mo_keptWeights) else gd v2 4 (gd (((4 : Int32) * a1) + v2) 8 (some (.inl ((v2 + (1 : Int32)), (upd mo_keptWeights (((4 : Int32) * a1) + v2).toNatClampNeg (mo_weights v2.toNatClampNeg)))))))
def f_X11_keep_x60_5 (mo_weights : Nat → Int32) (mo_beds : Int32) (mo_keptWeights : Nat → Int32) (a1 : Int32) (mo_isKept : Nat → Int32) (mo_keptBeds : Nat → Int32) (mo_keptBed : Nat → Int32) : Option (Int32 × (Nat → Int32) × (Nat → Int32) × (Nat → Int32) × (Nat → Int32)) :=
  (lpM (σ := Int32 × (Nat → Int32)) (ρ := (Nat → Int32)) (fun st => f_X11_keep_b62 mo_weights a1 st.1 st.2) FU ((0 : Int32), mo_keptWeights)).bind (fun sx => f_X11_keep_x89_6 mo_beds mo_isKept mo_keptBeds mo_keptBed sx)
def f_X11_keep_b31 (mo_bed : Nat → Int32) (a1 : Int32) (v2 : Int32) (mo_isKept : Nat → Int32) (mo_keptBeds : Nat → Int32) (mo_keptBed : Nat → Int32) : Option ((Int32 × (Nat → Int32) × (Nat → Int32) × (Nat → Int32)) ⊕ ((Nat → Int32) × (Nat → Int32) × (Nat → Int32))) :=
  (if (48 : Int32) ≤ v2 then some (.inr (mo_isKept, mo_keptBeds, mo_keptBed)) else gd v2 48 (gd (((48 : Int32) * a1) + v2) 96 (some (.inl ((v2 + (1 : Int32)), mo_isKept, mo_keptBeds, (upd mo_keptBed (((48 : Int32) * a1) + v2).toNatClampNeg (mo_bed v2.toNatClampNeg)))))))
def f_X11_keep (mo_weights : Nat → Int32) (mo_beds : Int32) (mo_bed : Nat → Int32) (mo_isKept : Nat → Int32) (mo_keptBeds : Nat → Int32) (mo_keptBed : Nat → Int32) (mo_keptWeights : Nat → Int32) (a1 : Int32) : Option (Int32 × (Nat → Int32) × (Nat → Int32) × (Nat → Int32) × (Nat → Int32)) :=
  (f_X11_in (a1.toInt64) (0 : Int64) (1 : Int64)).bind (fun q1 => (if q1 = (0 : Int32) then some ((-1 : Int32), mo_isKept, mo_keptBeds, mo_keptBed, mo_keptWeights) else gd a1 2 (gd a1 2 ((lpM (σ := Int32 × (Nat → Int32) × (Nat → Int32) × (Nat → Int32)) (ρ := (Nat → Int32) × (Nat → Int32) × (Nat → Int32)) (fun st => f_X11_keep_b31 mo_bed a1 st.1 st.2.1 st.2.2.1 st.2.2.2) FU ((0 : Int32), (upd mo_isKept a1.toNatClampNeg (vp_nar .boolean (1 : Int32))), (upd mo_keptBeds a1.toNatClampNeg mo_beds), mo_keptBed)).bind (fun sx => f_X11_keep_x60_5 mo_weights mo_beds mo_keptWeights a1 sx.1 sx.2.1 sx.2.2)))))
def f_X11_again_x94_7 (mo_beds : Int32) (mo_bed : Nat → Int32) (mo_weights : Nat → Int32) : Option (Int32 × (Nat → Int32) × Int32 × (Nat → Int32)) :=
  some (mo_beds, mo_weights, mo_beds, mo_bed)
def f_X11_again_b67 (mo_keptWeights : Nat → Int32) (a1 : Int32) (v2 : Int32) (mo_weights : Nat → Int32) : Option ((Int32 × (Nat → Int32)) ⊕ ((Nat → Int32))) :=
  (if (4 : Int32) ≤ v2 then some (.inr mo_weights) else gd (((4 : Int32) * a1) + v2) 8 (gd v2 4 (some (.inl ((v2 + (1 : Int32)), (upd mo_weights v2.toNatClampNeg (mo_keptWeights (((4 : Int32) * a1) + v2).toNatClampNeg)))))))
def f_X11_again_x65_6 (mo_weights : Nat → Int32) (mo_keptWeights : Nat → Int32) (a1 : Int32) (mo_beds : Int32) (mo_bed : Nat → Int32) : Option (Int32 × (Nat → Int32) × Int32 × (Nat → Int32)) :=
  (lpM (σ := Int32 × (Nat → Int32)) (ρ := (Nat → Int32)) (fun st => f_X11_again_b67 mo_keptWeights a1 st.1 st.2) FU ((0 : Int32), mo_weights)).bind (fun sx => f_X11_again_x94_7 mo_beds mo_bed sx)
def f_X11_again_b36 (mo_keptBed : Nat → Int32) (a1 : Int32) (v2 : Int32) (mo_beds : Int32) (mo_bed : Nat → Int32) : Option ((Int32 × Int32 × (Nat → Int32)) ⊕ (Int32 × (Nat → Int32))) :=
  (if (48 : Int32) ≤ v2 then some (.inr (mo_beds, mo_bed)) else gd (((48 : Int32) * a1) + v2) 96 (gd v2 48 (some (.inl ((v2 + (1 : Int32)), mo_beds, (upd mo_bed v2.toNatClampNeg (mo_keptBed (((48 : Int32) * a1) + v2).toNatClampNeg)))))))
def f_X11_again (mo_weights : Nat → Int32) (mo_beds : Int32) (mo_bed : Nat → Int32) (mo_isKept : Nat → Int32) (mo_keptBeds : Nat → Int32) (mo_keptBed : Nat → Int32) (mo_keptWeights : Nat → Int32) (a1 : Int32) : Option (Int32 × (Nat → Int32) × Int32 × (Nat → Int32)) :=
  (f_X11_in (a1.toInt64) (0 : Int64) (1 : Int64)).bind (fun q1 => (if q1 = (0 : Int32) then some ((-1 : Int32), mo_weights, mo_beds, mo_bed) else gd a1 2 ((if (mo_isKept a1.toNatClampNeg) = (0 : Int32) then some ((-3 : Int32), mo_weights, mo_beds, mo_bed) else gd a1 2 ((lpM (σ := Int32 × Int32 × (Nat → Int32)) (ρ := Int32 × (Nat → Int32)) (fun st => f_X11_again_b36 mo_keptBed a1 st.1 st.2.1 st.2.2) FU ((0 : Int32), (mo_keptBeds a1.toNatClampNeg), mo_bed)).bind (fun sx => f_X11_again_x65_6 mo_weights mo_keptWeights a1 sx.1 sx.2))))))
def f_X11_count_x64_2 (mo_length : Int32) (mo_beds : Int32) (a1 : Int32) (v2 : Int32) (v3 : Int32) : Option (Int32) :=
  (if a1 = (0 : Int32) then some mo_length else (if a1 = (1 : Int32) then some mo_beds else (if a1 = (2 : Int32) then some v2 else (if a1 = (3 : Int32) then some v3 else some (-2 : Int32)))))
def f_X11_count_b42 (mo_weights : Nat → Int32) (v3 : Int32) (v4 : Int32) : Option ((Int32 × Int32) ⊕ (Int32)) :=
  (if (4 : Int32) ≤ v4 then some (.inr v3) else gd v4 4 (some (.inl ((v3 + (mo_weights v4.toNatClampNeg)), (v4 + (1 : Int32))))))
def f_X11_count_x39_1 (mo_length : Int32) (mo_weights : Nat → Int32) (mo_beds : Int32) (a1 : Int32) (v2 : Int32) : Option (Int32) :=
  (lpM (σ := Int32 × Int32) (ρ := Int32) (fun st => f_X11_count_b42 mo_weights st.1 st.2) FU ((0 : Int32), (0 : Int32))).bind (fun sx => f_X11_count_x64_2 mo_length mo_beds a1 v2 sx)
def f_X11_count_b7 (mo_beds : Int32) (mo_bed : Nat → Int32) (v2 : Int32) (v4 : Int32) : Option ((Int32 × Int32) ⊕ (Int32)) :=
  (if mo_beds ≤ v4 then some (.inr v2) else (f_X11_isIcy mo_bed v4).bind (fun q12 => (if q12 = (0 : Int32) then some (.inl ((v2 + (0 : Int32)), (v4 + (1 : Int32)))) else some (.inl ((v2 + (1 : Int32)), (v4 + (1 : Int32)))))))
def f_X11_count (mo_length : Int32) (mo_weights : Nat → Int32) (mo_beds : Int32) (mo_bed : Nat → Int32) (a1 : Int32) : Option (Int32) :=
  (lpM (σ := Int32 × Int32) (ρ := Int32) (fun st => f_X11_count_b7 mo_beds mo_bed st.1 st.2) FU ((0 : Int32), (0 : Int32))).bind (fun sx => f_X11_count_x39_1 mo_length mo_weights mo_beds a1 sx)
