/-! ===== a call that writes, its cells put back in their places ===== -/
def setAll : va_W → List Nat → va_W → va_W
  | ws, i :: is, c :: cs => setAll (ws.set i c) is cs
  | ws, _, _ => ws
theorem set_fst {ws : va_W} {i a : Nat} {e e' : va_E} (h : ws[i]? = some (a, e)) : (ws.set i (a, e')).map Prod.fst = ws.map Prod.fst := by
  apply List.ext_getElem?
  intro k
  simp only [List.getElem?_map, List.getElem?_set]
  by_cases hk : i = k
  · subst hk
    have hl : i < ws.length := by
      rcases Nat.lt_or_ge i ws.length with q | q
      · exact q
      · rw [List.getElem?_eq_none q] at h; cases h
    rw [if_pos rfl, if_pos hl, h]
    rfl
  · rw [if_neg hk]
theorem setAll_fst : ∀ (is : List Nat) (ws cs cs' : va_W), is.map (fun i => ws[i]?) = cs.map some → va_nd is = true → cs'.map Prod.fst = cs.map Prod.fst → (setAll ws is cs').map Prod.fst = ws.map Prod.fst := by
  intro is
  induction is with
  | nil => intro ws cs cs' _ _ _; cases cs' <;> rfl
  | cons i is ih =>
    intro ws cs cs' h hn ha
    cases cs with
    | nil => simp at h
    | cons c cs =>
      cases cs' with
      | nil => simp at ha
      | cons c' cs' =>
        simp only [List.map_cons, List.cons.injEq] at h ha
        obtain ⟨c1, c2⟩ := c
        obtain ⟨d1, d2⟩ := c'
        obtain ⟨h1, h2⟩ := h
        obtain ⟨a1, a2⟩ := ha
        have a1 : d1 = c1 := a1
        subst a1
        simp only [va_nd, Bool.and_eq_true, Bool.not_eq_true', decide_eq_true_eq] at hn
        have hi : i ∉ is := by
          intro hm
          have := hn.1
          simp [hm] at this
        unfold setAll
        rw [ih (ws.set i (d1, d2)) cs cs' ?_ hn.2 a2, set_fst h1]
        rw [← h2]
        apply List.map_congr_left
        intro k hk
        rw [List.getElem?_set_ne (fun e : i = k => hi (by rw [e]; exact hk))]
theorem setAll_out : ∀ (is : List Nat) (ws cs' : va_W) (k : Nat), k ∉ is → (setAll ws is cs')[k]? = ws[k]? := by
  intro is
  induction is with
  | nil => intro ws cs' k _; cases cs' <;> rfl
  | cons i is ih =>
    intro ws cs' k hk
    cases cs' with
    | nil => rfl
    | cons c' cs' =>
      unfold setAll
      rw [ih _ _ _ (fun h => hk (List.mem_cons_of_mem _ h)), List.getElem?_set_ne (fun e => hk (by rw [e]; exact List.mem_cons_self))]
theorem setAll_in : ∀ (is : List Nat) (ws cs' : va_W) (k : Nat) (q : Nat × va_E), va_nd is = true → is.length = cs'.length → k ∈ is → (setAll ws is cs')[k]? = some q → ∃ j : Nat, cs'[j]? = some q := by
  intro is
  induction is with
  | nil => intro ws cs' k q _ _ h; cases h
  | cons i is ih =>
    intro ws cs' k q hn hl hk h
    cases cs' with
    | nil => simp at hl
    | cons c' cs' =>
      simp only [va_nd, Bool.and_eq_true, Bool.not_eq_true', decide_eq_true_eq] at hn
      have hi : i ∉ is := by
        intro hm
        have := hn.1
        simp [hm] at this
      unfold setAll at h
      by_cases hki : k ∈ is
      · obtain ⟨j, hj⟩ := ih _ cs' k q hn.2 (by simpa using hl) hki h
        exact ⟨j + 1, by simpa using hj⟩
      · have e : k = i := by
          rcases List.mem_cons.mp hk with e | e
          · exact e
          · exact absurd e hki
        subst e
        rw [setAll_out _ _ _ _ hki] at h
        rw [List.getElem?_set] at h
        split at h
        · split at h
          · exact ⟨0, by simpa using h⟩
          · cases h
        · rename_i h9; exact absurd rfl h9
theorem va_D.fst {A : Nat → Prop} {ws ws' : va_W} (h : ws'.map Prod.fst = ws.map Prod.fst) (hD : va_D A ws) : va_D A ws' := by
  have key : ∀ (k : Nat) (q : Nat × va_E), ws'[k]? = some q → ∃ e : va_E, ws[k]? = some (q.1, e) := by
    intro k q hq
    have h1 : (ws'.map Prod.fst)[k]? = some q.1 := by rw [List.getElem?_map, hq]; rfl
    rw [h, List.getElem?_map] at h1
    cases hw : ws[k]? with
    | none => rw [hw] at h1; cases h1
    | some c => rw [hw] at h1; exact ⟨c.2, by rw [← Option.some.inj h1]⟩
  refine ⟨fun i j p q hp hq e => ?_, fun k q hq => ?_⟩
  · obtain ⟨e1, h1⟩ := key i p hp
    obtain ⟨e2, h2⟩ := key j q hq
    exact hD.1 i j _ _ h1 h2 e
  · obtain ⟨e1, h1⟩ := key k q hq
    exact hD.2 k (q.1, e1) h1
theorem va_sets {A0 : Nat → Prop} {D : va_G} {cl : List vw_C} {ws wc wc' : va_W} {H H1 : Heap} (hP : va_P D cl ws H) (hD : va_D A0 ws) (isC : List Nat) (hC : isC.map (fun i => ws[i]?) = wc.map some) (hn : va_nd isC = true) (ha : wc'.map Prod.fst = wc.map Prod.fst)
    (hk : ∀ q : Nat, q < H.size → ¬ va_A wc H.size q → H1[q]? = H[q]?) (hP1 : va_P D cl wc' H1) : va_P D cl (setAll ws isC wc') H1 ∧ va_D A0 (setAll ws isC wc') := by
  have hl : isC.length = wc'.length := by
    have h1 := congrArg List.length hC
    have h2 := congrArg List.length ha
    simp only [List.length_map] at h1 h2
    rw [h1, h2]
  refine ⟨fun k q hq => ?_, hD.fst (setAll_fst isC ws wc wc' hC hn ha)⟩
  by_cases hm : k ∈ isC
  · obtain ⟨j, hj⟩ := setAll_in isC ws wc' k q hn hl hm hq
    exact hP1 j q hj
  · rw [setAll_out _ _ _ _ hm] at hq
    have hlt := (hP k q hq).lt
    refine (hP k q hq).kept (hk q.1 hlt (fun h => ?_))
    rcases h with ⟨k2, e, h⟩ | h
    · have h1 : (isC.map (fun i => ws[i]?))[k2]? = some (some (q.1, e)) := by rw [hC, List.getElem?_map, h]; rfl
      rw [List.getElem?_map] at h1
      cases hi : isC[k2]? with
      | none => rw [hi] at h1; cases h1
      | some i =>
        rw [hi] at h1
        have h3 : ws[i]? = some (q.1, e) := Option.some.inj h1
        have := hD.1 k i q (q.1, e) hq h3 rfl
        subst this
        exact hm (List.mem_of_getElem? hi)
    · omega
section RWS
variable {p : Program} {l : Launch} {e : Env} {R : Room} {s : State} {m : MethodId} {args : Array Value} {below : List Frame} {meth : Method} {c : Code} {H : Heap} {locs : List Loc} {cells slots : Nat} {Q : State → Prop}
variable {cc bytes : ByteArray} {nL maxL index n pc : Nat} {own : String} {y : MethodName} {rt rt0 : Option FieldType} {rm : Room} {G : TG} {ls : Array Slot} {lv : List (Nat × Value)} {As rest st0 st1 : List Value} {wc ws : va_W} {v : Option Value} {b : Addr} {aa : Array Value}
theorem rs_after {A : Nat → Prop} {wc' : va_W} (hr : va_Run p l e R s m args below meth c H locs cells slots 0 0 (F0 m pc ls st0) rest (rwQ G v wc' (va_A wc H.size) aa) (va_A wc H.size)) (h1 : v.toList ++ rest = st1)
    (hP : va_P G.1 vwCl ws H) (hD : va_D A ws) (hS : va_S A s.heap H locs) (hA : ∀ q, s.heap.size ≤ q → A q) (isC : List Nat) (hC : isC.map (fun i => ws[i]?) = wc.map some) (hn : va_nd isC = true) (ha : wc'.map Prod.fst = wc.map Prod.fst)
    (kk : ∀ (H1 : Heap) (locs1 : List Loc), va_P G.1 vwCl (setAll ws isC wc') H1 → va_D A (setAll ws isC wc') → va_S A s.heap H1 locs1 → W p l e R s m args below meth c H1 locs1 cells slots Q (F0 m (pc + 3) ls st1)) : W p l e R s m args below meth c H locs cells slots Q (F0 m pc ls st0) := by
  subst h1
  intro T hT X
  obtain ⟨w, st₀, t, T', L, h0, X', hL, e1, e2, ⟨hv, hP1, hD1, hz, hk⟩, st⟩ := hr T hT X
  cases hv
  have hF := va_free hD hS hA isC hC
  rw [h0] at hz hk
  obtain ⟨hP2, hD2⟩ := va_sets (H1 := t.heap) hP hD isC hC hn ha hk hP1
  have hS1 : va_S A s.heap t.heap (locs ++ L) := ⟨Nat.le_trans hS.1 hz, fun q h1 h2 => by rw [hk q (Nat.lt_of_lt_of_le h1 hS.1) (fun z => h2 (hF q z))]; exact hS.2.1 q h1 h2, fun q hq => by
      rcases List.mem_append.mp hq with h | h
      · exact hS.2.2 q h
      · exact hF _ (hL q h)⟩
  obtain ⟨t2, a1, b1⟩ := kk t.heap (locs ++ L) hP2 hD2 hS1 T' e1 X'
  exact ⟨t2, st t2 a1, b1⟩
theorem rs_V {A : Nat → Prop} {wc' : va_W} (hM : RW l y bytes maxL rt rm G (.ref b :: As) wc v wc') (C : Cx p s m args meth c cc nL rt0 own) (hK : Kt G s s.heap) (hP : va_P G.1 vwCl ws H) (hD : va_D A ws) (hS : va_S A s.heap H locs) (hA : ∀ q, s.heap.size ≤ q → A q) (hz : ∀ q, A q → G.2.2.1 ≤ q) (hl : lv_has ls nL lv)
    (isC : List Nat) (hC : isC.map (fun i => ws[i]?) = wc.map some) (hnC : va_nd isC = true) (ha : wc'.map Prod.fst = wc.map Prod.fst)
    (k1 : Cond.code y bytes maxL rt ∈ tG) (k2 : Cond.methodLink own index y ∈ tG) (k3 : Cond.instanceMethod y ∈ tG) (k4 : Cond.selects y.cls y y ∈ tG) (k5 : Cond.initialized y.cls ∈ tG) (hy : okY y n) (hR : okR R rm maxL) (hc : cells ≤ R.cells ∧ slots ≤ R.slots)
    {ci : Nat} {fs : List Value} {q : vw_C} (h0 : wc[0]? = some (b, .inr (ci, fs))) (hcl : vwCl[ci]? = some q) (hq : q.1 = y.cls) (hn : As.length = n) (hst : st0 = As.reverse ++ .ref b :: rest) (h8 : (rest.map fun v => v.category).sum ≤ 8) (hdg : decode cc pc = .ok (.invokevirtual index, 3)) (h1 : v.toList ++ rest = st1)
    (kk : ∀ (H1 : Heap) (locs1 : List Loc), va_P G.1 vwCl (setAll ws isC wc') H1 → va_D A (setAll ws isC wc') → va_S A s.heap H1 locs1 → W p l e R s m args below meth c H1 locs1 cells slots Q (F0 m (pc + 3) ls st1)) : W p l e R s m args below meth c H locs cells slots Q (F0 m pc ls st0) := by
  obtain ⟨hx, hb, hml, hr, hlk, hown, ht⟩ := C
  have hKH := hK.at hS hz
  have hPc : va_P G.1 vwCl wc H := by
    intro k q hq
    have h1 : (isC.map (fun i => ws[i]?))[k]? = some (some q) := by rw [hC, List.getElem?_map, hq]; rfl
    rw [List.getElem?_map] at h1
    cases hi : isC[k]? with
    | none => rw [hi] at h1; cases h1
    | some i => rw [hi] at h1; exact hP i q (Option.some.inj h1)
  have hDc := rw_D hD hz isC hnC hC
  refine rs_after (va_runV (As := As) (rest := rest) (Ts := tG) (C := y.cls) ⟨hx, hb, hml, hown, ht⟩ (hM H.size (Kt.size (U := s) hA hz hS)) ⟨callB_of n ht (tg_call k1) rfl hR.1.1 hR.1.2 (ht _ k5) (ht _ k2) hy ⟨hR.2.1, hR.2.2⟩, ht _ k3, ht _ k4⟩ ⟨rwP_blind, ?_, ?_⟩ rfl hn hl.1 hst (lv_room h8) hdg ⟨hc.1, hc.2⟩) h1 hP hD hS hA isC hC hnC ha kk
  · obtain ⟨cell, q1, q2, q3⟩ := va_recv hKH.1 hPc hcl h0
    exact ⟨cell, q1, q2, by rw [← hq]; exact q3⟩
  · intro U hU hW
    exact ⟨rfl, by rw [hU], by rw [hU]; exact hPc, by rw [hU]; exact hKH.vm hW, hDc⟩
end RWS
