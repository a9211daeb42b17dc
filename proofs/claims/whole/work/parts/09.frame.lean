/-! ===== the frame of all contracts: worlds' environment, contracts that only read (RO), contracts that write (RW), calls, loops ===== -/
def nst_is : Cond → Bool
  | .methodLinkNest .. => true
  | _ => false
theorem nW_is : nW.all nst_is = true := by decide +kernel
def Nst (U : State) : Prop := ∀ w ∈ nW, va_Nw w U
theorem Nst.warm {s U : State} (hW : s.WarmedH U.vm) (h : Nst s) : Nst U := by
  intro w hw
  have h1 := List.all_eq_true.mp nW_is w hw
  have h2 := h w hw
  cases w <;> first | exact va_Nw.warmM hW h2 | (simp [nst_is] at h1; done)
theorem Nst.same {u U : State} (hv : u.vm = U.vm) (h : Nst u) : Nst U := by
  intro w hw
  have h1 := List.all_eq_true.mp nW_is w hw
  have h2 := h w hw
  cases w <;> first | exact va_Nw.same rfl hv h2 | (simp [nst_is] at h1; done)
/-- D; the classes of int, long, boolean and Ground rows; where the made cells begin; the text constant and its bytes -/
abbrev TG : Type := va_G × (ClassId × ClassId × ClassId × ClassId) × (Nat × Nat × Nat)
abbrev tyG (G : TG) : List (ClassId × FieldType) := [(G.2.1.1, .int), (G.2.1.2.1, .long), (G.2.1.2.2.1, .boolean), (G.2.1.2.2.2, .object RX4)]
def SX (G : TG) (U : State) (H : Heap) : Prop := vk_S 1 [6] [[82, 71, 70, 77, 86, 87]] (fun _ => G.2.2.2.1) (fun _ => G.2.2.2.2) (fun q => G.2.2.1 ≤ q) U H ∧ va_Z "java/lang/String" "COMPACT_STRINGS" "Z" (.int 1) (fun q => G.2.2.1 ≤ q) U H ∧ vk_R RX6 68 "RGFMVW" G.2.2.2.1 U
def Kt (G : TG) (U : State) (H : Heap) : Prop := va_K G.1 vwCl (tyG G) U ∧ Nst U ∧ SX G U H
theorem Kt.vm {G : TG} {s U : State} {H : Heap} (hW : s.WarmedH U.vm) (h : Kt G s H) : Kt G U H :=
  ⟨va_K.moved hW.alike h.1, h.2.1.warm hW, vk_S.moved hW.alike h.2.2.1, va_Z.moved hW.alike h.2.2.2.1, vk_R.warm hW h.2.2.2.2⟩
theorem Kt.call {G : TG} {U : State} {H : Heap} {g : JFrame} {mk : MethodId} {a : Array Value} (h : Kt G U H) : Kt G (U.calling g mk a) H :=
  ⟨va_K.moved (u := U) (U := U.calling g mk a) (Vm.Alike.refl U.vm) h.1, Nst.same (u := U) (U := U.calling g mk a) rfl h.2.1, vk_S.moved (u := U) (U := U.calling g mk a) (Vm.Alike.refl U.vm) h.2.2.1, va_Z.moved (u := U) (U := U.calling g mk a) (Vm.Alike.refl U.vm) h.2.2.2.1, vk_R.same (u := U) (U := U.calling g mk a) rfl h.2.2.2.2⟩
theorem Kt.heap {G : TG} {U : State} {H H1 : Heap} (h : Kt G U H) (hq : ∀ a : Nat, a < H.size → ¬ G.2.2.1 ≤ a → H1[a]? = H[a]?) : Kt G U H1 :=
  ⟨h.1, h.2.1, vk_S.kept h.2.2.1 hq, va_Z.kept h.2.2.2.1 hq, h.2.2.2.2⟩
theorem Kt.at {G : TG} {A : Nat → Prop} {U : State} {H0 H : Heap} {locs : List Loc} (h : Kt G U H0) (hS : va_S A H0 H locs) (hz : ∀ q, A q → G.2.2.1 ≤ q) : Kt G U H :=
  h.heap (fun a h1 h2 => hS.2.1 a h1 (fun h3 => h2 (hz a h3)))
/-- what a method's body has at its entry -/
def Cx (p : Program) (s : State) (m : MethodId) (args : Array Value) (meth : Method) (c : Code) (cc : ByteArray) (n : Nat) (rt : Option FieldType) (own : String) : Prop :=
  p.tables.exec = Jvm.exec ∧ c.code = cc ∧ c.maxLocals = n ∧ meth.sig.returnType = rt ∧ meth.locks = false ∧ s.vm.findClass own = some m.cls ∧ ∀ w ∈ tG, w.before args s = true
def roP (G : TG) (av : List Value) (ws : va_W) : Array Value → State → Prop := fun a U => a = av.toArray ∧ va_P G.1 vwCl ws U.heap ∧ Kt G U U.heap
def roQ (v : Option Value) : Array Value → State → Outcome → State → Prop := fun _ st o t => o = .returned v ∧ t.heap = st.heap
/-- a contract that only reads -/
def RO (l : Launch) (y : MethodName) (c : ByteArray) (n : Nat) (rt : Option FieldType) (rm : Room) (G : TG) (av : List Value) (ws : va_W) (v : Option Value) : Prop :=
  Met l y (Cond.code y c n rt :: tG) rm (roP G av ws) (roQ v) 0 0 (fun _ => False)
theorem RO.mk {l : Launch} {y : MethodName} {c : ByteArray} {n : Nat} {rt : Option FieldType} {rm : Room} {G : TG} {av : List Value} {ws : va_W} {v : Option Value} (hy : plainName y.cls = true) (hlen : (lg_sl av).length ≤ n)
    (h : ∀ (p : Program) (e : Env) (s : State) (m : MethodId) (below : List Frame) (meth : Method) (cd : Code) (ls : Array Slot), Cx p s m av.toArray meth cd c n rt y.cls → va_P G.1 vwCl ws s.heap → Kt G s s.heap → lv_has ls n (lv_args 0 av) →
      W p l e rm s m av.toArray below meth cd s.heap [] 0 0 (MQ below (roQ v) av.toArray s 0 0 (fun _ => False)) (F0 m 0 ls [])) : RO l y c n rt rm G av ws v := by
  refine Met.ofW (cc := c) (maxL := n) (ret := rt) hy rfl ?_
  intro p e s m args below meth cd s₁ B hml hv
  obtain ⟨rfl, hP, hK⟩ := hv
  have hl := lv_entry av (n := n) hlen
  rw [lg_entry_eq]
  exact h p e s m below meth cd _ ⟨B.exec, B.bytes, hml, B.returns, B.notSynchronized, findClass_of_methodNamed B.named, fun w hw => atoms_spec (ws := Cond.code y c n rt :: tG) B.pre w (List.mem_cons_of_mem _ hw)⟩ hP hK hl
def rwP (G : TG) (av : List Value) (ws : va_W) (sz : Nat) : Array Value → State → Prop := fun a U => a = av.toArray ∧ U.heap.size = sz ∧ va_P G.1 vwCl ws U.heap ∧ Kt G U U.heap ∧ va_D (fun q => G.2.2.1 ≤ q) ws
def rwQ (G : TG) (v : Option Value) (ws' : va_W) (A : Nat → Prop) : Array Value → State → Outcome → State → Prop := fun _ st o t => o = .returned v ∧ va_P G.1 vwCl ws' t.heap ∧ va_D A ws' ∧ va_F A st t
/-- a contract that writes, and makes nothing -/
def RW (l : Launch) (y : MethodName) (c : ByteArray) (n : Nat) (rt : Option FieldType) (rm : Room) (G : TG) (av : List Value) (ws : va_W) (v : Option Value) (ws' : va_W) : Prop :=
  ∀ sz : Nat, G.2.2.1 ≤ sz → Met l y (Cond.code y c n rt :: tG) rm (rwP G av ws sz) (rwQ G v ws' (va_A ws sz)) 0 0 (va_A ws sz)
theorem RW.mk {l : Launch} {y : MethodName} {c : ByteArray} {n : Nat} {rt : Option FieldType} {rm : Room} {G : TG} {av : List Value} {ws ws' : va_W} {v : Option Value} (hy : plainName y.cls = true) (hlen : (lg_sl av).length ≤ n)
    (h : ∀ (p : Program) (e : Env) (s : State) (m : MethodId) (below : List Frame) (meth : Method) (cd : Code) (ls : Array Slot) (A : Nat → Prop), Cx p s m av.toArray meth cd c n rt y.cls → va_P G.1 vwCl ws s.heap → va_D A ws → (∀ q, s.heap.size ≤ q → A q) → (∀ q, A q → G.2.2.1 ≤ q) → Kt G s s.heap → lv_has ls n (lv_args 0 av) → va_S A s.heap s.heap [] →
      W p l e rm s m av.toArray below meth cd s.heap [] 0 0 (MQ below (rwQ G v ws' A) av.toArray s 0 0 A) (F0 m 0 ls [])) : RW l y c n rt rm G av ws v ws' := by
  intro sz hz
  refine Met.ofW (cc := c) (maxL := n) (ret := rt) hy rfl ?_
  intro p e s m args below meth cd s₁ B hml hv
  obtain ⟨rfl, hsz, hP, hK, hD⟩ := hv
  subst hsz
  have hl := lv_entry av (n := n) hlen
  rw [lg_entry_eq]
  refine h p e s m below meth cd _ (va_A ws s.heap.size) ⟨B.exec, B.bytes, hml, B.returns, B.notSynchronized, findClass_of_methodNamed B.named, fun w hw => atoms_spec (ws := Cond.code y c n rt :: tG) B.pre w (List.mem_cons_of_mem _ hw)⟩ hP hD.self (fun q h => Or.inr h) (fun q h => ?_) hK hl va_S.rf
  rcases h with ⟨k, e, h⟩ | h
  · exact hD.2 k _ h
  · exact Nat.le_trans hz h
/-- the pieces of functions: an index, a divisor, a truth value, a loop -/
def gd {α : Type} (i : Int32) (n : Nat) (k : Option α) : Option α := if i < 0 ∨ n ≤ i.toNatClampNeg then none else k
theorem gd_s {α : Type} {i : Int32} {n : Nat} {k : Option α} {r : α} (h : gd i n k = some r) : vp_in i n ∧ k = some r := by
  unfold gd at h
  split at h
  · cases h
  · exact ⟨by assumption, h⟩
def dz {α : Type} (y : Int32) (k : Option α) : Option α := if y = 0 then none else k
theorem dz_s {α : Type} {y : Int32} {k : Option α} {r : α} (h : dz y k = some r) : ¬ y = 0 ∧ k = some r := by
  unfold dz at h
  split at h
  · cases h
  · exact ⟨by assumption, h⟩
def dzL {α : Type} (y : Int64) (k : Option α) : Option α := if y = 0 then none else k
theorem dzL_s {α : Type} {y : Int64} {k : Option α} {r : α} (h : dzL y k = some r) : ¬ y = 0 ∧ k = some r := by
  unfold dzL at h
  split at h
  · cases h
  · exact ⟨by assumption, h⟩
def zb {α : Type} (v : Int32) (k : Option α) : Option α := if v = 0 ∨ v = 1 then k else none
theorem zb_s {α : Type} {v : Int32} {k : Option α} {r : α} (h : zb v k = some r) : (v = 0 ∨ v = 1) ∧ k = some r := by
  unfold zb at h
  split at h
  · exact ⟨by assumption, h⟩
  · cases h
theorem zb_n {v : Int32} (h : v = 0 ∨ v = 1) : narrow .boolean (.int v) = .int v := by
  rcases h with rfl | rfl <;> decide +kernel
theorem zb_f {v : Int32} (h : v = 0 ∨ v = 1) : fits .boolean (.int v) = true := by
  rcases h with rfl | rfl <;> decide +kernel
theorem bd_s {α β : Type} {x : Option α} {f : α → Option β} {r : β} (h : x.bind f = some r) : ∃ a, x = some a ∧ f a = some r := by
  cases x with
  | none => cases h
  | some a => exact ⟨a, rfl, h⟩
theorem o_t {c : Prop} {dc : Decidable c} {α : Type} {A B : Option α} {r : α} (hc : c) (h : (@ite _ c dc A B) = some r) : A = some r := by rw [if_pos hc] at h; exact h
theorem o_f {c : Prop} {dc : Decidable c} {α : Type} {A B : Option α} {r : α} (hc : ¬ c) (h : (@ite _ c dc A B) = some r) : B = some r := by rw [if_neg hc] at h; exact h
def lpM {σ ρ : Type} (b : σ → Option (σ ⊕ ρ)) : Nat → σ → Option ρ
  | 0, _ => none
  | n + 1, s => match b s with
    | none => none
    | some (.inl s') => lpM b n s'
    | some (.inr r) => some r
theorem lp_W {σ ρ : Type} {b : σ → Option (σ ⊕ ρ)} {r : ρ} (P : σ → Prop) (h : ∀ (s : σ) (o : σ ⊕ ρ), b s = some o → (∀ s', o = .inl s' → P s') → (∀ r', o = .inr r' → r' = r) → P s) : ∀ (n : Nat) (s : σ), lpM b n s = some r → P s := by
  intro n
  induction n with
  | zero => intro s h1; cases h1
  | succ n ih =>
    intro s h1
    unfold lpM at h1
    cases hb : b s with
    | none => rw [hb] at h1; cases h1
    | some o =>
      rw [hb] at h1
      cases o with
      | inl s' => exact h s _ hb (fun s2 e => by cases e; exact ih s' h1) (fun r' e => by cases e)
      | inr r' => exact h s _ hb (fun s2 e => by cases e) (fun r2 e => by cases e; exact Option.some.inj h1)
def FU : Nat := 200000
section CALLS
variable {p : Program} {l : Launch} {e : Env} {R : Room} {s : State} {m : MethodId} {args : Array Value} {below : List Frame} {meth : Method} {c : Code} {H : Heap} {locs : List Loc} {cells slots : Nat} {Q : State → Prop}
variable {cc bytes : ByteArray} {nL maxL index n pc : Nat} {own : String} {y : MethodName} {rt rt0 : Option FieldType} {rm : Room} {G : TG} {ls : Array Slot} {lv : List (Nat × Value)} {As rest st0 st1 : List Value} {wc ws : va_W} {v : Option Value} {b : Addr} {aa : Array Value}
theorem lv_re {x z : Int32} (h : z = x) (k : W p l e R s m args below meth c H locs cells slots Q (F0 m pc ls (.int z :: rest))) : W p l e R s m args below meth c H locs cells slots Q (F0 m pc ls (.int x :: rest)) := h ▸ k
theorem lv_reL {x z : Int64} (h : z = x) (k : W p l e R s m args below meth c H locs cells slots Q (F0 m pc ls (.long z :: rest))) : W p l e R s m args below meth c H locs cells slots Q (F0 m pc ls (.long x :: rest)) := h ▸ k
/-- what a call needs of the tables -/
abbrev okR (R rm : Room) (maxL : Nat) : Prop := (rm.cells = 0 ∧ rm.slots = 0) ∧ rm.frames + 1 ≤ R.frames ∧ 8 + (maxL + 11) + rm.locals ≤ R.locals
abbrev okY (y : MethodName) (n : Nat) : Prop := y.cls ≠ "java/lang/invoke/MethodHandle" ∧ y.cls ≠ "java/lang/invoke/VarHandle" ∧ (parseMethodDescriptor y.desc).map (fun d => d.parameters.length) = some n
theorem roP_blind {av : List Value} : FrameBlind (roP G av ws) := fun a U g mk q => ⟨q.1, q.2.1, Kt.call q.2.2⟩
theorem rwP_blind {av : List Value} {sz : Nat} : FrameBlind (rwP G av ws sz) := fun a U g mk q => ⟨q.1, q.2.1, q.2.2.1, Kt.call q.2.2.2.1, q.2.2.2.2⟩
theorem ro_after (hr : va_Run p l e R s m args below meth c H locs cells slots 0 0 (F0 m pc ls st0) rest (roQ v aa) (fun _ => False)) (h1 : v.toList ++ rest = st1)
    (kk : W p l e R s m args below meth c H locs cells slots Q (F0 m (pc + 3) ls st1)) : W p l e R s m args below meth c H locs cells slots Q (F0 m pc ls st0) := by
  subst h1
  intro T hT X
  obtain ⟨w, st₀, t, T', L, h0, X', hL, e1, e2, ⟨hv, hh⟩, st⟩ := hr T hT X
  cases hv
  obtain ⟨t2, a1, b1⟩ := kk T' (by rw [e1, hh, h0]) (Stand.forget X' (fun q h => (hL q h).elim))
  exact ⟨t2, st t2 a1, b1⟩
/-- a call of a method of an object of ours that only reads -/
theorem ro_V (hM : RO l y bytes maxL rt rm G (.ref b :: As) wc v) (C : Cx p s m args meth c cc nL rt0 own) (hK : Kt G s H) (hP : va_P G.1 vwCl wc H) (hl : lv_has ls nL lv)
    (k1 : Cond.code y bytes maxL rt ∈ tG) (k2 : Cond.methodLink own index y ∈ tG) (k3 : Cond.instanceMethod y ∈ tG) (k4 : Cond.selects y.cls y y ∈ tG) (k5 : Cond.initialized y.cls ∈ tG) (hy : okY y n) (hR : okR R rm maxL) (hc : cells ≤ R.cells ∧ slots ≤ R.slots)
    {ci : Nat} {fs : List Value} {q : vw_C} (h0 : wc[0]? = some (b, .inr (ci, fs))) (hcl : vwCl[ci]? = some q) (hq : q.1 = y.cls) (hn : As.length = n) (hst : st0 = As.reverse ++ .ref b :: rest) (h8 : (rest.map fun v => v.category).sum ≤ 8) (hdg : decode cc pc = .ok (.invokevirtual index, 3)) (h1 : v.toList ++ rest = st1)
    (kk : W p l e R s m args below meth c H locs cells slots Q (F0 m (pc + 3) ls st1)) : W p l e R s m args below meth c H locs cells slots Q (F0 m pc ls st0) := by
  obtain ⟨hx, hb, hml, hr, hlk, hown, ht⟩ := C
  refine ro_after (va_runV (As := As) (rest := rest) (Ts := tG) (C := y.cls) ⟨hx, hb, hml, hown, ht⟩ hM ⟨callB_of n ht (tg_call k1) rfl hR.1.1 hR.1.2 (ht _ k5) (ht _ k2) hy ⟨hR.2.1, hR.2.2⟩, ht _ k3, ht _ k4⟩ ⟨roP_blind, ?_, ?_⟩ rfl hn hl.1 hst (lv_room h8) hdg ⟨hc.1, hc.2⟩) h1 kk
  · obtain ⟨cell, q1, q2, q3⟩ := va_recv hK.1 hP hcl h0
    exact ⟨cell, q1, q2, by rw [← hq]; exact q3⟩
  · intro U hU hW
    exact ⟨rfl, by rw [hU]; exact hP, by rw [hU]; exact hK.vm hW⟩
/-- a call of a static method that only reads -/
theorem ro_S (hM : RO l y bytes maxL rt rm G As wc v) (C : Cx p s m args meth c cc nL rt0 own) (hK : Kt G s H) (hP : va_P G.1 vwCl wc H) (hl : lv_has ls nL lv)
    (k1 : Cond.code y bytes maxL rt ∈ tG) (k2 : Cond.methodLink own index y ∈ tG) (k3 : Cond.static y ∈ tG) (k5 : Cond.initialized y.cls ∈ tG) (hy : okY y n) (hR : okR R rm maxL) (hc : cells ≤ R.cells ∧ slots ≤ R.slots)
    (hn : As.length = n) (hst : st0 = As.reverse ++ rest) (h8 : (rest.map fun v => v.category).sum ≤ 8) (hdg : decode cc pc = .ok (.invokestatic index, 3)) (h1 : v.toList ++ rest = st1)
    (kk : W p l e R s m args below meth c H locs cells slots Q (F0 m (pc + 3) ls st1)) : W p l e R s m args below meth c H locs cells slots Q (F0 m pc ls st0) := by
  obtain ⟨hx, hb, hml, hr, hlk, hown, ht⟩ := C
  exact ro_after (va_runS (As := As) (rest := rest) (Ts := tG) ⟨hx, hb, hml, hown, ht⟩ hM ⟨callB_of n ht (tg_call k1) rfl hR.1.1 hR.1.2 (ht _ k5) (ht _ k2) hy ⟨hR.2.1, hR.2.2⟩, ht _ k3⟩ ⟨roP_blind, fun U hU hW => ⟨rfl, by rw [hU]; exact hP, by rw [hU]; exact hK.vm hW⟩⟩ rfl hn hl.1 hst (lv_room h8) hdg ⟨hc.1, hc.2⟩) h1 kk
/-- a call of a nest mate's private static method that only reads -/
theorem ro_SN {host : String} (hM : RO l y bytes maxL rt rm G As wc v) (C : Cx p s m args meth c cc nL rt0 own) (hK : Kt G s H) (hP : va_P G.1 vwCl wc H) (hl : lv_has ls nL lv)
    (k1 : Cond.code y bytes maxL rt ∈ tG) (k2 : Cond.methodLinkNest own index y host ∈ nW) (k3 : Cond.static y ∈ tG) (k5 : Cond.initialized y.cls ∈ tG) (hy : okY y n) (hR : okR R rm maxL) (hc : cells ≤ R.cells ∧ slots ≤ R.slots)
    (hn : As.length = n) (hst : st0 = As.reverse ++ rest) (h8 : (rest.map fun v => v.category).sum ≤ 8) (hdg : decode cc pc = .ok (.invokestatic index, 3)) (h1 : v.toList ++ rest = st1)
    (kk : W p l e R s m args below meth c H locs cells slots Q (F0 m (pc + 3) ls st1)) : W p l e R s m args below meth c H locs cells slots Q (F0 m pc ls st0) := by
  obtain ⟨hx, hb, hml, hr, hlk, hown, ht⟩ := C
  exact ro_after (va_runSN (As := As) (rest := rest) (Ts := tG) ⟨hx, hb, hml, hown, ht⟩ hM ⟨va_cnB n ht (tg_call k1) rfl hR.1.1 hR.1.2 (hK.2.1 _ k2) (ht _ k5) hy ⟨hR.2.1, hR.2.2⟩, ht _ k3, trivial⟩ ⟨roP_blind, fun U hU hW => ⟨rfl, by rw [hU]; exact hP, by rw [hU]; exact hK.vm hW⟩⟩ rfl hn hl.1 hst (lv_room h8) hdg ⟨hc.1, hc.2⟩) h1 kk
/-- behind a call that writes: the caller's world, in an order of its own -/
theorem rw_after {A : Nat → Prop} {wc' wr ws2 : va_W} (hr : va_Run p l e R s m args below meth c H locs cells slots 0 0 (F0 m pc ls st0) rest (rwQ G v wc' (va_A wc H.size) aa) (va_A wc H.size)) (h1 : v.toList ++ rest = st1)
    (hP : va_P G.1 vwCl ws H) (hD : va_D A ws) (hS : va_S A s.heap H locs) (hA : ∀ q, s.heap.size ≤ q → A q) (isC isR pm : List Nat) (hC : isC.map (fun i => ws[i]?) = wc.map some) (hR : isR.map (fun i => ws[i]?) = wr.map some) (hn : va_nd isR = true) (hdis : ∀ i ∈ isR, i ∉ isC)
    (hp1 : pm.filterMap (fun i => (wr ++ wc')[i]?) = ws2) (hp2 : va_nd pm = true) (hp3 : pm.map (fun i => (wr ++ wc')[i]?) = ws2.map some)
    (kk : ∀ (H1 : Heap) (locs1 : List Loc), va_P G.1 vwCl ws2 H1 → va_D A ws2 → va_S A s.heap H1 locs1 → W p l e R s m args below meth c H1 locs1 cells slots Q (F0 m (pc + 3) ls st1)) : W p l e R s m args below meth c H locs cells slots Q (F0 m pc ls st0) := by
  subst h1
  intro T hT X
  obtain ⟨w, st₀, t, T', L, h0, X', hL, e1, e2, ⟨hv, hP1, hD1, hz, hk⟩, st⟩ := hr T hT X
  cases hv
  have hF := va_free hD hS hA isC hC
  rw [h0] at hz hk
  obtain ⟨hP2, hD2⟩ := va_join (H1 := t.heap) hP hD isC isR hC hR hn hdis hk hF hP1 hD1
  have hS1 : va_S A s.heap t.heap (locs ++ L) := ⟨Nat.le_trans hS.1 hz, fun q h1 h2 => by rw [hk q (Nat.lt_of_lt_of_le h1 hS.1) (fun z => h2 (hF q z))]; exact hS.2.1 q h1 h2, fun q hq => by
      rcases List.mem_append.mp hq with h | h
      · exact hS.2.2 q h
      · exact hF _ (hL q h)⟩
  obtain ⟨t2, a1, b1⟩ := kk t.heap (locs ++ L) (hP2.sub pm hp1) (hD2.sub pm hp2 hp3) hS1 T' e1 X'
  exact ⟨t2, st t2 a1, b1⟩
theorem rw_D {A : Nat → Prop} (hD : va_D A ws) (hz : ∀ q, A q → G.2.2.1 ≤ q) (isC : List Nat) (hn : va_nd isC = true) (hC : isC.map (fun i => ws[i]?) = wc.map some) : va_D (fun q => G.2.2.1 ≤ q) wc :=
  (hD.sub isC hn hC).weaken (fun _ q _ h => hz q.1 h)
theorem Kt.size {U : State} {H0 : Heap} {A : Nat → Prop} (h0 : ∀ q, H0.size ≤ q → A q) (hz : ∀ q, A q → G.2.2.1 ≤ q) (hS : va_S A H0 H locs) : G.2.2.1 ≤ H.size := Nat.le_trans (hz _ (h0 _ (Nat.le_refl _))) hS.1
/-- a call of a method of an object of ours that writes -/
theorem rw_V {A : Nat → Prop} {wc' wr ws2 : va_W} (hM : RW l y bytes maxL rt rm G (.ref b :: As) wc v wc') (C : Cx p s m args meth c cc nL rt0 own) (hK : Kt G s s.heap) (hP : va_P G.1 vwCl ws H) (hD : va_D A ws) (hS : va_S A s.heap H locs) (hA : ∀ q, s.heap.size ≤ q → A q) (hz : ∀ q, A q → G.2.2.1 ≤ q) (hl : lv_has ls nL lv)
    (isC isR pm : List Nat) (hw : isC.filterMap (fun i => ws[i]?) = wc) (hnC : va_nd isC = true) (hC : isC.map (fun i => ws[i]?) = wc.map some) (hRr : isR.map (fun i => ws[i]?) = wr.map some) (hnr : va_nd isR = true) (hdis : ∀ i ∈ isR, i ∉ isC)
    (hp1 : pm.filterMap (fun i => (wr ++ wc')[i]?) = ws2) (hp2 : va_nd pm = true) (hp3 : pm.map (fun i => (wr ++ wc')[i]?) = ws2.map some)
    (k1 : Cond.code y bytes maxL rt ∈ tG) (k2 : Cond.methodLink own index y ∈ tG) (k3 : Cond.instanceMethod y ∈ tG) (k4 : Cond.selects y.cls y y ∈ tG) (k5 : Cond.initialized y.cls ∈ tG) (hy : okY y n) (hR : okR R rm maxL) (hc : cells ≤ R.cells ∧ slots ≤ R.slots)
    {ci : Nat} {fs : List Value} {q : vw_C} (h0 : wc[0]? = some (b, .inr (ci, fs))) (hcl : vwCl[ci]? = some q) (hq : q.1 = y.cls) (hn : As.length = n) (hst : st0 = As.reverse ++ .ref b :: rest) (h8 : (rest.map fun v => v.category).sum ≤ 8) (hdg : decode cc pc = .ok (.invokevirtual index, 3)) (h1 : v.toList ++ rest = st1)
    (kk : ∀ (H1 : Heap) (locs1 : List Loc), va_P G.1 vwCl ws2 H1 → va_D A ws2 → va_S A s.heap H1 locs1 → W p l e R s m args below meth c H1 locs1 cells slots Q (F0 m (pc + 3) ls st1)) : W p l e R s m args below meth c H locs cells slots Q (F0 m pc ls st0) := by
  obtain ⟨hx, hb, hml, hr, hlk, hown, ht⟩ := C
  have hKH := hK.at hS hz
  have hPc := hP.sub isC hw
  have hDc := rw_D hD hz isC hnC hC
  refine rw_after (va_runV (As := As) (rest := rest) (Ts := tG) (C := y.cls) ⟨hx, hb, hml, hown, ht⟩ (hM H.size (Kt.size (U := s) hA hz hS)) ⟨callB_of n ht (tg_call k1) rfl hR.1.1 hR.1.2 (ht _ k5) (ht _ k2) hy ⟨hR.2.1, hR.2.2⟩, ht _ k3, ht _ k4⟩ ⟨rwP_blind, ?_, ?_⟩ rfl hn hl.1 hst (lv_room h8) hdg ⟨hc.1, hc.2⟩) h1 hP hD hS hA isC isR pm hC hRr hnr hdis hp1 hp2 hp3 kk
  · obtain ⟨cell, q1, q2, q3⟩ := va_recv hKH.1 hPc hcl h0
    exact ⟨cell, q1, q2, by rw [← hq]; exact q3⟩
  · intro U hU hW
    exact ⟨rfl, by rw [hU], by rw [hU]; exact hPc, by rw [hU]; exact hKH.vm hW, hDc⟩
/-- ends -/
theorem ro_iret {x r : Int32} (C : Cx p s m args meth c cc nL (some .int) own) (h : x = r) (hdg : decode cc pc = .ok (.ireturn, 1)) : W p l e R s m args below meth c s.heap [] 0 0 (MQ below (roQ (some (.int r))) args s 0 0 (fun _ => False)) (F0 m pc ls [.int x]) :=
  W.iret C.1 C.2.1 C.2.2.2.1 (fun t ht hW => ⟨by rw [h], ht⟩) (fun q h => by cases h) hdg C.2.2.2.2.1
theorem ro_zret {x r : Int32} (C : Cx p s m args meth c cc nL (some .boolean) own) (hz : x = 0 ∨ x = 1) (h : x = r) (hdg : decode cc pc = .ok (.ireturn, 1)) : W p l e R s m args below meth c s.heap [] 0 0 (MQ below (roQ (some (.int r))) args s 0 0 (fun _ => False)) (F0 m pc ls [.int x]) :=
  W.zret C.1 C.2.1 C.2.2.2.1 (zb_n hz) (fun t ht hW => ⟨by rw [h], ht⟩) (fun q h => by cases h) hdg C.2.2.2.2.1
theorem ro_lret {x r : Int64} (C : Cx p s m args meth c cc nL (some .long) own) (h : x = r) (hdg : decode cc pc = .ok (.lreturn, 1)) : W p l e R s m args below meth c s.heap [] 0 0 (MQ below (roQ (some (.long r))) args s 0 0 (fun _ => False)) (F0 m pc ls [.long x]) :=
  W.lret C.1 C.2.1 C.2.2.2.1 (fun t ht hW => ⟨by rw [h], ht⟩) (fun q h => by cases h) hdg C.2.2.2.2.1
theorem rw_iret {A : Nat → Prop} {x r : Int32} (C : Cx p s m args meth c cc nL (some .int) own) (h : x = r) (hP : va_P G.1 vwCl ws H) (hD : va_D A ws) (hS : va_S A s.heap H locs) (hdg : decode cc pc = .ok (.ireturn, 1)) : W p l e R s m args below meth c H locs 0 0 (MQ below (rwQ G (some (.int r)) ws A) args s 0 0 A) (F0 m pc ls [.int x]) :=
  W.iret C.1 C.2.1 C.2.2.2.1 (fun t ht hW => ⟨by rw [h], by rw [ht]; exact hP, hD, hS.F ht⟩) hS.2.2 hdg C.2.2.2.2.1
theorem rw_zret {A : Nat → Prop} {x r : Int32} (C : Cx p s m args meth c cc nL (some .boolean) own) (hz : x = 0 ∨ x = 1) (h : x = r) (hP : va_P G.1 vwCl ws H) (hD : va_D A ws) (hS : va_S A s.heap H locs) (hdg : decode cc pc = .ok (.ireturn, 1)) : W p l e R s m args below meth c H locs 0 0 (MQ below (rwQ G (some (.int r)) ws A) args s 0 0 A) (F0 m pc ls [.int x]) :=
  W.zret C.1 C.2.1 C.2.2.2.1 (zb_n hz) (fun t ht hW => ⟨by rw [h], by rw [ht]; exact hP, hD, hS.F ht⟩) hS.2.2 hdg C.2.2.2.2.1
theorem rw_lret {A : Nat → Prop} {x r : Int64} (C : Cx p s m args meth c cc nL (some .long) own) (h : x = r) (hP : va_P G.1 vwCl ws H) (hD : va_D A ws) (hS : va_S A s.heap H locs) (hdg : decode cc pc = .ok (.lreturn, 1)) : W p l e R s m args below meth c H locs 0 0 (MQ below (rwQ G (some (.long r)) ws A) args s 0 0 A) (F0 m pc ls [.long x]) :=
  W.lret C.1 C.2.1 C.2.2.2.1 (fun t ht hW => ⟨by rw [h], by rw [ht]; exact hP, hD, hS.F ht⟩) hS.2.2 hdg C.2.2.2.2.1
theorem rw_vret {A : Nat → Prop} (C : Cx p s m args meth c cc nL none own) (hP : va_P G.1 vwCl ws H) (hD : va_D A ws) (hS : va_S A s.heap H locs) (hdg : decode cc pc = .ok (.return_, 1)) : W p l e R s m args below meth c H locs 0 0 (MQ below (rwQ G none ws A) args s 0 0 A) (F0 m pc ls []) :=
  W.vret C.1 C.2.1 C.2.2.2.1 (fun t ht hW => ⟨rfl, by rw [ht]; exact hP, hD, hS.F ht⟩) hS.2.2 hdg C.2.2.2.2.1
theorem ts2 {x : Int32} (h0 : ¬ x = 0) (h1 : ¬ x = 1) (h2 : ¬ x = 2) : x.toInt < 0 ∨ 2 < x.toInt := by
  have e0 := lv_neT h0 (a := 0) rfl
  have e1 := lv_neT h1 (a := 1) rfl
  have e2 := lv_neT h2 (a := 2) rfl
  omega
theorem ts3 {x : Int32} (h0 : ¬ x = 0) (h1 : ¬ x = 1) (h2 : ¬ x = 2) (h3 : ¬ x = 3) : x.toInt < 0 ∨ 3 < x.toInt := by
  have e0 := lv_neT h0 (a := 0) rfl
  have e1 := lv_neT h1 (a := 1) rfl
  have e2 := lv_neT h2 (a := 2) rfl
  have e3 := lv_neT h3 (a := 3) rfl
  omega
theorem lv_tsI {dflt lo hi : Int} {offs : Array Int} {len : Nat} {x k : Int32} {off : Int} {tgt : Nat} (hexec : p.tables.exec = Jvm.exec) (hb : c.code = cc) (hdg : decode cc pc = .ok (.tableswitch dflt lo hi offs, len)) (hk : x = k) (h1 : ¬ k.toInt < lo) (h2 : ¬ hi < k.toInt) (ho : offs[(k.toInt - lo).toNat]? = some off) (ht : (pc : Int) + off = (tgt : Int))
    (kk : W p l e R s m args below meth c H locs cells slots Q (F0 m tgt ls rest)) : W p l e R s m args below meth c H locs cells slots Q (F0 m pc ls (.int x :: rest)) := by
  subst hk
  exact lv_tableIn hexec hb hdg h1 h2 ho ht kk
/-- a call of a method of the text constant that only reads -/
theorem ro_VS (hM : RO l y bytes maxL rt rm G (.ref b :: As) wc v) (C : Cx p s m args meth c cc nL rt0 own) (hK : Kt G s H) (hP : va_P G.1 vwCl wc H) (hl : lv_has ls nL lv)
    (k1 : Cond.code y bytes maxL rt ∈ tG) (k2 : Cond.methodLink own index y ∈ tG) (k3 : Cond.instanceMethod y ∈ tG) (k4 : Cond.selects y.cls y y ∈ tG) (k5 : Cond.initialized y.cls ∈ tG) (hy : okY y n) (hR : okR R rm maxL) (hc : cells ≤ R.cells ∧ slots ≤ R.slots)
    (hq : y.cls = "java/lang/String" ∧ b = G.2.2.2.1) (hn : As.length = n) (hst : st0 = As.reverse ++ .ref b :: rest) (h8 : (rest.map fun v => v.category).sum ≤ 8) (hdg : decode cc pc = .ok (.invokevirtual index, 3)) (h1 : v.toList ++ rest = st1)
    (kk : W p l e R s m args below meth c H locs cells slots Q (F0 m (pc + 3) ls st1)) : W p l e R s m args below meth c H locs cells slots Q (F0 m pc ls st0) := by
  obtain ⟨hx, hb, hml, hr, hlk, hown, ht⟩ := C
  refine ro_after (va_runV (As := As) (rest := rest) (Ts := tG) (C := y.cls) ⟨hx, hb, hml, hown, ht⟩ hM ⟨callB_of n ht (tg_call k1) rfl hR.1.1 hR.1.2 (ht _ k5) (ht _ k2) hy ⟨hR.2.1, hR.2.2⟩, ht _ k3, ht _ k4⟩ ⟨roP_blind, ?_, ?_⟩ rfl hn hl.1 hst (lv_room h8) hdg ⟨hc.1, hc.2⟩) h1 kk
  · obtain ⟨cell, q1, q2, q3, -⟩ := (hK.2.2.1.1 0 (by decide)).1
    exact ⟨cell, by rw [hq.2]; exact q1, q2, by rw [hq.1]; exact q3⟩
  · intro U hU hW
    exact ⟨rfl, by rw [hU]; exact hP, by rw [hU]; exact hK.vm hW⟩
theorem ro_bret {x r : Int32} (C : Cx p s m args meth c cc nL (some .byte) own) (h0 : x = 0) (h : x = r) (hdg : decode cc pc = .ok (.ireturn, 1)) : W p l e R s m args below meth c s.heap [] 0 0 (MQ below (roQ (some (.int r))) args s 0 0 (fun _ => False)) (F0 m pc ls [.int x]) :=
  W.zret C.1 C.2.1 C.2.2.2.1 (by rw [h0]; decide +kernel) (fun t ht hW => ⟨by rw [h], ht⟩) (fun q h => by cases h) hdg C.2.2.2.2.1
def kB (j : Nat) : Int32 := ([82, 71, 70, 77, 86, 87] : List Int32).getD j 0
end CALLS
