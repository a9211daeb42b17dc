/-! ===== contracts that make cells ===== -/
def adr (l : List Nat) : Nat → Nat := fun k => l.getD k 0
def mkQ {S : Type} (G : TG) (Pq : S → Prop) (B : S → va_W) (A : Nat → Prop) : Array Value → State → Outcome → State → Prop := fun _ st o t => o = .returned none ∧ (∃ f : S, Pq f ∧ va_P G.1 vwCl (B f) t.heap ∧ va_D A (B f)) ∧ va_F A st t
def MKE {S : Type} (l : Launch) (y : MethodName) (c : ByteArray) (n : Nat) (rm : Room) (G : TG) (av : List Value) (ws : va_W) (E : State → Prop) (mc ms : Nat) (Pq : S → Prop) (B : S → va_W) : Prop :=
  ∀ sz : Nat, G.2.2.1 ≤ sz → Met l y (Cond.code y c n none :: tG) rm (fun a U => rwP G av ws sz a U ∧ E U) (mkQ G Pq B (va_A ws sz)) mc ms (va_A ws sz)
theorem MKE.mk {S : Type} {l : Launch} {y : MethodName} {c : ByteArray} {n : Nat} {rm : Room} {G : TG} {av : List Value} {ws : va_W} {E : State → Prop} {mc ms : Nat} {Pq : S → Prop} {B : S → va_W} (hy : plainName y.cls = true) (hyn : y.name = "<init>") (hlen : (lg_sl av).length ≤ n)
    (h : ∀ (p : Program) (e : Env) (s : State) (m : MethodId) (below : List Frame) (meth : Method) (cd : Code) (ls : Array Slot) (A : Nat → Prop), Cx p s m av.toArray meth cd c n none y.cls → meth.name = "<init>" → E s → va_P G.1 vwCl ws s.heap → va_D A ws → (∀ q, s.heap.size ≤ q → A q) → (∀ q, A q → G.2.2.1 ≤ q) → Kt G s s.heap → lv_has ls n (lv_args 0 av) → va_S A s.heap s.heap [] →
      W p l e rm s m av.toArray below meth cd s.heap [] 0 0 (MQ below (mkQ G Pq B A) av.toArray s mc ms A) (F0 m 0 ls [])) : MKE l y c n rm G av ws E mc ms Pq B := by
  intro sz hz
  refine Met.ofW (cc := c) (maxL := n) (ret := none) hy rfl ?_
  intro p e s m args below meth cd s₁ B hml hv
  obtain ⟨⟨rfl, hsz, hP, hK, hD⟩, hE⟩ := hv
  subst hsz
  have hl := lv_entry av (n := n) hlen
  rw [lg_entry_eq]
  refine h p e s m below meth cd _ (va_A ws s.heap.size) ⟨B.exec, B.bytes, hml, B.returns, B.notSynchronized, findClass_of_methodNamed B.named, fun w hw => atoms_spec (ws := Cond.code y c n none :: tG) B.pre w (List.mem_cons_of_mem _ hw)⟩ ((name_of_methodNamed B.named B.method).1.trans hyn) hE hP hD.self (fun q h => Or.inr h) (fun q h => ?_) hK hl va_S.rf
  rcases h with ⟨k, e, h⟩ | h
  · exact hD.2 k _ h
  · exact Nat.le_trans hz h
section MAKE
variable {p : Program} {l : Launch} {e : Env} {R : Room} {s : State} {m : MethodId} {args : Array Value} {below : List Frame} {meth : Method} {c : Code} {H : Heap} {locs : List Loc} {cells slots : Nat} {Q : State → Prop}
variable {cc bytes : ByteArray} {nL maxL index n pc : Nat} {own : String} {y : MethodName} {rt rt0 : Option FieldType} {rm : Room} {G : TG} {ls : Array Slot} {lv : List (Nat × Value)} {rest st0 st1 : List Value} {wc ws : va_W} {b : Addr} {aa : Array Value} {A : Nat → Prop}
theorem K_int {cA : ClassId} (hK : va_K G.1 vwCl (tyG G ++ [(cA, .int)]) s) : cA = G.2.1.1 := by
  have h1 := (hK.2 0 _ rfl).2
  have h2 := (hK.2 4 _ rfl).2
  exact Option.some.inj (h2.symm.trans h1)
theorem K_long {cA : ClassId} (hK : va_K G.1 vwCl (tyG G ++ [(cA, .long)]) s) : cA = G.2.1.2.1 := by
  have h1 := (hK.2 1 _ rfl).2
  have h2 := (hK.2 4 _ rfl).2
  exact Option.some.inj (h2.symm.trans h1)
theorem K_bool {cA : ClassId} (hK : va_K G.1 vwCl (tyG G ++ [(cA, .boolean)]) s) : cA = G.2.1.2.2.1 := by
  have h1 := (hK.2 2 _ rfl).2
  have h2 := (hK.2 4 _ rfl).2
  exact Option.some.inj (h2.symm.trans h1)
theorem K_gr {cA : ClassId} (hK : va_K G.1 vwCl (tyG G ++ [(cA, .object RX4)]) s) : cA = G.2.1.2.2.2 := by
  obtain ⟨_, _, _, _, _, h1⟩ := (hK.2 3 _ rfl).2
  obtain ⟨_, _, _, _, _, h2⟩ := (hK.2 4 _ rfl).2
  exact Option.some.inj (h2.symm.trans h1)
theorem mk_I (hx : p.tables.exec = Jvm.exec) (hb : c.code = cc) (ht : ∀ w ∈ tG, w.before args s = true) (hK : va_K G.1 vwCl (tyG G) s) (hP : va_P G.1 vwCl ws H) (hD : va_D A ws) (hS : va_S A s.heap H locs) (hA : ∀ q, s.heap.size ≤ q → A q) {n : Int32} (N : Nat) (hn : ¬ n < 0) (hN : n.toNatClampNeg = N) (hby : N * componentBytes .int ≤ 536870912) (hc : cells + 1 ≤ R.cells) (hs : slots + N ≤ R.slots) (hdg : decode cc pc = .ok (.newarray .int, 2))
    (kk : ∀ (q : Nat) (H1 : Heap), va_P G.1 vwCl (ws ++ [wI G q N (fun _ => 0)]) H1 → va_D A (ws ++ [wI G q N (fun _ => 0)]) → va_S A s.heap H1 locs → W p l e R s m args below meth c H1 locs (cells + 1) (slots + N) Q (F0 m (pc + 2) ls (.ref q :: rest))) : W p l e R s m args below meth c H locs cells slots Q (F0 m pc ls (.int n :: rest)) := by
  refine va_newa (atype := .int) (ty := .int) (a0 := (N, .inl (fun _ => 0))) hx hb (ht _ karr_int) rfl hK hP hD hS hA (fun _ => rfl) hn hN hby hc hs hdg (fun q cA H1 hK1 hP1 hD1 hS1 => ?_)
  have := K_int hK1
  subst this
  exact kk q H1 hP1 hD1 hS1
theorem mk_J (hx : p.tables.exec = Jvm.exec) (hb : c.code = cc) (ht : ∀ w ∈ tG, w.before args s = true) (hK : va_K G.1 vwCl (tyG G) s) (hP : va_P G.1 vwCl ws H) (hD : va_D A ws) (hS : va_S A s.heap H locs) (hA : ∀ q, s.heap.size ≤ q → A q) {n : Int32} (N : Nat) (hn : ¬ n < 0) (hN : n.toNatClampNeg = N) (hby : N * componentBytes .long ≤ 536870912) (hc : cells + 1 ≤ R.cells) (hs : slots + N ≤ R.slots) (hdg : decode cc pc = .ok (.newarray .long, 2))
    (kk : ∀ (q : Nat) (H1 : Heap), va_P G.1 vwCl (ws ++ [wJ G q N (fun _ => 0)]) H1 → va_D A (ws ++ [wJ G q N (fun _ => 0)]) → va_S A s.heap H1 locs → W p l e R s m args below meth c H1 locs (cells + 1) (slots + N) Q (F0 m (pc + 2) ls (.ref q :: rest))) : W p l e R s m args below meth c H locs cells slots Q (F0 m pc ls (.int n :: rest)) := by
  refine va_newa (atype := .long) (ty := .long) (a0 := (N, .inr (.inl (fun _ => 0)))) hx hb (ht _ karr_long) rfl hK hP hD hS hA (fun _ => rfl) hn hN hby hc hs hdg (fun q cA H1 hK1 hP1 hD1 hS1 => ?_)
  have := K_long hK1
  subst this
  exact kk q H1 hP1 hD1 hS1
theorem mk_Z (hx : p.tables.exec = Jvm.exec) (hb : c.code = cc) (ht : ∀ w ∈ tG, w.before args s = true) (hK : va_K G.1 vwCl (tyG G) s) (hP : va_P G.1 vwCl ws H) (hD : va_D A ws) (hS : va_S A s.heap H locs) (hA : ∀ q, s.heap.size ≤ q → A q) {n : Int32} (N : Nat) (hn : ¬ n < 0) (hN : n.toNatClampNeg = N) (hby : N * componentBytes .boolean ≤ 536870912) (hc : cells + 1 ≤ R.cells) (hs : slots + N ≤ R.slots) (hdg : decode cc pc = .ok (.newarray .boolean, 2))
    (kk : ∀ (q : Nat) (H1 : Heap), va_P G.1 vwCl (ws ++ [wZ G q N (fun _ => 0)]) H1 → va_D A (ws ++ [wZ G q N (fun _ => 0)]) → va_S A s.heap H1 locs → W p l e R s m args below meth c H1 locs (cells + 1) (slots + N) Q (F0 m (pc + 2) ls (.ref q :: rest))) : W p l e R s m args below meth c H locs cells slots Q (F0 m pc ls (.int n :: rest)) := by
  refine va_newa (atype := .boolean) (ty := .boolean) (a0 := (N, .inl (fun _ => 0))) hx hb (ht _ karr_boolean) rfl hK hP hD hS hA (fun _ => rfl) hn hN hby hc hs hdg (fun q cA H1 hK1 hP1 hD1 hS1 => ?_)
  have := K_bool hK1
  subst this
  exact kk q H1 hP1 hD1 hS1
theorem mk_G (hx : p.tables.exec = Jvm.exec) (hb : c.code = cc) (hown : s.vm.findClass own = some m.cls) (ht : ∀ w ∈ tG, w.before args s = true) (k1 : Cond.classLink own index RX4 ∈ tG) (hover : va_AO RX4 s) (hK : va_K G.1 vwCl (tyG G) s) (hP : va_P G.1 vwCl ws H) (hD : va_D A ws) (hS : va_S A s.heap H locs) (hA : ∀ q, s.heap.size ≤ q → A q) {n : Int32} (N : Nat) (hn : ¬ n < 0) (hN : n.toNatClampNeg = N) (hby : N * 4 ≤ 536870912) (hc : cells + 1 ≤ R.cells) (hs : slots + N ≤ R.slots) (hdg : decode cc pc = .ok (.anewarray index, 3))
    (kk : ∀ (q : Nat) (H1 : Heap), va_P G.1 vwCl (ws ++ [(q, .inl (G.2.1.2.2.2, N, .inr (.inr (.inr (.inr (fun _ => none))))))]) H1 → va_D A (ws ++ [(q, .inl (G.2.1.2.2.2, N, .inr (.inr (.inr (.inr (fun _ => none))))))]) → va_S A s.heap H1 locs → W p l e R s m args below meth c H1 locs (cells + 1) (slots + N) Q (F0 m (pc + 3) ls (.ref q :: rest))) : W p l e R s m args below meth c H locs cells slots Q (F0 m pc ls (.int n :: rest)) := by
  refine va_newq (C := RX4) hx hb hown (ht _ k1) hover hK hP hD hS hA hn hN hby hc hs hdg (fun q cA H1 hK1 hP1 hD1 hS1 => ?_)
  have := K_gr hK1
  subst this
  exact kk q H1 hP1 hD1 hS1
theorem mk_after {S : Type} {Pq : S → Prop} {B : S → va_W} {wr : va_W} {mc ms : Nat} (hr : va_Run p l e R s m args below meth c H locs cells slots mc ms (F0 m pc ls st0) rest (mkQ G Pq B (va_A wc H.size) aa) (va_A wc H.size))
    (hP : va_P G.1 vwCl ws H) (hD : va_D A ws) (hS : va_S A s.heap H locs) (hA : ∀ q, s.heap.size ≤ q → A q) (isC isR : List Nat) (hC : isC.map (fun i => ws[i]?) = wc.map some) (hR : isR.map (fun i => ws[i]?) = wr.map some) (hn : va_nd isR = true) (hdis : ∀ i ∈ isR, i ∉ isC)
    (kk : ∀ (f : S) (H1 : Heap) (locs1 : List Loc), Pq f → va_P G.1 vwCl (wr ++ B f) H1 → va_D A (wr ++ B f) → va_S A s.heap H1 locs1 → W p l e R s m args below meth c H1 locs1 (cells + mc) (slots + ms) Q (F0 m (pc + 3) ls rest)) : W p l e R s m args below meth c H locs cells slots Q (F0 m pc ls st0) := by
  intro T hT X
  obtain ⟨w, st₀, t, T', L, h0, X', hL, e1, e2, ⟨hv, ⟨f, hf, hP1, hD1⟩, hz, hk⟩, st⟩ := hr T hT X
  cases hv
  have hF := va_free hD hS hA isC hC
  rw [h0] at hz hk
  obtain ⟨hP2, hD2⟩ := va_join (H1 := t.heap) hP hD isC isR hC hR hn hdis hk hF hP1 hD1
  have hS1 : va_S A s.heap t.heap (locs ++ L) := ⟨Nat.le_trans hS.1 hz, fun q h1 h2 => by rw [hk q (Nat.lt_of_lt_of_le h1 hS.1) (fun z => h2 (hF q z))]; exact hS.2.1 q h1 h2, fun q hq => by
      rcases List.mem_append.mp hq with h | h
      · exact hS.2.2 q h
      · exact hF _ (hL q h)⟩
  obtain ⟨t2, a1, b1⟩ := kk f t.heap (locs ++ L) hf hP2 hD2 hS1 T' e1 X'
  exact ⟨t2, st t2 a1, b1⟩
theorem mkP_blind {av : List Value} {sz : Nat} {E : State → Prop} (hE : ∀ (U : State) (g : JFrame) (mk : MethodId) (a : Array Value), E U → E (U.calling g mk a)) : FrameBlind (fun a U => rwP G av ws sz a U ∧ E U) := fun a U g mk q => ⟨rwP_blind a U g mk q.1, hE U g mk a q.2⟩
abbrev okM (R rm : Room) (maxL mc ms : Nat) : Prop := (rm.cells = mc ∧ rm.slots = ms) ∧ rm.frames + 1 ≤ R.frames ∧ 8 + (maxL + 11) + rm.locals ≤ R.locals
/-- a call of a nest mate's constructor -/
theorem mk_IN {S : Type} {Pq : S → Prop} {B : S → va_W} {wr : va_W} {mc ms : Nat} {host : String} (hM : MKE l y bytes maxL rm G [.ref b] wc (fun _ => True) mc ms Pq B) (C : Cx p s m args meth c cc nL rt0 own) (hK : Kt G s s.heap) (hP : va_P G.1 vwCl ws H) (hD : va_D A ws) (hS : va_S A s.heap H locs) (hA : ∀ q, s.heap.size ≤ q → A q) (hz : ∀ q, A q → G.2.2.1 ≤ q) (hl : lv_has ls nL lv)
    (isC isR : List Nat) (hw : isC.filterMap (fun i => ws[i]?) = wc) (hnC : va_nd isC = true) (hC : isC.map (fun i => ws[i]?) = wc.map some) (hRr : isR.map (fun i => ws[i]?) = wr.map some) (hnr : va_nd isR = true) (hdis : ∀ i ∈ isR, i ∉ isC)
    (k1 : Cond.code y bytes maxL none ∈ tG) (k2 : Cond.methodLinkNest own index y host ∈ nW) (k3 : Cond.instanceMethod y ∈ tG) (k5 : Cond.initialized y.cls ∈ tG) (hyn : y.name = "<init>") (hy : okY y 0) (hR : okM R rm maxL mc ms) (hc : cells + mc ≤ R.cells ∧ slots + ms ≤ R.slots)
    (hst : st0 = .ref b :: rest) (h8 : (rest.map fun v => v.category).sum ≤ 8) (hdg : decode cc pc = .ok (.invokespecial index, 3))
    (kk : ∀ (f : S) (H1 : Heap) (locs1 : List Loc), Pq f → va_P G.1 vwCl (wr ++ B f) H1 → va_D A (wr ++ B f) → va_S A s.heap H1 locs1 → W p l e R s m args below meth c H1 locs1 (cells + mc) (slots + ms) Q (F0 m (pc + 3) ls rest)) : W p l e R s m args below meth c H locs cells slots Q (F0 m pc ls st0) := by
  obtain ⟨hx, hb, hml, hr, hlk, hown, ht⟩ := C
  have hKH := hK.at hS hz
  have hPc := hP.sub isC hw
  have hDc := rw_D hD hz isC hnC hC
  refine mk_after (va_runIN (As := []) (rest := rest) (Ts := tG) ⟨hx, hb, hml, hown, ht⟩ (hM H.size (Kt.size (U := s) hA hz hS)) ⟨va_cnB 0 ht (tg_call k1) rfl hR.1.1 hR.1.2 (hK.2.1 _ k2) (ht _ k5) hy ⟨hR.2.1, hR.2.2⟩, hyn, ht _ k3⟩ ⟨mkP_blind (fun _ _ _ _ _ => trivial), ?_⟩ rfl rfl hl.1 hst (lv_room h8) hdg ⟨hc.1, hc.2⟩) hP hD hS hA isC isR hC hRr hnr hdis kk
  intro U hU hW
  exact ⟨⟨rfl, by rw [hU], by rw [hU]; exact hPc, by rw [hU]; exact hKH.vm hW, hDc⟩, trivial⟩
/-- a call of a constructor -/
theorem mk_P {S : Type} {Pq : S → Prop} {B : S → va_W} {wr : va_W} {mc ms : Nat} {E : State → Prop} (hM : MKE l y bytes maxL rm G [.ref b] wc E mc ms Pq B) (C : Cx p s m args meth c cc nL rt0 own) (hK : Kt G s s.heap) (hE1 : ∀ (U : State) (g : JFrame) (mk : MethodId) (a : Array Value), E U → E (U.calling g mk a)) (hE2 : ∀ U : State, s.WarmedH U.vm → E U) (hP : va_P G.1 vwCl ws H) (hD : va_D A ws) (hS : va_S A s.heap H locs) (hA : ∀ q, s.heap.size ≤ q → A q) (hz : ∀ q, A q → G.2.2.1 ≤ q) (hl : lv_has ls nL lv)
    (isC isR : List Nat) (hw : isC.filterMap (fun i => ws[i]?) = wc) (hnC : va_nd isC = true) (hC : isC.map (fun i => ws[i]?) = wc.map some) (hRr : isR.map (fun i => ws[i]?) = wr.map some) (hnr : va_nd isR = true) (hdis : ∀ i ∈ isR, i ∉ isC)
    (k1 : Cond.code y bytes maxL none ∈ tG) (k2 : Cond.methodLink own index y ∈ tG) (k3 : Cond.instanceMethod y ∈ tG) (k5 : Cond.initialized y.cls ∈ tG) (hyn : y.name = "<init>") (hy : okY y 0) (hR : okM R rm maxL mc ms) (hc : cells + mc ≤ R.cells ∧ slots + ms ≤ R.slots)
    (hst : st0 = .ref b :: rest) (h8 : (rest.map fun v => v.category).sum ≤ 8) (hdg : decode cc pc = .ok (.invokespecial index, 3))
    (kk : ∀ (f : S) (H1 : Heap) (locs1 : List Loc), Pq f → va_P G.1 vwCl (wr ++ B f) H1 → va_D A (wr ++ B f) → va_S A s.heap H1 locs1 → W p l e R s m args below meth c H1 locs1 (cells + mc) (slots + ms) Q (F0 m (pc + 3) ls rest)) : W p l e R s m args below meth c H locs cells slots Q (F0 m pc ls st0) := by
  obtain ⟨hx, hb, hml, hr, hlk, hown, ht⟩ := C
  have hKH := hK.at hS hz
  have hPc := hP.sub isC hw
  have hDc := rw_D hD hz isC hnC hC
  refine mk_after (va_runI (As := []) (rest := rest) (Ts := tG) ⟨hx, hb, hml, hown, ht⟩ (hM H.size (Kt.size (U := s) hA hz hS)) ⟨callB_of 0 ht (tg_call k1) rfl hR.1.1 hR.1.2 (ht _ k5) (ht _ k2) hy ⟨hR.2.1, hR.2.2⟩, hyn, ht _ k3⟩ ⟨mkP_blind hE1, ?_⟩ rfl rfl hl.1 hst (lv_room h8) hdg ⟨hc.1, hc.2⟩) hP hD hS hA isC isR hC hRr hnr hdis kk
  intro U hU hW
  exact ⟨⟨rfl, by rw [hU], by rw [hU]; exact hPc, by rw [hU]; exact hKH.vm hW, hDc⟩, hE2 U hW⟩
theorem mk_vret {S : Type} {Pq : S → Prop} {B : S → va_W} (C : Cx p s m args meth c cc nL none own) (f : S) (hf : Pq f) (hP : va_P G.1 vwCl (B f) H) (hD : va_D A (B f)) (hS : va_S A s.heap H locs) (hdg : decode cc pc = .ok (.return_, 1)) : W p l e R s m args below meth c H locs cells slots (MQ below (mkQ G Pq B A) args s cells slots A) (F0 m pc ls []) :=
  W.vret C.1 C.2.1 C.2.2.2.1 (fun t ht hW => ⟨rfl, ⟨f, hf, by rw [ht]; exact hP, hD⟩, hS.F ht⟩) hS.2.2 hdg C.2.2.2.2.1
end MAKE
