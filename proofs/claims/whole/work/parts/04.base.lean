/-! BASE: the environment of every method here, contracts with a world before and a world behind, one row for a call, rows for the pure functions -/
def fPr : Nat → Value := fun j => .int (pPr j)
def EV (D : va_G) (cI : ClassId) (U : State) : Prop := va_K D vwCl [(cI, .int)] U ∧ va_Nw (.methodLinkNest RX4 21 yX6_isCell RX6) U ∧ va_Nw (.methodLinkNest RX3 81 yX6_isCell RX6) U ∧ va_Nw (.fieldLinkNest RX0 66 "StruckBits" "PRICES" "[I" "StruckBits") U ∧ va_Nw (.methodLinkNest RX6 9 yX4_init RX6) U ∧ va_Nw (.methodLinkNest RX6 43 yX0_init RX6) U
def EH (pt : Nat) (A : Nat → Prop) (U : State) (H : Heap) : Prop := va_Z "StruckBits" "PRICES" "[I" (.ref pt) A U H ∧ va_T .int pt 4 fPr A U H
theorem EV.warm {D : va_G} {cI : ClassId} {s U : State} (hW : s.WarmedH U.vm) (h : EV D cI s) : EV D cI U := ⟨va_K.moved hW.alike h.1, va_Nw.warmM hW h.2.1, va_Nw.warmM hW h.2.2.1, va_Nw.warmF hW h.2.2.2.1, va_Nw.warmM hW h.2.2.2.2.1, va_Nw.warmM hW h.2.2.2.2.2⟩
theorem EV.same {D : va_G} {cI : ClassId} {s U : State} (hv : s.vm = U.vm) (h : EV D cI s) : EV D cI U := ⟨va_K.moved (hv ▸ Vm.Alike.refl s.vm) h.1, va_Nw.same rfl hv h.2.1, va_Nw.same rfl hv h.2.2.1, va_Nw.same rfl hv h.2.2.2.1, va_Nw.same rfl hv h.2.2.2.2.1, va_Nw.same rfl hv h.2.2.2.2.2⟩
theorem EH.moved {pt : Nat} {A : Nat → Prop} {s U : State} {H : Heap} (hv : s.vm.Alike U.vm) (h : EH pt A s H) : EH pt A U H := ⟨va_Z.moved hv h.1, va_T.moved hv h.2⟩
theorem EH.down {pt : Nat} {A B : Nat → Prop} {s : State} {H0 H : Heap} {locs : List Loc} (h : EH pt A s H0) (hS : va_S A H0 H locs) (hAB : ∀ q, B q → A q) : EH pt B s H := ⟨(va_Z.kept h.1 hS.2.1).narrow hAB, (va_T.kept h.2 hS.2.1).narrow hAB⟩
/-- a method's end: its answer, its world, all else as it was -/
def Qg (D : va_G) (A : Nat → Prop) (rv : Option Value) (W1 : va_W) : Array Value → State → Outcome → State → Prop := fun _ st oc t => oc = .returned rv ∧ (va_P D vwCl W1 t.heap ∧ va_D A W1) ∧ va_F A st t
def Pg (D : va_G) (cI : ClassId) (pt : Nat) (av : List Value) (W0 : va_W) (sz : Nat) : Array Value → State → Prop := va_Pc av (fun U => U.heap.size = sz ∧ va_P D vwCl W0 U.heap ∧ EV D cI U ∧ EH pt (va_A W0 sz) U U.heap ∧ va_D (fun _ => True) W0)
def MT (l : Launch) (D : va_G) (cI : ClassId) (pt : Nat) (y : MethodName) (ws : List Cond) (rm : Room) (av : List Value) (W0 : va_W) (rv : Option Value) (W1 : va_W) : Prop :=
  ∀ sz : Nat, Met l y ws rm (Pg D cI pt av W0 sz) (Qg D (va_A W0 sz) rv W1) 0 0 (va_A W0 sz)
/-- what stands during a method's body -/
def CX (p : Program) (s : State) (m : MethodId) (args : Array Value) (meth : Method) (c : Code) (D : va_G) (cI : ClassId) (pt : Nat) (A : Nat → Prop) (cc : ByteArray) (nL : Nat) (rt : Option FieldType) (Ts : List Cond) (own : String) : Prop :=
  p.tables.exec = Jvm.exec ∧ c.code = cc ∧ c.maxLocals = nL ∧ s.vm.findClass own = some m.cls ∧ (∀ w ∈ Ts, w.before args s = true) ∧ meth.sig.returnType = rt ∧ meth.locks = false ∧ EV D cI s ∧ EH pt A s s.heap ∧ (∀ q, s.heap.size ≤ q → A q)
theorem MT.mk {l : Launch} {D : va_G} {cI : ClassId} {pt : Nat} {y : MethodName} {ws ws' : List Cond} {rm : Room} {av : List Value} {W0 W1 : va_W} {rv : Option Value} {cc : ByteArray} {maxL : Nat} {ret : Option FieldType} {own : String} {lv : List (Nat × Value)}
    (hy : plainName y.cls = true) (hw : ws = Cond.code y cc maxL ret :: ws') (ho : y.cls = own) (hn : (lg_sl av).length ≤ maxL) (hlv : lv_args 0 av = lv)
    (body : ∀ (p : Program) (e : Env) (s : State) (m : MethodId) (args : Array Value) (below : List Frame) (meth : Method) (c : Code) (A : Nat → Prop) (ls : Array Slot), CX p s m args meth c D cI pt A cc maxL ret ws own → va_P D vwCl W0 s.heap → va_D A W0 → va_S A s.heap s.heap [] → lv_has ls maxL lv →
      W p l e rm s m args below meth c s.heap [] 0 0 (MQ below (Qg D A rv W1) args s 0 0 A) (F0 m 0 ls [])) : MT l D cI pt y ws rm av W0 rv W1 := by
  intro sz
  refine Met.ofW (cc := cc) (maxL := maxL) (ret := ret) hy hw ?_
  intro p e s m args below meth c s₁ B hml hv
  obtain ⟨rfl, hsz, hP, hE, hH, hD0⟩ := hv
  subst hsz
  have hown : s.vm.findClass own = some m.cls := by rw [← ho]; exact findClass_of_methodNamed B.named
  have hl := lv_entry av (n := maxL) hn
  rw [lg_entry_eq]
  rw [hlv] at hl
  exact body p e s m _ below meth c _ _ ⟨B.exec, B.bytes, hml, hown, atoms_spec (ws := ws) B.pre, B.returns, B.notSynchronized, hE, hH, fun q h => Or.inr h⟩ hP hD0.self va_S.rf hl
section RETS
variable {p : Program} {l : Launch} {e : Env} {R : Room} {s : State} {m : MethodId} {args : Array Value} {below : List Frame} {meth : Method} {c : Code} {H : Heap} {locs : List Loc} {D : va_G} {cI : ClassId} {pt : Nat} {A : Nat → Prop} {cc : ByteArray} {nL : Nat} {Ts : List Cond} {own : String} {W1 : va_W} {pc : Nat} {ls : Array Slot}
theorem r_i {v : Int32} {rv : Option Value} (X : CX p s m args meth c D cI pt A cc nL (some .int) Ts own) (hP : va_P D vwCl W1 H) (hD : va_D A W1) (hS : va_S A s.heap H locs) (hrv : rv = some (.int v)) (hdg : decode cc pc = .ok (.ireturn, 1)) : W p l e R s m args below meth c H locs 0 0 (MQ below (Qg D A rv W1) args s 0 0 A) (F0 m pc ls [.int v]) := by
  obtain ⟨hx, hb, hml, hown, hts, hr, hlk, hE, hH, hA⟩ := X
  subst hrv
  exact W.iret hx hb hr (fun t ht hW => ⟨rfl, ⟨by rw [ht]; exact hP, hD⟩, hS.F ht⟩) hS.2.2 hdg
theorem r_z {v : Int32} {rv : Option Value} (X : CX p s m args meth c D cI pt A cc nL (some .boolean) Ts own) (hP : va_P D vwCl W1 H) (hD : va_D A W1) (hS : va_S A s.heap H locs) (hrv : rv = some (.int v)) (hz : v = 0 ∨ v = 1) (hdg : decode cc pc = .ok (.ireturn, 1)) : W p l e R s m args below meth c H locs 0 0 (MQ below (Qg D A rv W1) args s 0 0 A) (F0 m pc ls [.int v]) := by
  obtain ⟨hx, hb, hml, hown, hts, hr, hlk, hE, hH, hA⟩ := X
  subst hrv
  exact W.zret hx hb hr (by rcases hz with rfl | rfl <;> rfl) (fun t ht hW => ⟨rfl, ⟨by rw [ht]; exact hP, hD⟩, hS.F ht⟩) hS.2.2 hdg
theorem r_l {v : Int64} {rv : Option Value} (X : CX p s m args meth c D cI pt A cc nL (some .long) Ts own) (hP : va_P D vwCl W1 H) (hD : va_D A W1) (hS : va_S A s.heap H locs) (hrv : rv = some (.long v)) (hdg : decode cc pc = .ok (.lreturn, 1)) : W p l e R s m args below meth c H locs 0 0 (MQ below (Qg D A rv W1) args s 0 0 A) (F0 m pc ls [.long v]) := by
  obtain ⟨hx, hb, hml, hown, hts, hr, hlk, hE, hH, hA⟩ := X
  subst hrv
  exact W.lret hx hb hr (fun t ht hW => ⟨rfl, ⟨by rw [ht]; exact hP, hD⟩, hS.F ht⟩) hS.2.2 hdg
theorem r_v {rv : Option Value} (X : CX p s m args meth c D cI pt A cc nL none Ts own) (hP : va_P D vwCl W1 H) (hD : va_D A W1) (hS : va_S A s.heap H locs) (hrv : rv = none) (hdg : decode cc pc = .ok (.return_, 1)) : W p l e R s m args below meth c H locs 0 0 (MQ below (Qg D A rv W1) args s 0 0 A) (F0 m pc ls []) := by
  obtain ⟨hx, hb, hml, hown, hts, hr, hlk, hE, hH, hA⟩ := X
  subst hrv
  exact W.vret hx hb hr (fun t ht hW => ⟨rfl, ⟨by rw [ht]; exact hP, hD⟩, hS.F ht⟩) hS.2.2 hdg
theorem r_a {a : Nat} {cn : String} {rv : Option Value} (X : CX p s m args meth c D cI pt A cc nL (some (.object cn)) Ts own) (hP : va_P D vwCl W1 H) (hD : va_D A W1) (hS : va_S A s.heap H locs) (hrv : rv = some (.ref a)) (hdg : decode cc pc = .ok (.areturn, 1)) : W p l e R s m args below meth c H locs 0 0 (MQ below (Qg D A rv W1) args s 0 0 A) (F0 m pc ls [.ref a]) := by
  obtain ⟨hx, hb, hml, hown, hts, hr, hlk, hE, hH, hA⟩ := X
  subst hrv
  exact W.aret hx hb hr (Or.inl ⟨cn, rfl⟩) (Or.inr ⟨a, rfl⟩) (fun t ht hW => ⟨rfl, ⟨by rw [ht]; exact hP, hD⟩, hS.F ht⟩) hS.2.2 hdg
end RETS
theorem Pg.blind {D : va_G} {cI : ClassId} {pt : Nat} {av : List Value} {W0 : va_W} {sz : Nat} : FrameBlind (Pg D cI pt av W0 sz) := by
  intro a U g mk q
  obtain ⟨q0, q1, qP, qE, qH, qD⟩ := q
  exact ⟨q0, q1, qP, EV.same (s := U) (U := U.calling g mk a) rfl qE, EH.moved (s := U) (U := U.calling g mk a) (Vm.Alike.refl U.vm) qH, qD⟩
section CALLS
variable {p : Program} {l : Launch} {e : Env} {R : Room} {s : State} {m : MethodId} {args : Array Value} {below : List Frame} {meth : Method} {c : Code} {H : Heap} {locs : List Loc} {D : va_G} {cI : ClassId} {pt : Nat} {A : Nat → Prop} {cc : ByteArray} {nL : Nat} {Ts : List Cond} {own : String} {pc : Nat} {ls : Array Slot} {Q : State → Prop}
  {y : MethodName} {ws ws' : List Cond} {rm : Room} {av rest : List Value} {W0 Wc Wr Wc1 Wn : va_W} {rv : Option Value} {bytes : ByteArray} {maxL index n : Nat} {ret rt : Option FieldType} {cells slots : Nat}
theorem c_go {st0 : List Value} {free : Addr → Prop} (hr : va_Run p l e R s m args below meth c H locs cells slots 0 0 (F0 m pc ls st0) rest (Qg D (va_A Wc H.size) rv Wc1 av.toArray) (va_A Wc H.size))
    (hA : ∀ q, s.heap.size ≤ q → A q) (hP : va_P D vwCl W0 H) (hD : va_D A W0) (hS : va_S A s.heap H locs) (isC isR perm : List Nat) (hC : isC.map (fun i => W0[i]?) = Wc.map some) (hR : isR.map (fun i => W0[i]?) = Wr.map some) (hn : va_nd isR = true) (hdis : ∀ i ∈ isR, i ∉ isC) (hpm : perm.map (fun i => (Wr ++ Wc1)[i]?) = Wn.map some) (hpn : va_nd perm = true)
    {st1 : List Value} (hs1 : rv.toList ++ rest = st1)
    (kk : ∀ (H1 : Heap) (locs1 : List Loc), va_P D vwCl Wn H1 → va_D A Wn → va_S A s.heap H1 locs1 → W p l e R s m args below meth c H1 locs1 cells slots Q (F0 m (pc + 3) ls st1)) : W p l e R s m args below meth c H locs cells slots Q (F0 m pc ls st0) := by
  subst hs1
  have hF := va_free (wc := Wc) hD hS hA isC hC
  intro T hT X
  obtain ⟨v, st₀, t, T', L, h0, X', hL, e1, e2, ⟨hv, ⟨hP1, hD1⟩, hz, hk⟩, st⟩ := hr T hT X
  cases hv
  rw [h0] at hz hk
  obtain ⟨hP2, hD2⟩ := va_join (wr := Wr) (w1 := Wc1) hP hD isC isR hC hR hn hdis (fun q h1 h2 => hk q h1 h2) hF hP1 hD1
  have hP3 : va_P D vwCl Wn t.heap := hP2.sub perm (by
    have h := congrArg (List.filterMap id) hpm
    rw [List.filterMap_map, List.filterMap_map] at h
    rw [show (id ∘ some : Nat × va_E → Option (Nat × va_E)) = some from rfl, List.filterMap_some] at h
    exact h)
  obtain ⟨t2, a1, b1⟩ := kk T'.heap (locs ++ L) (by rw [e1]; exact hP3) (hD2.sub perm hpn hpm)
    ⟨Nat.le_trans hS.1 (by rw [e1]; exact hz), fun q h1 h2 => by rw [e1, hk q (Nat.lt_of_lt_of_le h1 hS.1) (fun z => h2 (hF q z))]; exact hS.2.1 q h1 h2, fun q hq => by
      rcases List.mem_append.mp hq with h | h
      · exact hS.2.2 q h
      · exact hF _ (hL q h)⟩ T' rfl X'
  exact ⟨t2, st t2 a1, b1⟩
theorem c_pre (X : CX p s m args meth c D cI pt A cc nL rt Ts own) (hP : va_P D vwCl W0 H) (hD : va_D A W0) (hS : va_S A s.heap H locs) (isC : List Nat) (hC : isC.map (fun i => W0[i]?) = Wc.map some) (hci : va_nd isC = true) : PreS s H (Pg D cI pt av Wc H.size) av := by
  obtain ⟨hx, hb, hml, hown, hts, hr, hlk, hE, hH, hA⟩ := X
  have hF := va_free (wc := Wc) hD hS hA isC hC
  have hPc : va_P D vwCl Wc H := hP.sub isC (by
    have h := congrArg (List.filterMap id) hC
    rw [List.filterMap_map, List.filterMap_map] at h
    rw [show (id ∘ some : Nat × va_E → Option (Nat × va_E)) = some from rfl, List.filterMap_some] at h
    exact h)
  exact ⟨Pg.blind, fun U hU hW => ⟨rfl, by rw [hU], by rw [hU]; exact hPc, hE.warm hW, by rw [hU]; exact (hH.down hS hF).moved hW.alike, (hD.sub isC hci hC).weaken (fun _ _ _ _ => trivial)⟩⟩
/-- invokevirtual -/
theorem c_V {C : String} {b q0 ci : Nat} {qc : vw_C} {fs As : List Value} (X : CX p s m args meth c D cI pt A cc nL rt Ts own) (hP : va_P D vwCl W0 H) (hD : va_D A W0) (hS : va_S A s.heap H locs) (hl : ls.size = nL) (M : MT l D cI pt y ws rm (.ref b :: As) Wc rv Wc1)
    (hG : GoodIn Ts (wsV own index C y ws)) (hw : ws = Cond.code y bytes maxL ret :: ws') (hrm : rm.cells = 0 ∧ rm.slots = 0) {na : Nat} (hna : As.length = na) (hd : y.cls = C ∧ y.cls ≠ "java/lang/invoke/MethodHandle" ∧ y.cls ≠ "java/lang/invoke/VarHandle" ∧ (parseMethodDescriptor y.desc).map (fun d => d.parameters.length) = some na) (hR2 : rm.frames + 1 ≤ R.frames ∧ 8 + (maxL + 11) + rm.locals ≤ R.locals)
    (hcq : vwCl[ci]? = some qc) (hq1 : qc.1 = C) (isC isR perm : List Nat) (he : Wc[q0]? = some (b, .inr (ci, fs)))
    (hC : isC.map (fun i => W0[i]?) = Wc.map some) (hci : va_nd isC = true) (hR : isR.map (fun i => W0[i]?) = Wr.map some) (hn : va_nd isR = true) (hdis : ∀ i ∈ isR, i ∉ isC) (hpm : perm.map (fun i => (Wr ++ Wc1)[i]?) = Wn.map some) (hpn : va_nd perm = true)
    (hrs : (rest.map fun v => v.category).sum ≤ 8) (hdg : decode cc pc = .ok (.invokevirtual index, 3)) (hcs : cells ≤ R.cells ∧ slots ≤ R.slots) {st0 : List Value} (hst : st0 = As.reverse ++ .ref b :: rest)
    {st1 : List Value} (hs1 : rv.toList ++ rest = st1)
    (kk : ∀ (H1 : Heap) (locs1 : List Loc), va_P D vwCl Wn H1 → va_D A Wn → va_S A s.heap H1 locs1 → W p l e R s m args below meth c H1 locs1 cells slots Q (F0 m (pc + 3) ls st1)) : W p l e R s m args below meth c H locs cells slots Q (F0 m pc ls st0) := by
  have hpre := c_pre (av := .ref b :: As) X hP hD hS isC hC hci
  obtain ⟨hx, hb, hml, hown, hts, hr, hlk, hE, hH, hA⟩ := X
  have hPc : va_P D vwCl Wc H := hP.sub isC (by
    have h := congrArg (List.filterMap id) hC
    rw [List.filterMap_map, List.filterMap_map] at h
    rw [show (id ∘ some : Nat × va_E → Option (Nat × va_E)) = some from rfl, List.filterMap_some] at h
    exact h)
  have hrec := va_recv hE.1 hPc hcq he
  rw [hq1] at hrec
  exact c_go (free := va_A Wc H.size) (va_runV (As := As) (rest := rest) ⟨hx, hb, hml, hown, hts⟩ (M H.size) (cwV na hts hG hw hrm.1 hrm.2 hd hR2) ⟨hpre.1, hrec, hpre.2⟩ rfl hna hl hst (lv_room hrs) hdg ⟨hcs.1, hcs.2⟩) hA hP hD hS isC isR perm hC hR hn hdis hpm hpn hs1 kk
/-- invokestatic -/
theorem c_S {As : List Value} (X : CX p s m args meth c D cI pt A cc nL rt Ts own) (hP : va_P D vwCl W0 H) (hD : va_D A W0) (hS : va_S A s.heap H locs) (hl : ls.size = nL) (M : MT l D cI pt y ws rm As Wc rv Wc1)
    (hG : GoodIn Ts (va_wsS own index y ws)) (hw : ws = Cond.code y bytes maxL ret :: ws') (hrm : rm.cells = 0 ∧ rm.slots = 0) {na : Nat} (hna : As.length = na) (hd : y.cls ≠ "java/lang/invoke/MethodHandle" ∧ y.cls ≠ "java/lang/invoke/VarHandle" ∧ (parseMethodDescriptor y.desc).map (fun d => d.parameters.length) = some na) (hR2 : rm.frames + 1 ≤ R.frames ∧ 8 + (maxL + 11) + rm.locals ≤ R.locals)
    (isC isR perm : List Nat) (hC : isC.map (fun i => W0[i]?) = Wc.map some) (hci : va_nd isC = true) (hR : isR.map (fun i => W0[i]?) = Wr.map some) (hn : va_nd isR = true) (hdis : ∀ i ∈ isR, i ∉ isC) (hpm : perm.map (fun i => (Wr ++ Wc1)[i]?) = Wn.map some) (hpn : va_nd perm = true)
    (hrs : (rest.map fun v => v.category).sum ≤ 8) (hdg : decode cc pc = .ok (.invokestatic index, 3)) (hcs : cells ≤ R.cells ∧ slots ≤ R.slots) {st0 : List Value} (hst : st0 = As.reverse ++ rest)
    {st1 : List Value} (hs1 : rv.toList ++ rest = st1)
    (kk : ∀ (H1 : Heap) (locs1 : List Loc), va_P D vwCl Wn H1 → va_D A Wn → va_S A s.heap H1 locs1 → W p l e R s m args below meth c H1 locs1 cells slots Q (F0 m (pc + 3) ls st1)) : W p l e R s m args below meth c H locs cells slots Q (F0 m pc ls st0) := by
  have hpre := c_pre (av := As) X hP hD hS isC hC hci
  obtain ⟨hx, hb, hml, hown, hts, hr, hlk, hE, hH, hA⟩ := X
  exact c_go (free := va_A Wc H.size) (va_runS (As := As) (rest := rest) ⟨hx, hb, hml, hown, hts⟩ (M H.size) (va_cwS na hts hG hw hrm.1 hrm.2 hd hR2) hpre rfl hna hl hst (lv_room hrs) hdg ⟨hcs.1, hcs.2⟩) hA hP hD hS isC isR perm hC hR hn hdis hpm hpn hs1 kk
/-- invokestatic of a nest mate's private method -/
theorem c_SN {As : List Value} {host : String} (X : CX p s m args meth c D cI pt A cc nL rt Ts own) (hP : va_P D vwCl W0 H) (hD : va_D A W0) (hS : va_S A s.heap H locs) (hl : ls.size = nL) (M : MT l D cI pt y ws rm As Wc rv Wc1)
    (hG : GoodIn Ts ws) (hw : ws = Cond.code y bytes maxL ret :: ws') (hrm : rm.cells = 0 ∧ rm.slots = 0) (hN : va_Nw (.methodLinkNest own index y host) s) (hini : (Cond.initialized y.cls).before args s = true) (hstc : (Cond.static y).before args s = true) {na : Nat} (hna : As.length = na) (hd : y.cls ≠ "java/lang/invoke/MethodHandle" ∧ y.cls ≠ "java/lang/invoke/VarHandle" ∧ (parseMethodDescriptor y.desc).map (fun d => d.parameters.length) = some na) (hR2 : rm.frames + 1 ≤ R.frames ∧ 8 + (maxL + 11) + rm.locals ≤ R.locals)
    (isC isR perm : List Nat) (hC : isC.map (fun i => W0[i]?) = Wc.map some) (hci : va_nd isC = true) (hR : isR.map (fun i => W0[i]?) = Wr.map some) (hn : va_nd isR = true) (hdis : ∀ i ∈ isR, i ∉ isC) (hpm : perm.map (fun i => (Wr ++ Wc1)[i]?) = Wn.map some) (hpn : va_nd perm = true)
    (hrs : (rest.map fun v => v.category).sum ≤ 8) (hdg : decode cc pc = .ok (.invokestatic index, 3)) (hcs : cells ≤ R.cells ∧ slots ≤ R.slots) {st0 : List Value} (hst : st0 = As.reverse ++ rest)
    {st1 : List Value} (hs1 : rv.toList ++ rest = st1)
    (kk : ∀ (H1 : Heap) (locs1 : List Loc), va_P D vwCl Wn H1 → va_D A Wn → va_S A s.heap H1 locs1 → W p l e R s m args below meth c H1 locs1 cells slots Q (F0 m (pc + 3) ls st1)) : W p l e R s m args below meth c H locs cells slots Q (F0 m pc ls st0) := by
  have hpre := c_pre (av := As) X hP hD hS isC hC hci
  obtain ⟨hx, hb, hml, hown, hts, hr, hlk, hE, hH, hA⟩ := X
  exact c_go (free := va_A Wc H.size) (va_runSN (As := As) (rest := rest) ⟨hx, hb, hml, hown, hts⟩ (M H.size) ⟨va_cnB na hts hG hw hrm.1 hrm.2 hN hini hd hR2, hstc, trivial⟩ hpre rfl hna hl hst (lv_room hrs) hdg ⟨hcs.1, hcs.2⟩) hA hP hD hS isC isR perm hC hR hn hdis hpm hpn hs1 kk
end CALLS
theorem n_b {v : Int32} (h : isB v) : narrow .boolean (.int v) = .int v := by rcases h with rfl | rfl <;> rfl
theorem n_f {v : Int32} (h : isB v) : fits .boolean (.int v) = true := by rcases h with rfl | rfl <;> rfl
