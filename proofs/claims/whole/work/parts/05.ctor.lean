/-! CONSTRUCTORS: contracts that make cells -/
def Qn (D : va_G) (A : Nat → Prop) (post : va_W → Prop) : Array Value → State → Outcome → State → Prop := fun _ st oc t => oc = .returned none ∧ (∃ W1, post W1 ∧ va_P D vwCl W1 t.heap ∧ va_D A W1) ∧ va_F A st t
def MN (l : Launch) (D : va_G) (cI : ClassId) (pt : Nat) (y : MethodName) (ws : List Cond) (rm : Room) (av : List Value) (W0 : va_W) (post : va_W → Prop) (mc ms : Nat) : Prop :=
  ∀ sz : Nat, Met l y ws rm (Pg D cI pt av W0 sz) (Qn D (va_A W0 sz) post) mc ms (va_A W0 sz)
theorem MN.mk {l : Launch} {D : va_G} {cI : ClassId} {pt : Nat} {y : MethodName} {ws ws' : List Cond} {rm : Room} {av : List Value} {W0 : va_W} {post : va_W → Prop} {mc ms : Nat} {cc : ByteArray} {maxL : Nat} {ret : Option FieldType} {own : String} {lv : List (Nat × Value)}
    (hy : plainName y.cls = true) (hw : ws = Cond.code y cc maxL ret :: ws') (ho : y.cls = own) (hnm : y.name = "<init>") (hn : (lg_sl av).length ≤ maxL) (hlv : lv_args 0 av = lv)
    (body : ∀ (p : Program) (e : Env) (s : State) (m : MethodId) (args : Array Value) (below : List Frame) (meth : Method) (c : Code) (A : Nat → Prop) (ls : Array Slot), CX p s m args meth c D cI pt A cc maxL ret ws own → meth.name = "<init>" → va_P D vwCl W0 s.heap → va_D A W0 → va_S A s.heap s.heap [] → lv_has ls maxL lv →
      W p l e rm s m args below meth c s.heap [] 0 0 (MQ below (Qn D A post) args s mc ms A) (F0 m 0 ls [])) : MN l D cI pt y ws rm av W0 post mc ms := by
  intro sz
  refine Met.ofW (cc := cc) (maxL := maxL) (ret := ret) hy hw ?_
  intro p e s m args below meth c s₁ B hml hv
  obtain ⟨rfl, hsz, hP, hE, hH, hD0⟩ := hv
  subst hsz
  have hown : s.vm.findClass own = some m.cls := by rw [← ho]; exact findClass_of_methodNamed B.named
  have hin : meth.name = "<init>" := by rw [← hnm]; exact (name_of_methodNamed B.named B.method).1
  have hl := lv_entry av (n := maxL) hn
  rw [lg_entry_eq]
  rw [hlv] at hl
  exact body p e s m _ below meth c _ _ ⟨B.exec, B.bytes, hml, hown, atoms_spec (ws := ws) B.pre, B.returns, B.notSynchronized, hE, hH, fun q h => Or.inr h⟩ hin hP hD0.self va_S.rf hl
section CTOR
variable {p : Program} {l : Launch} {e : Env} {R : Room} {s : State} {m : MethodId} {args : Array Value} {below : List Frame} {meth : Method} {c : Code} {H H0 : Heap} {locs : List Loc} {D : va_G} {cI : ClassId} {pt : Nat} {A : Nat → Prop} {cc : ByteArray} {nL : Nat} {Ts : List Cond} {own : String} {pc : Nat} {ls : Array Slot} {Q : State → Prop}
  {y : MethodName} {ws ws' : List Cond} {rm : Room} {av rest : List Value} {W0 W1 Wc Wr : va_W} {post : va_W → Prop} {bytes : ByteArray} {maxL index n mc ms cells slots : Nat} {rt : Option FieldType}
theorem r_n (X : CX p s m args meth c D cI pt A cc nL none Ts own) (hP : va_P D vwCl W1 H) (hD : va_D A W1) (hS : va_S A s.heap H locs) (hp : post W1) (hdg : decode cc pc = .ok (.return_, 1)) : W p l e R s m args below meth c H locs cells slots (MQ below (Qn D A post) args s cells slots A) (F0 m pc ls []) := by
  obtain ⟨hx, hb, hml, hown, hts, hr, hlk, hE, hH, hA⟩ := X
  exact W.vret hx hb hr (fun t ht hW => ⟨rfl, ⟨W1, hp, by rw [ht]; exact hP, hD⟩, hS.F ht⟩) hS.2.2 hdg
theorem va_newI (hexec : p.tables.exec = Jvm.exec) (hb : c.code = cc) (harr : (Cond.arrayClass .int).before args s = true) (hK : va_K D vwCl [(cI, .int)] s) (hP : va_P D vwCl W0 H) (hD : va_D A W0) (hS : va_S A H0 H locs) (hA : ∀ q, H0.size ≤ q → A q)
    {k : Int32} {N : Nat} (hn : ¬ k < 0) (hN : k.toNatClampNeg = N) (hbytes : N * componentBytes .int ≤ 536870912) (hcells : cells + 1 ≤ R.cells) (hslots : slots + N ≤ R.slots) (hdg : decode cc pc = .ok (.newarray .int, 2))
    (kk : ∀ (q : Nat) (H1 : Heap), va_P D vwCl (W0 ++ [(q, .inl (cI, N, .inl (fun _ => 0)))]) H1 → va_D A (W0 ++ [(q, .inl (cI, N, .inl (fun _ => 0)))]) → va_S A H0 H1 locs →
      W p l e R s m args below meth c H1 locs (cells + 1) (slots + N) Q (F0 m (pc + 2) ls (.ref q :: rest))) : W p l e R s m args below meth c H locs cells slots Q (F0 m pc ls (.int k :: rest)) := by
  refine va_newa (atype := .int) (ty := .int) (a0 := (N, .inl (fun _ => 0))) hexec hb harr rfl hK hP hD hS hA (fun _ => rfl) hn hN hbytes hcells hslots hdg (fun q cA H1 hK1 hP1 hD1 hS1 => ?_)
  have h1 : s.vm.findClass ("[" ++ FieldType.int.toString) = some cI := (hK.2 0 _ rfl).2
  have h2 : s.vm.findClass ("[" ++ FieldType.int.toString) = some cA := (hK1.2 1 _ rfl).2
  have e : cA = cI := Option.some.inj (h2.symm.trans h1)
  subst e
  exact kk q H1 hP1 hD1 hS1
theorem c_goN {st0 : List Value} (hr : va_Run p l e R s m args below meth c H locs cells slots mc ms (F0 m pc ls st0) rest (Qn D (va_A Wc H.size) post av.toArray) (va_A Wc H.size))
    (hA : ∀ q, s.heap.size ≤ q → A q) (hP : va_P D vwCl W0 H) (hD : va_D A W0) (hS : va_S A s.heap H locs) (isC isR : List Nat) (hC : isC.map (fun i => W0[i]?) = Wc.map some) (hR : isR.map (fun i => W0[i]?) = Wr.map some) (hn : va_nd isR = true) (hdis : ∀ i ∈ isR, i ∉ isC)
    (kk : ∀ (W1 : va_W) (H1 : Heap) (locs1 : List Loc), post W1 → va_P D vwCl (Wr ++ W1) H1 → va_D A (Wr ++ W1) → va_S A s.heap H1 locs1 → W p l e R s m args below meth c H1 locs1 (cells + mc) (slots + ms) Q (F0 m (pc + 3) ls rest)) : W p l e R s m args below meth c H locs cells slots Q (F0 m pc ls st0) := by
  have hF := va_free (wc := Wc) hD hS hA isC hC
  intro T hT X
  obtain ⟨v, st₀, t, T', L, h0, X', hL, e1, e2, ⟨hv, ⟨W1, hp, hP1, hD1⟩, hz, hk⟩, st⟩ := hr T hT X
  cases hv
  rw [h0] at hz hk
  obtain ⟨hP2, hD2⟩ := va_join (wr := Wr) (w1 := W1) hP hD isC isR hC hR hn hdis (fun q h1 h2 => hk q h1 h2) hF hP1 hD1
  obtain ⟨t2, a1, b1⟩ := kk W1 T'.heap (locs ++ L) hp (by rw [e1]; exact hP2) hD2
    ⟨Nat.le_trans hS.1 (by rw [e1]; exact hz), fun q h1 h2 => by rw [e1, hk q (Nat.lt_of_lt_of_le h1 hS.1) (fun z => h2 (hF q z))]; exact hS.2.1 q h1 h2, fun q hq => by
      rcases List.mem_append.mp hq with h | h
      · exact hS.2.2 q h
      · exact hF _ (hL q h)⟩ T' rfl X'
  exact ⟨t2, st t2 a1, b1⟩
/-- invokespecial <init> -/
theorem c_I {As : List Value} {b : Nat} (X : CX p s m args meth c D cI pt A cc nL rt Ts own) (hP : va_P D vwCl W0 H) (hD : va_D A W0) (hS : va_S A s.heap H locs) (hl : ls.size = nL) (M : MN l D cI pt y ws rm (.ref b :: As) Wc post mc ms)
    (hG : GoodIn Ts ws) (hw : ws = Cond.code y bytes maxL none :: ws') (hrm : rm.cells = mc ∧ rm.slots = ms) (hini : (Cond.initialized y.cls).before args s = true) (hlk : (Cond.methodLink own index y).before args s = true) (hin : (Cond.instanceMethod y).before args s = true) (hnm : y.name = "<init>")
    {na : Nat} (hna : As.length = na) (hd : y.cls ≠ "java/lang/invoke/MethodHandle" ∧ y.cls ≠ "java/lang/invoke/VarHandle" ∧ (parseMethodDescriptor y.desc).map (fun d => d.parameters.length) = some na) (hR2 : rm.frames + 1 ≤ R.frames ∧ 8 + (maxL + 11) + rm.locals ≤ R.locals)
    (isC isR : List Nat) (hC : isC.map (fun i => W0[i]?) = Wc.map some) (hci : va_nd isC = true) (hR : isR.map (fun i => W0[i]?) = Wr.map some) (hn : va_nd isR = true) (hdis : ∀ i ∈ isR, i ∉ isC)
    (hrs : (rest.map fun v => v.category).sum ≤ 8) (hdg : decode cc pc = .ok (.invokespecial index, 3)) (hcs : cells + mc ≤ R.cells ∧ slots + ms ≤ R.slots) {st0 : List Value} (hst : st0 = As.reverse ++ .ref b :: rest)
    (kk : ∀ (W1 : va_W) (H1 : Heap) (locs1 : List Loc), post W1 → va_P D vwCl (Wr ++ W1) H1 → va_D A (Wr ++ W1) → va_S A s.heap H1 locs1 → W p l e R s m args below meth c H1 locs1 (cells + mc) (slots + ms) Q (F0 m (pc + 3) ls rest)) : W p l e R s m args below meth c H locs cells slots Q (F0 m pc ls st0) := by
  have hpre := c_pre (av := .ref b :: As) X hP hD hS isC hC hci
  obtain ⟨hx, hb, hml, hown, hts, hr, hlk2, hE, hH, hA⟩ := X
  exact c_goN (va_runI (As := As) (rest := rest) ⟨hx, hb, hml, hown, hts⟩ (M H.size) (cwI na hts hG hw hrm.1 hrm.2 hini hlk hin hnm hd hR2) hpre rfl hna hl hst (lv_room hrs) hdg hcs) hA hP hD hS isC isR hC hR hn hdis kk
theorem c_IN {As : List Value} {b : Nat} {host : String} (X : CX p s m args meth c D cI pt A cc nL rt Ts own) (hP : va_P D vwCl W0 H) (hD : va_D A W0) (hS : va_S A s.heap H locs) (hl : ls.size = nL) (M : MN l D cI pt y ws rm (.ref b :: As) Wc post mc ms)
    (hG : GoodIn Ts ws) (hw : ws = Cond.code y bytes maxL none :: ws') (hrm : rm.cells = mc ∧ rm.slots = ms) (hini : (Cond.initialized y.cls).before args s = true) (hlk : va_Nw (.methodLinkNest own index y host) s) (hin : (Cond.instanceMethod y).before args s = true) (hnm : y.name = "<init>")
    {na : Nat} (hna : As.length = na) (hd : y.cls ≠ "java/lang/invoke/MethodHandle" ∧ y.cls ≠ "java/lang/invoke/VarHandle" ∧ (parseMethodDescriptor y.desc).map (fun d => d.parameters.length) = some na) (hR2 : rm.frames + 1 ≤ R.frames ∧ 8 + (maxL + 11) + rm.locals ≤ R.locals)
    (isC isR : List Nat) (hC : isC.map (fun i => W0[i]?) = Wc.map some) (hci : va_nd isC = true) (hR : isR.map (fun i => W0[i]?) = Wr.map some) (hn : va_nd isR = true) (hdis : ∀ i ∈ isR, i ∉ isC)
    (hrs : (rest.map fun v => v.category).sum ≤ 8) (hdg : decode cc pc = .ok (.invokespecial index, 3)) (hcs : cells + mc ≤ R.cells ∧ slots + ms ≤ R.slots) {st0 : List Value} (hst : st0 = As.reverse ++ .ref b :: rest)
    (kk : ∀ (W1 : va_W) (H1 : Heap) (locs1 : List Loc), post W1 → va_P D vwCl (Wr ++ W1) H1 → va_D A (Wr ++ W1) → va_S A s.heap H1 locs1 → W p l e R s m args below meth c H1 locs1 (cells + mc) (slots + ms) Q (F0 m (pc + 3) ls rest)) : W p l e R s m args below meth c H locs cells slots Q (F0 m pc ls st0) := by
  have hpre := c_pre (av := .ref b :: As) X hP hD hS isC hC hci
  obtain ⟨hx, hb, hml, hown, hts, hr, hlk2, hE, hH, hA⟩ := X
  exact c_goN (va_runIN (As := As) (rest := rest) ⟨hx, hb, hml, hown, hts⟩ (M H.size) ⟨va_cnB na hts hG hw hrm.1 hrm.2 hlk hini hd hR2, hnm, hin⟩ hpre rfl hna hl hst (lv_room hrs) hdg hcs) hA hP hD hS isC isR hC hR hn hdis kk
end CTOR
