/-! ===== the rules: a throw, a call that throws and is caught, a call of a method that catches ===== -/
section YR
variable {y : MethodName} {cc : ByteArray} {nL : Nat} {rt : Option FieldType} {d kc ks : Nat} {G : Program → Launch → Env → State → MethodId → Code → (Nat → Prop) → Prop} {pc : Nat} {L st : List qv} {sh : List (Nat × Nat)} {rf mem : qm}
theorem q_thr {KT : qh → Prop} {ix len : Nat} (hcl : y.cls = RX11) (hd0 : decode cc pc = .ok (.new 135, 3)) (hd1 : decode cc (pc + 3) = .ok (.dup, 1)) (hd2 : (decode cc (pc + 3 + 1) = .ok (.ldc ix, 2) ∧ len = 2) ∨ (decode cc (pc + 3 + 1) = .ok (.ldc_w ix, 3) ∧ len = 3)) (hd3 : decode cc (pc + 3 + 1 + len) = .ok (.invokespecial 139, 3)) (hd4 : decode cc (pc + 3 + 1 + len + 3) = .ok (.athrow, 1)) (hix : ix = 137 ∨ ix = 167 ∨ ix = 417) (hd : 6 ≤ d) (h : KT (sh, rf, mem)) : q_AtG y cc nL rt d 1 6 y_G (y_KT KT) pc L [] (sh, rf, mem) := by
  intro p l e s m args below meth c H locs cells slots mc ms D cid ad0 ad n0 A ls C R hA hx hn hL hst hc hs HE
  obtain ⟨h1, h2, h3, h4, h5, h6, h7, h8⟩ := id C
  obtain ⟨hK, hP, hD, hS, hg, hX, hZ⟩ := id R
  obtain ⟨htr, hex, hY, hno⟩ := HE
  rw [hcl] at h7
  have w5 := hY.all h8 y_rest yw_rest
  obtain ⟨cX, kX, hfX, hkX, -⟩ := Cond.instantiable_spec (w5 (.instantiable NSE 6) (List.mem_of_getElem? (i := 1) rfl))
  obtain ⟨ma, hstr, hev⟩ : ∃ (ma : Nat), (∃ tx, (Cond.stringRef RX11 ix tx).before args s = true) ∧ (Term.string RX11 ix).eval args s none [] s = some (.ref ma) := by
    obtain ⟨-, ⟨a2, g2⟩, ⟨a3, g3⟩, ⟨a4, g4⟩, -⟩ := hY
    rcases hix with rfl | rfl | rfl
    · exact ⟨a2, ⟨_, g2.1⟩, g2.2⟩
    · exact ⟨a3, ⟨_, g3.1⟩, g3.2⟩
    · exact ⟨a4, ⟨_, g4.1⟩, g4.2⟩
  obtain ⟨tx, hstr⟩ := hstr
  refine W.newcK h1 h2 h7 (w5 (.classLink RX11 135 NSE) (List.mem_of_getElem? (i := 12) rfl)) (w5 (.instantiable NSE 6) (List.mem_of_getElem? (i := 1) rfl)) (w5 (.initialized NSE) (List.mem_of_getElem? (i := 13) rfl)) rfl hd0 (by show cells + 1 ≤ mc; omega) (by show slots + 6 ≤ ms; omega) hfX rfl fun H1 kC hkC e1 z1 o1 => ?_
  refine lv_dup h1 h2 hd1 rfl ?_
  intro T hT X
  have key := y_throw X h1 (by rw [X.admits.platform]; exact htr) h7 (hY.all h8 _ yw_thr) (hY.all h8 _ yw_thS) (hY.all h8 _ yw_p1) (hY.all h8 _ yw_p2) w5 hY.2.2.2.2.1.isRef hY.2.2.2.2.2.isRef (fun x hx' => hno _ (hS.2.2 x hx')) hfX hkC (by rw [hT]; exact e1) hS.1 (msg := .ref ma) rfl
    (g := F0 m (pc + 3 + 1 + len) ls (.ref ma :: .ref H.size :: .ref H.size :: [])) rfl (hL.1.1.trans h3.symm) rfl rfl rfl (by rw [h2]; exact hd3) (by rw [h2]; exact hd4) (fun x hx' => by rw [hex] at hx'; cases hx') (by show 5 < d; omega)
    (by
      have := lv_room (m := m) (pc := pc + 3 + 1 + len) (ls := ls) (rest := (.ref ma :: .ref H.size :: .ref H.size :: [])) (st := [.ref H.size]) (by simp [Value.category])
      show _ + 81 ≤ 40 * d
      omega) h5
  obtain ⟨U, ce, g1, g2, g3, g4, g5, g6, g7, g8, g9, g10, g11⟩ := key
  refine ⟨U, ?_, H.size, g2, g3, ⟨⟨(sh, rf, mem), ad, h, hx, hn, hP.kept (fun k q hk => ?_), hD, hg⟩, ⟨?_, fun q q1 q2 => ?_⟩, ce, g6, g8, by rw [g7]; exact hfX, by rw [g7]; exact g9⟩, locs, ⟨⟨_, rfl⟩, g4, g5.mono (by omega) (by omega)⟩, hS.2.2⟩
  · rcases hd2 with ⟨hd2, rfl⟩ | ⟨hd2, rfl⟩
    · exact X.ldcString h1 h7 hstr hev (g := F0 m (pc + 3 + 1) ls [.ref H.size, .ref H.size]) rfl (by rw [h2]; exact hd2) U g1
    · exact X.ldcStringW h1 h7 hstr hev (g := F0 m (pc + 3 + 1) ls [.ref H.size, .ref H.size]) rfl (by rw [h2]; exact hd2) U g1
  · have hlt := (hP k q hk).lt
    rw [g11 q.1 (Nat.ne_of_lt hlt), hT, o1 q.1 hlt]
  · have := hS.1
    rw [g10, hT, z1]; omega
  · have := hS.1
    rw [g11 q (Nat.ne_of_lt (Nat.lt_of_lt_of_le q1 hS.1)), hT, o1 q (Nat.lt_of_lt_of_le q1 hS.1)]
    exact hS.2.1 q q1 q2
end YR
section YC
variable {p : Program} {l : Launch} {e : Env} {R : Room} {s : State} {m : MethodId} {args : Array Value} {below : List Frame} {meth : Method} {c : Code} {T : State} {locs : List Loc} {cells slots : Nat}
theorem y_callV {own C : String} {index : Nat} {y : MethodName} {bytes : ByteArray} {maxL : Nat} {ret : Option FieldType} {ws : List Cond} {rm : Room} {Pc : Array Value → State → Prop} {Qc : State → Addr → State → Prop} {mc ms : Nat} {free : Nat → Prop}
    (X : Stand p l e R s m args below meth c T locs cells slots) (hexec : p.tables.exec = Jvm.exec) (hM : y_Met l y ws rm Pc Qc mc ms free) (hblind : FrameBlind Pc) (hrc : rm.cells = mc) (hrs : rm.slots = ms)
    (hframes : rm.frames + 1 ≤ R.frames) (hlocals : 8 + (maxL + 11) + rm.locals ≤ R.locals) (hws : ∀ w ∈ ws, ∀ (a' : Array Value) (U : State), s.WarmedH U.vm → w.before a' U = true) (hcw : Cond.code y bytes maxL ret ∈ ws) (hini : (Cond.initialized y.cls).before args s = true)
    (hown : s.vm.findClass own = some m.cls) (hlink : (Cond.methodLink own index y).before args s = true) (hinst : (Cond.instanceMethod y).before args s = true) (hsel : (Cond.selects C y y).before args s = true)
    (hcode : (Cond.code y bytes maxL ret).before args s = true) (hy : y.cls ≠ "java/lang/invoke/MethodHandle" ∧ y.cls ≠ "java/lang/invoke/VarHandle")
    {b : Addr} {cellB : Cell} (hcell : T.heap[b]? = some cellB) (hobj : cellB.vm.isStatics = false) (hcls : s.vm.findClass C = some cellB.cls)
    {g : JFrame} (hg : g.method = m) (hsize : g.locals.size = c.maxLocals) {argsL rest : List Value} (hlen : ∀ sig, parseMethodDescriptor y.desc = some sig → argsL.length = sig.parameters.length)
    (hstack : g.stack = argsL.reverse ++ .ref b :: rest) (hW : 2 * g.monitorRoom + (rest.map fun v => v.category).sum ≤ 8) (hdg : decode c.code g.pc = .ok (.invokevirtual index, 3))
    (hcells : cells + mc ≤ R.cells) (hslots : slots + ms ≤ R.slots) (hpre : ∀ vm₁, s.WarmedH vm₁ → Pc (Value.ref b :: argsL).toArray (T.setVm vm₁)) :
    ∃ (v : Addr) (vm₁ : Vm) (g' : JFrame) (mk : MethodId) (t U' : State) (L : List Loc), s.WarmedH vm₁ ∧ Stand p l e R s m args below meth c U' (locs ++ L) (cells + mc) (slots + ms) ∧ U'.heap = t.heap ∧ Qc ((T.setVm vm₁).calling g' mk (Value.ref b :: argsL).toArray) v t ∧ (∀ q ∈ L, free q.base) ∧
      Steps p.tables e below (T.setTop g) ((U'.setTop { g with stack := rest }).pushFrame (.throwing v)) := by
  obtain ⟨mk, methM, hnamed, hmethM, hstM, habM⟩ := Cond.instanceMethod_spec hinst
  obtain ⟨methM', cM, hmethM', hcM, -, hlM, -, -, -, hsigM⟩ := Cond.code_spec hnamed hcode
  cases hmethM.symm.trans hmethM'
  obtain ⟨c2, r2, m2, q1, q2, q3, q4, kP, hkP, hkPi⟩ := Cond.selects_spec hsel
  cases hcls.symm.trans q1
  cases (State.methodFound?_of_named hnamed hy).symm.trans q2
  cases hnamed.symm.trans q3
  have hselP : selectMethod e.platform s.vm cellB.cls mk = .method mk := by rw [Launch.admits_selectMethod X.admits]; exact q4
  obtain ⟨vm₁, X₁, hstep₁⟩ := X.invokevirtual hexec hown hlink hnamed hmethM hstM hkP hkPi hy (a := b) (cell := cellB) hcell
    (fun z h => by rw [h] at hobj; cases hobj) hselP hmethM habM hkP hkPi (g := g) hg (argsL := argsL) (rest := rest) (hlen _ hsigM) hstack hdg
  have hW₁ : s.WarmedH vm₁ := X₁.warmed
  have hn₁ := X₁.named hnamed
  have hiniU : (Cond.initialized y.cls).before (Value.ref b :: argsL).toArray (T.setVm vm₁) = true := word_at hW₁ (Or.inl (by first | rfl | simp [Cond.onTables, Cond.keeps, Cond.steady])) hini
  have hcodeU : (Cond.code y bytes maxL ret).before (Value.ref b :: argsL).toArray (T.setVm vm₁) = true := hws _ hcw _ _ hW₁
  obtain ⟨methU, cU, hmU, hcU, -, hlU, -, -, -, -⟩ := Cond.code_spec hn₁ hcodeU
  obtain ⟨kY, hkY, -⟩ := className_of_methodNamed hn₁
  have hinitY : kY.init = .initialized := Cond.initialized_spec (findClass_of_methodNamed hn₁) hkY hiniU
  generalize hg2 : ({ g with stack := rest } : JFrame) = g2 at hstep₁
  have k1 : g2.method = m := by rw [← hg2]; exact hg
  have k2 : g2.locals.size = c.maxLocals := by rw [← hg2]; exact hsize
  have k3 : decode c.code g2.pc = .ok (.invokevirtual index, 3) := by rw [← hg2]; exact hdg
  have k4 : 2 * g2.monitorRoom + (g2.stack.map fun v => v.category).sum ≤ 8 := by rw [← hg2]; exact hW
  have hP := hblind _ _ g2 mk (hpre vm₁ hW₁)
  generalize hU : T.setVm vm₁ = U at X₁ hstep₁ hn₁ hiniU hcodeU hmU hkY hP
  generalize hav : (Value.ref b :: argsL).toArray = av at hstep₁ hiniU hcodeU hP
  have h : At U g2.method c below := by rw [k1]; exact X₁.here
  have happ : (headSpec ws rm).appliesLoose y e.platform (U.calling g2 mk av) = true :=
    Spec.appliesLoose_calling (g := g2) h k3 hn₁ hkY hinitY
      (X₁.room_calling (g := g2) (R' := (headSpec ws rm).room) k2 hmU hcU hframes (by rw [hlU]; show _ + (maxL + 11) + rm.locals ≤ R.locals; omega) (by show cells + rm.cells ≤ R.cells; omega) (by show slots + rm.slots ≤ R.slots; omega)) (atoms_intro fun w hw => hws w hw _ _ X₁.warmed)
  obtain ⟨mid, hmid⟩ := h.above
  have hfr : (U.setTop g2).frames = (.java g2 :: mid) ++ below := by rw [State.frames_setTop' g2 h.top, hmid]; rfl
  obtain ⟨o, t, hsteps, -, hend, hqq⟩ := Steps.callFree hM p X.admits X.cas X.clock (acts := []) hfr happ hP trivial
  have hq2 : (∃ x, o = .threw x ∧ Qc (U.calling g2 mk av) x t) ∧ ∃ L, y_FE (U.calling g2 mk av) o t L mc ms ∧ ∀ q ∈ L, free q.base := hqq
  obtain ⟨⟨v, rfl, hq⟩, L, hfe, hL⟩ := hq2
  rw [State.frames_setTop' g2 h.top] at hend
  obtain ⟨-, hW₂, e2, f2, f3, f4, f5, f6⟩ := hfe
  have hW' : U.WarmedH t.vm := hW₂
  have ht : t = ({ (U.calling g2 mk av).setFrames t.frames with heap := t.heap, slotsUsed := t.slotsUsed } : State).setVm t.vm := by
    have : t = ({ t with vm := (U.calling g2 mk av).vm } : State).setVm t.vm := rfl
    rw [e2] at this
    exact this
  have hft : t.frames = .throwing v :: .java g2 :: U.frames.tail := hend
  obtain ⟨g₀, hg0⟩ := Option.isSome_iff_exists.mp h.top
  obtain ⟨r, hr⟩ := State.topJava?_eq_some.mp hg0
  have ht2 : t = ((({ U with heap := t.heap, slotsUsed := t.slotsUsed } : State).setVm t.vm).setTop g2).pushFrame (.throwing v) := by
    have hr' : (({ U with heap := t.heap, slotsUsed := t.slotsUsed } : State).setVm t.vm).frames = .java g₀ :: r := hr
    refine ht.trans ?_
    rw [hft, State.calling_eq h.top, State.setFrames_setFrames, State.pushFrame, State.frames_setTop _ hr', State.setTop_of_frames _ hr', State.setFrames_setFrames, hr]
    rfl
  have hsame : U.sameButNew ({ U with heap := t.heap, slotsUsed := t.slotsUsed } : State) L mc ms := by
    refine ⟨?_, f2, f3, f4, f5, f6⟩
    obtain ⟨w, hw, -⟩ := State.frames_cons hr
    show ({ U with heap := t.heap, slotsUsed := t.slotsUsed } : State) = { U.setFrames U.frames with heap := t.heap, slotsUsed := t.slotsUsed }
    rw [State.setFrames_self hw]
  refine ⟨v, vm₁, g2, mk, t, (({ U with heap := t.heap, slotsUsed := t.slotsUsed } : State).setVm t.vm), L, hW₁,
    ⟨X.admits, X.cas, X.clock, X.frames, X.room, X.hears, X.method, X.code, (X₁.here.setHeapUsed t.heap t.slotsUsed).setVm hW'.alike, X₁.tail, State.WarmedH.trans X₁.warmed hW', X₁.limits, X₁.bytes, X₁.same.trans (hsame.setVm s.vm)⟩, rfl, ?_, hL, hstep₁ _ fun acts => ?_⟩
  · subst hU; subst hav; exact hq
  · rw [doInvoke_state]
    first | (rw [← ht2]; exact hsteps) | (rw [hg2, ← ht2]; exact hsteps)
/-- the search of a table of one entry, whose class may not be resolved yet -/
theorem y_find {s : State} {f : JFrame} {a : Addr} {c : ClassId} {cell : Cell} {meth : Method} {cd : Code} {x : ExceptionTableEntry} (hm : s.vm.method? f.method = some meth) (hc : meth.code = some cd) (htab : cd.exceptionTable.toList = [x]) (hx : covers x f.pc = true) (h0 : x.catchType ≠ 0)
    (hl : s.vm.ClassLinks e.platform f.method.cls x.catchType c) (hcell : s.heap[a]? = some cell) (hobj : ∀ k, cell.vm ≠ .statics k) (hk : ∃ k, s.vm.classes[cell.cls]? = some k) (hcl : ∃ k, s.vm.classes[c]? = some k) (hfit : s.vm.assignable cell.cls c = true)
    (Q : Handler → Pre) (E : CtlPost) (d : Bool) (acts : List Action) : wp (findHandler f a) Q E e d acts s ↔ Q (.found x.handlerPc) d acts (s.setVm (s.vm.noted f.method.cls x.catchType (.cls c))) := by
  rw [W.findHandler_eq hm hc, htab]
  simp only [covers] at hx
  obtain ⟨ha, ht⟩ := (resolveClass_links e.toSetting hl).op (op := VmOp.resolveClass f.method.cls x.catchType) rfl
  have hal : s.vm.Alike (s.vm.noted f.method.cls x.catchType (.cls c)) := (Vm.Alike.refl s.vm).noted _ _ _
  obtain ⟨k1, hk1⟩ := hk
  obtain ⟨k2, hk2⟩ := hcl
  obtain ⟨k1', hk1', -⟩ := hal.2.2 _ _ hk1
  obtain ⟨k2', hk2', -⟩ := hal.2.2 _ _ hk2
  have hfit' : (s.vm.noted f.method.cls x.catchType (.cls c)).assignable cell.cls c = true := by rw [hal.assignable]; exact hfit
  simp [findHandler.go, hx, h0, ha, ht, hcell, hobj, hk1', hk2', hfit', VmOp.dirties, VmOp.acts]
theorem y_caught (X : Stand p l e R s m args below meth c T locs cells slots) (a : Addr) {g : JFrame} (hg : g.method = m) {own name : String} (hown : s.vm.findClass own = some m.cls) (x : ExceptionTableEntry) (htab : c.exceptionTable.toList = [x]) (hx : covers x g.pc = true) (h0 : x.catchType ≠ 0)
    (hlink : (Cond.classLink own x.catchType name).before args s = true) {cT : ClassId} {cell : Cell} (hcT : s.vm.findClass name = some cT) (hcell : T.heap[a]? = some cell) (hobj : cell.vm.isStatics = false) (hfit : s.vm.assignable cell.cls cT = true) :
    ∃ vm', Stand p l e R s m args below meth c (T.setVm vm') locs cells slots ∧
      ∀ target, Steps p.tables e below ((T.setVm vm').setTop { g with pc := x.handlerPc, stack := [.ref a] }) target → Steps p.tables e below ((T.setTop g).pushFrame (.throwing a)) target := by
  have hpl : e.platform.magicAccessors = ({} : Platform).magicAccessors := by rw [X.admits.platform]
  obtain ⟨c', hc', hcl⟩ := Cond.classLink_spec hown hlink e.platform hpl
  cases hcT.symm.trans hc'
  obtain ⟨dk, _, _, kt, hd, _, _, _, _, hkt, _, hopen⟩ := hcl.here
  have hcl₀ := X.warmed.classLinks hcl
  have hW' : s.WarmedH (T.vm.noted m.cls x.catchType (.cls cT)) := X.warmed.noted hd hopen (State.rightAt_cls hcl)
  have hal := X.warmed.alike
  obtain ⟨kt', hkt', -⟩ := hal.2.2 _ _ hkt
  have hfit' : T.vm.assignable cell.cls cT = true := by rw [hal.assignable]; exact hfit
  refine ⟨_, X.noted hW', fun target hrest => ?_⟩
  subst hg
  have hfind : ∀ (Q : Handler → Pre) (E : CtlPost) (d : Bool) (acts : List Action), wp (findHandler g a) Q E e d acts ((T.setTop g).pushFrame (.throwing a)) ↔ Q (.found x.handlerPc) d acts (((T.setTop g).pushFrame (.throwing a)).setVm (T.vm.noted g.method.cls x.catchType (.cls cT))) := y_find (e := e) (s := (T.setTop g).pushFrame (.throwing a)) (f := g) (a := a) (c := cT) (cell := cell) (meth := meth) (cd := c) X.method' X.code htab hx h0 hcl₀ hcell (VmData.ne_statics_of hobj) (Vm.classAt_of_assignable hfit' ⟨kt', hkt'⟩) ⟨kt', hkt'⟩ hfit'
  have hstep : ∀ r : List Frame, (stepThrowing e ((T.setTop g).pushFrame (.throwing a)) a (.java g :: r)).Is ((((T.setTop g).pushFrame (.throwing a)).setVm (T.vm.noted g.method.cls x.catchType (.cls cT))).setFrames (.java { g with pc := x.handlerPc, stack := [.ref a] } :: r)) [] := by
    intro r
    simp only [stepThrowing, searchFrame, vmDo]
    generalize hr : Sem.go _ e false [] ((T.setTop g).pushFrame (.throwing a)) = res
    obtain ⟨as, rfl, ha⟩ := Sem.eq_ok_of hr (a := Handler.found x.handlerPc) (s' := ((T.setTop g).pushFrame (.throwing a)).setVm (T.vm.noted g.method.cls x.catchType (.cls cT))) (acts' := []) (by simp [hfind])
    exact ⟨rfl, ha⟩
  have h := X.here
  obtain ⟨hgo, hw⟩ := h.throwing (g := g) a
  refine Steps.head hgo hw ?_
  rw [stepThread_throwing (frames_entered h.top _), (hstep _).1]
  obtain ⟨g₀, hg0⟩ := Option.isSome_iff_exists.mp h.top
  obtain ⟨r, hr⟩ := State.topJava?_eq_some.mp hg0
  have hr' : (T.setVm (T.vm.noted g.method.cls x.catchType (.cls cT))).frames = .java g₀ :: r := hr
  have hvF : ∀ (u : State) (v : Vm) (F G : List Frame), ((u.setFrames F).setVm v).setFrames G = (u.setVm v).setFrames G := fun u v F G => by
    have h1 : (u.setFrames F).setVm v = (u.setVm v).setFrames F := rfl
    rw [h1, State.setFrames_setFrames]
  rw [State.setTop_of_frames _ hr'] at hrest
  rw [hr, List.tail_cons, State.pushFrame, hvF, State.setTop_of_frames _ hr, hvF]
  exact hrest
end YC
/-- a local that nobody reads may hold anything -/
theorem q_L.drop {ad : Nat → Nat} {n nL i : Nat} {L : List qv} {ls ls' : Array Slot} {w : Value} (h : q_L ad n L nL ls) (hi : L[i]? = some (4, 0)) (hp : ∀ w, L[i - 1]? = some w → i ≠ 0 → w.1 ≠ 1)
    (h' : lv_has ls' nL ((i, w) :: (q_lv ad L).filter (fun q => !(q.1 == i) && !(q.1 + 1 == i && q.2.category == 2)))) : q_L ad n L nL ls' := by
  refine ⟨q_lv_mono h' (fun q hq => ?_), h.2⟩
  obtain ⟨j, w⟩ := q
  obtain ⟨u, h1, h2, rfl⟩ := q_lv_mem.mp hq
  by_cases hj : j = i
  · subst hj
    rw [hi] at h1
    cases h1
    simp at h2
  · refine List.mem_cons_of_mem _ (List.mem_filter.mpr ⟨q_lv_mem.mpr ⟨u, h1, h2, rfl⟩, ?_⟩)
    by_cases hj2 : j + 1 = i
    · have := hp u (by rw [← hj2]; exact h1) (by omega)
      rw [q_cat]
      simp [hj, this]
    · simp [hj, hj2]
def z_G (hh : List (Nat × Nat × Nat × Nat)) (_ : Program) (l : Launch) (_ : Env) (s : State) (_ : MethodId) (c : Code) (A : Nat → Prop) : Prop :=
  l.stackTraces = false ∧ c.exceptionTable.toList.map (fun h => (h.startPc, h.endPc, h.handlerPc, h.catchType)) = hh ∧ y_Y A s s.heap
section YD
variable {y : MethodName} {cc : ByteArray} {nL : Nat} {rt : Option FieldType} {d kc ks : Nat} {K : qF} {pc : Nat} {L st : List qv} {sh : List (Nat × Nat)} {rf mem : qm}
variable {y' : MethodName} {cc' : ByteArray} {nL' : Nat} {rt' : Option FieldType} {d' kc' ks' : Nat} {KT : qh → Prop} {index : Nat}
theorem q_catch {c : Int} {ci n i len s0 s1 hp ct : Nat} {T : u_T} {N : Nat} (as : List qv) (hE : q_EvT y' cc' nL' rt' d' kc' ks' ((2, c) :: as) (sh, rf, mem) KT) (hM : q_MV y' cc' nL' rt' n) (hd : decode cc pc = .ok (.invokevirtual index, 3)) (hw : Cond.methodLink y.cls index y' ∈ q_TB) (hcl : q_cl[ci]? = some (y'.cls, T, N)) (hs : sh[c.toNat]? = some (ci + 5, N)) (hn' : as.length = n) (hdd : d' < d) (hnl : nL' ≤ 21) (hsum : (st.map (fun v => if v.1 = 1 then 2 else 1)).sum ≤ 8)
    (hcov : s0 ≤ pc ∧ pc < s1) (hct : ct ≠ 0) (hlk : Cond.classLink y.cls ct NSE ∈ q_TB) (hda : (decode cc hp = .ok (.astore i, 2) ∧ len = 2) ∨ ((∃ j : Fin 4, decode cc hp = .ok (.astore_n j, 1) ∧ (j : Nat) = i) ∧ len = 1)) (hi : i < nL) (hLi : L[i]? = some (4, 0)) (hLp : ∀ w, L[i - 1]? = some w → i ≠ 0 → w.1 ≠ 1)
    (hk : ∀ σ : qh, KT σ → sh.length ≤ σ.1.length → q_AtG y cc nL rt d kc ks (z_G [(s0, s1, hp, ct)]) K (hp + len) L [] σ) : q_AtG y cc nL rt d (kc + kc') (ks + ks') (z_G [(s0, s1, hp, ct)]) K pc L (as.reverse ++ (2, c) :: st) (sh, rf, mem) := by
  intro p l e s m args below meth c0 H locs cells slots mc ms D cid ad0 ad n0 A ls C R hA hx hn hL hst hcz hsz HE
  obtain ⟨h1, h2, h3, h4, h5, h6, h7, h8⟩ := id C
  obtain ⟨hK, hP, hD, hS, hg, hX, hZ⟩ := id R
  obtain ⟨htr, hex, hY⟩ := id HE
  obtain ⟨m1, m2, m3, m4, m5, m6, m7⟩ := hM
  have hst2 : ∀ v ∈ (2, c) :: st, qok sh.length v := fun v hv => hst v (List.mem_append_right _ hv)
  have hc0 := hst2 _ List.mem_cons_self
  have has : ∀ v ∈ (2, c) :: as, qok sh.length v := List.forall_mem_cons.mpr ⟨hc0, fun v hv => hst v (List.mem_append_left _ (List.mem_reverse.mpr hv))⟩
  have hMet := hE l htr D cid ad H.size hg has
  have cw : CallB (q_rm d mc ms) s args y.cls index y' cc' nL' rt' (.code y' cc' nL' rt' :: q_TB) (q_rm d' kc' ks') kc' ks' n :=
    callB_of n h8 (q_goodIn m4) rfl rfl rfl (h8 _ m3) (h8 _ hw) ⟨m5, m6, m7⟩ ⟨by show d' + 1 ≤ d; omega, by show 8 + (nL' + 11) + 40 * d' ≤ 40 * d; omega⟩
  obtain ⟨hrc, hrs, hfr, hlo, hws, hcw, hcode, hini, hyy, hlen, hl⟩ := cw
  obtain ⟨x, hx1, hx2⟩ := List.map_eq_singleton_iff.mp hex
  simp only [Prod.mk.injEq] at hx2
  obtain ⟨x1, x2, x3, x4⟩ := hx2
  intro T0 hT X
  obtain ⟨cellB, hcB, hoB, hclB⟩ := va_recv hK hP hcl (q_ws_at (cid := cid) (ad := ad) (rf := rf) (mem := mem) hs)
  obtain ⟨v, vm₁, g', mk, t, U', Lx, hW₁, X', e1, hq, hLx, st1⟩ := y_callV X h1 hMet y_Pc_blind hrc hrs hfr hlo hws hcw hini (C := y'.cls) (bytes := cc') (maxL := nL') (ret := rt') h7 hl (h8 _ m1) (h8 _ m2) hcode hyy (b := ad c.toNat) (by rw [hT]; exact hcB) hoB hclB
    (g := F0 m pc ls ((as.reverse ++ (2, c) :: st).map (qe ad))) rfl (hL.1.1.trans h3.symm) (argsL := as.map (qe ad)) (rest := st.map (qe ad)) (fun sig hh => by rw [List.length_map]; exact hn'.trans (hlen sig hh)) (by simp [qe]) (lv_room (by rw [q_sumcat]; exact hsum)) (by rw [h2]; exact hd) (by show cells + kc' ≤ mc; omega) (by show slots + ks' ≤ ms; omega)
    (fun vm₁ hW₁ => ⟨⟨rfl, by show T0.heap.size = H.size; rw [hT], va_K.moved hW₁.alike hK, by show va_P D q_cl _ T0.heap; rw [hT]; exact hP, hD.self, hX.warm hW₁, by show q_Z _ _ T0.heap; rw [hT]; exact ((hZ.kept hS.2.1).narrow (q_A1 hD hS hA)).moved hW₁.alike⟩, by show y_Y _ _ T0.heap; rw [hT]; exact ((hY.kept hS.2.1).narrow (q_A1 hD hS hA)).warm hW₁⟩)
  obtain ⟨⟨σ, ad', k1, k4, k5, k6, k7, k8⟩, ⟨hz, hkp⟩, ce, hce, hcev, hcef, hcea⟩ := hq
  have hz' : H.size ≤ t.heap.size := by rw [← hT]; exact hz
  have hkp' : ∀ q : Nat, q < H.size → ¬ va_A (q_ws cid ad (sh, rf, mem)) H.size q → t.heap[q]? = H[q]? := fun q a1 a2 => by
    rw [← hT] at a1 ⊢
    exact hkp q a1 a2
  have hcT : s.vm.findClass NSE = some ce.cls := by rw [← hW₁.alike.findClass]; exact hcef
  have hfit : s.vm.assignable ce.cls ce.cls = true := by rw [← hW₁.alike.assignable]; exact hcea
  obtain ⟨vm2, X2, st2⟩ := y_caught X' v (g := F0 m pc ls (st.map (qe ad))) rfl h7 x hx1 (by simp [covers, x1, x2, hcov.1, hcov.2]) (by rw [x4]; exact hct) (by rw [x4]; exact h8 _ hlk) hcT (by rw [e1]; exact hce) (by rw [hcev]; rfl) hfit
  have hA1 := q_A1 hD hS hA
  have hS' : va_S A s.heap U'.heap (locs ++ Lx) := ⟨Nat.le_trans hS.1 (by rw [e1]; exact hz'), fun q g1 g2 => by rw [e1, hkp' q (Nat.lt_of_lt_of_le g1 hS.1) (fun z => g2 (hA1 q z))]; exact hS.2.1 q g1 g2, fun q hq => by
      rcases List.mem_append.mp hq with h | h
      · exact hS.2.2 q h
      · exact hA1 _ (hLx q h)⟩
  have kk : ∀ ls' : Array Slot, lv_has ls' nL ((i, .ref v) :: (q_lv ad' L).filter (fun q => !(q.1 == i) && !(q.1 + 1 == i && q.2.category == 2))) → W p l e (q_rm d mc ms) s m args below meth c0 U'.heap (locs ++ Lx) (cells + kc') (slots + ks') (K below args s mc ms D cid ad0 n0 A) (F0 m (hp + len) ls' []) := fun ls' hl' =>
    hk σ k1 k5 p l e s m args below meth c0 U'.heap (locs ++ Lx) (cells + kc') (slots + ks') mc ms D cid ad0 ad' n0 A ls' C ⟨hK, by rw [e1]; exact k6, k7.weaken (fun _ q _ h => hA1 q.1 h), hS', k8, hX, hZ⟩ hA (fun k hk' => (k4 k (Nat.lt_of_lt_of_le hk' hn)).trans (hx k hk')) (Nat.le_trans hn k5) ((hL.ext k4 k5).drop hLi hLp hl') (fun v hv => by cases hv) (by omega) (by omega) HE
  have hL' := hL.ext (ad' := ad') k4 k5
  have W0 : W p l e (q_rm d mc ms) s m args below meth c0 U'.heap (locs ++ Lx) (cells + kc') (slots + ks') (K below args s mc ms D cid ad0 n0 A) (F0 m hp ls [.ref v]) := by
    rcases hda with ⟨hda, rfl⟩ | ⟨⟨j, hda, hj⟩, rfl⟩
    · exact lv_astore h1 h2 hda hL'.1 hi rfl kk
    · exact lv_astore_n h1 h2 hda hj hL'.1 hi rfl kk
  obtain ⟨t2, a1, b1⟩ := W0 (U'.setVm vm2) rfl X2
  refine ⟨t2, st1.trans (st2 t2 ?_), b1⟩
  rw [x3]
  exact a1
end YD
