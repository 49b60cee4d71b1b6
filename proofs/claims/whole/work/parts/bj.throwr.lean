/-! ===== the rules: a throw, a call that throws and is caught, a call of a method that catches ===== -/
section YR
variable {y : MethodName} {cc : ByteArray} {nL : Nat} {rt : Option FieldType} {d kc ks : Nat} {G : Program → Launch → Env → State → MethodId → Code → (Nat → Prop) → Prop} {pc : Nat} {L st : List qv} {sh : List (Nat × Nat)} {rf mem : qm}
theorem q_thr {KT : qh → Prop} {ix len : Nat} (hcl : y.cls = RX11) (hd0 : decode cc pc = .ok (.new 135, 3)) (hd1 : decode cc (pc + 3) = .ok (.dup, 1)) (hd2 : (decode cc (pc + 3 + 1) = .ok (.ldc ix, 2) ∧ len = 2) ∨ (decode cc (pc + 3 + 1) = .ok (.ldc_w ix, 3) ∧ len = 3)) (hd3 : decode cc (pc + 3 + 1 + len) = .ok (.invokespecial 139, 3)) (hd4 : decode cc (pc + 3 + 1 + len + 3) = .ok (.athrow, 1)) (hix : ix = 137 ∨ ix = 167 ∨ ix = 417) (hd : 6 ≤ d) (h : KT (sh, rf, mem)) : q_AtG y cc nL rt d 1 6 y_G (y_KT KT) pc L [] (sh, rf, mem) := by
  intro p l e s m args below meth c H locs cells slots mc ms D cid ad0 ad n0 A ls C R hA hx hn hL hst hc hs HE
  obtain ⟨h1, h2, h3, h4, h5, h6, h7, h8⟩ := id C
  obtain ⟨hK, hP, hD, hS, hg, hX, hZ⟩ := id R
  obtain ⟨htr, hex, hY, hno⟩ := HE
  rw [hcl] at h7
  have w5 := hY.all h8 y_rest yw_rest
  obtain ⟨cX, kX, hfX, hkX, -⟩ := Cond.instantiable_spec (w5 (.instantiable NSE 6) (List.mem_of_getElem? (i := 1) rfl))
  obtain ⟨ma, hstr, hev⟩ : ∃ (ma : Nat), (∃ tx, (Cond.stringRef RX11 ix tx).before args s = true) ∧ (Term.string RX11 ix).eval args s none [] s = some (.ref ma) := by
    obtain ⟨-, ⟨a2, g2⟩, ⟨a3, g3⟩, ⟨a4, g4⟩, -⟩ := hY
    rcases hix with rfl | rfl | rfl
    · exact ⟨a2, ⟨_, g2.1⟩, g2.2⟩
    · exact ⟨a3, ⟨_, g3.1⟩, g3.2⟩
    · exact ⟨a4, ⟨_, g4.1⟩, g4.2⟩
  obtain ⟨tx, hstr⟩ := hstr
  refine W.newcK h1 h2 h7 (w5 (.classLink RX11 135 NSE) (List.mem_of_getElem? (i := 12) rfl)) (w5 (.instantiable NSE 6) (List.mem_of_getElem? (i := 1) rfl)) (w5 (.initialized NSE) (List.mem_of_getElem? (i := 13) rfl)) rfl hd0 (by show cells + 1 ≤ mc; omega) (by show slots + 6 ≤ ms; omega) hfX rfl fun H1 kC hkC e1 z1 o1 => ?_
  refine lv_dup h1 h2 hd1 rfl ?_
  intro T hT X
  have key := y_throw X h1 (by rw [X.admits.platform]; exact htr) h7 (hY.all h8 _ yw_thr) (hY.all h8 _ yw_thS) (hY.all h8 _ yw_p1) (hY.all h8 _ yw_p2) w5 hY.2.2.2.2.1.isRef hY.2.2.2.2.2.isRef (fun x hx' => hno _ (hS.2.2 x hx')) hfX hkC (by rw [hT]; exact e1) hS.1 (msg := .ref ma) rfl
    (g := F0 m (pc + 3 + 1 + len) ls (.ref ma :: .ref H.size :: .ref H.size :: [])) rfl (hL.1.1.trans h3.symm) rfl rfl rfl (by rw [h2]; exact hd3) (by rw [h2]; exact hd4) (fun x hx' => by rw [hex] at hx'; cases hx') (by show 5 < d; omega)
    (by
      have := lv_room (m := m) (pc := pc + 3 + 1 + len) (ls := ls) (rest := (.ref ma :: .ref H.size :: .ref H.size :: [])) (st := [.ref H.size]) (by simp [Value.category])
      show _ + 81 ≤ 40 * d
      omega) h5
  obtain ⟨U, ce, g1, g2, g3, g4, g5, g6, g7, g8, g9, g10, g11⟩ := key
  refine ⟨U, ?_, H.size, g2, g3, ⟨⟨(sh, rf, mem), ad, h, hx, hn, hP.kept (fun k q hk => ?_), hD, hg⟩, ⟨?_, fun q q1 q2 => ?_⟩, ce, g6, g8, by rw [g7]; exact hfX, by rw [g7]; exact g9⟩, locs, ⟨⟨_, rfl⟩, g4, g5.mono (by omega) (by omega)⟩, hS.2.2⟩
  · rcases hd2 with ⟨hd2, rfl⟩ | ⟨hd2, rfl⟩
    · exact X.ldcString h1 h7 hstr hev (g := F0 m (pc + 3 + 1) ls [.ref H.size, .ref H.size]) rfl (by rw [h2]; exact hd2) U g1
    · exact X.ldcStringW h1 h7 hstr hev (g := F0 m (pc + 3 + 1) ls [.ref H.size, .ref H.size]) rfl (by rw [h2]; exact hd2) U g1
  · have hlt := (hP k q hk).lt
    rw [g11 q.1 (Nat.ne_of_lt hlt), hT, o1 q.1 hlt]
  · have := hS.1
    rw [g10, hT, z1]; omega
  · have := hS.1
    rw [g11 q (Nat.ne_of_lt (Nat.lt_of_lt_of_le q1 hS.1)), hT, o1 q (Nat.lt_of_lt_of_le q1 hS.1)]
    exact hS.2.1 q q1 q2
end YR
section YC
variable {p : Program} {l : Launch} {e : Env} {R : Room} {s : State} {m : MethodId} {args : Array Value} {below : List Frame} {meth : Method} {c : Code} {T : State} {locs : List Loc} {cells slots : Nat}
def y_Post (Qc : State → Addr → State → Prop) (mc ms : Nat) (free : Nat → Prop) : Pt → Array Value → Addr → Pt → Prop := fun A a v B =>
  ∃ (g : JFrame) (mk : MethodId) (t : State) (L : List Loc), B.U.heap = t.heap ∧ B.U.vm = t.vm ∧ Qc (A.U.calling g mk a) v t ∧ B.locs = A.locs ++ L ∧ (∀ q ∈ L, free q.base) ∧ B.cells = A.cells + mc ∧ B.slots = A.slots + ms
theorem y_backT {y : MethodName} {len W : Nat} {ws : List Cond} {rm : Room} {Pc : Array Value → State → Prop} {Qc : State → Addr → State → Prop} {mc ms : Nat} {free : Nat → Prop} {bytes : ByteArray} {maxL : Nat} {ret : Option FieldType}
    (hM : y_Met l y ws rm Pc Qc mc ms free) (hblind : FrameBlind Pc) (hrc : rm.cells = mc) (hrs : rm.slots = ms)
    (hframes : rm.frames + 1 ≤ R.frames) (hlocals : W + (maxL + 11) + rm.locals ≤ R.locals)
    (hws : ∀ w ∈ ws, ∀ (a' : Array Value) (U : State), s.WarmedH U.vm → w.before a' U = true) (hcode : Cond.code y bytes maxL ret ∈ ws) (hinit : ∀ (a' : Array Value) (U : State), s.WarmedH U.vm → (Cond.initialized y.cls).before a' U = true) :
    BackT l R p e below s args y len W (PreOf R mc ms Pc) (y_Post Qc mc ms free) := by
  refine BackT.of_free (S := headSpec ws rm) (P := Pc) (K := fun _ _ _ _ _ => True) (Q := fun _ st o t => (∃ x, o = .threw x ∧ Qc st x t) ∧ ∃ L, FrameEndT st o t L mc ms ∧ ∀ q ∈ L, free q.base) (bytes := bytes) (maxL := maxL) (ret := ret)
    (E := fun _ _ _ _ L k n => k = mc ∧ n = ms ∧ ∀ q ∈ L, free q.base) hM hframes hlocals ?_ ?_ (fun _ _ _ _ _ _ _ _ _ => trivial) ?_ ?_
  · intro m meth c A a X hp
    exact ⟨atoms_intro fun w hw => hws w hw _ _ X.warmed, hws _ hcode _ _ X.warmed, hinit _ _ X.warmed, by rw [show (headSpec ws rm).room.cells = mc from hrc]; exact hp.1, by rw [show (headSpec ws rm).room.slots = ms from hrs]; exact hp.2.1⟩
  · intro m meth c A a g mk X hp
    exact hblind _ _ _ _ hp.2.2
  · intro a st o t ⟨hq, L, hF, hL⟩
    exact ⟨L, mc, ms, hF, rfl, rfl, hL⟩
  · intro m meth c A a g mk v t L k n X hp hq hF ⟨e1, e2, hL⟩
    subst e1; subst e2
    obtain ⟨⟨x, hx, hq⟩, -⟩ := hq
    cases hx
    exact ⟨g, mk, t, L, rfl, rfl, hq, rfl, hL, rfl, rfl⟩
theorem y_callV (X : Stand p l e R s m args below meth c T locs cells slots) (hexec : p.tables.exec = Jvm.exec) {own C : String} {index : Nat} {y : MethodName} {bytes : ByteArray} {maxL : Nat} {ret : Option FieldType}
    (hown : s.vm.findClass own = some m.cls) (hlink : (Cond.methodLink own index y).before args s = true) (hinst : (Cond.instanceMethod y).before args s = true) (hsel : (Cond.selects C y y).before args s = true)
    (hcode : (Cond.code y bytes maxL ret).before args s = true) (hy : y.cls ≠ "java/lang/invoke/MethodHandle" ∧ y.cls ≠ "java/lang/invoke/VarHandle")
    {W : Nat} {Pre : Pt → Array Value → Prop} {Post : Pt → Array Value → Addr → Pt → Prop} (hK : BackT l R p e below s args y 3 W Pre Post)
    {b : Addr} {cellB : Cell} (hcell : T.heap[b]? = some cellB) (hobj : cellB.vm.isStatics = false) (hcls : s.vm.findClass C = some cellB.cls)
    {g : JFrame} (hg : g.method = m) (hsize : g.locals.size = c.maxLocals) {argsL rest : List Value} (hlen : ∀ sig, parseMethodDescriptor y.desc = some sig → argsL.length = sig.parameters.length)
    (hstack : g.stack = argsL.reverse ++ .ref b :: rest) (hW : 2 * g.monitorRoom + (rest.map fun v => v.category).sum ≤ W) (hdg : decode c.code g.pc = .ok (.invokevirtual index, 3))
    (hpre : ∀ vm₁, s.WarmedH vm₁ → Pre ⟨T.setVm vm₁, locs, cells, slots⟩ (Value.ref b :: argsL).toArray) :
    ∃ (v : Addr) (vm₁ : Vm) (B : Pt), s.WarmedH vm₁ ∧ Stand p l e R s m args below meth c B.U B.locs B.cells B.slots ∧ Post ⟨T.setVm vm₁, locs, cells, slots⟩ (Value.ref b :: argsL).toArray v B ∧
      Steps p.tables e below (T.setTop g) ((B.U.setTop { g with stack := rest }).pushFrame (.throwing v)) := by
  obtain ⟨mk, methM, hnamed, hmethM, hstM, habM⟩ := Cond.instanceMethod_spec hinst
  obtain ⟨methM', cM, hmethM', -, -, -, -, -, -, hsigM⟩ := Cond.code_spec hnamed hcode
  cases hmethM.symm.trans hmethM'
  obtain ⟨c2, r2, m2, q1, q2, q3, q4, kP, hkP, hkPi⟩ := Cond.selects_spec hsel
  cases hcls.symm.trans q1
  cases (State.methodFound?_of_named hnamed hy).symm.trans q2
  cases hnamed.symm.trans q3
  have hselP : selectMethod e.platform s.vm cellB.cls mk = .method mk := by rw [Launch.admits_selectMethod X.admits]; exact q4
  obtain ⟨vm₁, X₁, hstep₁⟩ := X.invokevirtual hexec hown hlink hnamed hmethM hstM hkP hkPi hy (a := b) (cell := cellB) hcell
    (fun z h => by rw [h] at hobj; cases hobj) hselP hmethM habM hkP hkPi (g := g) hg (argsL := argsL) (rest := rest) (hlen _ hsigM) hstack hdg
  obtain ⟨v, B, X', hpost, hsteps⟩ := hK m meth c ⟨T.setVm vm₁, locs, cells, slots⟩ { g with stack := rest } (.invokevirtual index) mk (Value.ref b :: argsL).toArray X₁ hg hsize hdg hW (X₁.named hnamed) (hpre vm₁ X₁.warmed)
  exact ⟨v, vm₁, B, X₁.warmed, X', hpost, hstep₁ _ fun acts => by rw [doInvoke_state]; exact hsteps⟩
end YC
/-- a local that nobody reads may hold anything -/
theorem q_L.drop {ad : Nat → Nat} {n nL i : Nat} {L : List qv} {ls ls' : Array Slot} {w : Value} (h : q_L ad n L nL ls) (hi : L[i]? = some (4, 0)) (hp : ∀ w, L[i - 1]? = some w → i ≠ 0 → w.1 ≠ 1)
    (h' : lv_has ls' nL ((i, w) :: (q_lv ad L).filter (fun q => !(q.1 == i) && !(q.1 + 1 == i && q.2.category == 2)))) : q_L ad n L nL ls' := by
  refine ⟨q_lv_mono h' (fun q hq => ?_), h.2⟩
  obtain ⟨j, w⟩ := q
  obtain ⟨u, h1, h2, rfl⟩ := q_lv_mem.mp hq
  by_cases hj : j = i
  · subst hj
    rw [hi] at h1
    cases h1
    simp at h2
  · refine List.mem_cons_of_mem _ (List.mem_filter.mpr ⟨q_lv_mem.mpr ⟨u, h1, h2, rfl⟩, ?_⟩)
    by_cases hj2 : j + 1 = i
    · have := hp u (by rw [← hj2]; exact h1) (by omega)
      rw [q_cat]
      simp [hj, this]
    · simp [hj, hj2]
def z_G (hh : List (Nat × Nat × Nat × Nat)) (_ : Program) (l : Launch) (_ : Env) (s : State) (_ : MethodId) (c : Code) (A : Nat → Prop) : Prop :=
  l.stackTraces = false ∧ c.exceptionTable.toList.map (fun h => (h.startPc, h.endPc, h.handlerPc, h.catchType)) = hh ∧ y_Y A s s.heap
section YD
variable {y : MethodName} {cc : ByteArray} {nL : Nat} {rt : Option FieldType} {d kc ks : Nat} {K : qF} {pc : Nat} {L st : List qv} {sh : List (Nat × Nat)} {rf mem : qm}
variable {y' : MethodName} {cc' : ByteArray} {nL' : Nat} {rt' : Option FieldType} {d' kc' ks' : Nat} {KT : qh → Prop} {index : Nat}
theorem q_catch {c : Int} {ci n i len s0 s1 hp ct : Nat} {T : u_T} {N : Nat} (as : List qv) (hE : q_EvT y' cc' nL' rt' d' kc' ks' ((2, c) :: as) (sh, rf, mem) KT) (hM : q_MV y' cc' nL' rt' n) (hd : decode cc pc = .ok (.invokevirtual index, 3)) (hw : Cond.methodLink y.cls index y' ∈ q_TB) (hcl : q_cl[ci]? = some (y'.cls, T, N)) (hs : sh[c.toNat]? = some (ci + 5, N)) (hn' : as.length = n) (hdd : d' < d) (hnl : nL' ≤ 21) (hsum : (st.map (fun v => if v.1 = 1 then 2 else 1)).sum ≤ 8)
    (hcov : s0 ≤ pc ∧ pc < s1) (hct : ct ≠ 0) (hlk : Cond.classLink y.cls ct NSE ∈ q_TB) (hda : (decode cc hp = .ok (.astore i, 2) ∧ len = 2) ∨ ((∃ j : Fin 4, decode cc hp = .ok (.astore_n j, 1) ∧ (j : Nat) = i) ∧ len = 1)) (hi : i < nL) (hLi : L[i]? = some (4, 0)) (hLp : ∀ w, L[i - 1]? = some w → i ≠ 0 → w.1 ≠ 1)
    (hk : ∀ σ : qh, KT σ → sh.length ≤ σ.1.length → q_AtG y cc nL rt d kc ks (z_G [(s0, s1, hp, ct)]) K (hp + len) L [] σ) : q_AtG y cc nL rt d (kc + kc') (ks + ks') (z_G [(s0, s1, hp, ct)]) K pc L (as.reverse ++ (2, c) :: st) (sh, rf, mem) := by
  intro p l e s m args below meth c0 H locs cells slots mc ms D cid ad0 ad n0 A ls C R hA hx hn hL hst hcz hsz HE
  obtain ⟨h1, h2, h3, h4, h5, h6, h7, h8⟩ := id C
  obtain ⟨hK, hP, hD, hS, hg, hX, hZ⟩ := id R
  obtain ⟨htr, hex, hY⟩ := id HE
  obtain ⟨m1, m2, m3, m4, m5, m6, m7⟩ := hM
  have hst2 : ∀ v ∈ (2, c) :: st, qok sh.length v := fun v hv => hst v (List.mem_append_right _ hv)
  have hc0 := hst2 _ List.mem_cons_self
  have has : ∀ v ∈ (2, c) :: as, qok sh.length v := List.forall_mem_cons.mpr ⟨hc0, fun v hv => hst v (List.mem_append_left _ (List.mem_reverse.mpr hv))⟩
  have hMet := hE l htr D cid ad H.size hg has
  have cw : CallB (q_rm d mc ms) s args y.cls index y' cc' nL' rt' (.code y' cc' nL' rt' :: q_TB) (q_rm d' kc' ks') kc' ks' n :=
    callB_of n h8 (q_goodIn m4) rfl rfl rfl (h8 _ m3) (h8 _ hw) ⟨m5, m6, m7⟩ ⟨by show d' + 1 ≤ d; omega, by show 8 + (nL' + 11) + 40 * d' ≤ 40 * d; omega⟩
  obtain ⟨hrc, hrs, hfr, hlo, hws, hcw, hcode, hini, hyy, hlen, hl⟩ := cw
  obtain ⟨x, hx1, hx2⟩ := List.map_eq_singleton_iff.mp hex
  simp only [Prod.mk.injEq] at hx2
  obtain ⟨x1, x2, x3, x4⟩ := hx2
  intro T0 hT X
  have hBK : BackT l (q_rm d mc ms) p e below s args y' 3 8 (PreOf (q_rm d mc ms) kc' ks' (y_Pc ((2, c) :: as) (sh, rf, mem) D cid ad H.size)) (y_Post (y_Q KT D cid ad sh.length (va_A (q_ws cid ad (sh, rf, mem)) H.size)) kc' ks' (va_A (q_ws cid ad (sh, rf, mem)) H.size)) :=
    y_backT (bytes := cc') (maxL := nL') (ret := rt') hMet y_Pc_blind hrc hrs hfr hlo hws hcw (fun a' U hW => word_at hW (Or.inl (by first | rfl | simp [Cond.onTables, Cond.keeps, Cond.steady])) hini)
  obtain ⟨cellB, hcB, hoB, hclB⟩ := va_recv hK hP hcl (q_ws_at (cid := cid) (ad := ad) (rf := rf) (mem := mem) hs)
  obtain ⟨v, vm₁, ⟨U', l2, c2, s2⟩, hW₁, X', ⟨g', mk, t, Lx, e1, e2, hq, hq1, hLx, hq2, hq3⟩, st1⟩ := y_callV X h1 (C := y'.cls) (bytes := cc') (maxL := nL') (ret := rt') h7 hl (h8 _ m1) (h8 _ m2) hcode hyy hBK (b := ad c.toNat) (by rw [hT]; exact hcB) hoB hclB
    (g := F0 m pc ls ((as.reverse ++ (2, c) :: st).map (qe ad))) rfl (hL.1.1.trans h3.symm) (argsL := as.map (qe ad)) (rest := st.map (qe ad)) (fun sig hh => by rw [List.length_map]; exact hn'.trans (hlen sig hh)) (by simp [qe]) (lv_room (by rw [q_sumcat]; exact hsum)) (by rw [h2]; exact hd)
    (fun vm₁ hW₁ => ⟨by show cells + kc' ≤ mc; omega, by show slots + ks' ≤ ms; omega, ⟨rfl, by show T0.heap.size = H.size; rw [hT], va_K.moved hW₁.alike hK, by show va_P D q_cl _ T0.heap; rw [hT]; exact hP, hD.self, hX.warm hW₁, by show q_Z _ _ T0.heap; rw [hT]; exact ((hZ.kept hS.2.1).narrow (q_A1 hD hS hA)).moved hW₁.alike⟩, by show y_Y _ _ T0.heap; rw [hT]; exact ((hY.kept hS.2.1).narrow (q_A1 hD hS hA)).warm hW₁⟩)
  dsimp only [Pt.U, Pt.locs, Pt.cells, Pt.slots] at X' e1 e2 hq1 hq2 hq3 st1
  subst hq1; subst hq2; subst hq3
  obtain ⟨⟨σ, ad', k1, k4, k5, k6, k7, k8⟩, ⟨hz, hkp⟩, ce, hce, hcev, hcef, hcea⟩ := hq
  have hz' : H.size ≤ t.heap.size := by rw [← hT]; exact hz
  have hkp' : ∀ q : Nat, q < H.size → ¬ va_A (q_ws cid ad (sh, rf, mem)) H.size q → t.heap[q]? = H[q]? := fun q a1 a2 => by
    rw [← hT] at a1 ⊢
    exact hkp q a1 a2
  have hcT : s.vm.findClass NSE = some ce.cls := by rw [← hW₁.alike.findClass]; exact hcef
  have hfit : s.vm.assignable ce.cls ce.cls = true := by rw [← hW₁.alike.assignable]; exact hcea
  obtain ⟨vm2, X2, st2⟩ := y_caught X' v (g := F0 m pc ls (st.map (qe ad))) rfl h7 x hx1 (by simp [covers, x1, x2, hcov.1, hcov.2]) (by rw [x4]; exact hct) (by rw [x4]; exact h8 _ hlk) hcT (by rw [e1]; exact hce) (by rw [hcev]; rfl) hfit
  rw [X'.pushThrowing_eq] at st1
  have hA1 := q_A1 hD hS hA
  have hS' : va_S A s.heap U'.heap (locs ++ Lx) := ⟨Nat.le_trans hS.1 (by rw [e1]; exact hz'), fun q g1 g2 => by rw [e1, hkp' q (Nat.lt_of_lt_of_le g1 hS.1) (fun z => g2 (hA1 q z))]; exact hS.2.1 q g1 g2, fun q hq => by
      rcases List.mem_append.mp hq with h | h
      · exact hS.2.2 q h
      · exact hA1 _ (hLx q h)⟩
  have kk : ∀ ls' : Array Slot, lv_has ls' nL ((i, .ref v) :: (q_lv ad' L).filter (fun q => !(q.1 == i) && !(q.1 + 1 == i && q.2.category == 2))) → W p l e (q_rm d mc ms) s m args below meth c0 U'.heap (locs ++ Lx) (cells + kc') (slots + ks') (K below args s mc ms D cid ad0 n0 A) (F0 m (hp + len) ls' []) := fun ls' hl' =>
    hk σ k1 k5 p l e s m args below meth c0 U'.heap (locs ++ Lx) (cells + kc') (slots + ks') mc ms D cid ad0 ad' n0 A ls' C ⟨hK, by rw [e1]; exact k6, k7.weaken (fun _ q _ h => hA1 q.1 h), hS', k8, hX, hZ⟩ hA (fun k hk' => (k4 k (Nat.lt_of_lt_of_le hk' hn)).trans (hx k hk')) (Nat.le_trans hn k5) ((hL.ext k4 k5).drop hLi hLp hl') (fun v hv => by cases hv) (by omega) (by omega) HE
  have hL' := hL.ext (ad' := ad') k4 k5
  have W0 : W p l e (q_rm d mc ms) s m args below meth c0 U'.heap (locs ++ Lx) (cells + kc') (slots + ks') (K below args s mc ms D cid ad0 n0 A) (F0 m hp ls [.ref v]) := by
    rcases hda with ⟨hda, rfl⟩ | ⟨⟨j, hda, hj⟩, rfl⟩
    · exact lv_astore h1 h2 hda hL'.1 hi rfl kk
    · exact lv_astore_n h1 h2 hda hj hL'.1 hi rfl kk
  obtain ⟨t2, a1, b1⟩ := W0 (U'.setVm vm2) rfl X2
  refine ⟨t2, st1.trans (st2 t2 ?_), b1⟩
  rw [x3]
  exact a1
end YD
