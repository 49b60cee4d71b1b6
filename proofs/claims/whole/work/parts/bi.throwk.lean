/-! ===== what a throw needs, carried along; the contracts of methods that throw and of methods that catch ===== -/
def y_Z (C n d : String) (A : Nat → Prop) (U : State) (H : Heap) : Prop := ∃ (c : ClassId) (k : Class) (i : Nat) (f : Field) (a : Nat) (cell : Cell) (v : Value), U.vm.findClass C = some c ∧ U.fieldFound? C n d = some (c, k, i, f) ∧ f.isStatic = true ∧ k.statics = some a ∧ k.staticTypes[f.slot]? = some f.type ∧ H[a]? = some cell ∧ cell.vm.isStatics = true ∧ cell.cls = c ∧ cell.slots[f.slot]? = some v ∧ v.isRef = true ∧ ¬ A a
theorem y_Z.moved {C n d : String} {A : Nat → Prop} {u U : State} {H : Heap} (hvm : u.vm.Alike U.vm) (h : y_Z C n d A u H) : y_Z C n d A U H := by
  obtain ⟨c, k, i, f, a, cell, v, h0, h1, h2, h3, h4, h5⟩ := h
  obtain ⟨k', hi', he⟩ := State.fieldFound?_setVm hvm h1
  exact ⟨c, k', i, f, a, cell, v, by rw [hvm.findClass]; exact h0, hi', h2, by rw [he]; exact h3, by rw [he]; exact h4, h5⟩
theorem y_Z.kept {C n d : String} {A : Nat → Prop} {U : State} {H H1 : Heap} (h : y_Z C n d A U H) (hq : ∀ a : Nat, a < H.size → ¬ A a → H1[a]? = H[a]?) : y_Z C n d A U H1 := by
  obtain ⟨c, k, i, f, a, cell, v, h0, h1, h2, h3, h4, h5, h6, h7, h8, h9, h10⟩ := h
  exact ⟨c, k, i, f, a, cell, v, h0, h1, h2, h3, h4, by rw [hq a (Array.getElem?_eq_some_iff.mp h5).1 h10]; exact h5, h6, h7, h8, h9, h10⟩
theorem y_Z.narrow {C n d : String} {A B : Nat → Prop} {U : State} {H : Heap} (h : y_Z C n d A U H) (hAB : ∀ q, B q → A q) : y_Z C n d B U H := by
  obtain ⟨c, k, i, f, a, cell, v, h0, h1, h2, h3, h4, h5, h6, h7, h8, h9, h10⟩ := h
  exact ⟨c, k, i, f, a, cell, v, h0, h1, h2, h3, h4, h5, h6, h7, h8, h9, fun z => h10 (hAB a z)⟩
theorem y_Z.lays {C n d : String} {A : Nat → Prop} {s : State} {args : Array Value} (h : y_Z C n d A s s.heap) : (Cond.laysStatic C n d).before args s = true := by
  obtain ⟨c, k, i, f, a, cell, v, h0, h1, h2, h3, h4, h5, h6, h7, h8, h9, h10⟩ := h
  have hlt := (Array.getElem?_eq_some_iff.mp h8).1
  simp [Cond.before, Cond.holds, Cond.value, h0, h1, h2, h3, h4, h5, h6, h7, hlt]
theorem y_Z.isRef {C n d : String} {A : Nat → Prop} {s : State} {args : Array Value} (h : y_Z C n d A s s.heap) : (Cond.isRef (.static C n d)).before args s = true := by
  obtain ⟨c, k, i, f, a, cell, v, h0, h1, h2, h3, h4, h5, h6, h7, h8, h9, h10⟩ := h
  have ev : (Term.static C n d).eval args s none [] s = some v := by
    simp [Term.eval, State.fieldNamed?, h1, h2, h3, h5, h6, h8]
  cases v <;> first | (simp [Cond.before, Cond.holds, Cond.value, ev]; done) | (simp [Value.isRef] at h9)
theorem y_Z.of {C n d : String} {A : Nat → Prop} {s : State} {args : Array Value} (hl : (Cond.laysStatic C n d).before args s = true) (hr : (Cond.isRef (.static C n d)).before args s = true) (hA : ∀ a : Nat, a < s.heap.size → ¬ A a) : y_Z C n d A s s.heap := by
  obtain ⟨c, k, i, f, a, cell, hc, hi, hst, ha, hcell, hs, hcls, hlt, hty⟩ := Cond.laysStatic_spec hl
  cases hv : (Term.static C n d).eval args s none [] s with
  | none => simp [Cond.before, Cond.holds, Cond.value, hv] at hr
  | some w =>
    obtain ⟨hst', a', cell', ha', hcell', -, hslot⟩ := Term.static_spec hi hv
    cases ha.symm.trans ha'
    cases hcell.symm.trans hcell'
    refine ⟨c, k, i, f, a, cell, w, hc, hi, hst, ha, hty, hcell, hs, hcls, hslot, ?_, hA a (Array.getElem?_eq_some_iff.mp hcell).1⟩
    simp only [Cond.before, Cond.holds, Cond.value, hv] at hr
    cases w <;> simp_all [Value.isRef]
def y_bd : List Cond := y_bad.drop 2
theorem y_face : ∀ w ∈ y_bd, w.keepsFace = true := List.forall_mem_cons.mpr ⟨rfl, List.forall_mem_cons.mpr ⟨rfl, List.forall_mem_cons.mpr ⟨rfl, List.forall_mem_cons.mpr ⟨rfl, fun _ h => nomatch h⟩⟩⟩⟩
theorem y_bdw {w : Cond} (hw : w ∈ y_bd) {s U : State} {a a' : Array Value} (hW : s.WarmedH U.vm) (h : w.before a s = true) : w.before a' U = true := by
  have h1 : w.before a (s.setVm U.vm) = true := Cond.before_shiftedFace (State.Shifted.of_warmed hW) _ (y_face w hw) h
  have key : ∀ w ∈ y_bd, w.before a (s.setVm U.vm) = true → w.before a' U = true := List.forall_mem_cons.mpr ⟨fun h => h, List.forall_mem_cons.mpr ⟨fun h => h, List.forall_mem_cons.mpr ⟨fun h => h, List.forall_mem_cons.mpr ⟨fun h => h, fun _ h => nomatch h⟩⟩⟩⟩
  exact key w hw h1
def y_Y (A : Nat → Prop) (U : State) (H : Heap) : Prop := (∀ w ∈ y_bd, w.before #[] U = true) ∧ (∃ a : Nat, vk_R RX11 137 "no such jar" a U) ∧ (∃ a : Nat, vk_R RX11 167 "a jar has no such thing" a U) ∧ (∃ a : Nat, vk_R RX11 417 "no such number of the row" a U) ∧ y_Z Bundle.tN "UNASSIGNED_STACK" Bundle.steD A U H ∧ y_Z Bundle.tN "SUPPRESSED_SENTINEL" Bundle.listD A U H
theorem y_Y.warm {A : Nat → Prop} {s U : State} {H : Heap} (hW : s.WarmedH U.vm) (h : y_Y A s H) : y_Y A U H := by
  obtain ⟨h1, ⟨a2, h2⟩, ⟨a3, h3⟩, ⟨a4, h4⟩, h5, h6⟩ := h
  exact ⟨fun w hw => y_bdw hw hW (h1 w hw), ⟨a2, h2.warm hW⟩, ⟨a3, h3.warm hW⟩, ⟨a4, h4.warm hW⟩, h5.moved hW.alike, h6.moved hW.alike⟩
theorem y_Y.kept {A : Nat → Prop} {U : State} {H H1 : Heap} (h : y_Y A U H) (hq : ∀ a : Nat, a < H.size → ¬ A a → H1[a]? = H[a]?) : y_Y A U H1 := by
  obtain ⟨h1, h2, h3, h4, h5, h6⟩ := h
  exact ⟨h1, h2, h3, h4, h5.kept hq, h6.kept hq⟩
theorem y_Y.narrow {A B : Nat → Prop} {U : State} {H : Heap} (h : y_Y A U H) (hAB : ∀ q, B q → A q) : y_Y B U H := by
  obtain ⟨h1, h2, h3, h4, h5, h6⟩ := h
  exact ⟨h1, h2, h3, h4, h5.narrow hAB, h6.narrow hAB⟩
theorem y_Y.bad {A : Nat → Prop} {s : State} {args : Array Value} (h : y_Y A s s.heap) : ∀ w ∈ y_bad, w.before args s = true := by
  obtain ⟨h1, h2, h3, h4, h5, h6⟩ := h
  refine List.forall_mem_cons.mpr ⟨h6.lays, List.forall_mem_cons.mpr ⟨h5.lays, fun w hw => y_bdw (s := s) (U := s) (a := #[]) hw (State.WarmedH.refl s) (h1 w hw)⟩⟩
theorem y_Y.all {A : Nat → Prop} {s : State} {args : Array Value} (h : y_Y A s s.heap) (h8 : ∀ w ∈ q_TB, w.before args s = true) (L : List Cond) (hL : ∀ w ∈ L, w ∈ q_TB ∨ w ∈ y_bad) : ∀ w ∈ L, w.before args s = true := fun w hw => (hL w hw).elim (h8 w) (h.bad w)
def y_Pc (args : List qv) (σ : qh) (D : va_G) (cid : Nat → ClassId) (ad : Nat → Nat) (sz : Nat) : Array Value → State → Prop := fun v U => q_Pc args σ D cid ad sz v U ∧ y_Y (va_A (q_ws cid ad σ) sz) U U.heap
theorem y_Pc_blind {as : List qv} {σ : qh} {D : va_G} {cid : Nat → ClassId} {ad : Nat → Nat} {sz : Nat} : FrameBlind (y_Pc as σ D cid ad sz) := fun a U g mk q => ⟨q_Pc_blind a U g mk q.1, y_Y.warm (s := U) (U := U.calling g mk a) (State.WarmedH.refl U) q.2⟩
/-- a frame that is left by a throw: the tables are warmer, nothing has moved but these places and so many new cells -/
def y_FE (st : State) (o : Outcome) (t : State) (L : List Loc) (k n : Nat) : Prop := (∃ x, o = .threw x) ∧ st.WarmedH t.vm ∧ st.sameButNew ({ t with vm := st.vm } : State) L k n
/-- how a method that throws ends -/
def y_Q (KT : qh → Prop) (D : va_G) (cid : Nat → ClassId) (ad0 : Nat → Nat) (n0 : Nat) (A : Nat → Prop) : State → Addr → State → Prop := fun st x t =>
  (∃ (σ : qh) (ad : Nat → Nat), KT σ ∧ (∀ k, k < n0 → ad k = ad0 k) ∧ n0 ≤ σ.1.length ∧ va_P D q_cl (q_ws cid ad σ) t.heap ∧ va_D A (q_ws cid ad σ) ∧ q_rg σ) ∧ va_F A st t ∧ ∃ ce : Cell, t.heap[x]? = some ce ∧ ce.vm = .none ∧ st.vm.findClass NSE = some ce.cls ∧ st.vm.assignable ce.cls ce.cls = true
def y_End (below : List Frame) (Qc : State → Addr → State → Prop) (s : State) (mc ms : Nat) (free : Nat → Prop) : State → Prop := fun t => ∃ x, t.status = .running ∧ Ended t below (.threw x) ∧ Qc s x t ∧ ∃ L, y_FE s (.threw x) t L mc ms ∧ ∀ q ∈ L, free q.base
def y_KT (KT : qh → Prop) : qF := fun below _ s mc ms D cid ad0 n0 A => y_End below (y_Q KT D cid ad0 n0 A) s mc ms A
def y_Met (l : Launch) (y : MethodName) (ws : List Cond) (rm : Room) (Pc : Array Value → State → Prop) (Qc : State → Addr → State → Prop) (mc ms : Nat) (free : Nat → Prop) : Prop :=
  MetFree l y (headSpec ws rm) Pc (fun _ _ _ _ _ => True) (fun _ st o t => (∃ x, o = .threw x ∧ Qc st x t) ∧ ∃ L, y_FE st o t L mc ms ∧ ∀ q ∈ L, free q.base)
def q_EvT (y : MethodName) (cc : ByteArray) (nL : Nat) (rt : Option FieldType) (d kc ks : Nat) (args : List qv) (σ : qh) (KT : qh → Prop) : Prop :=
  ∀ (l : Launch), l.stackTraces = false → ∀ (D : va_G) (cid : Nat → ClassId) (ad : Nat → Nat) (sz : Nat), q_rg σ → (∀ v ∈ args, qok σ.1.length v) →
    y_Met l y (.code y cc nL rt :: q_TB) (q_rm d kc ks) (y_Pc args σ D cid ad sz) (y_Q KT D cid ad σ.1.length (va_A (q_ws cid ad σ) sz)) kc ks (va_A (q_ws cid ad σ) sz)
def y_G (_ : Program) (l : Launch) (_ : Env) (s : State) (_ : MethodId) (c : Code) (A : Nat → Prop) : Prop :=
  l.stackTraces = false ∧ c.exceptionTable.toList = [] ∧ y_Y A s s.heap ∧ ∀ q, A q → ∀ cell : Cell, s.heap[q]? = some cell → cell.vm.isStatics = false
theorem y_plain {D : va_G} {cl : List vw_C} {q : Nat × va_E} {H : Heap} (h : va_at D cl q H) {cell : Cell} (hc : H[q.1]? = some cell) : cell.vm.isStatics = false := by
  obtain ⟨a, e⟩ := q
  cases e with
  | inl x =>
    have h1 : H[a]? = some (vp_cell x.1 x.2) := h
    cases h1.symm.trans hc
    obtain ⟨c, n, f⟩ := x
    rcases f with f | f | f | f | f <;> rfl
  | inr o =>
    obtain ⟨r, h1, cell', h2, -, h4, -⟩ := h
    cases h2.symm.trans hc
    rw [h4]; rfl
theorem y_enter {y : MethodName} {cc : ByteArray} {nL : Nat} {rt : Option FieldType} {d kc ks : Nat} {KT : qh → Prop} {as : List qv} {σ : qh} (hy : plainName y.cls = true) (ha : ∀ v ∈ as, v.1 < 4 ∧ v.1 ≠ 1) (hl : as.length ≤ nL) (h : q_AtG y cc nL rt d kc ks y_G (y_KT KT) 0 (as ++ List.replicate (nL - as.length) (4, 0)) [] σ) : q_EvT y cc nL rt d kc ks as σ KT := by
  intro l htr D cid ad sz hg hok
  refine MetFree.of_bodyS (code := cc) (maxLocals := nL) (ret := rt) hy ?_ ?_
  · intro args s m h hn
    obtain ⟨meth, c, h1, h2, h3, h4, h5, h6, -, -⟩ := Cond.code_spec hn (atoms_spec (ws := .code y cc nL rt :: q_TB) h _ List.mem_cons_self)
    exact ⟨meth, c, h1, h2, h3, h4, h5, h6⟩
  · intro p e s m args below meth c s₁ B hml hv _
    obtain ⟨⟨rfl, hsz, hK, hP, hD, hX, hZ⟩, hY⟩ := hv
    subst hsz
    have hh0 : s₁.heap = s.heap := by rw [B.state]; rfl
    have hts := atoms_spec (ws := .code y cc nL rt :: q_TB) B.pre
    have hown : s.vm.findClass y.cls = some m.cls := findClass_of_methodNamed B.named
    have X0 := Stand.of_body B
    have hex : c.exceptionTable.toList = [] := by
      obtain ⟨meth', c', g1, g2, -, -, -, -, g7, -⟩ := Cond.code_spec B.named (hts _ List.mem_cons_self)
      cases (B.method).symm.trans g1
      cases (X0.code).symm.trans g2
      simpa using g7
    have hle := q_sl_len (ad := ad) as ha
    have hl2 := lv_entry (as.map (qe ad)) (n := nL) (by rw [hle]; exact hl)
    have hW := h p l e s m (as.map (qe ad)).toArray below meth c s.heap [] 0 0 kc ks D cid ad ad σ.1.length _ _ ⟨B.exec, B.bytes, hml, B.returns, B.notSynchronized, (name_of_methodNamed B.named B.method).1, hown, fun w hw => hts w (List.mem_cons_of_mem _ hw)⟩ ⟨hK, hP, hD, va_S.rf, hg, hX, hZ⟩ (fun q hq => Or.inr hq) (fun _ _ => rfl) (Nat.le_refl _) ⟨q_lv_mono hl2 (fun q hq => by
      obtain ⟨i, w⟩ := q
      obtain ⟨v, g1, g2, rfl⟩ := q_lv_mem.mp hq
      by_cases hi : i < as.length
      · rw [List.getElem?_append_left hi] at g1
        have := q_args_lv (ad := ad) as 0 ha i v g1
        rwa [Nat.zero_add] at this
      · rw [List.getElem?_append_right (by omega)] at g1
        have := List.mem_of_getElem? g1
        rw [(List.mem_replicate.mp this).2] at g2
        simp at g2), fun v hv => by
      rcases List.mem_append.mp hv with h9 | h9
      · exact hok v h9
      · rw [(List.mem_replicate.mp h9).2]; trivial⟩ (fun v hv => by cases hv) (by omega) (by omega) ⟨htr, hex, hY, fun q hq cell hc => by
      rcases hq with ⟨k, x, hk⟩ | hq
      · exact y_plain (hP k (q, x) hk) hc
      · exact absurd (Array.getElem?_eq_some_iff.mp hc).1 (by omega)⟩
    obtain ⟨t, a1, x, b1, b2, b3, b4⟩ := hW s₁ hh0 X0
    have a2 : Steps p.tables e below (s₁.setTop (entryFrame m (as.map (qe ad)).toArray nL)) t := by rw [lg_entry_eq]; exact a1
    exact ⟨t, .threw x, a2, b1, b2, ⟨x, rfl, b3⟩, b4⟩
