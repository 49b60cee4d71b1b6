/-! THE CLAIM OUT OF ONE WALK OF THE LAW'S BODY. Your part is whole_start (and what it stands on); all else here is the same for every law, but numbers. -/
def R_law : String := "JarsThatLeakLaw"
def lw_P (b : Addr) (xs : List Int32) (args : Array Value) (s : State) : Prop := args = #[.ref b] ∧ s.IntsAt b xs ∧ xs.length ≤ 2560 ∧ (Jvm.Cond.and given_1 narrow_1).before args s = true
def lw_Q (_ : Array Value) (s : State) (o : Outcome) (t : State) : Prop := o = .returned (some (.int 1)) ∧ Framed s o t [] 601024 7293034
def lw_Z (below : List Frame) (a : Array Value) (s : State) : State → Prop := fun t => ∃ o, t.status = .running ∧ Ended t below o ∧ lw_Q a s o t
/-- the law's own end, with 1 on the stack, nothing written that was there before, its room as the claim has it -/
theorem lw_ret {p : Program} {l : Launch} {e : Env} {s : State} {m : MethodId} {below : List Frame} {meth : Method} {c : Code} {b : Nat} (hx : p.tables.exec = Jvm.exec) (hb : c.code = code) (hr : meth.sig.returnType = ret) (hlocks : meth.locks = false) {pc : Nat} {H : Heap} {ls : Array Slot} (hdg : decode code pc = .ok (.ireturn, 1)) : W p l e room_1 s m #[Value.ref b] below meth c H [] 601024 7293034 (lw_Z below #[Value.ref b] s) (F0 m pc ls [.int 1]) := by
  intro T hT X
  obtain ⟨fs, hret, hrun, hended, hW, hframe⟩ := X.leave (v := some (.int 1)) (hlocks := hlocks) (fun h => by rw [hr] at h; cases h)
  have hmeth' : T.vm.method? m = some meth := X.method'
  refine ⟨T.setFrames fs, ?_, .returned (some (.int 1)), hrun, hended, rfl, ⟨_, rfl⟩, hW, hframe⟩
  jvm_step X.here [X.here.top, hx, hb, hdg, hmeth', hr, ret, narrow_b1]
  (try refine ⟨rfl, ?_⟩); (try refine ⟨rfl, ?_⟩)
  first | (intro acts; rw [hret _ acts rfl rfl rfl]) | rw [hret _ _ rfl rfl rfl]
  exact Steps.refl _
/-- what holds at the law's entry: the machine, the code, the tables' words (any of lw_tbl by 'hts w (by decide +kernel)'), the script of L ints xs at the cell b, what the Statement gives of the start (any of its parts by flat_of_before) -/
def lw_At (p : Program) (s : State) (m : MethodId) (meth : Method) (c : Code) (b L : Nat) (xs : Nat → Int32) : Prop :=
  p.tables.exec = Jvm.exec ∧ c.code = code ∧ meth.sig.returnType = ret ∧ c.maxLocals = 7 ∧ s.vm.findClass R_law = some m.cls ∧ (∀ w ∈ lw_tbl, w.before #[Value.ref b] s = true) ∧ va_X b L xs s s.heap ∧ b < s.heap.size ∧ meth.locks = false ∧ (Jvm.Cond.and given_1 narrow_1).before #[Value.ref b] s = true
/-! ===== the law's own walk: the script lies beside the world ===== -/
def q_SG (l : Launch) (s : State) (A : Nat → Prop) (mc ms : Nat) : Prop := mc = 601024 ∧ ms = 7293034 ∧ l.stackTraces = false ∧ y_Y A s s.heap ∧ ∀ q, A q → s.heap.size ≤ q
def q_AtS (y : MethodName) (cc : ByteArray) (nL : Nat) (rt : Option FieldType) (kc ks : Nat) (SC : Nat × Nat × (Nat → Int32)) (pc : Nat) (L st : List qv) (σ : qh) : Prop :=
  ∀ (p : Program) (l : Launch) (e : Env) (s : State) (m : MethodId) (args : Array Value) (below : List Frame) (meth : Method) (c : Code) (H : Heap) (locs : List Loc) (cells slots mc ms : Nat) (D : va_G) (cid : Nat → ClassId) (ad0 ad : Nat → Nat) (n0 : Nat) (A : Nat → Prop) (ls : Array Slot),
    q_C y cc nL rt p s m args meth c → q_R D cid ad A σ s H locs → (∀ q, s.heap.size ≤ q → A q) → ad 226 = SC.1 → (¬ A SC.1 ∧ va_X SC.1 SC.2.1 SC.2.2 s s.heap) → q_L ad 227 L nL ls → (∀ v ∈ st, qok 227 v) → cells + kc ≤ mc → slots + ks ≤ ms → q_SG l s A mc ms →
    W p l e room_1 s m args below meth c H locs cells slots (lw_Z below args s) (F0 m pc ls (st.map (qe ad)))
section QS
variable {y : MethodName} {cc : ByteArray} {nL : Nat} {rt : Option FieldType} {kc ks : Nat} {SC : Nat × Nat × (Nat → Int32)} {pc : Nat} {L st : List qv} {sh : List (Nat × Nat)} {rf mem : qm}
variable {y' : MethodName} {cc' : ByteArray} {nL' : Nat} {rt' : Option FieldType} {d' kc' ks' : Nat} {K' : Int → qh → Prop} {index : Nat}
theorem q_s_iconst {n v : Int} (hd : decode cc pc = .ok (.iconst n, 1)) (hv : Int32.ofInt n = Int32.ofInt v) (hr : q_in32 v) (k : q_AtS y cc nL rt kc ks SC (pc + 1) L ((0, v) :: st) (sh, rf, mem)) : q_AtS y cc nL rt kc ks SC pc L st (sh, rf, mem) := by
  intro p l e s m args below meth c H locs cells slots mc ms D cid ad0 ad n0 A ls C R hA hx hn hL hst hc hs HE
  obtain ⟨h1, h2, h3, h4, h5, h6, h7, h8⟩ := id C
  obtain ⟨hK, hP, hD, hS, hg, hX, hZ⟩ := id R
  exact lv_iconst (v := Int32.ofInt v) h1 h2 hd hv (k p l e s m args below meth c H locs cells slots mc ms D cid ad0 ad n0 A ls C R hA hx hn hL (List.forall_mem_cons.mpr ⟨hr, hst⟩) hc hs HE)
theorem q_s_bipush {n v : Int} (hd : decode cc pc = .ok (.bipush n, 2)) (hv : (Int8.ofInt n).toInt32 = Int32.ofInt v) (hr : q_in32 v) (k : q_AtS y cc nL rt kc ks SC (pc + 2) L ((0, v) :: st) (sh, rf, mem)) : q_AtS y cc nL rt kc ks SC pc L st (sh, rf, mem) := by
  intro p l e s m args below meth c H locs cells slots mc ms D cid ad0 ad n0 A ls C R hA hx hn hL hst hc hs HE
  obtain ⟨h1, h2, h3, h4, h5, h6, h7, h8⟩ := id C
  obtain ⟨hK, hP, hD, hS, hg, hX, hZ⟩ := id R
  exact lv_bipush (v := Int32.ofInt v) h1 h2 hd hv (k p l e s m args below meth c H locs cells slots mc ms D cid ad0 ad n0 A ls C R hA hx hn hL (List.forall_mem_cons.mpr ⟨hr, hst⟩) hc hs HE)
theorem q_s_iload {i : Nat} {x : Int} (hd : decode cc pc = .ok (.iload i, 2)) (hl : L[i]? = some (0, x)) (k : q_AtS y cc nL rt kc ks SC (pc + 2) L ((0, x) :: st) (sh, rf, mem)) : q_AtS y cc nL rt kc ks SC pc L st (sh, rf, mem) := by
  intro p l e s m args below meth c H locs cells slots mc ms D cid ad0 ad n0 A ls C R hA hx hn hL hst hc hs HE
  obtain ⟨h1, h2, h3, h4, h5, h6, h7, h8⟩ := id C
  obtain ⟨hK, hP, hD, hS, hg, hX, hZ⟩ := id R
  exact lv_iload h1 h2 hd (hL.get hl (Nat.le_of_ble_eq_true rfl)) (k p l e s m args below meth c H locs cells slots mc ms D cid ad0 ad n0 A ls C R hA hx hn hL (List.forall_mem_cons.mpr ⟨hL.ok hl, hst⟩) hc hs HE)
theorem q_s_aload_n {j : Fin 4} {i : Nat} {x : Int} (hd : decode cc pc = .ok (.aload_n j, 1)) (hj : (j : Nat) = i) (hl : L[i]? = some (2, x)) (k : q_AtS y cc nL rt kc ks SC (pc + 1) L ((2, x) :: st) (sh, rf, mem)) : q_AtS y cc nL rt kc ks SC pc L st (sh, rf, mem) := by
  intro p l e s m args below meth c H locs cells slots mc ms D cid ad0 ad n0 A ls C R hA hx hn hL hst hc hs HE
  obtain ⟨h1, h2, h3, h4, h5, h6, h7, h8⟩ := id C
  obtain ⟨hK, hP, hD, hS, hg, hX, hZ⟩ := id R
  exact lv_aload_n h1 h2 hd hj (hL.get hl (Nat.le_of_ble_eq_true rfl)) (k p l e s m args below meth c H locs cells slots mc ms D cid ad0 ad n0 A ls C R hA hx hn hL (List.forall_mem_cons.mpr ⟨hL.ok hl, hst⟩) hc hs HE)
theorem q_s_iadd {a b : Int} (hd : decode cc pc = .ok (.iadd, 1)) (k : q_AtS y cc nL rt kc ks SC (pc + 1) L ((0, q_w32 (a + b)) :: st) (sh, rf, mem)) : q_AtS y cc nL rt kc ks SC pc L ((0, b) :: (0, a) :: st) (sh, rf, mem) := by
  intro p l e s m args below meth c H locs cells slots mc ms D cid ad0 ad n0 A ls C R hA hx hn hL hst hc hs HE
  obtain ⟨h1, h2, h3, h4, h5, h6, h7, h8⟩ := id C
  obtain ⟨hK, hP, hD, hS, hg, hX, hZ⟩ := id R
  obtain ⟨hb0, hst⟩ := List.forall_mem_cons.mp hst
  obtain ⟨ha0, hst⟩ := List.forall_mem_cons.mp hst
  have z := k p l e s m args below meth c H locs cells slots mc ms D cid ad0 ad n0 A ls C R hA hx hn hL (List.forall_mem_cons.mpr ⟨q_w32_in _, hst⟩) hc hs HE
  simp only [List.map_cons, qe, q_of32, Int32.ofInt_add] at z
  exact lv_iadd h1 h2 hd z
theorem q_s_isub {a b : Int} (hd : decode cc pc = .ok (.isub, 1)) (k : q_AtS y cc nL rt kc ks SC (pc + 1) L ((0, q_w32 (a - b)) :: st) (sh, rf, mem)) : q_AtS y cc nL rt kc ks SC pc L ((0, b) :: (0, a) :: st) (sh, rf, mem) := by
  intro p l e s m args below meth c H locs cells slots mc ms D cid ad0 ad n0 A ls C R hA hx hn hL hst hc hs HE
  obtain ⟨h1, h2, h3, h4, h5, h6, h7, h8⟩ := id C
  obtain ⟨hK, hP, hD, hS, hg, hX, hZ⟩ := id R
  obtain ⟨hb0, hst⟩ := List.forall_mem_cons.mp hst
  obtain ⟨ha0, hst⟩ := List.forall_mem_cons.mp hst
  have z := k p l e s m args below meth c H locs cells slots mc ms D cid ad0 ad n0 A ls C R hA hx hn hL (List.forall_mem_cons.mpr ⟨q_w32_in _, hst⟩) hc hs HE
  simp only [List.map_cons, qe, q_of32, Int32.ofInt_sub] at z
  exact lv_isub h1 h2 hd z
theorem q_s_iand {a b : Int} (hd : decode cc pc = .ok (.iand, 1))  (k : q_AtS y cc nL rt kc ks SC (pc + 1) L ((0, q_oiand a b) :: st) (sh, rf, mem)) : q_AtS y cc nL rt kc ks SC pc L ((0, b) :: (0, a) :: st) (sh, rf, mem) := by
  intro p l e s m args below meth c H locs cells slots mc ms D cid ad0 ad n0 A ls C R hA hx hn hL hst hc hs HE
  obtain ⟨h1, h2, h3, h4, h5, h6, h7, h8⟩ := id C
  obtain ⟨hK, hP, hD, hS, hg, hX, hZ⟩ := id R
  obtain ⟨hb0, hst⟩ := List.forall_mem_cons.mp hst
  obtain ⟨ha0, hst⟩ := List.forall_mem_cons.mp hst
  have z := k p l e s m args below meth c H locs cells slots mc ms D cid ad0 ad n0 A ls C R hA hx hn hL (List.forall_mem_cons.mpr ⟨q_r32 _, hst⟩) hc hs HE
  simp only [List.map_cons, qe, q_oiand, Int32.ofInt_toInt] at z
  exact lv_iand h1 h2 hd  z
theorem q_s_icmp_gt {a b : Int} {off : Int} {tgt : Nat} (hd : decode cc pc = .ok (.if_icmp .gt off, 3)) (ht : (pc : Int) + off = (tgt : Int)) (kt : b < a → q_AtS y cc nL rt kc ks SC tgt L st (sh, rf, mem)) (kf : ¬ (b < a) → q_AtS y cc nL rt kc ks SC (pc + 3) L st (sh, rf, mem)) : q_AtS y cc nL rt kc ks SC pc L ((0, b) :: (0, a) :: st) (sh, rf, mem) := by
  intro p l e s m args below meth c H locs cells slots mc ms D cid ad0 ad n0 A ls C R hA hx hn hL hst hc hs HE
  obtain ⟨h1, h2, h3, h4, h5, h6, h7, h8⟩ := id C
  obtain ⟨hK, hP, hD, hS, hg, hX, hZ⟩ := id R
  obtain ⟨hb0, hst⟩ := List.forall_mem_cons.mp hst
  obtain ⟨ha0, hst⟩ := List.forall_mem_cons.mp hst
  exact lv_icmp_gt h1 h2 hd ht (fun z => kt ((q_lt32 hb0 ha0).mp z) p l e s m args below meth c H locs cells slots mc ms D cid ad0 ad n0 A ls C R hA hx hn hL hst hc hs HE) (fun z => kf (fun q => z ((q_lt32 hb0 ha0).mpr q)) p l e s m args below meth c H locs cells slots mc ms D cid ad0 ad n0 A ls C R hA hx hn hL hst hc hs HE)
theorem q_s_icmp_eq {a b : Int} {off : Int} {tgt : Nat} (hd : decode cc pc = .ok (.if_icmp .eq off, 3)) (ht : (pc : Int) + off = (tgt : Int)) (kt : a = b → q_AtS y cc nL rt kc ks SC tgt L st (sh, rf, mem)) (kf : ¬ (a = b) → q_AtS y cc nL rt kc ks SC (pc + 3) L st (sh, rf, mem)) : q_AtS y cc nL rt kc ks SC pc L ((0, b) :: (0, a) :: st) (sh, rf, mem) := by
  intro p l e s m args below meth c H locs cells slots mc ms D cid ad0 ad n0 A ls C R hA hx hn hL hst hc hs HE
  obtain ⟨h1, h2, h3, h4, h5, h6, h7, h8⟩ := id C
  obtain ⟨hK, hP, hD, hS, hg, hX, hZ⟩ := id R
  obtain ⟨hb0, hst⟩ := List.forall_mem_cons.mp hst
  obtain ⟨ha0, hst⟩ := List.forall_mem_cons.mp hst
  exact lv_icmp_eq h1 h2 hd ht (fun z => kt ((q_eq32 ha0 hb0).mp z) p l e s m args below meth c H locs cells slots mc ms D cid ad0 ad n0 A ls C R hA hx hn hL hst hc hs HE) (fun z => kf (fun q => z ((q_eq32 ha0 hb0).mpr q)) p l e s m args below meth c H locs cells slots mc ms D cid ad0 ad n0 A ls C R hA hx hn hL hst hc hs HE)
theorem q_s_tabIn {a dflt lo hi off : Int} {offs : Array Int} {len tgt : Nat} (hd : decode cc pc = .ok (.tableswitch dflt lo hi offs, len)) (g1 : lo ≤ a) (g2 : a ≤ hi) (ho : offs[(a - lo).toNat]? = some off) (ht : (pc : Int) + off = (tgt : Int)) (k : q_AtS y cc nL rt kc ks SC tgt L st (sh, rf, mem)) : q_AtS y cc nL rt kc ks SC pc L ((0, a) :: st) (sh, rf, mem) := by
  intro p l e s m args below meth c H locs cells slots mc ms D cid ad0 ad n0 A ls C R hA hx hn hL hst hc hs HE
  obtain ⟨h1, h2, h3, h4, h5, h6, h7, h8⟩ := id C
  obtain ⟨hK, hP, hD, hS, hg, hX, hZ⟩ := id R
  obtain ⟨ha0, hst⟩ := List.forall_mem_cons.mp hst
  exact lv_tableIn h1 h2 hd (by rw [q_t32 ha0]; omega) (by rw [q_t32 ha0]; omega) (by rw [q_t32 ha0]; exact ho) ht (k p l e s m args below meth c H locs cells slots mc ms D cid ad0 ad n0 A ls C R hA hx hn hL hst hc hs HE)
theorem q_s_tabOut {a dflt lo hi : Int} {offs : Array Int} {len tgt : Nat} (hd : decode cc pc = .ok (.tableswitch dflt lo hi offs, len)) (h : a < lo ∨ hi < a) (ht : (pc : Int) + dflt = (tgt : Int)) (k : q_AtS y cc nL rt kc ks SC tgt L st (sh, rf, mem)) : q_AtS y cc nL rt kc ks SC pc L ((0, a) :: st) (sh, rf, mem) := by
  intro p l e s m args below meth c H locs cells slots mc ms D cid ad0 ad n0 A ls C R hA hx hn hL hst hc hs HE
  obtain ⟨h1, h2, h3, h4, h5, h6, h7, h8⟩ := id C
  obtain ⟨hK, hP, hD, hS, hg, hX, hZ⟩ := id R
  obtain ⟨ha0, hst⟩ := List.forall_mem_cons.mp hst
  exact lv_tableOut h1 h2 hd (by rw [q_t32 ha0]; exact h) ht (k p l e s m args below meth c H locs cells slots mc ms D cid ad0 ad n0 A ls C R hA hx hn hL hst hc hs HE)
theorem q_s_goto {off : Int} {tgt : Nat} (hd : decode cc pc = .ok (.goto off, 3)) (ht : (pc : Int) + off = (tgt : Int)) (k : q_AtS y cc nL rt kc ks SC tgt L st (sh, rf, mem)) : q_AtS y cc nL rt kc ks SC pc L st (sh, rf, mem) := by
  intro p l e s m args below meth c H locs cells slots mc ms D cid ad0 ad n0 A ls C R hA hx hn hL hst hc hs HE
  obtain ⟨h1, h2, h3, h4, h5, h6, h7, h8⟩ := id C
  obtain ⟨hK, hP, hD, hS, hg, hX, hZ⟩ := id R
  exact lv_goto h1 h2 hd ht (k p l e s m args below meth c H locs cells slots mc ms D cid ad0 ad n0 A ls C R hA hx hn hL hst hc hs HE)
theorem q_s_iinc {i : Nat} {n x : Int} (hd : decode cc pc = .ok (.iinc i n, 3)) (hl : L[i]? = some (0, x)) (hi : i < nL) (hp : ∀ w, L[i - 1]? = some w → i ≠ 0 → w.1 ≠ 1) (k : q_AtS y cc nL rt kc ks SC (pc + 3) (L.set i (0, q_w32 (x + n))) st (sh, rf, mem)) : q_AtS y cc nL rt kc ks SC pc L st (sh, rf, mem) := by
  intro p l e s m args below meth c H locs cells slots mc ms D cid ad0 ad n0 A ls C R hA hx hn hL hst hc hs HE
  obtain ⟨h1, h2, h3, h4, h5, h6, h7, h8⟩ := id C
  obtain ⟨hK, hP, hD, hS, hg, hX, hZ⟩ := id R
  have hm : (i, qe ad (0, x)) ∈ q_lv ad L := q_lv_mem.mpr ⟨_, hl, (Nat.le_of_ble_eq_true rfl), rfl⟩
  obtain ⟨z, hz⟩ := List.getElem?_of_mem hm
  refine lv_iinc (v := Int32.ofInt (q_w32 (x + n))) h1 h2 hd hL.1 (k := z) hz (by rw [q_of32, Int32.ofInt_add]) hi rfl (fun ls' hl' => ?_)
  exact k p l e s m args below meth c H locs cells slots mc ms D cid ad0 ad n0 A ls' C R hA hx hn (q_L.set1 (v := (0, q_w32 (x + n))) hL.2 (q_w32_in _) hp hl') hst hc hs HE
theorem q_s_istore {i : Nat} {x : Int} (hd : decode cc pc = .ok (.istore i, 2)) (hi : i < nL) (hp : ∀ w, L[i - 1]? = some w → i ≠ 0 → w.1 ≠ 1) (k : q_AtS y cc nL rt kc ks SC (pc + 2) (L.set i (0, x)) st (sh, rf, mem)) : q_AtS y cc nL rt kc ks SC pc L ((0, x) :: st) (sh, rf, mem) := by
  intro p l e s m args below meth c H locs cells slots mc ms D cid ad0 ad n0 A ls C R hA hx hn hL hst hc hs HE
  obtain ⟨h1, h2, h3, h4, h5, h6, h7, h8⟩ := id C
  obtain ⟨hK, hP, hD, hS, hg, hX, hZ⟩ := id R
  obtain ⟨hx0, hst⟩ := List.forall_mem_cons.mp hst
  refine lv_istore h1 h2 hd hL.1 hi rfl (fun ls' hl' => ?_)
  exact k p l e s m args below meth c H locs cells slots mc ms D cid ad0 ad n0 A ls' C R hA hx hn (q_L.set1 (v := (0, x)) hL.2 hx0 hp hl') hst hc hs HE
theorem q_s_if_ne {a : Int} {off : Int} {tgt : Nat} (hd : decode cc pc = .ok (.ifCond .ne off, 3)) (ht : (pc : Int) + off = (tgt : Int)) (kt : a ≠ 0 → q_AtS y cc nL rt kc ks SC tgt L st (sh, rf, mem)) (kf : ¬ (a ≠ 0) → q_AtS y cc nL rt kc ks SC (pc + 3) L st (sh, rf, mem)) : q_AtS y cc nL rt kc ks SC pc L ((0, a) :: st) (sh, rf, mem) := by
  intro p l e s m args below meth c H locs cells slots mc ms D cid ad0 ad n0 A ls C R hA hx hn hL hst hc hs HE
  obtain ⟨h1, h2, h3, h4, h5, h6, h7, h8⟩ := id C
  obtain ⟨hK, hP, hD, hS, hg, hX, hZ⟩ := id R
  obtain ⟨ha0, hst⟩ := List.forall_mem_cons.mp hst
  have hb0 : q_in32 0 := q_in0
  exact lv_if_ne h1 h2 hd ht (fun z => kt (fun q => z ((q_eq32 ha0 hb0).mpr q)) p l e s m args below meth c H locs cells slots mc ms D cid ad0 ad n0 A ls C R hA hx hn hL hst hc hs HE) (fun z => kf (fun q => q ((q_eq32 ha0 hb0).mp z)) p l e s m args below meth c H locs cells slots mc ms D cid ad0 ad n0 A ls C R hA hx hn hL hst hc hs HE)
theorem q_s_if_eq {a : Int} {off : Int} {tgt : Nat} (hd : decode cc pc = .ok (.ifCond .eq off, 3)) (ht : (pc : Int) + off = (tgt : Int)) (kt : a = 0 → q_AtS y cc nL rt kc ks SC tgt L st (sh, rf, mem)) (kf : ¬ (a = 0) → q_AtS y cc nL rt kc ks SC (pc + 3) L st (sh, rf, mem)) : q_AtS y cc nL rt kc ks SC pc L ((0, a) :: st) (sh, rf, mem) := by
  intro p l e s m args below meth c H locs cells slots mc ms D cid ad0 ad n0 A ls C R hA hx hn hL hst hc hs HE
  obtain ⟨h1, h2, h3, h4, h5, h6, h7, h8⟩ := id C
  obtain ⟨hK, hP, hD, hS, hg, hX, hZ⟩ := id R
  obtain ⟨ha0, hst⟩ := List.forall_mem_cons.mp hst
  have hb0 : q_in32 0 := q_in0
  exact lv_if_eq h1 h2 hd ht (fun z => kt ((q_eq32 ha0 hb0).mp z) p l e s m args below meth c H locs cells slots mc ms D cid ad0 ad n0 A ls C R hA hx hn hL hst hc hs HE) (fun z => kf (fun q => z ((q_eq32 ha0 hb0).mpr q)) p l e s m args below meth c H locs cells slots mc ms D cid ad0 ad n0 A ls C R hA hx hn hL hst hc hs HE)
theorem q_s_lald {c i : Int} {n : Nat} (hd : decode cc pc = .ok (.laload, 1)) (hs : sh[c.toNat]? = some (1, n)) (hi : 0 ≤ i) (hi2 : i < n) (kk : q_AtS y cc nL rt kc ks SC (pc + 1) L ((1, mem c i) :: st) (sh, rf, mem)) : q_AtS y cc nL rt kc ks SC pc L ((0, i) :: (2, c) :: st) (sh, rf, mem) := by
  intro p l e s m args below meth c0 H locs cells slots mc ms D cid ad0 ad n0 A ls C R hA hx hn hL hst hcz hsz HE
  obtain ⟨h1, h2, h3, h4, h5, h6, h7, h8⟩ := id C
  obtain ⟨hK, hP, hD, hS, hg, hX, hZ⟩ := id R
  obtain ⟨hi0, hst⟩ := List.forall_mem_cons.mp hst
  obtain ⟨hc0, hst⟩ := List.forall_mem_cons.mp hst
  have hc1 : 0 ≤ c := hc0.1
  have z := kk p l e s m args below meth c0 H locs cells slots mc ms D cid ad0 ad n0 A ls C R hA hx hn hL (List.forall_mem_cons.mpr ⟨hg.l hc1 hi, hst⟩) hcz hsz HE
  refine va_lald h1 h2 hK hP c.toNat 1 (q_ws_at hs) rfl (q_vpin hi0 hi hi2) hd ?_
  rw [q_clamp hi0, show ((c.toNat : Nat) : Int) = c by omega, show ((i.toNat : Nat) : Int) = i by omega]
  exact z
theorem q_s_i2l {a : Int} (hd : decode cc pc = .ok (.i2l, 1)) (k : q_AtS y cc nL rt kc ks SC (pc + 1) L ((1, a) :: st) (sh, rf, mem)) : q_AtS y cc nL rt kc ks SC pc L ((0, a) :: st) (sh, rf, mem) := by
  intro p l e s m args below meth c H locs cells slots mc ms D cid ad0 ad n0 A ls C R hA hx hn hL hst hc hs HE
  obtain ⟨h1, h2, h3, h4, h5, h6, h7, h8⟩ := id C
  obtain ⟨hK, hP, hD, hS, hg, hX, hZ⟩ := id R
  obtain ⟨ha0, hst⟩ := List.forall_mem_cons.mp hst
  have z := k p l e s m args below meth c H locs cells slots mc ms D cid ad0 ad n0 A ls C R hA hx hn hL (List.forall_mem_cons.mpr ⟨⟨by have := ha0.1; simp only at this; omega, by have := ha0.2; simp only at this; omega⟩, hst⟩) hc hs HE
  exact lv_i2l (v := Int64.ofInt a) h1 h2 hd (Int64.toInt_inj.mp (by rw [Int32.toInt_toInt64, q_t32 ha0, q_t64 ⟨by have := ha0.1; simp only at this; omega, by have := ha0.2; simp only at this; omega⟩])) z
theorem q_s_lcmp {a b : Int} (hd : decode cc pc = .ok (.lcmp, 1))  (k : q_AtS y cc nL rt kc ks SC (pc + 1) L ((0, q_olcmp a b) :: st) (sh, rf, mem)) : q_AtS y cc nL rt kc ks SC pc L ((1, b) :: (1, a) :: st) (sh, rf, mem) := by
  intro p l e s m args below meth c H locs cells slots mc ms D cid ad0 ad n0 A ls C R hA hx hn hL hst hc hs HE
  obtain ⟨h1, h2, h3, h4, h5, h6, h7, h8⟩ := id C
  obtain ⟨hK, hP, hD, hS, hg, hX, hZ⟩ := id R
  obtain ⟨hb0, hst⟩ := List.forall_mem_cons.mp hst
  obtain ⟨ha0, hst⟩ := List.forall_mem_cons.mp hst
  have z := k p l e s m args below meth c H locs cells slots mc ms D cid ad0 ad n0 A ls C R hA hx hn hL (List.forall_mem_cons.mpr ⟨q_r32 _, hst⟩) hc hs HE
  simp only [List.map_cons, qe, q_olcmp, Int32.ofInt_toInt] at z
  exact W.lcmp h1 h2 hd  z
theorem q_AtS.mo {kc' ks' : Nat} {σ : qh} (h : q_AtS y cc nL rt kc' ks' SC pc L st σ) (h1 : kc' ≤ kc) (h2 : ks' ≤ ks) : q_AtS y cc nL rt kc ks SC pc L st σ :=
  fun p l e s m args below meth c H locs cells slots mc ms D cid ad0 ad n0 A ls C R hA hx hn hL hst hc hs HE => h p l e s m args below meth c H locs cells slots mc ms D cid ad0 ad n0 A ls C R hA hx hn hL hst (by omega) (by omega) HE
theorem q_AtS.loc {L' : List qv} {σ : qh} (h : q_AtS y cc nL rt kc ks SC pc L st σ) (h1 : ∀ (i : Nat) (v : qv), L[i]? = some v → v.1 < 4 → L'[i]? = some v) (h2 : ∀ v ∈ L, v.1 < 4 ∨ v = (4, 0)) : q_AtS y cc nL rt kc ks SC pc L' st σ :=
  fun p l e s m args below meth c H locs cells slots mc ms D cid ad0 ad n0 A ls C R hA hx hn hL hst hc hs HE => h p l e s m args below meth c H locs cells slots mc ms D cid ad0 ad n0 A ls C R hA hx hn
    ⟨q_lv_mono hL.1 (fun q hq => by
      obtain ⟨i, w⟩ := q
      obtain ⟨v, g1, g2, rfl⟩ := q_lv_mem.mp hq
      exact q_lv_mem.mpr ⟨v, h1 i v g1 g2, g2, rfl⟩), fun v hv => by
      rcases h2 v hv with g | g
      · obtain ⟨i, hi⟩ := List.getElem?_of_mem hv
        exact hL.2 v (List.mem_of_getElem? (h1 i v hi g))
      · rw [g]; trivial⟩ hst hc hs HE
theorem s_cell {A : Nat → Prop} {s : State} {H : Heap} {locs : List Loc} (hS : va_S A s.heap H locs) {b : Nat} (hb : ¬ A b) {scr : Cell} (h : s.heap[b]? = some scr) : H[b]? = some scr := by
  rw [hS.2.1 b (Array.getElem?_eq_some_iff.mp h).1 hb]; exact h
theorem s_iald {i : Nat} (hd : decode cc pc = .ok (.iaload, 1)) (hi : i < SC.2.1) (k : q_AtS y cc nL rt kc ks SC (pc + 1) L ((0, (SC.2.2 i).toInt) :: st) (sh, rf, mem)) : q_AtS y cc nL rt kc ks SC pc L ((0, (i : Int)) :: (2, 226) :: st) (sh, rf, mem) := by
  intro p l e s m args below meth c H locs cells slots mc ms D cid ad0 ad n0 A ls C R hA hx hn hL hst hc hs HE
  obtain ⟨h1, h2, h3, h4, h5, h6, h7, h8⟩ := id C
  obtain ⟨hK, hP, hD, hS, hg, hX, hZ⟩ := id R
  obtain ⟨hi0, hst⟩ := List.forall_mem_cons.mp hst
  obtain ⟨hc0, hst⟩ := List.forall_mem_cons.mp hst
  obtain ⟨scr, x1, x2, x3, x4, x5⟩ := hn.2
  have z := k p l e s m args below meth c H locs cells slots mc ms D cid ad0 ad n0 A ls C R hA hx hn hL (List.forall_mem_cons.mpr ⟨q_r32 _, hst⟩) hc hs HE
  have e0 : qe ad (2, 226) = .ref SC.1 := by rw [← hx]; rfl
  have e1 : qe ad (0, (SC.2.2 i).toInt) = .int (SC.2.2 i) := by show Value.int (Int32.ofInt _) = _; rw [Int32.ofInt_toInt]
  rw [List.map_cons, e1] at z
  rw [List.map_cons, List.map_cons, e0]
  refine W.iald (a := SC.1) (j := Int32.ofInt i) (v := .int (SC.2.2 i)) h1 h2 (s_cell hS hn.1 x1) x2 x3 ?_ ?_ rfl rfl hd z
  · rw [x4]; exact q_vpin hi0 (by omega) (by omega)
  · rw [q_clamp hi0]; exact x5 i hi
theorem s_alen (hd : decode cc pc = .ok (.arraylength, 1)) (hsz : SC.2.1 ≤ 2560) (k : q_AtS y cc nL rt kc ks SC (pc + 1) L ((0, (SC.2.1 : Int)) :: st) (sh, rf, mem)) : q_AtS y cc nL rt kc ks SC pc L ((2, 226) :: st) (sh, rf, mem) := by
  intro p l e s m args below meth c H locs cells slots mc ms D cid ad0 ad n0 A ls C R hA hx hn hL hst hc hs HE
  obtain ⟨h1, h2, h3, h4, h5, h6, h7, h8⟩ := id C
  obtain ⟨hK, hP, hD, hS, hg, hX, hZ⟩ := id R
  obtain ⟨hc0, hst⟩ := List.forall_mem_cons.mp hst
  obtain ⟨scr, x1, x2, x3, x4, x5⟩ := hn.2
  have z := k p l e s m args below meth c H locs cells slots mc ms D cid ad0 ad n0 A ls C R hA hx hn hL (List.forall_mem_cons.mpr ⟨⟨by show (-2147483648 : Int) ≤ (SC.2.1 : Int); omega, by show (SC.2.1 : Int) < 2147483648; omega⟩, hst⟩) hc hs HE
  have e0 : qe ad (2, 226) = .ref SC.1 := by rw [← hx]; rfl
  rw [List.map_cons, e0]
  exact W.alen (a := SC.1) (n := Int32.ofInt (SC.2.1 : Int)) h1 h2 (s_cell hS hn.1 x1) x2 (by rw [x4, Int32.ofInt_eq_ofNat]) rfl rfl hd z
theorem s_arg {i t : Nat} {tI : Int} (hd0 : decode cc pc = .ok (.aload_n 0, 1)) (hd1 : decode cc (pc + 1) = .ok (.iload 4, 2)) (hd2 : decode cc (pc + 1 + 2) = .ok (.iconst tI, 1)) (hd3 : decode cc (pc + 1 + 2 + 1) = .ok (.iadd, 1)) (hd4 : decode cc (pc + 1 + 2 + 1 + 1) = .ok (.iaload, 1)) (hL0 : L[0]? = some (2, 226)) (hL4 : L[4]? = some (0, (i : Int))) (ht : tI = (t : Int)) (hi : i + t < SC.2.1) (hsz : SC.2.1 ≤ 2560)
    (k : q_AtS y cc nL rt kc ks SC (pc + 1 + 2 + 1 + 1 + 1) L ((0, (SC.2.2 (i + t)).toInt) :: st) (sh, rf, mem)) : q_AtS y cc nL rt kc ks SC pc L st (sh, rf, mem) := by
  subst ht
  refine q_s_aload_n hd0 rfl hL0 ?_
  refine q_s_iload hd1 hL4 ?_
  refine q_s_iconst (v := (t : Int)) hd2 rfl (by constructor <;> omega) ?_
  refine q_s_iadd hd3 ?_
  rw [q_w32_id (x := (i : Int) + t) (by constructor <;> omega), ← Int.natCast_add]
  exact s_iald hd4 hi k
theorem s_ws {cid : Nat → ClassId} {ad ad' : Nat → Nat} {sh : List (Nat × Nat)} {rf mem : qm} (hg : q_rg (sh, rf, mem)) (h : ∀ k, k < sh.length → ad' k = ad k) : q_ws cid ad' (sh, rf, mem) = q_ws cid ad (sh, rf, mem) := by
  unfold q_ws
  refine List.map_congr_left (fun k hk => ?_)
  rw [h k (List.mem_range.mp hk), q_cell_ext (n := sh.length) h (fun _ => rfl) (fun _ => rfl) (fun j => hg.2.2 k j)]
theorem s_ok {v : qv} (h : qok 227 v) (h2 : v.1 = 2 → v.2 < 226) : qok 226 v := by
  obtain ⟨t, x⟩ := v
  match t with
  | 0 => exact h
  | 1 => exact h
  | 2 => exact ⟨h.1, h2 rfl⟩
  | _ + 3 => trivial
theorem s_len : q_sh0.length = 226 := by decide +kernel
/-- behind a call -/
theorem s_back {p : Program} {l : Launch} {e : Env} {s : State} {m : MethodId} {args : Array Value} {below : List Frame} {meth : Method} {c : Code} {H : Heap} {locs : List Loc} {cells slots mc ms mc0 ms0 : Nat} {ls : Array Slot} {stk : List Value} {D : va_G} {cid : Nat → ClassId} {ad : Nat → Nat} {A A1 : Nat → Prop} {a : Array Value}
    (hr : va_Run p l e room_1 s m args below meth c H locs cells slots mc0 ms0 (F0 m pc ls stk) (st.map (qe ad)) (q_Q rt' K' D cid ad 226 A1 a) A1) (C : q_C y cc nL rt p s m args meth c) (R : q_R D cid ad A (q_sh0, rf, mem) s H locs) (hA : ∀ q, s.heap.size ≤ q → A q) (hx : ad 226 = SC.1) (hn : ¬ A SC.1 ∧ va_X SC.1 SC.2.1 SC.2.2 s s.heap) (hL : q_L ad 227 L nL ls) (hst : ∀ v ∈ st, qok 227 v) (hc : cells + (kc + mc0) ≤ mc) (hs : slots + (ks + ms0) ≤ ms) (HE : q_SG l s A mc ms) (hA1 : ∀ q, A1 q → A q)
    (hk : ∀ (r : Int) (σ : qh), K' r σ → q_in32 r → ∃ rf' m', σ = (q_sh0, rf', m') ∧ q_AtS y cc nL rt kc ks SC (pc + 3) L (q_push rt' r st) (q_sh0, rf', m')) : W p l e room_1 s m args below meth c H locs cells slots (lw_Z below args s) (F0 m pc ls stk) := by
  obtain ⟨hK, hP, hD, hS, hg, hX, hZ⟩ := id R
  refine q_back hr hS hA1 (fun r σ ad' H1 locs1 k1 k2 k4 k5 k6 k7 k8 k9 => ?_)
  obtain ⟨rf', m', rfl, kk⟩ := hk r σ k1 k2
  have e2 : ∀ k, k < 226 → (fun k => if k = 226 then SC.1 else ad' k) k = ad' k := fun k h => if_neg (by omega)
  have e3 : ∀ k, k < 227 → (fun k => if k = 226 then SC.1 else ad' k) k = ad k := fun k h => by
    by_cases h6 : k = 226
    · rw [h6, hx]; exact if_pos rfl
    · rw [← k4 k (by omega)]; exact if_neg h6
  have ew := s_ws (cid := cid) k8 (ad := ad') (ad' := fun k => if k = 226 then SC.1 else ad' k) e2
  generalize hg2 : (fun k => if k = 226 then SC.1 else ad' k) = ad2 at e2 e3 ew
  have e1 : List.map (qe ad) st = List.map (qe ad2) st := (q_map_ext e3 hst).symm
  rw [e1, q_push_map]
  refine kk p l e s m args below meth c H1 locs1 (cells + mc0) (slots + ms0) mc ms D cid ad ad2 0 A ls C ⟨hK, by rw [ew]; exact k6, by rw [ew]; exact k7, k9, k8, hX, hZ⟩ hA (by rw [e3 226 (by omega)]; exact hx) hn (hL.ext e3 (Nat.le_refl _)) ?_ (by omega) (by omega) HE
  intro v hv
  cases rt' with
  | none => exact hst v hv
  | some t =>
    rcases List.mem_cons.mp hv with h9 | h9
    · subst h9; exact k2
    · exact hst v h9
theorem s_invV {c : Int} {ci n : Nat} {T : u_T} {N : Nat} (as : List qv) (hE : q_Ev y' cc' nL' rt' d' 0 0 ((2, c) :: as) (q_sh0, rf, mem) K') (hM : q_MV y' cc' nL' rt' n) (hd : decode cc pc = .ok (.invokevirtual index, 3)) (hw : Cond.methodLink y.cls index y' ∈ q_TB) (hcl : q_cl[ci]? = some (y'.cls, T, N)) (hs : q_sh0[c.toNat]? = some (ci + 5, N)) (hn' : as.length = n) (hdd : d' ≤ 2000) (hnl : nL' ≤ 21) (hsum : (st.map (fun v => if v.1 = 1 then 2 else 1)).sum ≤ 8) (has2 : ∀ v ∈ as, v.1 = 2 → v.2 < 226)
    (hk : ∀ (r : Int) (σ : qh), K' r σ → q_in32 r → ∃ rf' m', σ = (q_sh0, rf', m') ∧ q_AtS y cc nL rt kc ks SC (pc + 3) L (q_push rt' r st) (q_sh0, rf', m')) : q_AtS y cc nL rt kc ks SC pc L (as.reverse ++ (2, c) :: st) (q_sh0, rf, mem) := by
  intro p l e s m args below meth c0 H locs cells slots mc ms D cid ad0 ad n0 A ls C R hA hx hn hL hst hcz hsz HE
  obtain ⟨h1, h2, h3, h4, h5, h6, h7, h8⟩ := id C
  obtain ⟨hK, hP, hD, hS, hg, hX, hZ⟩ := id R
  obtain ⟨m1, m2, m3, m4, m5, m6, m7⟩ := hM
  obtain ⟨q1, q2, -⟩ := id HE
  have hst2 : ∀ v ∈ (2, c) :: st, qok 227 v := fun v hv => hst v (List.mem_append_right _ hv)
  have hc0 := hst2 _ List.mem_cons_self
  have hst3 : ∀ v ∈ st, qok 227 v := fun v hv => hst2 v (List.mem_cons_of_mem _ hv)
  have hclt : c < 226 := by
    have := (List.getElem?_eq_some_iff.mp hs).1
    rw [s_len] at this
    have := hc0.1
    omega
  have has : ∀ v ∈ (2, c) :: as, qok q_sh0.length v := List.forall_mem_cons.mpr ⟨s_ok hc0 (fun _ => hclt), fun v hv => s_ok (hst v (List.mem_append_left _ (List.mem_reverse.mpr hv))) (has2 v hv)⟩
  have hMet := hE l D cid ad H.size hg has
  have cw : CallW room_1 s args y.cls y'.cls index y' cc' nL' rt' (.code y' cc' nL' rt' :: q_TB) (q_rm d' 0 0) 0 0 n :=
    ⟨callB_of n h8 (q_goodIn m4) rfl rfl rfl (h8 _ m3) (h8 _ hw) ⟨m5, m6, m7⟩ ⟨by show d' + 1 ≤ 2048; omega, by show 8 + (nL' + 11) + 40 * d' ≤ 84000; omega⟩, h8 _ m1, h8 _ m2⟩
  exact s_back (st := st) (va_runV (b := ad c.toNat) (As := as.map (qe ad)) ⟨h1, h2, h3, h7, h8⟩ hMet cw ⟨q_Pc_blind, va_recv hK hP hcl (q_ws_at hs), fun U hU hW => ⟨rfl, by rw [hU], va_K.moved hW.alike hK, by rw [hU]; exact hP, hD.self, hX.warm hW, by rw [hU]; exact ((hZ.kept hS.2.1).narrow (q_A1 hD hS hA)).moved hW.alike⟩⟩ rfl (by rw [List.length_map]; exact hn') hL.1.1 (by simp [qe]) (lv_room (by rw [q_sumcat]; exact hsum)) hd ⟨by show cells + 0 ≤ 601024; omega, by show slots + 0 ≤ 7293034; omega⟩) C R hA hx hn hL hst3 (by omega) (by omega) HE (q_A1 hD hS hA) hk
end QS
section YCS
variable {p : Program} {l : Launch} {e : Env} {R : Room} {s : State} {m : MethodId} {args : Array Value} {below : List Frame} {meth : Method} {c : Code} {T : State} {H : Heap} {locs : List Loc} {cells slots : Nat}
theorem y_callS (X : Stand p l e R s m args below meth c T locs cells slots) (hexec : p.tables.exec = Jvm.exec) {own : String} {index : Nat} {y : MethodName} {bytes : ByteArray} {maxL : Nat} {ret : Option FieldType} {hh : List (Nat × Nat × Nat × Nat)}
    (hown : s.vm.findClass own = some m.cls) (hlink : (Cond.methodLink own index y).before args s = true) (hstat : (Cond.static y).before args s = true) (hinit : (Cond.initialized y.cls).before args s = true)
    (hcode : (Cond.codeWith y bytes maxL ret hh).before args s = true) (hy : y.cls ≠ "java/lang/invoke/MethodHandle" ∧ y.cls ≠ "java/lang/invoke/VarHandle")
    {W : Nat} {Pre : Pt → Array Value → Prop} {Post : Pt → Array Value → Option Value → Pt → Prop} (hK : Back l R p e below s args y 3 W Pre Post)
    {g : JFrame} (hg : g.method = m) (hsize : g.locals.size = c.maxLocals) {argsL rest : List Value} (hlen : ∀ sig, parseMethodDescriptor y.desc = some sig → argsL.length = sig.parameters.length)
    (hstack : g.stack = argsL.reverse ++ rest) (hW : 2 * g.monitorRoom + (rest.map fun v => v.category).sum ≤ W) (hdg : decode c.code g.pc = .ok (.invokestatic index, 3))
    (hpre : ∀ vm₁, s.WarmedH vm₁ → Pre ⟨T.setVm vm₁, locs, cells, slots⟩ argsL.toArray) :
    ∃ (v : Option Value) (vm₁ : Vm) (B : Pt), s.WarmedH vm₁ ∧ Stand p l e R s m args below meth c B.U B.locs B.cells B.slots ∧ Post ⟨T.setVm vm₁, locs, cells, slots⟩ argsL.toArray v B ∧
      ∀ target, Steps p.tables e below (B.U.setTop { g with pc := g.pc + 3, stack := v.toList ++ rest }) target → Steps p.tables e below (T.setTop g) target := by
  obtain ⟨mk, methM, cM, hnamed, hmethM, -, -, -, -, -, -, hsigM⟩ := Cond.codeWith_spec hcode
  have hstatic : methM.isStatic = true := Cond.static_spec hnamed hmethM hstat
  obtain ⟨kP, hkP, -⟩ := className_of_methodNamed hnamed
  have hinitP : kP.init = .initialized := Cond.initialized_spec (findClass_of_methodNamed hnamed) hkP hinit
  obtain ⟨vm₁, X₁, hstep₁⟩ := X.invokestatic hexec hown hlink hnamed hmethM hstatic hkP hinitP hy (g := g) hg (argsL := argsL) (rest := rest) (hlen _ hsigM) hstack hdg
  obtain ⟨v, B, X', hpost, hsteps⟩ := hK m meth c ⟨T.setVm vm₁, locs, cells, slots⟩ { g with stack := rest } (.invokestatic index) mk argsL.toArray X₁ hg hsize hdg hW (X₁.named hnamed) (hpre vm₁ X₁.warmed)
  exact ⟨v, vm₁, B, X₁.warmed, X', hpost, fun target h => hstep₁ _ fun acts => by rw [doInvoke_state]; exact hsteps.trans h⟩
theorem y_runS {y : MethodName} {bytes cc : ByteArray} {maxL nL mc ms n index : Nat} {ret : Option FieldType} {hh : List (Nat × Nat × Nat × Nat)} {ws : List Cond} {rm : Room} {Pc : Array Value → State → Prop} {Qc : Array Value → State → Outcome → State → Prop} {free : Addr → Prop} {Ts : List Cond} {own : String} {As rest : List Value} {g : JFrame}
    (S : CallFix p m c cc nL s args Ts own) (hM : Met l y ws rm Pc Qc mc ms free) (hrc : rm.cells = mc) (hrs : rm.slots = ms) (hfr : rm.frames + 1 ≤ R.frames) (hlo : 8 + (maxL + 11) + rm.locals ≤ R.locals) (hws : ∀ w ∈ ws, ∀ (a' : Array Value) (U : State), s.WarmedH U.vm → w.before a' U = true) (hcw : Cond.codeWith y bytes maxL ret hh ∈ ws)
    (hcode : (Cond.codeWith y bytes maxL ret hh).before args s = true) (hini : (Cond.initialized y.cls).before args s = true) (hy : y.cls ≠ "java/lang/invoke/MethodHandle" ∧ y.cls ≠ "java/lang/invoke/VarHandle") (hlen : ∀ sig, parseMethodDescriptor y.desc = some sig → n = sig.parameters.length) (hl : (Cond.methodLink own index y).before args s = true) (hstt : (Cond.static y).before args s = true) (hp : PreS s H Pc As)
    (hg : g.method = m) (hn : As.length = n) (hsize : g.locals.size = nL) (hstack : g.stack = As.reverse ++ rest) (hW : 2 * g.monitorRoom + (rest.map fun v => v.category).sum ≤ 8) (hdg : decode cc g.pc = .ok (.invokestatic index, 3)) (hf : cells + mc ≤ R.cells ∧ slots + ms ≤ R.slots) :
    va_Run p l e R s m args below meth c H locs cells slots mc ms g rest (Qc As.toArray) (free) := by
  have hK : Back l R p e below s args y 3 8 (PreOf R mc ms Pc) (PostOf Qc mc ms free) := va_backW (bytes := bytes) (maxL := maxL) (ret := ret) (hh := hh) hM hp.1 hrc hrs hfr hlo hws hcw (fun a' U hW => word_at hW (Or.inl (by first | rfl | simp [Cond.onTables, Cond.keeps, Cond.steady])) hini)
  obtain ⟨hx, hb, hml, ho, -⟩ := S
  intro T hT X
  obtain ⟨v, vm₁, ⟨U', l2, c2, s2⟩, hW₁, X', ⟨g', mk, t, L, e1, e2, hq, h1, hL, h2, h3⟩, st⟩ := y_callS X hx (bytes := bytes) (maxL := maxL) (ret := ret) (hh := hh) ho hl hstt hini hcode hy hK hg (hsize.trans hml.symm) (argsL := As) (rest := rest) (fun sig h => hn.trans (hlen sig h)) hstack hW (by rw [hb]; exact hdg)
    (fun vm₁ hW₁ => ⟨hf.1, hf.2, hp.2 (T.setVm vm₁) hT hW₁⟩)
  dsimp only [Pt.U, Pt.locs, Pt.cells, Pt.slots] at X' e1 e2 h1 h2 h3 st
  subst h1; subst h2; subst h3
  exact ⟨v, (T.setVm vm₁).calling g' mk As.toArray, t, U', L, hT, X', hL, e1, e2, hq, st⟩
end YCS
section QT
variable {y : MethodName} {cc : ByteArray} {nL : Nat} {rt : Option FieldType} {kc ks : Nat} {SC : Nat × Nat × (Nat → Int32)} {pc : Nat} {L st : List qv} {rf mem : qm}
variable {y' : MethodName} {cc' : ByteArray} {nL' : Nat} {rt' : Option FieldType} {d' kc' ks' : Nat} {K' : Int → qh → Prop} {index : Nat}
theorem s_invS {n : Nat} {hh : List (Nat × Nat × Nat × Nat)} (as : List qv) (hE : q_EvC y' cc' nL' rt' hh d' kc' ks' as (q_sh0, rf, mem) K') (m1 : Cond.static y' ∈ q_TB) (m3 : Cond.initialized y'.cls ∈ q_TB) (m4 : Cond.codeWith y' cc' nL' rt' hh ∈ q_TB) (m5 : y'.cls ≠ "java/lang/invoke/MethodHandle" ∧ y'.cls ≠ "java/lang/invoke/VarHandle") (m7 : (parseMethodDescriptor y'.desc).map (fun d => d.parameters.length) = some n) (hd : decode cc pc = .ok (.invokestatic index, 3)) (hw : Cond.methodLink y.cls index y' ∈ q_TB) (hn' : as.length = n) (hdd : d' ≤ 2000) (hnl : nL' ≤ 21) (hsum : (st.map (fun v => if v.1 = 1 then 2 else 1)).sum ≤ 8) (has2 : ∀ v ∈ as, v.1 = 2 → v.2 < 226)
    (hk : ∀ (r : Int) (σ : qh), K' r σ → q_in32 r → ∃ rf' m', σ = (q_sh0, rf', m') ∧ q_AtS y cc nL rt kc ks SC (pc + 3) L (q_push rt' r st) (q_sh0, rf', m')) : q_AtS y cc nL rt (kc + kc') (ks + ks') SC pc L (as.reverse ++ st) (q_sh0, rf, mem) := by
  intro p l e s m args below meth c0 H locs cells slots mc ms D cid ad0 ad n0 A ls C R hA hx hn hL hst hcz hsz HE
  obtain ⟨h1, h2, h3, h4, h5, h6, h7, h8⟩ := id C
  obtain ⟨hK, hP, hD, hS, hg, hX, hZ⟩ := id R
  obtain ⟨q1, q2, htr, hY, -⟩ := id HE
  have hst3 : ∀ v ∈ st, qok 227 v := fun v hv => hst v (List.mem_append_right _ hv)
  have has : ∀ v ∈ as, qok q_sh0.length v := fun v hv => s_ok (hst v (List.mem_append_left _ (List.mem_reverse.mpr hv))) (has2 v hv)
  have hMet := hE l htr D cid ad H.size hg has
  have hlen : ∀ sig, parseMethodDescriptor y'.desc = some sig → n = sig.parameters.length := fun sig h => by
    rw [h] at m7
    exact (Option.some.inj m7).symm
  have hGI : GoodIn q_TB (.codeWith y' cc' nL' rt' hh :: q_TB) := fun w hw => by
    rcases List.mem_cons.mp hw with h1 | h1
    · subst h1; exact ⟨m4, q_good m4⟩
    · exact ⟨h1, q_good h1⟩
  exact s_back (st := st) (mc0 := kc') (ms0 := ks') (y_runS (As := as.map (qe ad)) (bytes := cc') (maxL := nL') (ret := rt') (hh := hh) ⟨h1, h2, h3, h7, h8⟩ hMet rfl rfl (by show d' + 1 ≤ 2048; omega) (by show 8 + (nL' + 11) + 40 * d' ≤ 84000; omega) (pay_in h8 hGI) List.mem_cons_self (h8 _ m4) (h8 _ m3) m5 hlen (h8 _ hw) (h8 _ m1) ⟨y_Pc_blind, fun U hU hW => ⟨⟨rfl, by rw [hU], va_K.moved hW.alike hK, by rw [hU]; exact hP, hD.self, hX.warm hW, by rw [hU]; exact ((hZ.kept hS.2.1).narrow (q_A1 hD hS hA)).moved hW.alike⟩, by rw [hU]; exact ((hY.kept hS.2.1).narrow (q_A1 hD hS hA)).warm hW⟩⟩ rfl (by rw [List.length_map]; exact hn') hL.1.1 (by simp) (lv_room (by rw [q_sumcat]; exact hsum)) hd ⟨by show cells + kc' ≤ 601024; omega, by show slots + ks' ≤ 7293034; omega⟩) C R hA hx hn hL hst3 (by omega) (by omega) HE (q_A1 hD hS hA) hk
theorem s_ret0 {p : Program} {l : Launch} {e : Env} {s : State} {m : MethodId} {args : Array Value} {below : List Frame} {meth : Method} {c : Code} (hx : p.tables.exec = Jvm.exec) (hr : meth.sig.returnType = ret) (hlocks : meth.locks = false) {pc : Nat} {H : Heap} {ls : Array Slot} (hdg : decode c.code pc = .ok (.ireturn, 1)) : W p l e room_1 s m args below meth c H [] 601024 7293034 (lw_Z below args s) (F0 m pc ls [.int 1]) := by
  intro T hT X
  obtain ⟨fs, hret, hrun, hended, hW, hframe⟩ := X.leave (v := some (.int 1)) (hlocks := hlocks) (fun h => by rw [hr] at h; cases h)
  have hmeth' : T.vm.method? m = some meth := X.method'
  refine ⟨T.setFrames fs, ?_, .returned (some (.int 1)), hrun, hended, rfl, ⟨_, rfl⟩, hW, hframe⟩
  jvm_step X.here [X.here.top, hx, hdg, hmeth', hr, ret, narrow_b1]
  (try refine ⟨rfl, ?_⟩); (try refine ⟨rfl, ?_⟩)
  first | (intro acts; rw [hret _ acts rfl rfl rfl]) | rw [hret _ _ rfl rfl rfl]
  exact Steps.refl _
theorem s_ret {σ : qh} (hrt : rt = ret) (hd : decode cc pc = .ok (.ireturn, 1)) : q_AtS y cc nL rt kc ks SC pc L [(0, 1)] σ := by
  intro p l e s m args below meth c H locs cells slots mc ms D cid ad0 ad n0 A ls C R hA hx hn hL hst hc hs HE
  obtain ⟨h1, h2, h3, h4, h5, h6, h7, h8⟩ := id C
  obtain ⟨hK, hP, hD, hS, hg, hX, hZ⟩ := id R
  obtain ⟨q1, q2, -, -, q5⟩ := HE
  refine W.widen (k := 601024) (n := 7293034) (by omega) (by omega) ?_
  refine va_forget (fun q hq => q5 _ (hS.2.2 q hq)) ?_
  exact s_ret0 h1 (by rw [h4, hrt]) h5 (by rw [h2]; exact hd)
end QT
