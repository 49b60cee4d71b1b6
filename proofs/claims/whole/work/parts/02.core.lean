/-! ===== the pure picture of the machine: cells by their numbers, whole numbers as Int ===== -/
abbrev qv : Type := Nat × Int
abbrev qm : Type := Int → Int → Int
abbrev qh : Type := List (Nat × Nat) × qm × qm
def q_in32 (x : Int) : Prop := -2147483648 ≤ x ∧ x < 2147483648
def q_in64 (x : Int) : Prop := -9223372036854775808 ≤ x ∧ x < 9223372036854775808
def q_w32 (x : Int) : Int := (x + 2147483648) % 4294967296 - 2147483648
def q_w64 (x : Int) : Int := (x + 9223372036854775808) % 18446744073709551616 - 9223372036854775808
theorem q_w32_in (x : Int) : q_in32 (q_w32 x) := by unfold q_in32 q_w32; omega
theorem q_w32_id {x : Int} (h : q_in32 x) : q_w32 x = x := by unfold q_in32 at h; unfold q_w32; omega
theorem q_w64_in (x : Int) : q_in64 (q_w64 x) := by unfold q_in64 q_w64; omega
theorem q_w64_id {x : Int} (h : q_in64 x) : q_w64 x = x := by unfold q_in64 at h; unfold q_w64; omega
theorem q_t32 {x : Int} (h : q_in32 x) : (Int32.ofInt x).toInt = x := Int32.toInt_ofInt_of_le (by unfold q_in32 at h; omega) (by unfold q_in32 at h; omega)
theorem q_t64 {x : Int} (h : q_in64 x) : (Int64.ofInt x).toInt = x := Int64.toInt_ofInt_of_le (by unfold q_in64 at h; omega) (by unfold q_in64 at h; omega)
theorem q_r32 (x : Int32) : q_in32 x.toInt := ⟨by have := Int32.le_toInt x; omega, by have := Int32.toInt_lt x; omega⟩
theorem q_r64 (x : Int64) : q_in64 x.toInt := ⟨by have := Int64.le_toInt x; omega, by have := Int64.toInt_lt x; omega⟩
theorem q_of32 (x : Int) : Int32.ofInt (q_w32 x) = Int32.ofInt x := by
  apply Int32.toInt_inj.mp
  rw [q_t32 (q_w32_in x), Int32.toInt_ofInt]
  show q_w32 x = Int.bmod x 4294967296
  unfold q_w32
  rw [Int.bmod_def]
  split <;> omega
theorem q_of64 (x : Int) : Int64.ofInt (q_w64 x) = Int64.ofInt x := by
  apply Int64.toInt_inj.mp
  rw [q_t64 (q_w64_in x), Int64.toInt_ofInt]
  show q_w64 x = Int.bmod x 18446744073709551616
  unfold q_w64
  rw [Int.bmod_def]
  split <;> omega
theorem q_eq32 {a b : Int} (ha : q_in32 a) (hb : q_in32 b) : Int32.ofInt a = Int32.ofInt b ↔ a = b :=
  ⟨fun h => by have := congrArg Int32.toInt h; rwa [q_t32 ha, q_t32 hb] at this, fun h => by rw [h]⟩
theorem q_lt32 {a b : Int} (ha : q_in32 a) (hb : q_in32 b) : Int32.ofInt a < Int32.ofInt b ↔ a < b := by rw [Int32.lt_iff_toInt_lt, q_t32 ha, q_t32 hb]
theorem q_le32 {a b : Int} (ha : q_in32 a) (hb : q_in32 b) : Int32.ofInt a ≤ Int32.ofInt b ↔ a ≤ b := by rw [Int32.le_iff_toInt_le, q_t32 ha, q_t32 hb]
theorem q_in0 : q_in32 0 := ⟨by decide, by decide⟩
theorem q_zero : Int32.ofInt 0 = 0 := rfl
theorem q_clamp {i : Int} (h : q_in32 i) : (Int32.ofInt i).toNatClampNeg = i.toNat := by
  show (Int32.ofInt i).toInt.toNat = i.toNat
  rw [q_t32 h]
theorem q_vpin {i : Int} {n : Nat} (h : q_in32 i) (h0 : 0 ≤ i) (h1 : i < n) : vp_in (Int32.ofInt i) n := by
  rw [vp_in_iff, q_t32 h]; exact ⟨h0, h1⟩
/-- what a slot of the machine holds -/
def qe (ad : Nat → Nat) (v : qv) : Value := match v.1 with
  | 0 => .int (Int32.ofInt v.2)
  | 1 => .long (Int64.ofInt v.2)
  | 2 => .ref (ad v.2.toNat)
  | _ => .null
def qok (n : Nat) (v : qv) : Prop := match v.1 with
  | 0 => q_in32 v.2
  | 1 => q_in64 v.2
  | 2 => 0 ≤ v.2 ∧ v.2 < n
  | _ => True
theorem qok.mono {n n' : Nat} {v : qv} (h : qok n v) (hn : n ≤ n') : qok n' v := by
  obtain ⟨t, x⟩ := v
  match t with
  | 0 => exact h
  | 1 => exact h
  | 2 => exact ⟨h.1, by have := h.2; omega⟩
  | _ + 3 => trivial
theorem qe_ext {ad ad' : Nat → Nat} {n : Nat} (he : ∀ k, k < n → ad' k = ad k) {v : qv} (h : qok n v) : qe ad' v = qe ad v := by
  obtain ⟨t, x⟩ := v
  match t with
  | 0 => rfl
  | 1 => rfl
  | 2 =>
    have h1 : 0 ≤ x ∧ x < n := h
    show Value.ref (ad' x.toNat) = Value.ref (ad x.toNat)
    rw [he _ (by omega)]
  | _ + 3 => rfl
/-- which fields of a class hold references -/
def q_ft (c k : Nat) : Nat := match q_cl[c]? with
  | some q => match (q.2.1 k).2.2.1 with
    | "I" => 0
    | "Z" => 0
    | _ => 1
  | none => 0
def q_fv (ad : Nat → Nat) (x : Int) : Value := if x < 0 then .null else .ref (ad x.toNat)
def q_fs (ad : Nat → Nat) (rf mem : qm) (c k n : Nat) : List Value := (List.range n).map (fun j => if q_ft c j = 0 then .int (Int32.ofInt (mem k j)) else q_fv ad (rf k j))
def q_cell (cid : Nat → ClassId) (ad : Nat → Nat) (rf mem : qm) (k : Nat) (e : Nat × Nat) : va_E := match e.1 with
  | 0 => .inl (cid 0, e.2, .inl (fun j => Int32.ofInt (mem k j)))
  | 1 => .inl (cid 1, e.2, .inr (.inl (fun j => Int64.ofInt (mem k j))))
  | 2 => .inl (cid 2, e.2, .inl (fun j => Int32.ofInt (mem k j)))
  | 3 => .inl (cid 3, e.2, .inl (fun j => Int32.ofInt (mem k j)))
  | 4 => .inl (cid 4, e.2, .inr (.inr (.inr (.inr (fun j => if rf k j < 0 then none else some (ad (rf k j).toNat))))))
  | c + 5 => .inr (c, q_fs ad rf mem c k e.2)
def q_ws (cid : Nat → ClassId) (ad : Nat → Nat) (σ : qh) : va_W := (List.range σ.1.length).map (fun k => (ad k, q_cell cid ad σ.2.1 σ.2.2 k (σ.1.getD k (0, 0))))
def q_tys (cid : Nat → ClassId) : List (ClassId × FieldType) := [(cid 0, .int), (cid 1, .long), (cid 2, .byte), (cid 3, .boolean), (cid 4, .object RX7)]
theorem q_ws_len {cid : Nat → ClassId} {ad : Nat → Nat} {σ : qh} : (q_ws cid ad σ).length = σ.1.length := by simp [q_ws]
theorem q_ws_at {cid : Nat → ClassId} {ad : Nat → Nat} {sh : List (Nat × Nat)} {rf mem : qm} {k : Nat} {e : Nat × Nat} (h : sh[k]? = some e) : (q_ws cid ad (sh, rf, mem))[k]? = some (ad k, q_cell cid ad rf mem k e) := by
  have hl : k < sh.length := (List.getElem?_eq_some_iff.mp h).1
  simp only [q_ws, List.getElem?_map, List.getElem?_range hl, Option.map_some]
  rw [List.getD_eq_getElem?_getD, h]
  rfl
theorem q_ws_inv {cid : Nat → ClassId} {ad : Nat → Nat} {sh : List (Nat × Nat)} {rf mem : qm} {k : Nat} {x : Nat × va_E} (h : (q_ws cid ad (sh, rf, mem))[k]? = some x) : ∃ e, sh[k]? = some e ∧ x = (ad k, q_cell cid ad rf mem k e) := by
  have hl : k < sh.length := by
    have := (List.getElem?_eq_some_iff.mp h).1
    rw [q_ws_len] at this
    exact this
  refine ⟨sh[k], List.getElem?_eq_getElem hl, ?_⟩
  rw [q_ws_at (List.getElem?_eq_getElem hl)] at h
  exact (Option.some.inj h).symm
def q_up (f : qm) (c i v : Int) : qm := fun c' i' => if c' = c ∧ i' = i then v else f c' i'
/-- a write to one cell: the world's list with that cell set -/
theorem q_ws_set {cid : Nat → ClassId} {ad : Nat → Nat} {sh : List (Nat × Nat)} {rf mem rf' mem' : qm} {k : Nat} {e : Nat × Nat} {E : va_E} (h : sh[k]? = some e) (hE : q_cell cid ad rf' mem' k e = E) (ho : ∀ k' : Nat, k' ≠ k → ∀ j : Int, rf' k' j = rf k' j ∧ mem' k' j = mem k' j) :
    (q_ws cid ad (sh, rf, mem)).set k (ad k, E) = q_ws cid ad (sh, rf', mem') := by
  apply List.ext_getElem?
  intro i
  by_cases hi : i = k
  · subst hi
    rw [List.getElem?_set_self (by rw [q_ws_len]; exact (List.getElem?_eq_some_iff.mp h).1), q_ws_at h, hE]
  · rw [List.getElem?_set_ne (Ne.symm hi)]
    cases hs : sh[i]? with
    | none =>
      have h1 : sh.length ≤ i := by simpa using hs
      rw [List.getElem?_eq_none (by rw [q_ws_len]; exact h1), List.getElem?_eq_none (by rw [q_ws_len]; exact h1)]
    | some e2 =>
      rw [q_ws_at hs, q_ws_at hs]
      have e1 : ∀ j : Int, rf' i j = rf i j := fun j => (ho i hi j).1
      have e3 : ∀ j : Int, mem' i j = mem i j := fun j => (ho i hi j).2
      unfold q_cell q_fs
      simp only [e1, e3]
/-- all numbers are of the machine's size, all references lead to cells -/
def q_rg (σ : qh) : Prop := (∀ k j : Nat, q_in64 (σ.2.2 k j)) ∧ (∀ k j : Nat, (σ.1.getD k (0, 0)).1 ≠ 1 → q_in32 (σ.2.2 k j)) ∧ ∀ k j : Nat, σ.2.1 k j < σ.1.length
def q_lv (ad : Nat → Nat) (L : List qv) : List (Nat × Value) := L.zipIdx.filterMap (fun q => if q.1.1 < 4 then some (q.2, qe ad q.1) else none)
theorem q_lv_mem {ad : Nat → Nat} {L : List qv} {i : Nat} {w : Value} : (i, w) ∈ q_lv ad L ↔ ∃ v, L[i]? = some v ∧ v.1 < 4 ∧ w = qe ad v := by
  unfold q_lv
  rw [List.mem_filterMap]
  constructor
  · rintro ⟨⟨v, j⟩, h1, h2⟩
    rw [List.mem_zipIdx_iff_getElem?] at h1
    by_cases h : v.1 < 4
    · simp [h] at h2
      obtain ⟨rfl, rfl⟩ := h2
      exact ⟨v, h1, h, rfl⟩
    · simp [h] at h2
  · rintro ⟨v, h1, h2, rfl⟩
    exact ⟨(v, i), by rw [List.mem_zipIdx_iff_getElem?]; exact h1, by simp [h2]⟩
theorem q_lv_mono {ls : Array Slot} {n : Nat} {l l' : List (Nat × Value)} (h : lv_has ls n l) (hs : ∀ q ∈ l', q ∈ l) : lv_has ls n l' := ⟨h.1, h.2.1, fun q hq => h.2.2 q (hs q hq)⟩
def q_L (ad : Nat → Nat) (n : Nat) (L : List qv) (nL : Nat) (ls : Array Slot) : Prop := lv_has ls nL (q_lv ad L) ∧ ∀ v ∈ L, qok n v
theorem q_L.get {ad : Nat → Nat} {n nL i : Nat} {L : List qv} {ls : Array Slot} (h : q_L ad n L nL ls) {v : qv} (hv : L[i]? = some v) (ht : v.1 < 4) : ls[i]? = some (.val (qe ad v)) := h.1.2.2 (i, qe ad v) (q_lv_mem.mpr ⟨v, hv, ht, rfl⟩)
theorem q_L.ok {ad : Nat → Nat} {n nL i : Nat} {L : List qv} {ls : Array Slot} (h : q_L ad n L nL ls) {v : qv} (hv : L[i]? = some v) : qok n v := h.2 v (List.mem_of_getElem? hv)
theorem q_L.ext {ad ad' : Nat → Nat} {n n' nL : Nat} {L : List qv} {ls : Array Slot} (h : q_L ad n L nL ls) (he : ∀ k, k < n → ad' k = ad k) (hn : n ≤ n') : q_L ad' n' L nL ls := by
  refine ⟨q_lv_mono h.1 (fun q hq => ?_), fun v hv => (h.2 v hv).mono hn⟩
  obtain ⟨i, w⟩ := q
  obtain ⟨v, h1, h2, rfl⟩ := q_lv_mem.mp hq
  exact q_lv_mem.mpr ⟨v, h1, h2, qe_ext he (h.ok h1)⟩
theorem q_cat (ad : Nat → Nat) (v : qv) : (qe ad v).category = if v.1 = 1 then 2 else 1 := by
  obtain ⟨t, x⟩ := v
  match t with
  | 0 => rfl
  | 1 => rfl
  | 2 => rfl
  | _ + 3 => simp [qe, Value.category]
/-- behind a store of one slot -/
theorem q_L.set1 {ad : Nat → Nat} {n nL i : Nat} {L : List qv} {ls : Array Slot} {v : qv} (h0 : ∀ v ∈ L, qok n v) (hv : qok n v) (hp : ∀ w, L[i - 1]? = some w → i ≠ 0 → w.1 ≠ 1)
    (h : lv_has ls nL ((i, qe ad v) :: (q_lv ad L).filter (fun q => !(q.1 == i) && !(q.1 + 1 == i && q.2.category == 2)))) : q_L ad n (L.set i v) nL ls := by
  refine ⟨q_lv_mono h (fun q hq => ?_), fun w hw => ?_⟩
  · obtain ⟨j, w⟩ := q
    obtain ⟨u, h1, h2, rfl⟩ := q_lv_mem.mp hq
    by_cases hj : j = i
    · subst hj
      rw [List.getElem?_set] at h1
      simp at h1
      rw [h1.2]
      exact List.mem_cons_self
    · rw [List.getElem?_set_ne (Ne.symm hj)] at h1
      refine List.mem_cons_of_mem _ (List.mem_filter.mpr ⟨q_lv_mem.mpr ⟨u, h1, h2, rfl⟩, ?_⟩)
      by_cases hj2 : j + 1 = i
      · have := hp u (by rw [← hj2]; exact h1) (by omega)
        rw [q_cat]
        simp [hj, this]
      · simp [hj, hj2]
  · rcases List.mem_or_eq_of_mem_set hw with h | h
    · exact h0 w h
    · rw [h]; exact hv
theorem q_L.set2 {ad : Nat → Nat} {n nL i : Nat} {L : List qv} {ls : Array Slot} {v : qv} (h0 : ∀ v ∈ L, qok n v) (hv : qok n v) (hp : ∀ w, L[i - 1]? = some w → i ≠ 0 → w.1 ≠ 1)
    (h : lv_has ls nL ((i, qe ad v) :: (q_lv ad L).filter (fun q => !(q.1 == i) && (!(q.1 == i + 1) && !(q.1 + 1 == i && q.2.category == 2))))) : q_L ad n ((L.set i v).set (i + 1) (4, 0)) nL ls := by
  refine ⟨q_lv_mono h (fun q hq => ?_), fun w hw => ?_⟩
  · obtain ⟨j, w⟩ := q
    obtain ⟨u, h1, h2, rfl⟩ := q_lv_mem.mp hq
    by_cases hj1 : j = i + 1
    · subst hj1
      rw [List.getElem?_set] at h1
      simp at h1
      rw [← h1.2] at h2
      simp at h2
    · rw [List.getElem?_set_ne (Ne.symm hj1)] at h1
      by_cases hj : j = i
      · subst hj
        rw [List.getElem?_set] at h1
        simp at h1
        rw [h1.2]
        exact List.mem_cons_self
      · rw [List.getElem?_set_ne (Ne.symm hj)] at h1
        refine List.mem_cons_of_mem _ (List.mem_filter.mpr ⟨q_lv_mem.mpr ⟨u, h1, h2, rfl⟩, ?_⟩)
        by_cases hj2 : j + 1 = i
        · have := hp u (by rw [← hj2]; exact h1) (by omega)
          rw [q_cat]
          simp [hj, hj1, this]
        · simp [hj, hj1, hj2]
  · rcases List.mem_or_eq_of_mem_set hw with h | h
    · rcases List.mem_or_eq_of_mem_set h with h | h
      · exact h0 w h
      · rw [h]; exact hv
    · rw [h]; trivial
/-- what a method stands in -/
def q_C (y : MethodName) (cc : ByteArray) (nL : Nat) (rt : Option FieldType) (p : Program) (s : State) (m : MethodId) (args : Array Value) (meth : Method) (c : Code) : Prop :=
  p.tables.exec = Jvm.exec ∧ c.code = cc ∧ c.maxLocals = nL ∧ meth.sig.returnType = rt ∧ meth.locks = false ∧ meth.name = y.name ∧ s.vm.findClass y.cls = some m.cls ∧ ∀ w ∈ q_TB, w.before args s = true
/-- the words that are no 'good words': links of nest mates, the class of arrays of states -/
def q_NX : List (String × Nat × MethodName × String) := [(RX11, 9, yX9_init, RX11), (RX11, 18, yX7_init, RX11), (RX3, 17, yX7_init, RX11), (RX11, 59, yX6_init, RX11), (RX11, 75, yX2_init, RX11), (RX11, 82, yX8_init, RX11), (RX11, 89, yX5_init, RX11)]
def q_X (U : State) : Prop := va_AO RX7 U ∧ ∀ q ∈ q_NX, va_Nw (.methodLinkNest q.1 q.2.1 q.2.2.1 q.2.2.2) U
theorem q_X.warm {s U : State} (hW : s.WarmedH U.vm) (h : q_X s) : q_X U := ⟨h.1.moved hW.alike, fun q hq => va_Nw.warmM hW (h.2 q hq)⟩
theorem q_X.same {s U : State} (hW : s.vm = U.vm) (h : q_X s) : q_X U := ⟨h.1.moved (by rw [← hW]; exact Vm.Alike.refl s.vm), fun q hq => va_Nw.same rfl hW (h.2 q hq)⟩
/-- the ten letters of laws, which lie in a static field that nobody writes -/
def q_let (j : Nat) : Int := [106, 98, 116, 108, 104, 99, 111, 103, 119, 100].getD j 0
def q_Z (A : Nat → Prop) (U : State) (H : Heap) : Prop := ∃ (lt : Nat) (scr : Cell), va_Z RX2 "LETTERS" "[C" (.ref lt) A U H ∧ ¬ A lt ∧ H[lt]? = some scr ∧ U.isArrayOf scr .char ∧ scr.vm ≠ .unknown ∧ (10 ≤ scr.slots.size ∧ scr.slots.size.toInt32 = Int32.ofInt 10) ∧ ∀ j : Nat, j < 10 → scr.slots[j]? = some (.int (Int32.ofInt (q_let j)))
theorem q_Z.moved {A : Nat → Prop} {u U : State} {H : Heap} (hvm : u.vm.Alike U.vm) (h : q_Z A u H) : q_Z A U H := by
  obtain ⟨lt, scr, h1, h2, h3, h4, h5⟩ := h
  exact ⟨lt, scr, h1.moved hvm, h2, h3, State.isArrayOf_alike hvm h4, h5⟩
theorem q_Z.kept {A : Nat → Prop} {U : State} {H H1 : Heap} (h : q_Z A U H) (hq : ∀ a : Nat, a < H.size → ¬ A a → H1[a]? = H[a]?) : q_Z A U H1 := by
  obtain ⟨lt, scr, h1, h2, h3, h4, h5⟩ := h
  exact ⟨lt, scr, h1.kept hq, h2, by rw [hq lt (Array.getElem?_eq_some_iff.mp h3).1 h2]; exact h3, h4, h5⟩
theorem q_Z.narrow {A B : Nat → Prop} {U : State} {H : Heap} (h : q_Z A U H) (hAB : ∀ q, B q → A q) : q_Z B U H := by
  obtain ⟨lt, scr, h1, h2, h3⟩ := h
  exact ⟨lt, scr, h1.narrow hAB, fun z => h2 (hAB lt z), h3⟩
def q_R (D : va_G) (cid : Nat → ClassId) (ad : Nat → Nat) (A : Nat → Prop) (σ : qh) (s : State) (H : Heap) (locs : List Loc) : Prop :=
  va_K D q_cl (q_tys cid) s ∧ va_P D q_cl (q_ws cid ad σ) H ∧ va_D A (q_ws cid ad σ) ∧ va_S A s.heap H locs ∧ q_rg σ ∧ q_X s ∧ q_Z A s s.heap
def q_ret (rt : Option FieldType) (r : Int) : Option Value := rt.map (fun _ => .int (Int32.ofInt r))
def q_Q (rt : Option FieldType) (K : Int → qh → Prop) (D : va_G) (cid : Nat → ClassId) (ad0 : Nat → Nat) (n0 : Nat) (A : Nat → Prop) : Array Value → State → Outcome → State → Prop := fun _ st oc t =>
  (∃ (r : Int) (σ : qh) (ad : Nat → Nat), K r σ ∧ q_in32 r ∧ oc = .returned (q_ret rt r) ∧ (∀ k, k < n0 → ad k = ad0 k) ∧ n0 ≤ σ.1.length ∧ va_P D q_cl (q_ws cid ad σ) t.heap ∧ va_D A (q_ws cid ad σ) ∧ q_rg σ) ∧ va_F A st t
def q_rm (d kc ks : Nat) : Room := { frames := d, cells := kc, slots := ks, locals := 40 * d }
def q_At (y : MethodName) (cc : ByteArray) (nL : Nat) (rt : Option FieldType) (d kc ks : Nat) (K : Int → qh → Prop) (pc : Nat) (L st : List qv) (σ : qh) : Prop :=
  ∀ (p : Program) (l : Launch) (e : Env) (s : State) (m : MethodId) (args : Array Value) (below : List Frame) (meth : Method) (c : Code) (H : Heap) (locs : List Loc) (cells slots mc ms : Nat) (D : va_G) (cid : Nat → ClassId) (ad0 ad : Nat → Nat) (n0 : Nat) (A : Nat → Prop) (ls : Array Slot),
    q_C y cc nL rt p s m args meth c → q_R D cid ad A σ s H locs → (∀ q, s.heap.size ≤ q → A q) → (∀ k, k < n0 → ad k = ad0 k) → n0 ≤ σ.1.length → q_L ad σ.1.length L nL ls → (∀ v ∈ st, qok σ.1.length v) → cells + kc ≤ mc → slots + ks ≤ ms →
    W p l e (q_rm d mc ms) s m args below meth c H locs cells slots (MQ below (q_Q rt K D cid ad0 n0 A) args s mc ms A) (F0 m pc ls (st.map (qe ad)))
def q_Pc (args : List qv) (σ : qh) (D : va_G) (cid : Nat → ClassId) (ad : Nat → Nat) (sz : Nat) : Array Value → State → Prop :=
  va_Pc (args.map (qe ad)) (fun U => U.heap.size = sz ∧ va_K D q_cl (q_tys cid) U ∧ va_P D q_cl (q_ws cid ad σ) U.heap ∧ va_D (va_A (q_ws cid ad σ) sz) (q_ws cid ad σ) ∧ q_X U ∧ q_Z (va_A (q_ws cid ad σ) sz) U U.heap)
/-- a method, from a heap: it returns, and K holds of its answer and the heap behind it -/
def q_Ev (y : MethodName) (cc : ByteArray) (nL : Nat) (rt : Option FieldType) (d kc ks : Nat) (args : List qv) (σ : qh) (K : Int → qh → Prop) : Prop :=
  ∀ (l : Launch) (D : va_G) (cid : Nat → ClassId) (ad : Nat → Nat) (sz : Nat), q_rg σ → (∀ v ∈ args, qok σ.1.length v) →
    Met l y (.code y cc nL rt :: q_TB) (q_rm d kc ks) (q_Pc args σ D cid ad sz) (q_Q rt K D cid ad σ.1.length (va_A (q_ws cid ad σ) sz)) kc ks (va_A (q_ws cid ad σ) sz)
theorem q_Q.mono {rt : Option FieldType} {K K' : Int → qh → Prop} {D : va_G} {cid : Nat → ClassId} {ad0 : Nat → Nat} {n0 : Nat} {A : Nat → Prop} (h : ∀ r σ, K r σ → K' r σ) {a : Array Value} {st t : State} {oc : Outcome} (q : q_Q rt K D cid ad0 n0 A a st oc t) : q_Q rt K' D cid ad0 n0 A a st oc t := by
  obtain ⟨⟨r, σ, ad, h1, h2⟩, h3⟩ := q
  exact ⟨⟨r, σ, ad, h r σ h1, h2⟩, h3⟩
