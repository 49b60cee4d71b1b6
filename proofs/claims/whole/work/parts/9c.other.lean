/-! ===== calls behind which another row may be read ===== -/
def qE (P : Int → qm → Prop) : Int → qh → Prop := fun r σ => ∃ (b : Int) (m : qm), σ = (q_sh0, q_rb b, m) ∧ P r m
theorem qE_i {P : Int → qm → Prop} {r b : Int} {m : qm} (h : P r m) : qE P r (q_sh0, q_rb b, m) := ⟨b, m, rfl, h⟩
theorem qK.e {b : Int} {P : Int → qm → Prop} {r : Int} {σ : qh} (h : qK (q_rb b) P r σ) : qE P r σ := by
  obtain ⟨m, e, p⟩ := h
  exact ⟨b, m, e, p⟩
section QE
variable {y y' : MethodName} {cc cc' : ByteArray} {nL nL' : Nat} {rt rt' : Option FieldType} {d d' kc ks : Nat} {K : Int → qh → Prop} {pc : Nat} {L : List qv} {st : List qv} {rf mem : qm} {index : Nat} {P : Int → qm → Prop}
theorem qx_invVE {c : Int} {ci n : Nat} {T : u_T} {N : Nat} (as : List qv) (st' : List qv) (hst : as.reverse ++ (2, c) :: st = st') (hM : q_MV y' cc' nL' rt' n) (hd : decode cc pc = .ok (.invokevirtual index, 3)) (hw : Cond.methodLink y.cls index y' ∈ q_TB) (hcl : q_cl[ci]? = some (y'.cls, T, N)) (hs : q_sh0[c.toNat]? = some (ci + 5, N)) (hn' : as.length = n) (hdd : Nat.ble (d' + 1) d = true) (hnl : Nat.ble nL' 21 = true) (hsum : Nat.ble (st.map (fun v => if v.1 = 1 then 2 else 1)).sum 8 = true) (hE : q_Ev y' cc' nL' rt' d' 0 0 ((2, c) :: as) (q_sh0, rf, mem) (qE P))
    (hk : ∀ (r b : Int) (m : qm), P r m → q_in32 r → q_At y cc nL rt d kc ks K (pc + 3) L (q_push rt' r st) (q_sh0, q_rb b, m)) : q_At y cc nL rt d kc ks K pc L st' (q_sh0, rf, mem) := by
  subst hst
  refine q_invV (kc := kc) (ks := ks) (kc' := 0) (ks' := 0) as hE hM hd hw hcl hs hn' (Nat.le_of_ble_eq_true hdd) (Nat.le_of_ble_eq_true hnl) (Nat.le_of_ble_eq_true hsum) ?_
  rintro r σ ⟨b, m, rfl, h⟩ hr _
  exact hk r b m h hr
end QE
