/-! a row of longs copied -/
theorem q_cp_rgL {sh : List (Nat × Nat)} {rf mem : qm} (h : q_rg (sh, rf, mem)) {a b sp dp n : Int} {n0 : Nat} (ha : 0 ≤ a) (hb : 0 ≤ b) (hs : sh[b.toNat]? = some (1, n0)) (hsp : 0 ≤ sp) : q_rg (sh, rf, q_cp mem a sp b dp n) := by
  refine ⟨fun k j => ?_, fun k j hk => ?_, h.2.2⟩
  · show q_in64 (q_cp mem a sp b dp n k j)
    unfold q_cp
    split
    · exact h.l ha (by omega)
    · exact h.1 k j
  · show q_in32 (q_cp mem a sp b dp n k j)
    unfold q_cp
    split
    · rename_i z
      exfalso
      have hk : (sh.getD k (0, 0)).1 ≠ 1 := hk
      rw [show k = b.toNat by omega, List.getD_eq_getElem?_getD, hs] at hk
      exact hk rfl
    · exact h.2.1 k j hk
section QNL
variable {y : MethodName} {cc : ByteArray} {nL : Nat} {rt : Option FieldType} {d kc ks : Nat} {K : Int → qh → Prop} {pc : Nat} {L st : List qv} {sh : List (Nat × Nat)} {rf mem : qm}
theorem q_copyL {index : Nat} {a b sp dp n : Int} {N0 N1 : Nat} (hd : decode cc pc = .ok (.invokestatic index, 3)) (hw1 : Cond.methodLink y.cls index arraycopyName ∈ q_TB) (hw2 : Cond.native arraycopyName ∈ q_TB) (hw3 : Cond.static arraycopyName ∈ q_TB) (hw4 : Cond.initialized "java/lang/System" ∈ q_TB) (hdd : 1 ≤ d) (hsum : (st.map (fun v => if v.1 = 1 then 2 else 1)).sum ≤ 8)
    (hs0 : sh[a.toNat]? = some (1, N0)) (hs1 : sh[b.toNat]? = some (1, N1)) (g1 : 0 ≤ sp) (g2 : 0 ≤ dp) (g3 : 0 ≤ n) (g4 : sp + n ≤ N0) (g5 : dp + n ≤ N1) (kk : q_At y cc nL rt d kc ks K (pc + 3) L st (sh, rf, q_cp mem a sp b dp n)) : q_At y cc nL rt d kc ks K pc L ((0, n) :: (0, dp) :: (2, b) :: (0, sp) :: (2, a) :: st) (sh, rf, mem) := by
  intro p l e s m args below meth c0 H locs cells slots mc ms D cid ad0 ad n0 A ls C R hA hx hn hL hst hcz hsz
  obtain ⟨h1, h2, h3, h4, h5, h6, h7, h8⟩ := id C
  obtain ⟨hK, hP, hD, hS, hg, hX, hZ⟩ := id R
  obtain ⟨hn0, hst⟩ := List.forall_mem_cons.mp hst
  obtain ⟨hdp0, hst⟩ := List.forall_mem_cons.mp hst
  obtain ⟨hb0, hst⟩ := List.forall_mem_cons.mp hst
  obtain ⟨hsp0, hst⟩ := List.forall_mem_cons.mp hst
  obtain ⟨ha0, hst⟩ := List.forall_mem_cons.mp hst
  have hb1 : 0 ≤ b := hb0.1
  have ha1 : 0 ≤ a := ha0.1
  have hsp0 : q_in32 sp := hsp0
  have hdp0 : q_in32 dp := hdp0
  have hn0 : q_in32 n := hn0
  have hnf : nativeFrameWords "java/lang/System" "arraycopy" 5 = 7 := by decide +kernel
  have nlt : ∀ {x : Int}, q_in32 x → 0 ≤ x → ¬ Int32.ofInt x < 0 := fun {x} h h' => by rw [← q_zero, q_lt32 h q_in0]; omega
  refine va_copyl (ty := .long) h1 h2 (h3.trans hL.1.1.symm) h7 (h8 _ hw1) (h8 _ hw2) (h8 _ hw3) (h8 _ hw4) hK hP hD hS a.toNat b.toNat 1 1 (q_ws_at hs0) (q_ws_at hs1) rfl rfl rfl (nlt hsp0 g1) (nlt hdp0 g2) (nlt hn0 g3) (by rw [q_clamp hsp0, q_clamp hn0]; show sp.toNat + n.toNat ≤ N0; omega) (by rw [q_clamp hdp0, q_clamp hn0]; show dp.toNat + n.toNat ≤ N1; omega) (fun i hi => rfl) hdd (by show _ + (nativeFrameWords "java/lang/System" "arraycopy" 5 + 11) ≤ 40 * d; rw [q_sumcat, hnf]; omega) hd (fun H1 locs1 hP1 hD1 hS1 => ?_)
  have hE : (q_ws cid ad (sh, rf, mem)).set b.toNat (ad b.toNat, Sum.inl (cid 1, N1, .inr (.inl (va_cpy (fun j : Nat => Int64.ofInt (mem (a.toNat : Nat) j)) (fun j : Nat => Int64.ofInt (mem (b.toNat : Nat) j)) (Int32.ofInt sp).toNatClampNeg (Int32.ofInt dp).toNatClampNeg (Int32.ofInt n).toNatClampNeg)))) = q_ws cid ad (sh, rf, q_cp mem a sp b dp n) := by
    refine q_ws_set hs1 ?_ (fun k' hk' j => ⟨rfl, ?_⟩)
    · show (Sum.inl (cid 1, N1, .inr (.inl (fun j : Nat => Int64.ofInt (q_cp mem a sp b dp n (b.toNat : Nat) j)))) : va_E) = _
      congr 5
      funext j
      rw [q_clamp hsp0, q_clamp hdp0, q_clamp hn0]
      unfold q_cp va_cpy
      simp only
      by_cases hj : dp.toNat ≤ j ∧ j < dp.toNat + n.toNat
      · rw [if_pos (by omega), if_pos hj, show (a.toNat : Int) = a by omega, show (((sp.toNat + (j - dp.toNat) : Nat)) : Int) = sp + (j - dp) by omega]
      · rw [if_neg (by omega), if_neg hj]
    · unfold q_cp
      rw [if_neg (by omega)]
  exact kk p l e s m args below meth c0 H1 locs1 cells slots mc ms D cid ad0 ad n0 A ls C ⟨hK, hE ▸ hP1, hE ▸ hD1, hS1, q_cp_rgL hg ha1 hb1 hs1 g1, hX, hZ⟩ hA hx hn hL hst hcz hsz
end QNL
