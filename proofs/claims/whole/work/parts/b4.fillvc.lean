theorem bkJ7b_fill_0 {b : Int} {mem : qm} {Q : Int → qm → Prop}
    {x : Int}
    (l1 : q_At yJ7_fill_53178 cJ7_fill_53178 4 none 1 0 0 (qK (q_rb b) Q) 5 [(2, 167), (0, x), (0, 0), (0, 4096)] [] (q_sh0, q_rb b, mem)) :
    q_At yJ7_fill_53178 cJ7_fill_53178 4 none 1 0 0 (qK (q_rb b) Q) 0 [(2, 167), (0, x), (4, 0), (4, 0)] [] (q_sh0, q_rb b, mem) := by
  refine qx_iconst dJ7_fill_53178_0 rfl rfl ?_
  refine qx_istore_n (L' := [(2, 167), (0, x), (0, 0), (4, 0)]) dJ7_fill_53178_1 rfl rfl rfl rfl ?_
  refine q_aload_n dJ7_fill_53178_2 rfl rfl ?_
  refine q_alen0 dJ7_fill_53178_3 qs167 (by decide) ?_
  refine qx_istore_n (L' := [(2, 167), (0, x), (0, 0), (0, 4096)]) dJ7_fill_53178_4 rfl rfl rfl rfl ?_
  exact l1
theorem bkJ7b_fill_5 {b : Int} {mem : qm} {Q : Int → qm → Prop}
    {x v2 v3 : Int}
    (l1 : v3 ≤ v2 → Q 0 mem)
    (o2 : v2 < v3 → (0 ≤ v2 ∧ v2 < 4096) ∧ q_in32 (v2 + 1))
    (l3 : v2 < v3 → q_At yJ7_fill_53178 cJ7_fill_53178 4 none 1 0 0 (qK (q_rb b) Q) 5 [(2, 167), (0, x), (0, (v2 + 1)), (0, v3)] [] (q_sh0, q_rb b, (q_up mem 167 v2 x))) :
    q_At yJ7_fill_53178 cJ7_fill_53178 4 none 1 0 0 (qK (q_rb b) Q) 5 [(2, 167), (0, x), (0, v2), (0, v3)] [] (q_sh0, q_rb b, mem) := by
  refine q_iload_n dJ7_fill_53178_5 rfl rfl ?_
  refine q_iload_n dJ7_fill_53178_6 rfl rfl ?_
  refine qx_icmp_ge (tgt := 20) dJ7_fill_53178_7 (by decide) (fun c1 => ?_) (fun c1 => ?_)
  · skip
    exact q_vret dJ7_fill_53178_20 (qK_i (l1 c1))
  · skip
    refine q_aload_n dJ7_fill_53178_10 rfl rfl ?_
    refine q_iload_n dJ7_fill_53178_11 rfl rfl ?_
    refine q_iload_n dJ7_fill_53178_12 rfl rfl ?_
    refine q_iast dJ7_fill_53178_13 qs167 ((o2 c1).1).1 ((o2 c1).1).2 ?_
    refine qx_iinc (L' := [(2, 167), (0, x), (0, (v2 + 1)), (0, v3)]) dJ7_fill_53178_14 rfl rfl rfl (o2 c1).2 rfl ?_
    refine q_goto (tgt := 5) dJ7_fill_53178_17 (by decide) ?_
    exact l3 c1
