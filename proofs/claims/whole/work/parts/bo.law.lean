/-! ===== the law: its cases and its loop (written by lawc.py) ===== -/
abbrev s_L (i : Int) : List qv := [(2, 226), (2, 0), (2, 188), (2, 225), (0, i), (4, 0), (4, 0)]
abbrev s_A (kc ks : Nat) (SC : Nat × Nat × (Nat → Int32)) (pc : Nat) (L st : List qv) (b : Int) (m : qm) : Prop := q_AtS x code 7 ret kc ks SC pc L st (q_sh0, q_rb b, m)
theorem lw_step {c k : Nat} {m : qm} (I : i_I (l_LW c) k m) : i_I (l_LW (c + 1)) (k + 1) m := by
  obtain ⟨n, t, p, a, x, r, s, u, kk, l⟩ := I.keep (l_LW_f c) (X := fun _ _ => False) (fun _ _ _ => rfl) (fun _ _ _ h => h)
  exact ⟨n, t, p, a, x, r, s, u, kk, l.1, by have := l.2; omega⟩
theorem i_I.lw {c c' k : Nat} {m : qm} (I : i_I (l_LW c) k m) (h : c ≤ c') : i_I (l_LW c') k m := by
  obtain ⟨n, t, p, a, x, r, s, u, kk, l1, l2⟩ := I
  exact ⟨n, t, p, a, x, r, s, u, kk, l1, by omega⟩
theorem lw_town {k : Nat} : ∀ m m' : qm, l_LW k m → (∀ c i, x_L0 c i → m' c i = m c i) → m' 188 51 ≤ m 188 51 + 1 → l_LW (k + 1) m' := by
  rintro m m' ⟨⟨C, h1, h2⟩, h3⟩ hf h4
  refine ⟨⟨C, h1.fr (X := fun c i => ¬ x_L0 c i) (fun c i z => hf c i (Classical.byContradiction z)) (fun c i z y => y (by unfold x_L0; omega)), h2.fr (X := fun c i => ¬ x_L0 c i) (fun c i z => hf c i (Classical.byContradiction z)) (fun c i z y => y (by unfold x_L0; omega))⟩, by omega⟩
theorem i_51 {k c : Nat} {m : qm} (I : i_I (l_LW c) k m) : m 188 51 ≤ c := by
  obtain ⟨n, t, p, a, x, r, s, u, kk, l1, l2⟩ := I
  exact l2
theorem lw_cmp (a : Int) : q_olcmp a a = 0 := by
  unfold q_olcmp
  simp [lg_cmp]
theorem lw_loc {i r1 r2 : Int} : ∀ (n : Nat) (v : qv), (s_L i)[n]? = some v → v.1 < 4 → (((s_L i).set 5 (0, r1)).set 6 (0, r2))[n]? = some v := by
  intro n v h h4
  match n with
  | 0 => exact h
  | 1 => exact h
  | 2 => exact h
  | 3 => exact h
  | 4 => exact h
  | 5 => cases h; exact absurd h4 (by decide)
  | 6 => cases h; exact absurd h4 (by decide)
  | n + 7 => cases h
section LC
variable {SC : Nat × Nat × (Nat → Int32)} {kc ks k : Nat} {b : Int} {m : qm}
theorem lw_c0 (I : i_I (l_LW k) k m) (hk : k ≤ 511) (hi : 5 * k + 4 < SC.2.1) (hsz : SC.2.1 ≤ 2560) (nx : ∀ b2 m2, i_I (l_LW (k + 1)) (k + 1) m2 → s_A kc ks SC 1753 (s_L ((5 * k : Nat) : Int)) [] b2 m2) : s_A kc ks SC 240 (s_L ((5 * k : Nat) : Int)) [] b m := by
  refine q_s_aload_n dLw_240 rfl rfl ?_
  refine s_arg (i := 5 * k) (t := 1) dLw_241 dLw_242 dLw_244 dLw_245 dLw_246 rfl rfl rfl (by omega) hsz ?_
  refine s_invV (c := 0) (ci := 11) (st := []) [(0, (SC.2.2 (5 * k + 1)).toInt)] (op_sign (l_LW_f k) I _) qM_X11_sign dLw_247 tw401 rfl qs0 rfl (by decide) (by decide) (Nat.le_of_ble_eq_true rfl) (by simp) ?_
  rintro r1 σ1 ⟨m1, rfl, hE⟩ hr1
  refine ⟨_, _, rfl, ?_⟩
  refine q_s_aload_n dLw_250 rfl rfl ?_
  refine s_arg (i := 5 * k) (t := 1) dLw_251 dLw_252 dLw_254 dLw_255 dLw_256 rfl rfl rfl (by omega) hsz ?_
  refine s_invV (c := 188) (ci := 12) (st := [(0, r1)]) [(0, (SC.2.2 (5 * k + 1)).toInt)] hE qM_X12_sign dLw_257 tw1354 rfl qs188 rfl (by decide) (by decide) (Nat.le_of_ble_eq_true rfl) (by simp) ?_
  rintro r2 σ2 ⟨rfl, b2, m2, rfl, I2⟩ hr2
  refine ⟨_, _, rfl, ?_⟩
  exact q_s_icmp_eq (a := r2) (b := r2) (st := []) (tgt := 1753) dLw_260 (by decide) (fun _ => nx b2 m2 (I2.lw (by omega))) (fun z => absurd rfl z)
theorem lw_c1 (I : i_I (l_LW k) k m) (hk : k ≤ 511) (hi : 5 * k + 4 < SC.2.1) (hsz : SC.2.1 ≤ 2560) (nx : ∀ b2 m2, i_I (l_LW (k + 1)) (k + 1) m2 → s_A kc ks SC 1753 (s_L ((5 * k : Nat) : Int)) [] b2 m2) : s_A kc ks SC 265 (s_L ((5 * k : Nat) : Int)) [] b m := by
  refine q_s_aload_n dLw_265 rfl rfl ?_
  refine s_arg (i := 5 * k) (t := 1) dLw_266 dLw_267 dLw_269 dLw_270 dLw_271 rfl rfl rfl (by omega) hsz ?_
  refine s_invV (c := 0) (ci := 11) (st := []) [(0, (SC.2.2 (5 * k + 1)).toInt)] (op_end (l_LW_f k) I _) qM_X11_end dLw_272 tw409 rfl qs0 rfl (by decide) (by decide) (Nat.le_of_ble_eq_true rfl) (by simp) ?_
  rintro r1 σ1 ⟨m1, rfl, hE⟩ hr1
  refine ⟨_, _, rfl, ?_⟩
  refine q_s_aload_n dLw_275 rfl rfl ?_
  refine s_arg (i := 5 * k) (t := 1) dLw_276 dLw_277 dLw_279 dLw_280 dLw_281 rfl rfl rfl (by omega) hsz ?_
  refine s_invV (c := 188) (ci := 12) (st := [(0, r1)]) [(0, (SC.2.2 (5 * k + 1)).toInt)] hE qM_X12_end dLw_282 tw1358 rfl qs188 rfl (by decide) (by decide) (Nat.le_of_ble_eq_true rfl) (by simp) ?_
  rintro r2 σ2 ⟨rfl, b2, m2, rfl, I2⟩ hr2
  refine ⟨_, _, rfl, ?_⟩
  exact q_s_icmp_eq (a := r2) (b := r2) (st := []) (tgt := 1753) dLw_285 (by decide) (fun _ => nx b2 m2 (I2.lw (by omega))) (fun z => absurd rfl z)
theorem lw_c2 (I : i_I (l_LW k) k m) (hk : k ≤ 511) (hi : 5 * k + 4 < SC.2.1) (hsz : SC.2.1 ≤ 2560) (nx : ∀ b2 m2, i_I (l_LW (k + 1)) (k + 1) m2 → s_A kc ks SC 1753 (s_L ((5 * k : Nat) : Int)) [] b2 m2) : s_A kc ks SC 290 (s_L ((5 * k : Nat) : Int)) [] b m := by
  refine q_s_aload_n dLw_290 rfl rfl ?_
  refine s_invV (c := 0) (ci := 11) (st := []) [] (op_town (LW := l_LW k) (LW' := l_LW (k + 1)) lw_town I (by have := i_51 I; omega)) qM_X11_town dLw_291 tw413 rfl qs0 rfl (by decide) (by decide) (Nat.le_of_ble_eq_true rfl) (by simp) ?_
  rintro r1 σ1 ⟨m1, rfl, hE⟩ hr1
  refine ⟨_, _, rfl, ?_⟩
  refine q_s_aload_n dLw_294 rfl rfl ?_
  refine s_invV (c := 188) (ci := 12) (st := [(0, r1)]) [] hE qM_X12_town dLw_295 tw1365 rfl qs188 rfl (by decide) (by decide) (Nat.le_of_ble_eq_true rfl) (by simp) ?_
  rintro r2 σ2 ⟨rfl, b2, m2, rfl, I2⟩ hr2
  refine ⟨_, _, rfl, ?_⟩
  exact q_s_icmp_eq (a := r2) (b := r2) (st := []) (tgt := 1753) dLw_298 (by decide) (fun _ => nx b2 m2 (I2.lw (by omega))) (fun z => absurd rfl z)
theorem lw_c3 (I : i_I (l_LW k) k m) (hk : k ≤ 511) (hi : 5 * k + 4 < SC.2.1) (hsz : SC.2.1 ≤ 2560) (nx : ∀ b2 m2, i_I (l_LW (k + 1)) (k + 1) m2 → s_A kc ks SC 1753 (s_L ((5 * k : Nat) : Int)) [] b2 m2) : s_A kc ks SC 303 (s_L ((5 * k : Nat) : Int)) [] b m := by
  refine q_s_aload_n dLw_303 rfl rfl ?_
  refine s_invV (c := 0) (ci := 11) (st := []) [] (op_law I) qM_X11_law dLw_304 tw514 rfl qs0 rfl (by decide) (by decide) (Nat.le_of_ble_eq_true rfl) (by simp) ?_
  rintro r1 σ1 ⟨m1, rfl, hE⟩ hr1
  refine ⟨_, _, rfl, ?_⟩
  refine q_s_aload_n dLw_307 rfl rfl ?_
  refine s_invV (c := 188) (ci := 12) (st := [(0, r1)]) [] hE qM_X12_law dLw_308 tw1401 rfl qs188 rfl (by decide) (by decide) (Nat.le_of_ble_eq_true rfl) (by simp) ?_
  rintro r2 σ2 ⟨rfl, b2, m2, rfl, I2⟩ hr2
  refine ⟨_, _, rfl, ?_⟩
  exact q_s_icmp_eq (a := r2) (b := r2) (st := []) (tgt := 1753) dLw_311 (by decide) (fun _ => nx b2 m2 (I2.lw (by omega))) (fun z => absurd rfl z)
theorem lw_c5 (I : i_I (l_LW k) k m) (hk : k ≤ 511) (hi : 5 * k + 4 < SC.2.1) (hsz : SC.2.1 ≤ 2560) (nx : ∀ b2 m2, i_I (l_LW (k + 1)) (k + 1) m2 → s_A kc ks SC 1753 (s_L ((5 * k : Nat) : Int)) [] b2 m2) : s_A kc ks SC 384 (s_L ((5 * k : Nat) : Int)) [] b m := by
  refine q_s_aload_n dLw_384 rfl rfl ?_
  refine s_arg (i := 5 * k) (t := 1) dLw_385 dLw_386 dLw_388 dLw_389 dLw_390 rfl rfl rfl (by omega) hsz ?_
  refine s_arg (i := 5 * k) (t := 2) dLw_391 dLw_392 dLw_394 dLw_395 dLw_396 rfl rfl rfl (by omega) hsz ?_
  refine s_invV (c := 0) (ci := 11) (st := []) [(0, (SC.2.2 (5 * k + 1)).toInt), (0, (SC.2.2 (5 * k + 2)).toInt)] (op_hole (l_LW_f k) I _ _) qM_X11_hole dLw_397 tw572 rfl qs0 rfl (by decide) (by decide) (Nat.le_of_ble_eq_true rfl) (by simp) ?_
  rintro r1 σ1 ⟨m1, rfl, hE⟩ hr1
  refine ⟨_, _, rfl, ?_⟩
  refine q_s_aload_n dLw_400 rfl rfl ?_
  refine s_arg (i := 5 * k) (t := 1) dLw_401 dLw_402 dLw_404 dLw_405 dLw_406 rfl rfl rfl (by omega) hsz ?_
  refine s_arg (i := 5 * k) (t := 2) dLw_407 dLw_408 dLw_410 dLw_411 dLw_412 rfl rfl rfl (by omega) hsz ?_
  refine s_invV (c := 188) (ci := 12) (st := [(0, r1)]) [(0, (SC.2.2 (5 * k + 1)).toInt), (0, (SC.2.2 (5 * k + 2)).toInt)] hE qM_X12_hole dLw_413 tw1445 rfl qs188 rfl (by decide) (by decide) (Nat.le_of_ble_eq_true rfl) (by simp) ?_
  rintro r2 σ2 ⟨rfl, b2, m2, rfl, I2⟩ hr2
  refine ⟨_, _, rfl, ?_⟩
  exact q_s_icmp_eq (a := r2) (b := r2) (st := []) (tgt := 1753) dLw_416 (by decide) (fun _ => nx b2 m2 (I2.lw (by omega))) (fun z => absurd rfl z)
theorem lw_c6 (I : i_I (l_LW k) k m) (hk : k ≤ 511) (hi : 5 * k + 4 < SC.2.1) (hsz : SC.2.1 ≤ 2560) (nx : ∀ b2 m2, i_I (l_LW (k + 1)) (k + 1) m2 → s_A kc ks SC 1753 (s_L ((5 * k : Nat) : Int)) [] b2 m2) : s_A kc ks SC 421 (s_L ((5 * k : Nat) : Int)) [] b m := by
  refine q_s_aload_n dLw_421 rfl rfl ?_
  refine s_arg (i := 5 * k) (t := 1) dLw_422 dLw_423 dLw_425 dLw_426 dLw_427 rfl rfl rfl (by omega) hsz ?_
  refine s_arg (i := 5 * k) (t := 2) dLw_428 dLw_429 dLw_431 dLw_432 dLw_433 rfl rfl rfl (by omega) hsz ?_
  refine s_invV (c := 0) (ci := 11) (st := []) [(0, (SC.2.2 (5 * k + 1)).toInt), (0, (SC.2.2 (5 * k + 2)).toInt)] (op_below (l_LW_f k) I _ _) qM_X11_below dLw_434 tw580 rfl qs0 rfl (by decide) (by decide) (Nat.le_of_ble_eq_true rfl) (by simp) ?_
  rintro r1 σ1 ⟨m1, rfl, hE⟩ hr1
  refine ⟨_, _, rfl, ?_⟩
  refine q_s_aload_n dLw_437 rfl rfl ?_
  refine s_arg (i := 5 * k) (t := 1) dLw_438 dLw_439 dLw_441 dLw_442 dLw_443 rfl rfl rfl (by omega) hsz ?_
  refine s_arg (i := 5 * k) (t := 2) dLw_444 dLw_445 dLw_447 dLw_448 dLw_449 rfl rfl rfl (by omega) hsz ?_
  refine s_invV (c := 188) (ci := 12) (st := [(0, r1)]) [(0, (SC.2.2 (5 * k + 1)).toInt), (0, (SC.2.2 (5 * k + 2)).toInt)] hE qM_X12_below dLw_450 tw1449 rfl qs188 rfl (by decide) (by decide) (Nat.le_of_ble_eq_true rfl) (by simp) ?_
  rintro r2 σ2 ⟨rfl, b2, m2, rfl, I2⟩ hr2
  refine ⟨_, _, rfl, ?_⟩
  exact q_s_icmp_eq (a := r2) (b := r2) (st := []) (tgt := 1753) dLw_453 (by decide) (fun _ => nx b2 m2 (I2.lw (by omega))) (fun z => absurd rfl z)
theorem lw_c7 (I : i_I (l_LW k) k m) (hk : k ≤ 511) (hi : 5 * k + 4 < SC.2.1) (hsz : SC.2.1 ≤ 2560) (nx : ∀ b2 m2, i_I (l_LW (k + 1)) (k + 1) m2 → s_A kc ks SC 1753 (s_L ((5 * k : Nat) : Int)) [] b2 m2) : s_A kc ks SC 458 (s_L ((5 * k : Nat) : Int)) [] b m := by
  refine q_s_aload_n dLw_458 rfl rfl ?_
  refine s_arg (i := 5 * k) (t := 1) dLw_459 dLw_460 dLw_462 dLw_463 dLw_464 rfl rfl rfl (by omega) hsz ?_
  refine s_arg (i := 5 * k) (t := 2) dLw_465 dLw_466 dLw_468 dLw_469 dLw_470 rfl rfl rfl (by omega) hsz ?_
  refine s_arg (i := 5 * k) (t := 3) dLw_471 dLw_472 dLw_474 dLw_475 dLw_476 rfl rfl rfl (by omega) hsz ?_
  refine s_arg (i := 5 * k) (t := 4) dLw_477 dLw_478 dLw_480 dLw_481 dLw_482 rfl rfl rfl (by omega) hsz ?_
  refine s_invV (c := 0) (ci := 11) (st := []) [(0, (SC.2.2 (5 * k + 1)).toInt), (0, (SC.2.2 (5 * k + 2)).toInt), (0, (SC.2.2 (5 * k + 3)).toInt), (0, (SC.2.2 (5 * k + 4)).toInt)] (op_sheet (l_LW_f k) I _ _ _ _ (q_r32 _)) qM_X11_sheet dLw_483 tw588 rfl qs0 rfl (by decide) (by decide) (Nat.le_of_ble_eq_true rfl) (by simp) ?_
  rintro r1 σ1 ⟨m1, rfl, hE⟩ hr1
  refine ⟨_, _, rfl, ?_⟩
  refine q_s_aload_n dLw_486 rfl rfl ?_
  refine s_arg (i := 5 * k) (t := 1) dLw_487 dLw_488 dLw_490 dLw_491 dLw_492 rfl rfl rfl (by omega) hsz ?_
  refine s_arg (i := 5 * k) (t := 2) dLw_493 dLw_494 dLw_496 dLw_497 dLw_498 rfl rfl rfl (by omega) hsz ?_
  refine s_arg (i := 5 * k) (t := 3) dLw_499 dLw_500 dLw_502 dLw_503 dLw_504 rfl rfl rfl (by omega) hsz ?_
  refine s_arg (i := 5 * k) (t := 4) dLw_505 dLw_506 dLw_508 dLw_509 dLw_510 rfl rfl rfl (by omega) hsz ?_
  refine s_invV (c := 188) (ci := 12) (st := [(0, r1)]) [(0, (SC.2.2 (5 * k + 1)).toInt), (0, (SC.2.2 (5 * k + 2)).toInt), (0, (SC.2.2 (5 * k + 3)).toInt), (0, (SC.2.2 (5 * k + 4)).toInt)] hE qM_X12_sheet dLw_511 tw1453 rfl qs188 rfl (by decide) (by decide) (Nat.le_of_ble_eq_true rfl) (by simp) ?_
  rintro r2 σ2 ⟨rfl, b2, m2, rfl, I2⟩ hr2
  refine ⟨_, _, rfl, ?_⟩
  exact q_s_icmp_eq (a := r2) (b := r2) (st := []) (tgt := 1753) dLw_514 (by decide) (fun _ => nx b2 m2 (I2.lw (by omega))) (fun z => absurd rfl z)
theorem lw_c8 (I : i_I (l_LW k) k m) (hk : k ≤ 511) (hi : 5 * k + 4 < SC.2.1) (hsz : SC.2.1 ≤ 2560) (nx : ∀ b2 m2, i_I (l_LW (k + 1)) (k + 1) m2 → s_A kc ks SC 1753 (s_L ((5 * k : Nat) : Int)) [] b2 m2) : s_A kc ks SC 519 (s_L ((5 * k : Nat) : Int)) [] b m := by
  refine q_s_aload_n dLw_519 rfl rfl ?_
  refine s_arg (i := 5 * k) (t := 1) dLw_520 dLw_521 dLw_523 dLw_524 dLw_525 rfl rfl rfl (by omega) hsz ?_
  refine s_arg (i := 5 * k) (t := 2) dLw_526 dLw_527 dLw_529 dLw_530 dLw_531 rfl rfl rfl (by omega) hsz ?_
  refine s_arg (i := 5 * k) (t := 3) dLw_532 dLw_533 dLw_535 dLw_536 dLw_537 rfl rfl rfl (by omega) hsz ?_
  refine s_invV (c := 0) (ci := 11) (st := []) [(0, (SC.2.2 (5 * k + 1)).toInt), (0, (SC.2.2 (5 * k + 2)).toInt), (0, (SC.2.2 (5 * k + 3)).toInt)] (op_spring (l_LW_f k) I _ _ _) qM_X11_spring dLw_538 tw599 rfl qs0 rfl (by decide) (by decide) (Nat.le_of_ble_eq_true rfl) (by simp) ?_
  rintro r1 σ1 ⟨m1, rfl, hE⟩ hr1
  refine ⟨_, _, rfl, ?_⟩
  refine q_s_aload_n dLw_541 rfl rfl ?_
  refine s_arg (i := 5 * k) (t := 1) dLw_542 dLw_543 dLw_545 dLw_546 dLw_547 rfl rfl rfl (by omega) hsz ?_
  refine s_arg (i := 5 * k) (t := 2) dLw_548 dLw_549 dLw_551 dLw_552 dLw_553 rfl rfl rfl (by omega) hsz ?_
  refine s_arg (i := 5 * k) (t := 3) dLw_554 dLw_555 dLw_557 dLw_558 dLw_559 rfl rfl rfl (by omega) hsz ?_
  refine s_invV (c := 188) (ci := 12) (st := [(0, r1)]) [(0, (SC.2.2 (5 * k + 1)).toInt), (0, (SC.2.2 (5 * k + 2)).toInt), (0, (SC.2.2 (5 * k + 3)).toInt)] hE qM_X12_spring dLw_560 tw1459 rfl qs188 rfl (by decide) (by decide) (Nat.le_of_ble_eq_true rfl) (by simp) ?_
  rintro r2 σ2 ⟨rfl, b2, m2, rfl, I2⟩ hr2
  refine ⟨_, _, rfl, ?_⟩
  exact q_s_icmp_eq (a := r2) (b := r2) (st := []) (tgt := 1753) dLw_563 (by decide) (fun _ => nx b2 m2 (I2.lw (by omega))) (fun z => absurd rfl z)
theorem lw_c9 (I : i_I (l_LW k) k m) (hk : k ≤ 511) (hi : 5 * k + 4 < SC.2.1) (hsz : SC.2.1 ≤ 2560) (nx : ∀ b2 m2, i_I (l_LW (k + 1)) (k + 1) m2 → s_A kc ks SC 1753 (s_L ((5 * k : Nat) : Int)) [] b2 m2) : s_A kc ks SC 568 (s_L ((5 * k : Nat) : Int)) [] b m := by
  refine q_s_aload_n dLw_568 rfl rfl ?_
  refine s_arg (i := 5 * k) (t := 1) dLw_569 dLw_570 dLw_572 dLw_573 dLw_574 rfl rfl rfl (by omega) hsz ?_
  refine s_arg (i := 5 * k) (t := 2) dLw_575 dLw_576 dLw_578 dLw_579 dLw_580 rfl rfl rfl (by omega) hsz ?_
  refine s_arg (i := 5 * k) (t := 3) dLw_581 dLw_582 dLw_584 dLw_585 dLw_586 rfl rfl rfl (by omega) hsz ?_
  refine s_invV (c := 0) (ci := 11) (st := []) [(0, (SC.2.2 (5 * k + 1)).toInt), (0, (SC.2.2 (5 * k + 2)).toInt), (0, (SC.2.2 (5 * k + 3)).toInt)] (op_pour (l_LW_f k) I _ _ _) qM_X11_pour dLw_587 tw621 rfl qs0 rfl (by decide) (by decide) (Nat.le_of_ble_eq_true rfl) (by simp) ?_
  rintro r1 σ1 ⟨m1, rfl, hE⟩ hr1
  refine ⟨_, _, rfl, ?_⟩
  refine q_s_aload_n dLw_590 rfl rfl ?_
  refine s_arg (i := 5 * k) (t := 1) dLw_591 dLw_592 dLw_594 dLw_595 dLw_596 rfl rfl rfl (by omega) hsz ?_
  refine s_arg (i := 5 * k) (t := 2) dLw_597 dLw_598 dLw_600 dLw_601 dLw_602 rfl rfl rfl (by omega) hsz ?_
  refine s_arg (i := 5 * k) (t := 3) dLw_603 dLw_604 dLw_606 dLw_607 dLw_608 rfl rfl rfl (by omega) hsz ?_
  refine s_invV (c := 188) (ci := 12) (st := [(0, r1)]) [(0, (SC.2.2 (5 * k + 1)).toInt), (0, (SC.2.2 (5 * k + 2)).toInt), (0, (SC.2.2 (5 * k + 3)).toInt)] hE qM_X12_pour dLw_609 tw1474 rfl qs188 rfl (by decide) (by decide) (Nat.le_of_ble_eq_true rfl) (by simp) ?_
  rintro r2 σ2 ⟨rfl, b2, m2, rfl, I2⟩ hr2
  refine ⟨_, _, rfl, ?_⟩
  exact q_s_icmp_eq (a := r2) (b := r2) (st := []) (tgt := 1753) dLw_612 (by decide) (fun _ => nx b2 m2 (I2.lw (by omega))) (fun z => absurd rfl z)
theorem lw_c10 (I : i_I (l_LW k) k m) (hk : k ≤ 511) (hi : 5 * k + 4 < SC.2.1) (hsz : SC.2.1 ≤ 2560) (nx : ∀ b2 m2, i_I (l_LW (k + 1)) (k + 1) m2 → s_A kc ks SC 1753 (s_L ((5 * k : Nat) : Int)) [] b2 m2) : s_A kc ks SC 617 (s_L ((5 * k : Nat) : Int)) [] b m := by
  refine q_s_aload_n dLw_617 rfl rfl ?_
  refine s_arg (i := 5 * k) (t := 1) dLw_618 dLw_619 dLw_621 dLw_622 dLw_623 rfl rfl rfl (by omega) hsz ?_
  refine s_arg (i := 5 * k) (t := 2) dLw_624 dLw_625 dLw_627 dLw_628 dLw_629 rfl rfl rfl (by omega) hsz ?_
  refine s_invV (c := 0) (ci := 11) (st := []) [(0, (SC.2.2 (5 * k + 1)).toInt), (0, (SC.2.2 (5 * k + 2)).toInt)] (op_wax I (by omega) _ _) qM_X11_wax dLw_630 tw637 rfl qs0 rfl (by decide) (by decide) (Nat.le_of_ble_eq_true rfl) (by simp) ?_
  rintro r1 σ1 ⟨m1, rfl, hE⟩ hr1
  refine ⟨_, _, rfl, ?_⟩
  refine q_s_aload_n dLw_633 rfl rfl ?_
  refine s_arg (i := 5 * k) (t := 1) dLw_634 dLw_635 dLw_637 dLw_638 dLw_639 rfl rfl rfl (by omega) hsz ?_
  refine s_arg (i := 5 * k) (t := 2) dLw_640 dLw_641 dLw_643 dLw_644 dLw_645 rfl rfl rfl (by omega) hsz ?_
  refine s_invV (c := 188) (ci := 12) (st := [(0, r1)]) [(0, (SC.2.2 (5 * k + 1)).toInt), (0, (SC.2.2 (5 * k + 2)).toInt)] hE qM_X12_wax dLw_646 tw1494 rfl qs188 rfl (by decide) (by decide) (Nat.le_of_ble_eq_true rfl) (by simp) ?_
  rintro r2 σ2 ⟨rfl, b2, m2, rfl, I2⟩ hr2
  refine ⟨_, _, rfl, ?_⟩
  exact q_s_icmp_eq (a := r2) (b := r2) (st := []) (tgt := 1753) dLw_649 (by decide) (fun _ => nx b2 m2 (I2.lw (by omega))) (fun z => absurd rfl z)
theorem lw_c11 (I : i_I (l_LW k) k m) (hk : k ≤ 511) (hi : 5 * k + 4 < SC.2.1) (hsz : SC.2.1 ≤ 2560) (nx : ∀ b2 m2, i_I (l_LW (k + 1)) (k + 1) m2 → s_A kc ks SC 1753 (s_L ((5 * k : Nat) : Int)) [] b2 m2) : s_A kc ks SC 654 (s_L ((5 * k : Nat) : Int)) [] b m := by
  refine q_s_aload_n dLw_654 rfl rfl ?_
  refine s_arg (i := 5 * k) (t := 1) dLw_655 dLw_656 dLw_658 dLw_659 dLw_660 rfl rfl rfl (by omega) hsz ?_
  refine s_invV (c := 0) (ci := 11) (st := []) [(0, (SC.2.2 (5 * k + 1)).toInt)] (op_bells (l_LW_f k) I (by omega) _) qM_X11_bells dLw_661 tw664 rfl qs0 rfl (by decide) (by decide) (Nat.le_of_ble_eq_true rfl) (by simp) ?_
  rintro r1 σ1 ⟨m1, rfl, hE⟩ hr1
  refine ⟨_, _, rfl, ?_⟩
  refine q_s_aload_n dLw_664 rfl rfl ?_
  refine s_arg (i := 5 * k) (t := 1) dLw_665 dLw_666 dLw_668 dLw_669 dLw_670 rfl rfl rfl (by omega) hsz ?_
  refine s_invV (c := 188) (ci := 12) (st := [(0, r1)]) [(0, (SC.2.2 (5 * k + 1)).toInt)] hE qM_X12_bells dLw_671 tw1498 rfl qs188 rfl (by decide) (by decide) (Nat.le_of_ble_eq_true rfl) (by simp) ?_
  rintro r2 σ2 ⟨rfl, b2, m2, rfl, I2⟩ hr2
  refine ⟨_, _, rfl, ?_⟩
  exact q_s_icmp_eq (a := r2) (b := r2) (st := []) (tgt := 1753) dLw_674 (by decide) (fun _ => nx b2 m2 (I2.lw (by omega))) (fun z => absurd rfl z)
theorem lw_c12 (I : i_I (l_LW k) k m) (hk : k ≤ 511) (hi : 5 * k + 4 < SC.2.1) (hsz : SC.2.1 ≤ 2560) (nx : ∀ b2 m2, i_I (l_LW (k + 1)) (k + 1) m2 → s_A kc ks SC 1753 (s_L ((5 * k : Nat) : Int)) [] b2 m2) : s_A kc ks SC 679 (s_L ((5 * k : Nat) : Int)) [] b m := by
  refine q_s_aload_n dLw_679 rfl rfl ?_
  refine s_invV (c := 0) (ci := 11) (st := []) [] (op_undo (l_LW_f k) I) qM_X11_undo dLw_680 tw707 rfl qs0 rfl (by decide) (by decide) (Nat.le_of_ble_eq_true rfl) (by simp) ?_
  rintro r1 σ1 ⟨m1, rfl, hE⟩ hr1
  refine ⟨_, _, rfl, ?_⟩
  refine q_s_aload_n dLw_683 rfl rfl ?_
  refine s_invV (c := 188) (ci := 12) (st := [(0, r1)]) [] hE qM_X12_undo dLw_684 tw1517 rfl qs188 rfl (by decide) (by decide) (Nat.le_of_ble_eq_true rfl) (by simp) ?_
  rintro r2 σ2 ⟨rfl, b2, m2, rfl, I2⟩ hr2
  refine ⟨_, _, rfl, ?_⟩
  exact q_s_icmp_eq (a := r2) (b := r2) (st := []) (tgt := 1753) dLw_687 (by decide) (fun _ => nx b2 m2 (I2.lw (by omega))) (fun z => absurd rfl z)
theorem lw_c13 (I : i_I (l_LW k) k m) (hk : k ≤ 511) (hi : 5 * k + 4 < SC.2.1) (hsz : SC.2.1 ≤ 2560) (nx : ∀ b2 m2, i_I (l_LW (k + 1)) (k + 1) m2 → s_A kc ks SC 1753 (s_L ((5 * k : Nat) : Int)) [] b2 m2) : s_A kc ks SC 692 (s_L ((5 * k : Nat) : Int)) [] b m := by
  refine q_s_aload_n dLw_692 rfl rfl ?_
  refine s_arg (i := 5 * k) (t := 1) dLw_693 dLw_694 dLw_696 dLw_697 dLw_698 rfl rfl rfl (by omega) hsz ?_
  refine s_arg (i := 5 * k) (t := 2) dLw_699 dLw_700 dLw_702 dLw_703 dLw_704 rfl rfl rfl (by omega) hsz ?_
  refine s_arg (i := 5 * k) (t := 3) dLw_705 dLw_706 dLw_708 dLw_709 dLw_710 rfl rfl rfl (by omega) hsz ?_
  refine s_arg (i := 5 * k) (t := 4) dLw_711 dLw_712 dLw_714 dLw_715 dLw_716 rfl rfl rfl (by omega) hsz ?_
  refine s_invV (c := 0) (ci := 11) (st := []) [(0, (SC.2.2 (5 * k + 1)).toInt), (0, (SC.2.2 (5 * k + 2)).toInt), (0, (SC.2.2 (5 * k + 3)).toInt), (0, (SC.2.2 (5 * k + 4)).toInt)] (op_judge (l_LW_f k) I _ _ _ _) qM_X11_judge dLw_717 tw715 rfl qs0 rfl (by decide) (by decide) (Nat.le_of_ble_eq_true rfl) (by simp) ?_
  rintro r1 σ1 ⟨m1, rfl, hE⟩ hr1
  refine ⟨_, _, rfl, ?_⟩
  refine q_s_aload_n dLw_720 rfl rfl ?_
  refine s_arg (i := 5 * k) (t := 1) dLw_721 dLw_722 dLw_724 dLw_725 dLw_726 rfl rfl rfl (by omega) hsz ?_
  refine s_arg (i := 5 * k) (t := 2) dLw_727 dLw_728 dLw_730 dLw_731 dLw_732 rfl rfl rfl (by omega) hsz ?_
  refine s_arg (i := 5 * k) (t := 3) dLw_733 dLw_734 dLw_736 dLw_737 dLw_738 rfl rfl rfl (by omega) hsz ?_
  refine s_arg (i := 5 * k) (t := 4) dLw_739 dLw_740 dLw_742 dLw_743 dLw_744 rfl rfl rfl (by omega) hsz ?_
  refine s_invV (c := 188) (ci := 12) (st := [(0, r1)]) [(0, (SC.2.2 (5 * k + 1)).toInt), (0, (SC.2.2 (5 * k + 2)).toInt), (0, (SC.2.2 (5 * k + 3)).toInt), (0, (SC.2.2 (5 * k + 4)).toInt)] hE qM_X12_judge dLw_745 tw1525 rfl qs188 rfl (by decide) (by decide) (Nat.le_of_ble_eq_true rfl) (by simp) ?_
  rintro r2 σ2 ⟨rfl, b2, m2, rfl, I2⟩ hr2
  refine ⟨_, _, rfl, ?_⟩
  exact q_s_icmp_eq (a := r2) (b := r2) (st := []) (tgt := 1753) dLw_748 (by decide) (fun _ => nx b2 m2 (I2.lw (by omega))) (fun z => absurd rfl z)
theorem lw_c14 (I : i_I (l_LW k) k m) (hk : k ≤ 511) (hi : 5 * k + 4 < SC.2.1) (hsz : SC.2.1 ≤ 2560) (nx : ∀ b2 m2, i_I (l_LW (k + 1)) (k + 1) m2 → s_A kc ks SC 1753 (s_L ((5 * k : Nat) : Int)) [] b2 m2) : s_A kc ks SC 753 (s_L ((5 * k : Nat) : Int)) [] b m := by
  refine q_s_aload_n dLw_753 rfl rfl ?_
  refine s_invV (c := 0) (ci := 11) (st := []) [] (op_order I (by omega)) qM_X11_order dLw_754 tw729 rfl qs0 rfl (by decide) (by decide) (Nat.le_of_ble_eq_true rfl) (by simp) ?_
  rintro r1 σ1 ⟨m1, rfl, hE⟩ hr1
  refine ⟨_, _, rfl, ?_⟩
  refine q_s_aload_n dLw_757 rfl rfl ?_
  refine s_invV (c := 188) (ci := 12) (st := [(0, r1)]) [] hE qM_X12_order dLw_758 tw1533 rfl qs188 rfl (by decide) (by decide) (Nat.le_of_ble_eq_true rfl) (by simp) ?_
  rintro r2 σ2 ⟨rfl, b2, m2, rfl, I2⟩ hr2
  refine ⟨_, _, rfl, ?_⟩
  exact q_s_icmp_eq (a := r2) (b := r2) (st := []) (tgt := 1753) dLw_761 (by decide) (fun _ => nx b2 m2 (I2.lw (by omega))) (fun z => absurd rfl z)
theorem lw_c15 (I : i_I (l_LW k) k m) (hk : k ≤ 511) (hi : 5 * k + 4 < SC.2.1) (hsz : SC.2.1 ≤ 2560) (nx : ∀ b2 m2, i_I (l_LW (k + 1)) (k + 1) m2 → s_A kc ks SC 1753 (s_L ((5 * k : Nat) : Int)) [] b2 m2) : s_A kc ks SC 766 (s_L ((5 * k : Nat) : Int)) [] b m := by
  refine q_s_aload_n dLw_766 rfl rfl ?_
  refine s_arg (i := 5 * k) (t := 1) dLw_767 dLw_768 dLw_770 dLw_771 dLw_772 rfl rfl rfl (by omega) hsz ?_
  refine s_arg (i := 5 * k) (t := 2) dLw_773 dLw_774 dLw_776 dLw_777 dLw_778 rfl rfl rfl (by omega) hsz ?_
  refine s_invV (c := 0) (ci := 11) (st := []) [(0, (SC.2.2 (5 * k + 1)).toInt), (0, (SC.2.2 (5 * k + 2)).toInt)] (op_owes (l_LW_f k) I _ _) qM_X11_owes dLw_779 tw756 rfl qs0 rfl (by decide) (by decide) (Nat.le_of_ble_eq_true rfl) (by simp) ?_
  rintro r1 σ1 ⟨m1, rfl, hE⟩ hr1
  refine ⟨_, _, rfl, ?_⟩
  refine q_s_aload_n dLw_782 rfl rfl ?_
  refine s_arg (i := 5 * k) (t := 1) dLw_783 dLw_784 dLw_786 dLw_787 dLw_788 rfl rfl rfl (by omega) hsz ?_
  refine s_arg (i := 5 * k) (t := 2) dLw_789 dLw_790 dLw_792 dLw_793 dLw_794 rfl rfl rfl (by omega) hsz ?_
  refine s_invV (c := 188) (ci := 12) (st := [(0, r1)]) [(0, (SC.2.2 (5 * k + 1)).toInt), (0, (SC.2.2 (5 * k + 2)).toInt)] hE qM_X12_owes dLw_795 tw1545 rfl qs188 rfl (by decide) (by decide) (Nat.le_of_ble_eq_true rfl) (by simp) ?_
  rintro r2 σ2 ⟨rfl, b2, m2, rfl, I2⟩ hr2
  refine ⟨_, _, rfl, ?_⟩
  exact q_s_icmp_eq (a := r2) (b := r2) (st := []) (tgt := 1753) dLw_798 (by decide) (fun _ => nx b2 m2 (I2.lw (by omega))) (fun z => absurd rfl z)
theorem lw_c16 (I : i_I (l_LW k) k m) (hk : k ≤ 511) (hi : 5 * k + 4 < SC.2.1) (hsz : SC.2.1 ≤ 2560) (nx : ∀ b2 m2, i_I (l_LW (k + 1)) (k + 1) m2 → s_A kc ks SC 1753 (s_L ((5 * k : Nat) : Int)) [] b2 m2) : s_A kc ks SC 803 (s_L ((5 * k : Nat) : Int)) [] b m := by
  refine q_s_aload_n dLw_803 rfl rfl ?_
  refine s_invV (c := 0) (ci := 11) (st := []) [] (op_rest (l_LW_f k) I) qM_X11_rest dLw_804 tw763 rfl qs0 rfl (by decide) (by decide) (Nat.le_of_ble_eq_true rfl) (by simp) ?_
  rintro r1 σ1 ⟨m1, rfl, hE⟩ hr1
  refine ⟨_, _, rfl, ?_⟩
  refine q_s_aload_n dLw_807 rfl rfl ?_
  refine s_invV (c := 188) (ci := 12) (st := [(0, r1)]) [] hE qM_X12_rest dLw_808 tw1555 rfl qs188 rfl (by decide) (by decide) (Nat.le_of_ble_eq_true rfl) (by simp) ?_
  rintro r2 σ2 ⟨rfl, b2, m2, rfl, I2⟩ hr2
  refine ⟨_, _, rfl, ?_⟩
  exact q_s_icmp_eq (a := r2) (b := r2) (st := []) (tgt := 1753) dLw_811 (by decide) (fun _ => nx b2 m2 (I2.lw (by omega))) (fun z => absurd rfl z)
theorem lw_c17 (I : i_I (l_LW k) k m) (hk : k ≤ 511) (hi : 5 * k + 4 < SC.2.1) (hsz : SC.2.1 ≤ 2560) (nx : ∀ b2 m2, i_I (l_LW (k + 1)) (k + 1) m2 → s_A kc ks SC 1753 (s_L ((5 * k : Nat) : Int)) [] b2 m2) : s_A kc ks SC 816 (s_L ((5 * k : Nat) : Int)) [] b m := by
  refine q_s_aload_n dLw_816 rfl rfl ?_
  refine s_arg (i := 5 * k) (t := 1) dLw_817 dLw_818 dLw_820 dLw_821 dLw_822 rfl rfl rfl (by omega) hsz ?_
  refine s_invV (c := 0) (ci := 11) (st := []) [(0, (SC.2.2 (5 * k + 1)).toInt)] (op_dry (l_LW_f k) I _) qM_X11_dry dLw_823 tw796 rfl qs0 rfl (by decide) (by decide) (Nat.le_of_ble_eq_true rfl) (by simp) ?_
  rintro r1 σ1 ⟨m1, rfl, hE⟩ hr1
  refine ⟨_, _, rfl, ?_⟩
  refine q_s_aload_n dLw_826 rfl rfl ?_
  refine s_arg (i := 5 * k) (t := 1) dLw_827 dLw_828 dLw_830 dLw_831 dLw_832 rfl rfl rfl (by omega) hsz ?_
  refine s_invV (c := 188) (ci := 12) (st := [(0, r1)]) [(0, (SC.2.2 (5 * k + 1)).toInt)] hE qM_X12_dry dLw_833 tw1571 rfl qs188 rfl (by decide) (by decide) (Nat.le_of_ble_eq_true rfl) (by simp) ?_
  rintro r2 σ2 ⟨rfl, b2, m2, rfl, I2⟩ hr2
  refine ⟨_, _, rfl, ?_⟩
  exact q_s_icmp_eq (a := r2) (b := r2) (st := []) (tgt := 1753) dLw_836 (by decide) (fun _ => nx b2 m2 (I2.lw (by omega))) (fun z => absurd rfl z)
theorem lw_c18 (I : i_I (l_LW k) k m) (hk : k ≤ 511) (hi : 5 * k + 4 < SC.2.1) (hsz : SC.2.1 ≤ 2560) (nx : ∀ b2 m2, i_I (l_LW (k + 1)) (k + 1) m2 → s_A kc ks SC 1753 (s_L ((5 * k : Nat) : Int)) [] b2 m2) : s_A kc ks SC 841 (s_L ((5 * k : Nat) : Int)) [] b m := by
  refine q_s_aload_n dLw_841 rfl rfl ?_
  refine s_arg (i := 5 * k) (t := 1) dLw_842 dLw_843 dLw_845 dLw_846 dLw_847 rfl rfl rfl (by omega) hsz ?_
  refine s_arg (i := 5 * k) (t := 2) dLw_848 dLw_849 dLw_851 dLw_852 dLw_853 rfl rfl rfl (by omega) hsz ?_
  refine s_invV (c := 0) (ci := 11) (st := []) [(0, (SC.2.2 (5 * k + 1)).toInt), (0, (SC.2.2 (5 * k + 2)).toInt)] (op_later (l_LW_f k) I _ _) qM_X11_later dLw_854 tw800 rfl qs0 rfl (by decide) (by decide) (Nat.le_of_ble_eq_true rfl) (by simp) ?_
  rintro r1 σ1 ⟨m1, rfl, hE⟩ hr1
  refine ⟨_, _, rfl, ?_⟩
  refine q_s_aload_n dLw_857 rfl rfl ?_
  refine s_arg (i := 5 * k) (t := 1) dLw_858 dLw_859 dLw_861 dLw_862 dLw_863 rfl rfl rfl (by omega) hsz ?_
  refine s_arg (i := 5 * k) (t := 2) dLw_864 dLw_865 dLw_867 dLw_868 dLw_869 rfl rfl rfl (by omega) hsz ?_
  refine s_invV (c := 188) (ci := 12) (st := [(0, r1)]) [(0, (SC.2.2 (5 * k + 1)).toInt), (0, (SC.2.2 (5 * k + 2)).toInt)] hE qM_X12_later dLw_870 tw1575 rfl qs188 rfl (by decide) (by decide) (Nat.le_of_ble_eq_true rfl) (by simp) ?_
  rintro r2 σ2 ⟨rfl, b2, m2, rfl, I2⟩ hr2
  refine ⟨_, _, rfl, ?_⟩
  exact q_s_icmp_eq (a := r2) (b := r2) (st := []) (tgt := 1753) dLw_873 (by decide) (fun _ => nx b2 m2 (I2.lw (by omega))) (fun z => absurd rfl z)
theorem lw_c19 (I : i_I (l_LW k) k m) (hk : k ≤ 511) (hi : 5 * k + 4 < SC.2.1) (hsz : SC.2.1 ≤ 2560) (nx : ∀ b2 m2, i_I (l_LW (k + 1)) (k + 1) m2 → s_A kc ks SC 1753 (s_L ((5 * k : Nat) : Int)) [] b2 m2) : s_A kc ks SC 878 (s_L ((5 * k : Nat) : Int)) [] b m := by
  refine q_s_aload_n dLw_878 rfl rfl ?_
  refine s_arg (i := 5 * k) (t := 1) dLw_879 dLw_880 dLw_882 dLw_883 dLw_884 rfl rfl rfl (by omega) hsz ?_
  refine s_arg (i := 5 * k) (t := 2) dLw_885 dLw_886 dLw_888 dLw_889 dLw_890 rfl rfl rfl (by omega) hsz ?_
  refine s_invV (c := 0) (ci := 11) (st := []) [(0, (SC.2.2 (5 * k + 1)).toInt), (0, (SC.2.2 (5 * k + 2)).toInt)] (op_flood (l_LW_f k) I _ _) qM_X11_flood dLw_891 tw809 rfl qs0 rfl (by decide) (by decide) (Nat.le_of_ble_eq_true rfl) (by simp) ?_
  rintro r1 σ1 ⟨m1, rfl, hE⟩ hr1
  refine ⟨_, _, rfl, ?_⟩
  refine q_s_aload_n dLw_894 rfl rfl ?_
  refine s_arg (i := 5 * k) (t := 1) dLw_895 dLw_896 dLw_898 dLw_899 dLw_900 rfl rfl rfl (by omega) hsz ?_
  refine s_arg (i := 5 * k) (t := 2) dLw_901 dLw_902 dLw_904 dLw_905 dLw_906 rfl rfl rfl (by omega) hsz ?_
  refine s_invV (c := 188) (ci := 12) (st := [(0, r1)]) [(0, (SC.2.2 (5 * k + 1)).toInt), (0, (SC.2.2 (5 * k + 2)).toInt)] hE qM_X12_flood dLw_907 tw1587 rfl qs188 rfl (by decide) (by decide) (Nat.le_of_ble_eq_true rfl) (by simp) ?_
  rintro r2 σ2 ⟨rfl, b2, m2, rfl, I2⟩ hr2
  refine ⟨_, _, rfl, ?_⟩
  exact q_s_icmp_eq (a := r2) (b := r2) (st := []) (tgt := 1753) dLw_910 (by decide) (fun _ => nx b2 m2 (I2.lw (by omega))) (fun z => absurd rfl z)
theorem lw_c20 (I : i_I (l_LW k) k m) (hk : k ≤ 511) (hi : 5 * k + 4 < SC.2.1) (hsz : SC.2.1 ≤ 2560) (nx : ∀ b2 m2, i_I (l_LW (k + 1)) (k + 1) m2 → s_A kc ks SC 1753 (s_L ((5 * k : Nat) : Int)) [] b2 m2) : s_A kc ks SC 915 (s_L ((5 * k : Nat) : Int)) [] b m := by
  refine q_s_aload_n dLw_915 rfl rfl ?_
  refine s_arg (i := 5 * k) (t := 1) dLw_916 dLw_917 dLw_919 dLw_920 dLw_921 rfl rfl rfl (by omega) hsz ?_
  refine s_invV (c := 0) (ci := 11) (st := []) [(0, (SC.2.2 (5 * k + 1)).toInt)] (op_above (l_LW_f k) I _) qM_X11_above dLw_922 tw813 rfl qs0 rfl (by decide) (by decide) (Nat.le_of_ble_eq_true rfl) (by simp) ?_
  rintro r1 σ1 ⟨m1, rfl, hE⟩ hr1
  refine ⟨_, _, rfl, ?_⟩
  refine q_s_aload_n dLw_925 rfl rfl ?_
  refine s_arg (i := 5 * k) (t := 1) dLw_926 dLw_927 dLw_929 dLw_930 dLw_931 rfl rfl rfl (by omega) hsz ?_
  refine s_invV (c := 188) (ci := 12) (st := [(0, r1)]) [(0, (SC.2.2 (5 * k + 1)).toInt)] hE qM_X12_above dLw_932 tw1591 rfl qs188 rfl (by decide) (by decide) (Nat.le_of_ble_eq_true rfl) (by simp) ?_
  rintro r2 σ2 ⟨rfl, b2, m2, rfl, I2⟩ hr2
  refine ⟨_, _, rfl, ?_⟩
  exact q_s_icmp_eq (a := r2) (b := r2) (st := []) (tgt := 1753) dLw_935 (by decide) (fun _ => nx b2 m2 (I2.lw (by omega))) (fun z => absurd rfl z)
theorem lw_c21 (I : i_I (l_LW k) k m) (hk : k ≤ 511) (hi : 5 * k + 4 < SC.2.1) (hsz : SC.2.1 ≤ 2560) (nx : ∀ b2 m2, i_I (l_LW (k + 1)) (k + 1) m2 → s_A kc ks SC 1753 (s_L ((5 * k : Nat) : Int)) [] b2 m2) : s_A kc ks SC 940 (s_L ((5 * k : Nat) : Int)) [] b m := by
  refine q_s_aload_n dLw_940 rfl rfl ?_
  refine s_arg (i := 5 * k) (t := 1) dLw_941 dLw_942 dLw_944 dLw_945 dLw_946 rfl rfl rfl (by omega) hsz ?_
  refine s_arg (i := 5 * k) (t := 2) dLw_947 dLw_948 dLw_950 dLw_951 dLw_952 rfl rfl rfl (by omega) hsz ?_
  refine s_arg (i := 5 * k) (t := 3) dLw_953 dLw_954 dLw_956 dLw_957 dLw_958 rfl rfl rfl (by omega) hsz ?_
  refine s_arg (i := 5 * k) (t := 4) dLw_959 dLw_960 dLw_962 dLw_963 dLw_964 rfl rfl rfl (by omega) hsz ?_
  refine s_invV (c := 0) (ci := 11) (st := []) [(0, (SC.2.2 (5 * k + 1)).toInt), (0, (SC.2.2 (5 * k + 2)).toInt), (0, (SC.2.2 (5 * k + 3)).toInt), (0, (SC.2.2 (5 * k + 4)).toInt)] (op_least (l_LW_f k) I _ _ _ _) qM_X11_least dLw_965 tw821 rfl qs0 rfl (by decide) (by decide) (Nat.le_of_ble_eq_true rfl) (by simp) ?_
  rintro r1 σ1 ⟨m1, rfl, hE⟩ hr1
  refine ⟨_, _, rfl, ?_⟩
  refine q_s_aload_n dLw_968 rfl rfl ?_
  refine s_arg (i := 5 * k) (t := 1) dLw_969 dLw_970 dLw_972 dLw_973 dLw_974 rfl rfl rfl (by omega) hsz ?_
  refine s_arg (i := 5 * k) (t := 2) dLw_975 dLw_976 dLw_978 dLw_979 dLw_980 rfl rfl rfl (by omega) hsz ?_
  refine s_arg (i := 5 * k) (t := 3) dLw_981 dLw_982 dLw_984 dLw_985 dLw_986 rfl rfl rfl (by omega) hsz ?_
  refine s_arg (i := 5 * k) (t := 4) dLw_987 dLw_988 dLw_990 dLw_991 dLw_992 rfl rfl rfl (by omega) hsz ?_
  refine s_invV (c := 188) (ci := 12) (st := [(0, r1)]) [(0, (SC.2.2 (5 * k + 1)).toInt), (0, (SC.2.2 (5 * k + 2)).toInt), (0, (SC.2.2 (5 * k + 3)).toInt), (0, (SC.2.2 (5 * k + 4)).toInt)] hE qM_X12_least dLw_993 tw1595 rfl qs188 rfl (by decide) (by decide) (Nat.le_of_ble_eq_true rfl) (by simp) ?_
  rintro r2 σ2 ⟨rfl, b2, m2, rfl, I2⟩ hr2
  refine ⟨_, _, rfl, ?_⟩
  exact q_s_icmp_eq (a := r2) (b := r2) (st := []) (tgt := 1753) dLw_996 (by decide) (fun _ => nx b2 m2 (I2.lw (by omega))) (fun z => absurd rfl z)
theorem lw_c22 (I : i_I (l_LW k) k m) (hk : k ≤ 511) (hi : 5 * k + 4 < SC.2.1) (hsz : SC.2.1 ≤ 2560) (nx : ∀ b2 m2, i_I (l_LW (k + 1)) (k + 1) m2 → s_A kc ks SC 1753 (s_L ((5 * k : Nat) : Int)) [] b2 m2) : s_A kc ks SC 1001 (s_L ((5 * k : Nat) : Int)) [] b m := by
  refine q_s_aload_n dLw_1001 rfl rfl ?_
  refine s_arg (i := 5 * k) (t := 1) dLw_1002 dLw_1003 dLw_1005 dLw_1006 dLw_1007 rfl rfl rfl (by omega) hsz ?_
  refine s_arg (i := 5 * k) (t := 2) dLw_1008 dLw_1009 dLw_1011 dLw_1012 dLw_1013 rfl rfl rfl (by omega) hsz ?_
  refine s_arg (i := 5 * k) (t := 3) dLw_1014 dLw_1015 dLw_1017 dLw_1018 dLw_1019 rfl rfl rfl (by omega) hsz ?_
  refine s_invV (c := 0) (ci := 11) (st := []) [(0, (SC.2.2 (5 * k + 1)).toInt), (0, (SC.2.2 (5 * k + 2)).toInt), (0, (SC.2.2 (5 * k + 3)).toInt)] (op_stops (l_LW_f k) I _ _ _) qM_X11_stops dLw_1020 tw828 rfl qs0 rfl (by decide) (by decide) (Nat.le_of_ble_eq_true rfl) (by simp) ?_
  rintro r1 σ1 ⟨m1, rfl, hE⟩ hr1
  refine ⟨_, _, rfl, ?_⟩
  refine q_s_aload_n dLw_1023 rfl rfl ?_
  refine s_arg (i := 5 * k) (t := 1) dLw_1024 dLw_1025 dLw_1027 dLw_1028 dLw_1029 rfl rfl rfl (by omega) hsz ?_
  refine s_arg (i := 5 * k) (t := 2) dLw_1030 dLw_1031 dLw_1033 dLw_1034 dLw_1035 rfl rfl rfl (by omega) hsz ?_
  refine s_arg (i := 5 * k) (t := 3) dLw_1036 dLw_1037 dLw_1039 dLw_1040 dLw_1041 rfl rfl rfl (by omega) hsz ?_
  refine s_invV (c := 188) (ci := 12) (st := [(0, r1)]) [(0, (SC.2.2 (5 * k + 1)).toInt), (0, (SC.2.2 (5 * k + 2)).toInt), (0, (SC.2.2 (5 * k + 3)).toInt)] hE qM_X12_stops dLw_1042 tw1599 rfl qs188 rfl (by decide) (by decide) (Nat.le_of_ble_eq_true rfl) (by simp) ?_
  rintro r2 σ2 ⟨rfl, b2, m2, rfl, I2⟩ hr2
  refine ⟨_, _, rfl, ?_⟩
  exact q_s_icmp_eq (a := r2) (b := r2) (st := []) (tgt := 1753) dLw_1045 (by decide) (fun _ => nx b2 m2 (I2.lw (by omega))) (fun z => absurd rfl z)
theorem lw_c23 (I : i_I (l_LW k) k m) (hk : k ≤ 511) (hi : 5 * k + 4 < SC.2.1) (hsz : SC.2.1 ≤ 2560) (nx : ∀ b2 m2, i_I (l_LW (k + 1)) (k + 1) m2 → s_A kc ks SC 1753 (s_L ((5 * k : Nat) : Int)) [] b2 m2) : s_A kc ks SC 1050 (s_L ((5 * k : Nat) : Int)) [] b m := by
  refine q_s_aload_n dLw_1050 rfl rfl ?_
  refine s_arg (i := 5 * k) (t := 1) dLw_1051 dLw_1052 dLw_1054 dLw_1055 dLw_1056 rfl rfl rfl (by omega) hsz ?_
  refine s_arg (i := 5 * k) (t := 2) dLw_1057 dLw_1058 dLw_1060 dLw_1061 dLw_1062 rfl rfl rfl (by omega) hsz ?_
  refine s_invV (c := 0) (ci := 11) (st := []) [(0, (SC.2.2 (5 * k + 1)).toInt), (0, (SC.2.2 (5 * k + 2)).toInt)] (op_saves (l_LW_f k) I _ _) qM_X11_saves dLw_1063 tw840 rfl qs0 rfl (by decide) (by decide) (Nat.le_of_ble_eq_true rfl) (by simp) ?_
  rintro r1 σ1 ⟨m1, rfl, hE⟩ hr1
  refine ⟨_, _, rfl, ?_⟩
  refine q_s_aload_n dLw_1066 rfl rfl ?_
  refine s_arg (i := 5 * k) (t := 1) dLw_1067 dLw_1068 dLw_1070 dLw_1071 dLw_1072 rfl rfl rfl (by omega) hsz ?_
  refine s_arg (i := 5 * k) (t := 2) dLw_1073 dLw_1074 dLw_1076 dLw_1077 dLw_1078 rfl rfl rfl (by omega) hsz ?_
  refine s_invV (c := 188) (ci := 12) (st := [(0, r1)]) [(0, (SC.2.2 (5 * k + 1)).toInt), (0, (SC.2.2 (5 * k + 2)).toInt)] hE qM_X12_saves dLw_1079 tw1611 rfl qs188 rfl (by decide) (by decide) (Nat.le_of_ble_eq_true rfl) (by simp) ?_
  rintro r2 σ2 ⟨rfl, b2, m2, rfl, I2⟩ hr2
  refine ⟨_, _, rfl, ?_⟩
  exact q_s_icmp_eq (a := r2) (b := r2) (st := []) (tgt := 1753) dLw_1082 (by decide) (fun _ => nx b2 m2 (I2.lw (by omega))) (fun z => absurd rfl z)
theorem lw_c24 (I : i_I (l_LW k) k m) (hk : k ≤ 511) (hi : 5 * k + 4 < SC.2.1) (hsz : SC.2.1 ≤ 2560) (nx : ∀ b2 m2, i_I (l_LW (k + 1)) (k + 1) m2 → s_A kc ks SC 1753 (s_L ((5 * k : Nat) : Int)) [] b2 m2) : s_A kc ks SC 1087 (s_L ((5 * k : Nat) : Int)) [] b m := by
  refine q_s_aload_n dLw_1087 rfl rfl ?_
  refine s_arg (i := 5 * k) (t := 1) dLw_1088 dLw_1089 dLw_1091 dLw_1092 dLw_1093 rfl rfl rfl (by omega) hsz ?_
  refine s_arg (i := 5 * k) (t := 2) dLw_1094 dLw_1095 dLw_1097 dLw_1098 dLw_1099 rfl rfl rfl (by omega) hsz ?_
  refine s_invV (c := 0) (ci := 11) (st := []) [(0, (SC.2.2 (5 * k + 1)).toInt), (0, (SC.2.2 (5 * k + 2)).toInt)] (op_place (l_LW_f k) I _ _) qM_X11_place dLw_1100 tw853 rfl qs0 rfl (by decide) (by decide) (Nat.le_of_ble_eq_true rfl) (by simp) ?_
  rintro r1 σ1 ⟨m1, rfl, hE⟩ hr1
  refine ⟨_, _, rfl, ?_⟩
  refine q_s_aload_n dLw_1103 rfl rfl ?_
  refine s_arg (i := 5 * k) (t := 1) dLw_1104 dLw_1105 dLw_1107 dLw_1108 dLw_1109 rfl rfl rfl (by omega) hsz ?_
  refine s_arg (i := 5 * k) (t := 2) dLw_1110 dLw_1111 dLw_1113 dLw_1114 dLw_1115 rfl rfl rfl (by omega) hsz ?_
  refine s_invV (c := 188) (ci := 12) (st := [(0, r1)]) [(0, (SC.2.2 (5 * k + 1)).toInt), (0, (SC.2.2 (5 * k + 2)).toInt)] hE qM_X12_place dLw_1116 tw1615 rfl qs188 rfl (by decide) (by decide) (Nat.le_of_ble_eq_true rfl) (by simp) ?_
  rintro r2 σ2 ⟨rfl, b2, m2, rfl, I2⟩ hr2
  refine ⟨_, _, rfl, ?_⟩
  exact q_s_icmp_eq (a := r2) (b := r2) (st := []) (tgt := 1753) dLw_1119 (by decide) (fun _ => nx b2 m2 (I2.lw (by omega))) (fun z => absurd rfl z)
theorem lw_c25 (I : i_I (l_LW k) k m) (hk : k ≤ 511) (hi : 5 * k + 4 < SC.2.1) (hsz : SC.2.1 ≤ 2560) (nx : ∀ b2 m2, i_I (l_LW (k + 1)) (k + 1) m2 → s_A kc ks SC 1753 (s_L ((5 * k : Nat) : Int)) [] b2 m2) : s_A kc ks SC 1124 (s_L ((5 * k : Nat) : Int)) [] b m := by
  refine q_s_aload_n dLw_1124 rfl rfl ?_
  refine s_invV (c := 0) (ci := 11) (st := []) [] (op_payoff (l_LW_f k) I) qM_X11_payoff dLw_1125 tw861 rfl qs0 rfl (by decide) (by decide) (Nat.le_of_ble_eq_true rfl) (by simp) ?_
  rintro r1 σ1 ⟨m1, rfl, hE⟩ hr1
  refine ⟨_, _, rfl, ?_⟩
  refine q_s_aload_n dLw_1128 rfl rfl ?_
  refine s_invV (c := 188) (ci := 12) (st := [(0, r1)]) [] hE qM_X12_payoff dLw_1129 tw1619 rfl qs188 rfl (by decide) (by decide) (Nat.le_of_ble_eq_true rfl) (by simp) ?_
  rintro r2 σ2 ⟨rfl, b2, m2, rfl, I2⟩ hr2
  refine ⟨_, _, rfl, ?_⟩
  exact q_s_icmp_eq (a := r2) (b := r2) (st := []) (tgt := 1753) dLw_1132 (by decide) (fun _ => nx b2 m2 (I2.lw (by omega))) (fun z => absurd rfl z)
theorem lw_c26 (I : i_I (l_LW k) k m) (hk : k ≤ 511) (hi : 5 * k + 4 < SC.2.1) (hsz : SC.2.1 ≤ 2560) (nx : ∀ b2 m2, i_I (l_LW (k + 1)) (k + 1) m2 → s_A kc ks SC 1753 (s_L ((5 * k : Nat) : Int)) [] b2 m2) : s_A kc ks SC 1137 (s_L ((5 * k : Nat) : Int)) [] b m := by
  refine q_s_aload_n dLw_1137 rfl rfl ?_
  refine s_arg (i := 5 * k) (t := 1) dLw_1138 dLw_1139 dLw_1141 dLw_1142 dLw_1143 rfl rfl rfl (by omega) hsz ?_
  refine s_arg (i := 5 * k) (t := 2) dLw_1144 dLw_1145 dLw_1147 dLw_1148 dLw_1149 rfl rfl rfl (by omega) hsz ?_
  refine s_invV (c := 0) (ci := 11) (st := []) [(0, (SC.2.2 (5 * k + 1)).toInt), (0, (SC.2.2 (5 * k + 2)).toInt)] (op_pays (l_LW_f k) I _ _) qM_X11_pays dLw_1150 tw922 rfl qs0 rfl (by decide) (by decide) (Nat.le_of_ble_eq_true rfl) (by simp) ?_
  rintro r1 σ1 ⟨m1, rfl, hE⟩ hr1
  refine ⟨_, _, rfl, ?_⟩
  refine q_s_aload_n dLw_1153 rfl rfl ?_
  refine s_arg (i := 5 * k) (t := 1) dLw_1154 dLw_1155 dLw_1157 dLw_1158 dLw_1159 rfl rfl rfl (by omega) hsz ?_
  refine s_arg (i := 5 * k) (t := 2) dLw_1160 dLw_1161 dLw_1163 dLw_1164 dLw_1165 rfl rfl rfl (by omega) hsz ?_
  refine s_invV (c := 188) (ci := 12) (st := [(0, r1)]) [(0, (SC.2.2 (5 * k + 1)).toInt), (0, (SC.2.2 (5 * k + 2)).toInt)] hE qM_X12_pays dLw_1166 tw1643 rfl qs188 rfl (by decide) (by decide) (Nat.le_of_ble_eq_true rfl) (by simp) ?_
  rintro r2 σ2 ⟨rfl, b2, m2, rfl, I2⟩ hr2
  refine ⟨_, _, rfl, ?_⟩
  exact q_s_icmp_eq (a := r2) (b := r2) (st := []) (tgt := 1753) dLw_1169 (by decide) (fun _ => nx b2 m2 (I2.lw (by omega))) (fun z => absurd rfl z)
theorem lw_c27 (I : i_I (l_LW k) k m) (hk : k ≤ 511) (hi : 5 * k + 4 < SC.2.1) (hsz : SC.2.1 ≤ 2560) (nx : ∀ b2 m2, i_I (l_LW (k + 1)) (k + 1) m2 → s_A kc ks SC 1753 (s_L ((5 * k : Nat) : Int)) [] b2 m2) : s_A kc ks SC 1174 (s_L ((5 * k : Nat) : Int)) [] b m := by
  refine q_s_aload_n dLw_1174 rfl rfl ?_
  refine s_arg (i := 5 * k) (t := 1) dLw_1175 dLw_1176 dLw_1178 dLw_1179 dLw_1180 rfl rfl rfl (by omega) hsz ?_
  refine s_arg (i := 5 * k) (t := 2) dLw_1181 dLw_1182 dLw_1184 dLw_1185 dLw_1186 rfl rfl rfl (by omega) hsz ?_
  refine s_invV (c := 0) (ci := 11) (st := []) [(0, (SC.2.2 (5 * k + 1)).toInt), (0, (SC.2.2 (5 * k + 2)).toInt)] (op_soonest (l_LW_f k) I _ _) qM_X11_soonest dLw_1187 tw938 rfl qs0 rfl (by decide) (by decide) (Nat.le_of_ble_eq_true rfl) (by simp) ?_
  rintro r1 σ1 ⟨m1, rfl, hE⟩ hr1
  refine ⟨_, _, rfl, ?_⟩
  refine q_s_aload_n dLw_1190 rfl rfl ?_
  refine s_arg (i := 5 * k) (t := 1) dLw_1191 dLw_1192 dLw_1194 dLw_1195 dLw_1196 rfl rfl rfl (by omega) hsz ?_
  refine s_arg (i := 5 * k) (t := 2) dLw_1197 dLw_1198 dLw_1200 dLw_1201 dLw_1202 rfl rfl rfl (by omega) hsz ?_
  refine s_invV (c := 188) (ci := 12) (st := [(0, r1)]) [(0, (SC.2.2 (5 * k + 1)).toInt), (0, (SC.2.2 (5 * k + 2)).toInt)] hE qM_X12_soonest dLw_1203 tw1659 rfl qs188 rfl (by decide) (by decide) (Nat.le_of_ble_eq_true rfl) (by simp) ?_
  rintro r2 σ2 ⟨rfl, b2, m2, rfl, I2⟩ hr2
  refine ⟨_, _, rfl, ?_⟩
  exact q_s_icmp_eq (a := r2) (b := r2) (st := []) (tgt := 1753) dLw_1206 (by decide) (fun _ => nx b2 m2 (I2.lw (by omega))) (fun z => absurd rfl z)
theorem lw_c28 (I : i_I (l_LW k) k m) (hk : k ≤ 511) (hi : 5 * k + 4 < SC.2.1) (hsz : SC.2.1 ≤ 2560) (nx : ∀ b2 m2, i_I (l_LW (k + 1)) (k + 1) m2 → s_A kc ks SC 1753 (s_L ((5 * k : Nat) : Int)) [] b2 m2) : s_A kc ks SC 1211 (s_L ((5 * k : Nat) : Int)) [] b m := by
  refine q_s_aload_n dLw_1211 rfl rfl ?_
  refine s_arg (i := 5 * k) (t := 1) dLw_1212 dLw_1213 dLw_1215 dLw_1216 dLw_1217 rfl rfl rfl (by omega) hsz ?_
  refine s_arg (i := 5 * k) (t := 2) dLw_1218 dLw_1219 dLw_1221 dLw_1222 dLw_1223 rfl rfl rfl (by omega) hsz ?_
  refine s_invV (c := 0) (ci := 11) (st := []) [(0, (SC.2.2 (5 * k + 1)).toInt), (0, (SC.2.2 (5 * k + 2)).toInt)] (op_latest (l_LW_f k) I _ _) qM_X11_latest dLw_1224 tw942 rfl qs0 rfl (by decide) (by decide) (Nat.le_of_ble_eq_true rfl) (by simp) ?_
  rintro r1 σ1 ⟨m1, rfl, hE⟩ hr1
  refine ⟨_, _, rfl, ?_⟩
  refine q_s_aload_n dLw_1227 rfl rfl ?_
  refine s_arg (i := 5 * k) (t := 1) dLw_1228 dLw_1229 dLw_1231 dLw_1232 dLw_1233 rfl rfl rfl (by omega) hsz ?_
  refine s_arg (i := 5 * k) (t := 2) dLw_1234 dLw_1235 dLw_1237 dLw_1238 dLw_1239 rfl rfl rfl (by omega) hsz ?_
  refine s_invV (c := 188) (ci := 12) (st := [(0, r1)]) [(0, (SC.2.2 (5 * k + 1)).toInt), (0, (SC.2.2 (5 * k + 2)).toInt)] hE qM_X12_latest dLw_1240 tw1663 rfl qs188 rfl (by decide) (by decide) (Nat.le_of_ble_eq_true rfl) (by simp) ?_
  rintro r2 σ2 ⟨rfl, b2, m2, rfl, I2⟩ hr2
  refine ⟨_, _, rfl, ?_⟩
  exact q_s_icmp_eq (a := r2) (b := r2) (st := []) (tgt := 1753) dLw_1243 (by decide) (fun _ => nx b2 m2 (I2.lw (by omega))) (fun z => absurd rfl z)
theorem lw_c29 (I : i_I (l_LW k) k m) (hk : k ≤ 511) (hi : 5 * k + 4 < SC.2.1) (hsz : SC.2.1 ≤ 2560) (nx : ∀ b2 m2, i_I (l_LW (k + 1)) (k + 1) m2 → s_A kc ks SC 1753 (s_L ((5 * k : Nat) : Int)) [] b2 m2) : s_A kc ks SC 1248 (s_L ((5 * k : Nat) : Int)) [] b m := by
  refine q_s_aload_n dLw_1248 rfl rfl ?_
  refine s_invV (c := 0) (ci := 11) (st := []) [] (op_settle (l_LW_f k) I) qM_X11_settle dLw_1249 tw946 rfl qs0 rfl (by decide) (by decide) (Nat.le_of_ble_eq_true rfl) (by simp) ?_
  rintro r1 σ1 ⟨m1, rfl, hE⟩ hr1
  refine ⟨_, _, rfl, ?_⟩
  refine q_s_aload_n dLw_1252 rfl rfl ?_
  refine s_invV (c := 188) (ci := 12) (st := [(0, r1)]) [] hE qM_X12_settle dLw_1253 tw1667 rfl qs188 rfl (by decide) (by decide) (Nat.le_of_ble_eq_true rfl) (by simp) ?_
  rintro r2 σ2 ⟨rfl, b2, m2, rfl, I2⟩ hr2
  refine ⟨_, _, rfl, ?_⟩
  exact q_s_icmp_eq (a := r2) (b := r2) (st := []) (tgt := 1753) dLw_1256 (by decide) (fun _ => nx b2 m2 (I2.lw (by omega))) (fun z => absurd rfl z)
theorem lw_c30 (I : i_I (l_LW k) k m) (hk : k ≤ 511) (hi : 5 * k + 4 < SC.2.1) (hsz : SC.2.1 ≤ 2560) (nx : ∀ b2 m2, i_I (l_LW (k + 1)) (k + 1) m2 → s_A kc ks SC 1753 (s_L ((5 * k : Nat) : Int)) [] b2 m2) : s_A kc ks SC 1261 (s_L ((5 * k : Nat) : Int)) [] b m := by
  refine q_s_aload_n dLw_1261 rfl rfl ?_
  refine s_arg (i := 5 * k) (t := 1) dLw_1262 dLw_1263 dLw_1265 dLw_1266 dLw_1267 rfl rfl rfl (by omega) hsz ?_
  refine s_arg (i := 5 * k) (t := 2) dLw_1268 dLw_1269 dLw_1271 dLw_1272 dLw_1273 rfl rfl rfl (by omega) hsz ?_
  refine s_invV (c := 0) (ci := 11) (st := []) [(0, (SC.2.2 (5 * k + 1)).toInt), (0, (SC.2.2 (5 * k + 2)).toInt)] (op_share (l_LW_f k) I _ _) qM_X11_share dLw_1274 tw965 rfl qs0 rfl (by decide) (by decide) (Nat.le_of_ble_eq_true rfl) (by simp) ?_
  rintro r1 σ1 ⟨m1, rfl, hE⟩ hr1
  refine ⟨_, _, rfl, ?_⟩
  refine q_s_aload_n dLw_1277 rfl rfl ?_
  refine s_arg (i := 5 * k) (t := 1) dLw_1278 dLw_1279 dLw_1281 dLw_1282 dLw_1283 rfl rfl rfl (by omega) hsz ?_
  refine s_arg (i := 5 * k) (t := 2) dLw_1284 dLw_1285 dLw_1287 dLw_1288 dLw_1289 rfl rfl rfl (by omega) hsz ?_
  refine s_invV (c := 188) (ci := 12) (st := [(0, r1)]) [(0, (SC.2.2 (5 * k + 1)).toInt), (0, (SC.2.2 (5 * k + 2)).toInt)] hE qM_X12_share dLw_1290 tw1679 rfl qs188 rfl (by decide) (by decide) (Nat.le_of_ble_eq_true rfl) (by simp) ?_
  rintro r2 σ2 ⟨rfl, b2, m2, rfl, I2⟩ hr2
  refine ⟨_, _, rfl, ?_⟩
  exact q_s_icmp_eq (a := r2) (b := r2) (st := []) (tgt := 1753) dLw_1293 (by decide) (fun _ => nx b2 m2 (I2.lw (by omega))) (fun z => absurd rfl z)
theorem lw_c31 (I : i_I (l_LW k) k m) (hk : k ≤ 511) (hi : 5 * k + 4 < SC.2.1) (hsz : SC.2.1 ≤ 2560) (nx : ∀ b2 m2, i_I (l_LW (k + 1)) (k + 1) m2 → s_A kc ks SC 1753 (s_L ((5 * k : Nat) : Int)) [] b2 m2) : s_A kc ks SC 1298 (s_L ((5 * k : Nat) : Int)) [] b m := by
  refine q_s_aload_n dLw_1298 rfl rfl ?_
  refine s_arg (i := 5 * k) (t := 1) dLw_1299 dLw_1300 dLw_1302 dLw_1303 dLw_1304 rfl rfl rfl (by omega) hsz ?_
  refine s_arg (i := 5 * k) (t := 2) dLw_1305 dLw_1306 dLw_1308 dLw_1309 dLw_1310 rfl rfl rfl (by omega) hsz ?_
  refine s_invV (c := 0) (ci := 11) (st := []) [(0, (SC.2.2 (5 * k + 1)).toInt), (0, (SC.2.2 (5 * k + 2)).toInt)] (op_cup (l_LW_f k) I _ _) qM_X11_cup dLw_1311 tw977 rfl qs0 rfl (by decide) (by decide) (Nat.le_of_ble_eq_true rfl) (by simp) ?_
  rintro r1 σ1 ⟨m1, rfl, hE⟩ hr1
  refine ⟨_, _, rfl, ?_⟩
  refine q_s_aload_n dLw_1314 rfl rfl ?_
  refine s_arg (i := 5 * k) (t := 1) dLw_1315 dLw_1316 dLw_1318 dLw_1319 dLw_1320 rfl rfl rfl (by omega) hsz ?_
  refine s_arg (i := 5 * k) (t := 2) dLw_1321 dLw_1322 dLw_1324 dLw_1325 dLw_1326 rfl rfl rfl (by omega) hsz ?_
  refine s_invV (c := 188) (ci := 12) (st := [(0, r1)]) [(0, (SC.2.2 (5 * k + 1)).toInt), (0, (SC.2.2 (5 * k + 2)).toInt)] hE qM_X12_cup dLw_1327 tw1687 rfl qs188 rfl (by decide) (by decide) (Nat.le_of_ble_eq_true rfl) (by simp) ?_
  rintro r2 σ2 ⟨rfl, b2, m2, rfl, I2⟩ hr2
  refine ⟨_, _, rfl, ?_⟩
  exact q_s_icmp_eq (a := r2) (b := r2) (st := []) (tgt := 1753) dLw_1330 (by decide) (fun _ => nx b2 m2 (I2.lw (by omega))) (fun z => absurd rfl z)
theorem lw_c32 (I : i_I (l_LW k) k m) (hk : k ≤ 511) (hi : 5 * k + 4 < SC.2.1) (hsz : SC.2.1 ≤ 2560) (nx : ∀ b2 m2, i_I (l_LW (k + 1)) (k + 1) m2 → s_A kc ks SC 1753 (s_L ((5 * k : Nat) : Int)) [] b2 m2) : s_A kc ks SC 1335 (s_L ((5 * k : Nat) : Int)) [] b m := by
  refine q_s_aload_n dLw_1335 rfl rfl ?_
  refine s_arg (i := 5 * k) (t := 1) dLw_1336 dLw_1337 dLw_1339 dLw_1340 dLw_1341 rfl rfl rfl (by omega) hsz ?_
  refine s_invV (c := 0) (ci := 11) (st := []) [(0, (SC.2.2 (5 * k + 1)).toInt)] (op_spread (l_LW_f k) I _) qM_X11_spread dLw_1342 tw981 rfl qs0 rfl (by decide) (by decide) (Nat.le_of_ble_eq_true rfl) (by simp) ?_
  rintro r1 σ1 ⟨m1, rfl, hE⟩ hr1
  refine ⟨_, _, rfl, ?_⟩
  refine q_s_aload_n dLw_1345 rfl rfl ?_
  refine s_arg (i := 5 * k) (t := 1) dLw_1346 dLw_1347 dLw_1349 dLw_1350 dLw_1351 rfl rfl rfl (by omega) hsz ?_
  refine s_invV (c := 188) (ci := 12) (st := [(0, r1)]) [(0, (SC.2.2 (5 * k + 1)).toInt)] hE qM_X12_spread dLw_1352 tw1691 rfl qs188 rfl (by decide) (by decide) (Nat.le_of_ble_eq_true rfl) (by simp) ?_
  rintro r2 σ2 ⟨rfl, b2, m2, rfl, I2⟩ hr2
  refine ⟨_, _, rfl, ?_⟩
  exact q_s_icmp_eq (a := r2) (b := r2) (st := []) (tgt := 1753) dLw_1355 (by decide) (fun _ => nx b2 m2 (I2.lw (by omega))) (fun z => absurd rfl z)
theorem lw_c33 (I : i_I (l_LW k) k m) (hk : k ≤ 511) (hi : 5 * k + 4 < SC.2.1) (hsz : SC.2.1 ≤ 2560) (nx : ∀ b2 m2, i_I (l_LW (k + 1)) (k + 1) m2 → s_A kc ks SC 1753 (s_L ((5 * k : Nat) : Int)) [] b2 m2) : s_A kc ks SC 1360 (s_L ((5 * k : Nat) : Int)) [] b m := by
  refine q_s_aload_n dLw_1360 rfl rfl ?_
  refine s_arg (i := 5 * k) (t := 1) dLw_1361 dLw_1362 dLw_1364 dLw_1365 dLw_1366 rfl rfl rfl (by omega) hsz ?_
  refine s_arg (i := 5 * k) (t := 2) dLw_1367 dLw_1368 dLw_1370 dLw_1371 dLw_1372 rfl rfl rfl (by omega) hsz ?_
  refine s_invV (c := 0) (ci := 11) (st := []) [(0, (SC.2.2 (5 * k + 1)).toInt), (0, (SC.2.2 (5 * k + 2)).toInt)] (op_comes (l_LW_f k) I (by omega) _ _) qM_X11_comes dLw_1373 tw985 rfl qs0 rfl (by decide) (by decide) (Nat.le_of_ble_eq_true rfl) (by simp) ?_
  rintro r1 σ1 ⟨m1, rfl, hE⟩ hr1
  refine ⟨_, _, rfl, ?_⟩
  refine q_s_aload_n dLw_1376 rfl rfl ?_
  refine s_arg (i := 5 * k) (t := 1) dLw_1377 dLw_1378 dLw_1380 dLw_1381 dLw_1382 rfl rfl rfl (by omega) hsz ?_
  refine s_arg (i := 5 * k) (t := 2) dLw_1383 dLw_1384 dLw_1386 dLw_1387 dLw_1388 rfl rfl rfl (by omega) hsz ?_
  refine s_invV (c := 188) (ci := 12) (st := [(0, r1)]) [(0, (SC.2.2 (5 * k + 1)).toInt), (0, (SC.2.2 (5 * k + 2)).toInt)] hE qM_X12_comes dLw_1389 tw1695 rfl qs188 rfl (by decide) (by decide) (Nat.le_of_ble_eq_true rfl) (by simp) ?_
  rintro r2 σ2 ⟨rfl, b2, m2, rfl, I2⟩ hr2
  refine ⟨_, _, rfl, ?_⟩
  exact q_s_icmp_eq (a := r2) (b := r2) (st := []) (tgt := 1753) dLw_1392 (by decide) (fun _ => nx b2 m2 (I2.lw (by omega))) (fun z => absurd rfl z)
theorem lw_c34 (I : i_I (l_LW k) k m) (hk : k ≤ 511) (hi : 5 * k + 4 < SC.2.1) (hsz : SC.2.1 ≤ 2560) (nx : ∀ b2 m2, i_I (l_LW (k + 1)) (k + 1) m2 → s_A kc ks SC 1753 (s_L ((5 * k : Nat) : Int)) [] b2 m2) : s_A kc ks SC 1397 (s_L ((5 * k : Nat) : Int)) [] b m := by
  refine q_s_aload_n dLw_1397 rfl rfl ?_
  refine s_arg (i := 5 * k) (t := 1) dLw_1398 dLw_1399 dLw_1401 dLw_1402 dLw_1403 rfl rfl rfl (by omega) hsz ?_
  refine s_invV (c := 0) (ci := 11) (st := []) [(0, (SC.2.2 (5 * k + 1)).toInt)] (op_marks (l_LW_f k) I (by omega) _) qM_X11_marks dLw_1404 tw1001 rfl qs0 rfl (by decide) (by decide) (Nat.le_of_ble_eq_true rfl) (by simp) ?_
  rintro r1 σ1 ⟨m1, rfl, hE⟩ hr1
  refine ⟨_, _, rfl, ?_⟩
  refine q_s_aload_n dLw_1407 rfl rfl ?_
  refine s_arg (i := 5 * k) (t := 1) dLw_1408 dLw_1409 dLw_1411 dLw_1412 dLw_1413 rfl rfl rfl (by omega) hsz ?_
  refine s_invV (c := 188) (ci := 12) (st := [(0, r1)]) [(0, (SC.2.2 (5 * k + 1)).toInt)] hE qM_X12_marks dLw_1414 tw1699 rfl qs188 rfl (by decide) (by decide) (Nat.le_of_ble_eq_true rfl) (by simp) ?_
  rintro r2 σ2 ⟨rfl, b2, m2, rfl, I2⟩ hr2
  refine ⟨_, _, rfl, ?_⟩
  exact q_s_icmp_eq (a := r2) (b := r2) (st := []) (tgt := 1753) dLw_1417 (by decide) (fun _ => nx b2 m2 (I2.lw (by omega))) (fun z => absurd rfl z)
theorem lw_c35 (I : i_I (l_LW k) k m) (hk : k ≤ 511) (hi : 5 * k + 4 < SC.2.1) (hsz : SC.2.1 ≤ 2560) (nx : ∀ b2 m2, i_I (l_LW (k + 1)) (k + 1) m2 → s_A kc ks SC 1753 (s_L ((5 * k : Nat) : Int)) [] b2 m2) : s_A kc ks SC 1422 (s_L ((5 * k : Nat) : Int)) [] b m := by
  refine q_s_aload_n dLw_1422 rfl rfl ?_
  refine s_arg (i := 5 * k) (t := 1) dLw_1423 dLw_1424 dLw_1426 dLw_1427 dLw_1428 rfl rfl rfl (by omega) hsz ?_
  refine s_invV (c := 0) (ci := 11) (st := []) [(0, (SC.2.2 (5 * k + 1)).toInt)] (op_tax (l_LW_f k) I (by omega) _) qM_X11_tax dLw_1429 tw1009 rfl qs0 rfl (by decide) (by decide) (Nat.le_of_ble_eq_true rfl) (by simp) ?_
  rintro r1 σ1 ⟨m1, rfl, hE⟩ hr1
  refine ⟨_, _, rfl, ?_⟩
  refine q_s_aload_n dLw_1432 rfl rfl ?_
  refine s_arg (i := 5 * k) (t := 1) dLw_1433 dLw_1434 dLw_1436 dLw_1437 dLw_1438 rfl rfl rfl (by omega) hsz ?_
  refine s_invV (c := 188) (ci := 12) (st := [(0, r1)]) [(0, (SC.2.2 (5 * k + 1)).toInt)] hE qM_X12_tax dLw_1439 tw1707 rfl qs188 rfl (by decide) (by decide) (Nat.le_of_ble_eq_true rfl) (by simp) ?_
  rintro r2 σ2 ⟨rfl, b2, m2, rfl, I2⟩ hr2
  refine ⟨_, _, rfl, ?_⟩
  exact q_s_icmp_eq (a := r2) (b := r2) (st := []) (tgt := 1753) dLw_1442 (by decide) (fun _ => nx b2 m2 (I2.lw (by omega))) (fun z => absurd rfl z)
theorem lw_c36 (I : i_I (l_LW k) k m) (hk : k ≤ 511) (hi : 5 * k + 4 < SC.2.1) (hsz : SC.2.1 ≤ 2560) (nx : ∀ b2 m2, i_I (l_LW (k + 1)) (k + 1) m2 → s_A kc ks SC 1753 (s_L ((5 * k : Nat) : Int)) [] b2 m2) : s_A kc ks SC 1447 (s_L ((5 * k : Nat) : Int)) [] b m := by
  refine q_s_aload_n dLw_1447 rfl rfl ?_
  refine s_arg (i := 5 * k) (t := 1) dLw_1448 dLw_1449 dLw_1451 dLw_1452 dLw_1453 rfl rfl rfl (by omega) hsz ?_
  refine s_arg (i := 5 * k) (t := 2) dLw_1454 dLw_1455 dLw_1457 dLw_1458 dLw_1459 rfl rfl rfl (by omega) hsz ?_
  refine s_invV (c := 0) (ci := 11) (st := []) [(0, (SC.2.2 (5 * k + 1)).toInt), (0, (SC.2.2 (5 * k + 2)).toInt)] (op_drop (l_LW_f k) I _ _) qM_X11_drop dLw_1460 tw1013 rfl qs0 rfl (by decide) (by decide) (Nat.le_of_ble_eq_true rfl) (by simp) ?_
  rintro r1 σ1 ⟨m1, rfl, hE⟩ hr1
  refine ⟨_, _, rfl, ?_⟩
  refine q_s_aload_n dLw_1463 rfl rfl ?_
  refine s_arg (i := 5 * k) (t := 1) dLw_1464 dLw_1465 dLw_1467 dLw_1468 dLw_1469 rfl rfl rfl (by omega) hsz ?_
  refine s_arg (i := 5 * k) (t := 2) dLw_1470 dLw_1471 dLw_1473 dLw_1474 dLw_1475 rfl rfl rfl (by omega) hsz ?_
  refine s_invV (c := 188) (ci := 12) (st := [(0, r1)]) [(0, (SC.2.2 (5 * k + 1)).toInt), (0, (SC.2.2 (5 * k + 2)).toInt)] hE qM_X12_drop dLw_1476 tw1711 rfl qs188 rfl (by decide) (by decide) (Nat.le_of_ble_eq_true rfl) (by simp) ?_
  rintro r2 σ2 ⟨rfl, b2, m2, rfl, I2⟩ hr2
  refine ⟨_, _, rfl, ?_⟩
  exact q_s_icmp_eq (a := r2) (b := r2) (st := []) (tgt := 1753) dLw_1479 (by decide) (fun _ => nx b2 m2 (I2.lw (by omega))) (fun z => absurd rfl z)
theorem lw_c37 (I : i_I (l_LW k) k m) (hk : k ≤ 511) (hi : 5 * k + 4 < SC.2.1) (hsz : SC.2.1 ≤ 2560) (nx : ∀ b2 m2, i_I (l_LW (k + 1)) (k + 1) m2 → s_A kc ks SC 1753 (s_L ((5 * k : Nat) : Int)) [] b2 m2) : s_A kc ks SC 1484 (s_L ((5 * k : Nat) : Int)) [] b m := by
  refine q_s_aload_n dLw_1484 rfl rfl ?_
  refine s_arg (i := 5 * k) (t := 1) dLw_1485 dLw_1486 dLw_1488 dLw_1489 dLw_1490 rfl rfl rfl (by omega) hsz ?_
  refine s_arg (i := 5 * k) (t := 2) dLw_1491 dLw_1492 dLw_1494 dLw_1495 dLw_1496 rfl rfl rfl (by omega) hsz ?_
  refine s_arg (i := 5 * k) (t := 3) dLw_1497 dLw_1498 dLw_1500 dLw_1501 dLw_1502 rfl rfl rfl (by omega) hsz ?_
  refine s_invV (c := 0) (ci := 11) (st := []) [(0, (SC.2.2 (5 * k + 1)).toInt), (0, (SC.2.2 (5 * k + 2)).toInt), (0, (SC.2.2 (5 * k + 3)).toInt)] (op_seen (l_LW_f k) I _ _ _) qM_X11_seen dLw_1503 tw1018 rfl qs0 rfl (by decide) (by decide) (Nat.le_of_ble_eq_true rfl) (by simp) ?_
  rintro r1 σ1 ⟨m1, rfl, hE⟩ hr1
  refine ⟨_, _, rfl, ?_⟩
  refine q_s_aload_n dLw_1506 rfl rfl ?_
  refine s_arg (i := 5 * k) (t := 1) dLw_1507 dLw_1508 dLw_1510 dLw_1511 dLw_1512 rfl rfl rfl (by omega) hsz ?_
  refine s_arg (i := 5 * k) (t := 2) dLw_1513 dLw_1514 dLw_1516 dLw_1517 dLw_1518 rfl rfl rfl (by omega) hsz ?_
  refine s_arg (i := 5 * k) (t := 3) dLw_1519 dLw_1520 dLw_1522 dLw_1523 dLw_1524 rfl rfl rfl (by omega) hsz ?_
  refine s_invV (c := 188) (ci := 12) (st := [(0, r1)]) [(0, (SC.2.2 (5 * k + 1)).toInt), (0, (SC.2.2 (5 * k + 2)).toInt), (0, (SC.2.2 (5 * k + 3)).toInt)] hE qM_X12_seen dLw_1525 tw1715 rfl qs188 rfl (by decide) (by decide) (Nat.le_of_ble_eq_true rfl) (by simp) ?_
  rintro r2 σ2 ⟨rfl, b2, m2, rfl, I2⟩ hr2
  refine ⟨_, _, rfl, ?_⟩
  exact q_s_icmp_eq (a := r2) (b := r2) (st := []) (tgt := 1753) dLw_1528 (by decide) (fun _ => nx b2 m2 (I2.lw (by omega))) (fun z => absurd rfl z)
theorem lw_c38 (I : i_I (l_LW k) k m) (hk : k ≤ 511) (hi : 5 * k + 4 < SC.2.1) (hsz : SC.2.1 ≤ 2560) (nx : ∀ b2 m2, i_I (l_LW (k + 1)) (k + 1) m2 → s_A kc ks SC 1753 (s_L ((5 * k : Nat) : Int)) [] b2 m2) : s_A kc ks SC 1533 (s_L ((5 * k : Nat) : Int)) [] b m := by
  refine q_s_aload_n dLw_1533 rfl rfl ?_
  refine s_invV (c := 0) (ci := 11) (st := []) [] (op_forget (l_LW_f k) I) qM_X11_forget dLw_1534 tw1026 rfl qs0 rfl (by decide) (by decide) (Nat.le_of_ble_eq_true rfl) (by simp) ?_
  rintro r1 σ1 ⟨m1, rfl, hE⟩ hr1
  refine ⟨_, _, rfl, ?_⟩
  refine q_s_aload_n dLw_1537 rfl rfl ?_
  refine s_invV (c := 188) (ci := 12) (st := [(0, r1)]) [] hE qM_X12_forget dLw_1538 tw1719 rfl qs188 rfl (by decide) (by decide) (Nat.le_of_ble_eq_true rfl) (by simp) ?_
  rintro r2 σ2 ⟨rfl, b2, m2, rfl, I2⟩ hr2
  refine ⟨_, _, rfl, ?_⟩
  exact q_s_icmp_eq (a := r2) (b := r2) (st := []) (tgt := 1753) dLw_1541 (by decide) (fun _ => nx b2 m2 (I2.lw (by omega))) (fun z => absurd rfl z)
theorem lw_c39 (I : i_I (l_LW k) k m) (hk : k ≤ 511) (hi : 5 * k + 4 < SC.2.1) (hsz : SC.2.1 ≤ 2560) (nx : ∀ b2 m2, i_I (l_LW (k + 1)) (k + 1) m2 → s_A kc ks SC 1753 (s_L ((5 * k : Nat) : Int)) [] b2 m2) : s_A kc ks SC 1546 (s_L ((5 * k : Nat) : Int)) [] b m := by
  refine q_s_aload_n dLw_1546 rfl rfl ?_
  refine s_arg (i := 5 * k) (t := 1) dLw_1547 dLw_1548 dLw_1550 dLw_1551 dLw_1552 rfl rfl rfl (by omega) hsz ?_
  refine s_invV (c := 0) (ci := 11) (st := []) [(0, (SC.2.2 (5 * k + 1)).toInt)] (op_holes (l_LW_f k) I _) qM_X11_holes dLw_1553 tw1030 rfl qs0 rfl (by decide) (by decide) (Nat.le_of_ble_eq_true rfl) (by simp) ?_
  rintro r1 σ1 ⟨m1, rfl, hE⟩ hr1
  refine ⟨_, _, rfl, ?_⟩
  refine q_s_aload_n dLw_1556 rfl rfl ?_
  refine s_arg (i := 5 * k) (t := 1) dLw_1557 dLw_1558 dLw_1560 dLw_1561 dLw_1562 rfl rfl rfl (by omega) hsz ?_
  refine s_invV (c := 188) (ci := 12) (st := [(0, r1)]) [(0, (SC.2.2 (5 * k + 1)).toInt)] hE qM_X12_holes dLw_1563 tw1723 rfl qs188 rfl (by decide) (by decide) (Nat.le_of_ble_eq_true rfl) (by simp) ?_
  rintro r2 σ2 ⟨rfl, b2, m2, rfl, I2⟩ hr2
  refine ⟨_, _, rfl, ?_⟩
  exact q_s_icmp_eq (a := r2) (b := r2) (st := []) (tgt := 1753) dLw_1566 (by decide) (fun _ => nx b2 m2 (I2.lw (by omega))) (fun z => absurd rfl z)
theorem lw_c40 (I : i_I (l_LW k) k m) (hk : k ≤ 511) (hi : 5 * k + 4 < SC.2.1) (hsz : SC.2.1 ≤ 2560) (nx : ∀ b2 m2, i_I (l_LW (k + 1)) (k + 1) m2 → s_A kc ks SC 1753 (s_L ((5 * k : Nat) : Int)) [] b2 m2) : s_A kc ks SC 1571 (s_L ((5 * k : Nat) : Int)) [] b m := by
  refine q_s_aload_n dLw_1571 rfl rfl ?_
  refine s_invV (c := 0) (ci := 11) (st := []) [] (op_explains (l_LW_f k) I) qM_X11_explains dLw_1572 tw1052 rfl qs0 rfl (by decide) (by decide) (Nat.le_of_ble_eq_true rfl) (by simp) ?_
  rintro r1 σ1 ⟨m1, rfl, hE⟩ hr1
  refine ⟨_, _, rfl, ?_⟩
  refine q_s_aload_n dLw_1575 rfl rfl ?_
  refine s_invV (c := 188) (ci := 12) (st := [(0, r1)]) [] hE qM_X12_explains dLw_1576 tw1735 rfl qs188 rfl (by decide) (by decide) (Nat.le_of_ble_eq_true rfl) (by simp) ?_
  rintro r2 σ2 ⟨rfl, b2, m2, rfl, I2⟩ hr2
  refine ⟨_, _, rfl, ?_⟩
  exact q_s_icmp_eq (a := r2) (b := r2) (st := []) (tgt := 1753) dLw_1579 (by decide) (fun _ => nx b2 m2 (I2.lw (by omega))) (fun z => absurd rfl z)
theorem lw_c41 (I : i_I (l_LW k) k m) (hk : k ≤ 511) (hi : 5 * k + 4 < SC.2.1) (hsz : SC.2.1 ≤ 2560) (nx : ∀ b2 m2, i_I (l_LW (k + 1)) (k + 1) m2 → s_A kc ks SC 1753 (s_L ((5 * k : Nat) : Int)) [] b2 m2) : s_A kc ks SC 1584 (s_L ((5 * k : Nat) : Int)) [] b m := by
  refine q_s_aload_n dLw_1584 rfl rfl ?_
  refine s_arg (i := 5 * k) (t := 1) dLw_1585 dLw_1586 dLw_1588 dLw_1589 dLw_1590 rfl rfl rfl (by omega) hsz ?_
  refine s_invV (c := 0) (ci := 11) (st := []) [(0, (SC.2.2 (5 * k + 1)).toInt)] (op_looks (l_LW_f k) I _) qM_X11_looks dLw_1591 tw1056 rfl qs0 rfl (by decide) (by decide) (Nat.le_of_ble_eq_true rfl) (by simp) ?_
  rintro r1 σ1 ⟨m1, rfl, hE⟩ hr1
  refine ⟨_, _, rfl, ?_⟩
  refine q_s_aload_n dLw_1594 rfl rfl ?_
  refine s_arg (i := 5 * k) (t := 1) dLw_1595 dLw_1596 dLw_1598 dLw_1599 dLw_1600 rfl rfl rfl (by omega) hsz ?_
  refine s_invV (c := 188) (ci := 12) (st := [(0, r1)]) [(0, (SC.2.2 (5 * k + 1)).toInt)] hE qM_X12_looks dLw_1601 tw1739 rfl qs188 rfl (by decide) (by decide) (Nat.le_of_ble_eq_true rfl) (by simp) ?_
  rintro r2 σ2 ⟨rfl, b2, m2, rfl, I2⟩ hr2
  refine ⟨_, _, rfl, ?_⟩
  exact q_s_icmp_eq (a := r2) (b := r2) (st := []) (tgt := 1753) dLw_1604 (by decide) (fun _ => nx b2 m2 (I2.lw (by omega))) (fun z => absurd rfl z)
theorem lw_c42 (I : i_I (l_LW k) k m) (hk : k ≤ 511) (hi : 5 * k + 4 < SC.2.1) (hsz : SC.2.1 ≤ 2560) (nx : ∀ b2 m2, i_I (l_LW (k + 1)) (k + 1) m2 → s_A kc ks SC 1753 (s_L ((5 * k : Nat) : Int)) [] b2 m2) : s_A kc ks SC 1609 (s_L ((5 * k : Nat) : Int)) [] b m := by
  refine q_s_aload_n dLw_1609 rfl rfl ?_
  refine s_invV (c := 0) (ci := 11) (st := []) [] (op_secret (l_LW_f k) I) qM_X11_secret dLw_1610 tw1077 rfl qs0 rfl (by decide) (by decide) (Nat.le_of_ble_eq_true rfl) (by simp) ?_
  rintro r1 σ1 ⟨m1, rfl, hE⟩ hr1
  refine ⟨_, _, rfl, ?_⟩
  refine q_s_aload_n dLw_1613 rfl rfl ?_
  refine s_invV (c := 188) (ci := 12) (st := [(0, r1)]) [] hE qM_X12_secret dLw_1614 tw1743 rfl qs188 rfl (by decide) (by decide) (Nat.le_of_ble_eq_true rfl) (by simp) ?_
  rintro r2 σ2 ⟨rfl, b2, m2, rfl, I2⟩ hr2
  refine ⟨_, _, rfl, ?_⟩
  exact q_s_icmp_eq (a := r2) (b := r2) (st := []) (tgt := 1753) dLw_1617 (by decide) (fun _ => nx b2 m2 (I2.lw (by omega))) (fun z => absurd rfl z)
theorem lw_c43 (I : i_I (l_LW k) k m) (hk : k ≤ 511) (hi : 5 * k + 4 < SC.2.1) (hsz : SC.2.1 ≤ 2560) (nx : ∀ b2 m2, i_I (l_LW (k + 1)) (k + 1) m2 → s_A kc ks SC 1753 (s_L ((5 * k : Nat) : Int)) [] b2 m2) : s_A kc ks SC 1622 (s_L ((5 * k : Nat) : Int)) [] b m := by
  refine q_s_aload_n dLw_1622 rfl rfl ?_
  refine s_arg (i := 5 * k) (t := 1) dLw_1623 dLw_1624 dLw_1626 dLw_1627 dLw_1628 rfl rfl rfl (by omega) hsz ?_
  refine s_invV (c := 0) (ci := 11) (st := []) [(0, (SC.2.2 (5 * k + 1)).toInt)] (op_keep (l_LW_f k) I _) qM_X11_keep dLw_1629 tw1081 rfl qs0 rfl (by decide) (by decide) (Nat.le_of_ble_eq_true rfl) (by simp) ?_
  rintro r1 σ1 ⟨m1, rfl, hE⟩ hr1
  refine ⟨_, _, rfl, ?_⟩
  refine q_s_aload_n dLw_1632 rfl rfl ?_
  refine s_arg (i := 5 * k) (t := 1) dLw_1633 dLw_1634 dLw_1636 dLw_1637 dLw_1638 rfl rfl rfl (by omega) hsz ?_
  refine s_invV (c := 188) (ci := 12) (st := [(0, r1)]) [(0, (SC.2.2 (5 * k + 1)).toInt)] hE qM_X12_keep dLw_1639 tw1747 rfl qs188 rfl (by decide) (by decide) (Nat.le_of_ble_eq_true rfl) (by simp) ?_
  rintro r2 σ2 ⟨rfl, b2, m2, rfl, I2⟩ hr2
  refine ⟨_, _, rfl, ?_⟩
  exact q_s_icmp_eq (a := r2) (b := r2) (st := []) (tgt := 1753) dLw_1642 (by decide) (fun _ => nx b2 m2 (I2.lw (by omega))) (fun z => absurd rfl z)
theorem lw_c44 (I : i_I (l_LW k) k m) (hk : k ≤ 511) (hi : 5 * k + 4 < SC.2.1) (hsz : SC.2.1 ≤ 2560) (nx : ∀ b2 m2, i_I (l_LW (k + 1)) (k + 1) m2 → s_A kc ks SC 1753 (s_L ((5 * k : Nat) : Int)) [] b2 m2) : s_A kc ks SC 1647 (s_L ((5 * k : Nat) : Int)) [] b m := by
  refine q_s_aload_n dLw_1647 rfl rfl ?_
  refine s_arg (i := 5 * k) (t := 1) dLw_1648 dLw_1649 dLw_1651 dLw_1652 dLw_1653 rfl rfl rfl (by omega) hsz ?_
  refine s_invV (c := 0) (ci := 11) (st := []) [(0, (SC.2.2 (5 * k + 1)).toInt)] (op_again (l_LW_f k) I _) qM_X11_again dLw_1654 tw1085 rfl qs0 rfl (by decide) (by decide) (Nat.le_of_ble_eq_true rfl) (by simp) ?_
  rintro r1 σ1 ⟨m1, rfl, hE⟩ hr1
  refine ⟨_, _, rfl, ?_⟩
  refine q_s_aload_n dLw_1657 rfl rfl ?_
  refine s_arg (i := 5 * k) (t := 1) dLw_1658 dLw_1659 dLw_1661 dLw_1662 dLw_1663 rfl rfl rfl (by omega) hsz ?_
  refine s_invV (c := 188) (ci := 12) (st := [(0, r1)]) [(0, (SC.2.2 (5 * k + 1)).toInt)] hE qM_X12_again dLw_1664 tw1751 rfl qs188 rfl (by decide) (by decide) (Nat.le_of_ble_eq_true rfl) (by simp) ?_
  rintro r2 σ2 ⟨rfl, b2, m2, rfl, I2⟩ hr2
  refine ⟨_, _, rfl, ?_⟩
  exact q_s_icmp_eq (a := r2) (b := r2) (st := []) (tgt := 1753) dLw_1667 (by decide) (fun _ => nx b2 m2 (I2.lw (by omega))) (fun z => absurd rfl z)
theorem lw_c45 (I : i_I (l_LW k) k m) (hk : k ≤ 511) (hi : 5 * k + 4 < SC.2.1) (hsz : SC.2.1 ≤ 2560) (nx : ∀ b2 m2, i_I (l_LW (k + 1)) (k + 1) m2 → s_A kc ks SC 1753 (s_L ((5 * k : Nat) : Int)) [] b2 m2) : s_A kc ks SC 1672 (s_L ((5 * k : Nat) : Int)) [] b m := by
  refine q_s_aload_n dLw_1672 rfl rfl ?_
  refine s_arg (i := 5 * k) (t := 1) dLw_1673 dLw_1674 dLw_1676 dLw_1677 dLw_1678 rfl rfl rfl (by omega) hsz ?_
  refine s_invV (c := 0) (ci := 11) (st := []) [(0, (SC.2.2 (5 * k + 1)).toInt)] (op_count (l_LW_f k) I (by omega) _) qM_X11_count dLw_1679 tw1089 rfl qs0 rfl (by decide) (by decide) (Nat.le_of_ble_eq_true rfl) (by simp) ?_
  rintro r1 σ1 ⟨m1, rfl, hE⟩ hr1
  refine ⟨_, _, rfl, ?_⟩
  refine q_s_aload_n dLw_1682 rfl rfl ?_
  refine s_arg (i := 5 * k) (t := 1) dLw_1683 dLw_1684 dLw_1686 dLw_1687 dLw_1688 rfl rfl rfl (by omega) hsz ?_
  refine s_invV (c := 188) (ci := 12) (st := [(0, r1)]) [(0, (SC.2.2 (5 * k + 1)).toInt)] hE qM_X12_count dLw_1689 tw1755 rfl qs188 rfl (by decide) (by decide) (Nat.le_of_ble_eq_true rfl) (by simp) ?_
  rintro r2 σ2 ⟨rfl, b2, m2, rfl, I2⟩ hr2
  refine ⟨_, _, rfl, ?_⟩
  exact q_s_icmp_eq (a := r2) (b := r2) (st := []) (tgt := 1753) dLw_1692 (by decide) (fun _ => nx b2 m2 (I2.lw (by omega))) (fun z => absurd rfl z)
theorem lw_c4 (I : i_I (l_LW k) k m) (hk : k ≤ 511) (hi : 5 * k + 4 < SC.2.1) (hsz : SC.2.1 ≤ 2560) (nx : ∀ b2 m2, i_I (l_LW (k + 1)) (k + 1) m2 → s_A kc ks SC 1753 (s_L ((5 * k : Nat) : Int)) [] b2 m2) : s_A (kc + 1) (ks + 6) SC 316 (s_L ((5 * k : Nat) : Int)) [] b m := by
  refine q_s_aload_n dLw_316 rfl rfl ?_
  refine s_arg (i := 5 * k) (t := 1) dLw_317 dLw_318 dLw_320 dLw_321 dLw_322 rfl rfl rfl (by omega) hsz ?_
  refine s_arg (i := 5 * k) (t := 2) dLw_323 dLw_324 dLw_326 dLw_327 dLw_328 rfl rfl rfl (by omega) hsz ?_
  refine q_s_aload_n dLw_329 rfl rfl ?_
  refine s_invS (n := 4) (st := []) (kc := kc) (ks := ks) (kc' := 1) (ks' := 6) [(2, 0), (0, (SC.2.2 (5 * k + 1)).toInt), (0, (SC.2.2 (5 * k + 2)).toInt), (2, 225)] (op_jar I (by omega) _ _) tw1094 tw0 ty1095 (by decide) (by decide +kernel) dLw_330 tw1093 rfl (by decide) (by decide) (Nat.le_of_ble_eq_true rfl) (by simp) ?_
  rintro r1 σ1 ⟨m1, rfl, hE⟩ hr1
  refine ⟨_, _, rfl, ?_⟩
  refine q_s_istore (x := r1) (st := []) dLw_333 (by decide) (fun w hw _ => by cases hw; show (0 : Nat) ≠ 1; decide) ?_
  refine q_s_aload_n dLw_335 rfl rfl ?_
  refine s_arg (i := 5 * k) (t := 1) dLw_336 dLw_337 dLw_339 dLw_340 dLw_341 rfl rfl rfl (by omega) hsz ?_
  refine s_arg (i := 5 * k) (t := 2) dLw_342 dLw_343 dLw_345 dLw_346 dLw_347 rfl rfl rfl (by omega) hsz ?_
  refine s_invV (c := 188) (ci := 12) (st := []) [(0, (SC.2.2 (5 * k + 1)).toInt), (0, (SC.2.2 (5 * k + 2)).toInt)] hE qM_X12_jar dLw_348 tw1429 rfl qs188 rfl (by decide) (by decide) (Nat.le_of_ble_eq_true rfl) (by simp) ?_
  rintro r2 σ2 ⟨b2, m2, rfl, e1, e2, I2⟩ hr2
  refine ⟨_, _, rfl, ?_⟩
  refine q_s_istore (x := r2) (st := []) dLw_351 (by decide) (fun w hw _ => by cases hw; show (0 : Nat) ≠ 1; decide) ?_
  refine q_s_aload_n dLw_353 rfl rfl ?_
  refine s_invV (c := 188) (ci := 12) (st := []) [] spX12_thrown qM_X12_thrown dLw_354 tw1350 rfl qs188 rfl (by decide) (by decide) (Nat.le_of_ble_eq_true rfl) (by simp) ?_
  rintro r3 σ3 ⟨m3, rfl, rfl, rfl⟩ hr3
  refine ⟨_, _, rfl, ?_⟩
  refine q_s_iload dLw_357 rfl ?_
  refine q_s_icmp_eq (a := m3 188 17) (b := r1) (st := []) (tgt := 364) dLw_359 (by decide) (fun _ => ?_) (fun z => absurd e1 z)
  refine q_s_iload dLw_364 rfl ?_
  refine q_s_if_ne (a := r1) (st := []) (tgt := 381) dLw_366 (by decide) (fun _ => q_s_goto (tgt := 1753) dLw_381 (by decide) ((nx b2 m3 (I2.lw (by omega))).loc lw_loc (by simp))) (fun z => ?_)
  refine q_s_aload_n dLw_369 rfl rfl ?_
  refine q_s_iconst (v := 0) dLw_370 rfl ⟨by decide, by decide⟩ ?_
  refine q_s_lald (c := 225) (i := 0) dLw_371 qs225 (by decide) (by decide) ?_
  refine q_s_iload dLw_372 rfl ?_
  refine q_s_i2l dLw_374 ?_
  refine q_s_lcmp dLw_375 ?_
  refine q_s_if_eq (st := []) (tgt := 381) dLw_376 (by decide) (fun _ => q_s_goto (tgt := 1753) dLw_381 (by decide) ((nx b2 m3 (I2.lw (by omega))).loc lw_loc (by simp))) (fun y => absurd ?_ y)
  rw [e2 (by omega)]
  exact lw_cmp r2
theorem lw_c46 (I : i_I (l_LW k) k m) (hk : k ≤ 511) (hi : 5 * k + 4 < SC.2.1) (hsz : SC.2.1 ≤ 2560) (nx : ∀ b2 m2, i_I (l_LW (k + 1)) (k + 1) m2 → s_A kc ks SC 1753 (s_L ((5 * k : Nat) : Int)) [] b2 m2) : s_A (kc + 1) (ks + 6) SC 1697 (s_L ((5 * k : Nat) : Int)) [] b m := by
  refine q_s_aload_n dLw_1697 rfl rfl ?_
  refine s_arg (i := 5 * k) (t := 1) dLw_1698 dLw_1699 dLw_1701 dLw_1702 dLw_1703 rfl rfl rfl (by omega) hsz ?_
  refine q_s_aload_n dLw_1704 rfl rfl ?_
  refine s_invS (n := 3) (st := []) (kc := kc) (ks := ks) (kc' := 1) (ks' := 6) [(2, 0), (0, (SC.2.2 (5 * k + 1)).toInt), (2, 225)] (op_row I _) tw1169 tw0 ty1170 (by decide) (by decide +kernel) dLw_1705 tw1168 rfl (by decide) (by decide) (Nat.le_of_ble_eq_true rfl) (by simp) ?_
  rintro r1 σ1 ⟨m1, rfl, hE⟩ hr1
  refine ⟨_, _, rfl, ?_⟩
  refine q_s_istore (x := r1) (st := []) dLw_1708 (by decide) (fun w hw _ => by cases hw; show (0 : Nat) ≠ 1; decide) ?_
  refine q_s_aload_n dLw_1710 rfl rfl ?_
  refine s_arg (i := 5 * k) (t := 1) dLw_1711 dLw_1712 dLw_1714 dLw_1715 dLw_1716 rfl rfl rfl (by omega) hsz ?_
  refine s_invV (c := 188) (ci := 12) (st := []) [(0, (SC.2.2 (5 * k + 1)).toInt)] hE qM_X12_row dLw_1717 tw1759 rfl qs188 rfl (by decide) (by decide) (Nat.le_of_ble_eq_true rfl) (by simp) ?_
  rintro r2 σ2 ⟨b2, m2, rfl, e1, e2, I2⟩ hr2
  refine ⟨_, _, rfl, ?_⟩
  refine q_s_istore (x := r2) (st := []) dLw_1720 (by decide) (fun w hw _ => by cases hw; show (0 : Nat) ≠ 1; decide) ?_
  refine q_s_aload_n dLw_1722 rfl rfl ?_
  refine s_invV (c := 188) (ci := 12) (st := []) [] spX12_thrown qM_X12_thrown dLw_1723 tw1350 rfl qs188 rfl (by decide) (by decide) (Nat.le_of_ble_eq_true rfl) (by simp) ?_
  rintro r3 σ3 ⟨m3, rfl, rfl, rfl⟩ hr3
  refine ⟨_, _, rfl, ?_⟩
  refine q_s_iload dLw_1726 rfl ?_
  refine q_s_icmp_eq (a := m3 188 17) (b := r1) (st := []) (tgt := 1733) dLw_1728 (by decide) (fun _ => ?_) (fun z => absurd e1 z)
  refine q_s_iload dLw_1733 rfl ?_
  refine q_s_if_ne (a := r1) (st := []) (tgt := 1750) dLw_1735 (by decide) (fun _ => q_s_goto (tgt := 1753) dLw_1750 (by decide) ((nx b2 m3 (I2.lw (by omega))).loc lw_loc (by simp))) (fun z => ?_)
  refine q_s_aload_n dLw_1738 rfl rfl ?_
  refine q_s_iconst (v := 0) dLw_1739 rfl ⟨by decide, by decide⟩ ?_
  refine q_s_lald (c := 225) (i := 0) dLw_1740 qs225 (by decide) (by decide) ?_
  refine q_s_iload dLw_1741 rfl ?_
  refine q_s_i2l dLw_1743 ?_
  refine q_s_lcmp dLw_1744 ?_
  refine q_s_if_eq (st := []) (tgt := 1750) dLw_1745 (by decide) (fun _ => q_s_goto (tgt := 1753) dLw_1750 (by decide) ((nx b2 m3 (I2.lw (by omega))).loc lw_loc (by simp))) (fun y => absurd ?_ y)
  rw [e2 (by omega)]
  exact lw_cmp r2
theorem lw_63 (a : Int) : 0 ≤ q_oiand a 63 ∧ q_oiand a 63 ≤ 63 := by
  have h : ∀ x : BitVec 32, 0 ≤ (x &&& 63#32).toInt ∧ (x &&& 63#32).toInt ≤ 63 := by
    intro x
    have h2 : (x &&& 63#32).toNat ≤ 63 := by rw [BitVec.toNat_and]; exact Nat.and_le_right
    rw [BitVec.toInt_eq_toNat_of_lt (by omega)]
    omega
  exact h (Int32.ofInt a).toBitVec
theorem lw_head (IH : ∀ (b2 : Int) (m2 : qm), i_I (l_LW (k + 1)) (k + 1) m2 → s_A kc ks SC 23 (s_L ((5 * (k + 1) : Nat) : Int)) [] b2 m2) (I : i_I (l_LW k) k m) (hk : k ≤ 511) (hi : 5 * k + 4 < SC.2.1) (hsz : SC.2.1 ≤ 2560) : s_A (kc + 1) (ks + 6) SC 32 (s_L ((5 * k : Nat) : Int)) [] b m := by
  have nx : ∀ (b2 : Int) (m2 : qm), i_I (l_LW (k + 1)) (k + 1) m2 → s_A kc ks SC 1753 (s_L ((5 * k : Nat) : Int)) [] b2 m2 := by
    intro b2 m2 I2
    refine q_s_iinc dLw_1753 rfl (by decide) (fun w hw _ => by cases hw; decide) ?_
    rw [q_w32_id (x := ((5 * k : Nat) : Int) + 5) (by constructor <;> omega), show ((5 * k : Nat) : Int) + 5 = ((5 * (k + 1) : Nat) : Int) by omega]
    exact q_s_goto (tgt := 23) dLw_1756 (by decide) (IH b2 m2 I2)
  have nx2 : ∀ (b2 : Int) (m2 : qm), i_I (l_LW (k + 1)) (k + 1) m2 → s_A (kc + 1) (ks + 6) SC 1753 (s_L ((5 * k : Nat) : Int)) [] b2 m2 := fun b2 m2 I2 => (nx b2 m2 I2).mo (by omega) (by omega)
  refine q_s_aload_n dLw_32 rfl rfl ?_
  refine q_s_iload dLw_33 rfl ?_
  refine s_iald (i := 5 * k) dLw_35 (by omega) ?_
  refine q_s_bipush (v := 63) dLw_36 rfl ⟨by decide, by decide⟩ ?_
  refine q_s_iand dLw_38 ?_
  have h63 := lw_63 (SC.2.2 (5 * k)).toInt
  generalize q_oiand (SC.2.2 (5 * k)).toInt 63 = z at h63
  by_cases h46 : 46 < z
  · exact q_s_tabOut (st := []) (tgt := 1753) dLw_39 (Or.inr h46) (by decide) (nx2 b m (lw_step I))
  have hz : z = 0 ∨ z = 1 ∨ z = 2 ∨ z = 3 ∨ z = 4 ∨ z = 5 ∨ z = 6 ∨ z = 7 ∨ z = 8 ∨ z = 9 ∨ z = 10 ∨ z = 11 ∨ z = 12 ∨ z = 13 ∨ z = 14 ∨ z = 15 ∨ z = 16 ∨ z = 17 ∨ z = 18 ∨ z = 19 ∨ z = 20 ∨ z = 21 ∨ z = 22 ∨ z = 23 ∨ z = 24 ∨ z = 25 ∨ z = 26 ∨ z = 27 ∨ z = 28 ∨ z = 29 ∨ z = 30 ∨ z = 31 ∨ z = 32 ∨ z = 33 ∨ z = 34 ∨ z = 35 ∨ z = 36 ∨ z = 37 ∨ z = 38 ∨ z = 39 ∨ z = 40 ∨ z = 41 ∨ z = 42 ∨ z = 43 ∨ z = 44 ∨ z = 45 ∨ z = 46 := by omega
  rcases hz with rfl | rfl | rfl | rfl | rfl | rfl | rfl | rfl | rfl | rfl | rfl | rfl | rfl | rfl | rfl | rfl | rfl | rfl | rfl | rfl | rfl | rfl | rfl | rfl | rfl | rfl | rfl | rfl | rfl | rfl | rfl | rfl | rfl | rfl | rfl | rfl | rfl | rfl | rfl | rfl | rfl | rfl | rfl | rfl | rfl | rfl | rfl
  · exact q_s_tabIn (st := []) (tgt := 240) dLw_39 (by decide) (by decide) rfl (by decide) (lw_c0 I hk hi hsz nx2)
  · exact q_s_tabIn (st := []) (tgt := 265) dLw_39 (by decide) (by decide) rfl (by decide) (lw_c1 I hk hi hsz nx2)
  · exact q_s_tabIn (st := []) (tgt := 290) dLw_39 (by decide) (by decide) rfl (by decide) (lw_c2 I hk hi hsz nx2)
  · exact q_s_tabIn (st := []) (tgt := 303) dLw_39 (by decide) (by decide) rfl (by decide) (lw_c3 I hk hi hsz nx2)
  · exact q_s_tabIn (st := []) (tgt := 316) dLw_39 (by decide) (by decide) rfl (by decide) (lw_c4 I hk hi hsz nx)
  · exact q_s_tabIn (st := []) (tgt := 384) dLw_39 (by decide) (by decide) rfl (by decide) (lw_c5 I hk hi hsz nx2)
  · exact q_s_tabIn (st := []) (tgt := 421) dLw_39 (by decide) (by decide) rfl (by decide) (lw_c6 I hk hi hsz nx2)
  · exact q_s_tabIn (st := []) (tgt := 458) dLw_39 (by decide) (by decide) rfl (by decide) (lw_c7 I hk hi hsz nx2)
  · exact q_s_tabIn (st := []) (tgt := 519) dLw_39 (by decide) (by decide) rfl (by decide) (lw_c8 I hk hi hsz nx2)
  · exact q_s_tabIn (st := []) (tgt := 568) dLw_39 (by decide) (by decide) rfl (by decide) (lw_c9 I hk hi hsz nx2)
  · exact q_s_tabIn (st := []) (tgt := 617) dLw_39 (by decide) (by decide) rfl (by decide) (lw_c10 I hk hi hsz nx2)
  · exact q_s_tabIn (st := []) (tgt := 654) dLw_39 (by decide) (by decide) rfl (by decide) (lw_c11 I hk hi hsz nx2)
  · exact q_s_tabIn (st := []) (tgt := 679) dLw_39 (by decide) (by decide) rfl (by decide) (lw_c12 I hk hi hsz nx2)
  · exact q_s_tabIn (st := []) (tgt := 692) dLw_39 (by decide) (by decide) rfl (by decide) (lw_c13 I hk hi hsz nx2)
  · exact q_s_tabIn (st := []) (tgt := 753) dLw_39 (by decide) (by decide) rfl (by decide) (lw_c14 I hk hi hsz nx2)
  · exact q_s_tabIn (st := []) (tgt := 766) dLw_39 (by decide) (by decide) rfl (by decide) (lw_c15 I hk hi hsz nx2)
  · exact q_s_tabIn (st := []) (tgt := 803) dLw_39 (by decide) (by decide) rfl (by decide) (lw_c16 I hk hi hsz nx2)
  · exact q_s_tabIn (st := []) (tgt := 816) dLw_39 (by decide) (by decide) rfl (by decide) (lw_c17 I hk hi hsz nx2)
  · exact q_s_tabIn (st := []) (tgt := 841) dLw_39 (by decide) (by decide) rfl (by decide) (lw_c18 I hk hi hsz nx2)
  · exact q_s_tabIn (st := []) (tgt := 878) dLw_39 (by decide) (by decide) rfl (by decide) (lw_c19 I hk hi hsz nx2)
  · exact q_s_tabIn (st := []) (tgt := 915) dLw_39 (by decide) (by decide) rfl (by decide) (lw_c20 I hk hi hsz nx2)
  · exact q_s_tabIn (st := []) (tgt := 940) dLw_39 (by decide) (by decide) rfl (by decide) (lw_c21 I hk hi hsz nx2)
  · exact q_s_tabIn (st := []) (tgt := 1001) dLw_39 (by decide) (by decide) rfl (by decide) (lw_c22 I hk hi hsz nx2)
  · exact q_s_tabIn (st := []) (tgt := 1050) dLw_39 (by decide) (by decide) rfl (by decide) (lw_c23 I hk hi hsz nx2)
  · exact q_s_tabIn (st := []) (tgt := 1087) dLw_39 (by decide) (by decide) rfl (by decide) (lw_c24 I hk hi hsz nx2)
  · exact q_s_tabIn (st := []) (tgt := 1124) dLw_39 (by decide) (by decide) rfl (by decide) (lw_c25 I hk hi hsz nx2)
  · exact q_s_tabIn (st := []) (tgt := 1137) dLw_39 (by decide) (by decide) rfl (by decide) (lw_c26 I hk hi hsz nx2)
  · exact q_s_tabIn (st := []) (tgt := 1174) dLw_39 (by decide) (by decide) rfl (by decide) (lw_c27 I hk hi hsz nx2)
  · exact q_s_tabIn (st := []) (tgt := 1211) dLw_39 (by decide) (by decide) rfl (by decide) (lw_c28 I hk hi hsz nx2)
  · exact q_s_tabIn (st := []) (tgt := 1248) dLw_39 (by decide) (by decide) rfl (by decide) (lw_c29 I hk hi hsz nx2)
  · exact q_s_tabIn (st := []) (tgt := 1261) dLw_39 (by decide) (by decide) rfl (by decide) (lw_c30 I hk hi hsz nx2)
  · exact q_s_tabIn (st := []) (tgt := 1298) dLw_39 (by decide) (by decide) rfl (by decide) (lw_c31 I hk hi hsz nx2)
  · exact q_s_tabIn (st := []) (tgt := 1335) dLw_39 (by decide) (by decide) rfl (by decide) (lw_c32 I hk hi hsz nx2)
  · exact q_s_tabIn (st := []) (tgt := 1360) dLw_39 (by decide) (by decide) rfl (by decide) (lw_c33 I hk hi hsz nx2)
  · exact q_s_tabIn (st := []) (tgt := 1397) dLw_39 (by decide) (by decide) rfl (by decide) (lw_c34 I hk hi hsz nx2)
  · exact q_s_tabIn (st := []) (tgt := 1422) dLw_39 (by decide) (by decide) rfl (by decide) (lw_c35 I hk hi hsz nx2)
  · exact q_s_tabIn (st := []) (tgt := 1447) dLw_39 (by decide) (by decide) rfl (by decide) (lw_c36 I hk hi hsz nx2)
  · exact q_s_tabIn (st := []) (tgt := 1484) dLw_39 (by decide) (by decide) rfl (by decide) (lw_c37 I hk hi hsz nx2)
  · exact q_s_tabIn (st := []) (tgt := 1533) dLw_39 (by decide) (by decide) rfl (by decide) (lw_c38 I hk hi hsz nx2)
  · exact q_s_tabIn (st := []) (tgt := 1546) dLw_39 (by decide) (by decide) rfl (by decide) (lw_c39 I hk hi hsz nx2)
  · exact q_s_tabIn (st := []) (tgt := 1571) dLw_39 (by decide) (by decide) rfl (by decide) (lw_c40 I hk hi hsz nx2)
  · exact q_s_tabIn (st := []) (tgt := 1584) dLw_39 (by decide) (by decide) rfl (by decide) (lw_c41 I hk hi hsz nx2)
  · exact q_s_tabIn (st := []) (tgt := 1609) dLw_39 (by decide) (by decide) rfl (by decide) (lw_c42 I hk hi hsz nx2)
  · exact q_s_tabIn (st := []) (tgt := 1622) dLw_39 (by decide) (by decide) rfl (by decide) (lw_c43 I hk hi hsz nx2)
  · exact q_s_tabIn (st := []) (tgt := 1647) dLw_39 (by decide) (by decide) rfl (by decide) (lw_c44 I hk hi hsz nx2)
  · exact q_s_tabIn (st := []) (tgt := 1672) dLw_39 (by decide) (by decide) rfl (by decide) (lw_c45 I hk hi hsz nx2)
  · exact q_s_tabIn (st := []) (tgt := 1697) dLw_39 (by decide) (by decide) rfl (by decide) (lw_c46 I hk hi hsz nx)
end LC
theorem lw_loop {SC : Nat × Nat × (Nat → Int32)} (hsz : SC.2.1 ≤ 2560) : ∀ (n k : Nat) (b : Int) (m : qm), k + n = 512 → i_I (l_LW k) k m → s_A n (6 * n) SC 23 (s_L ((5 * k : Nat) : Int)) [] b m := by
  intro n
  induction n with
  | zero =>
    intro k b m hk I
    refine q_s_iload dLw_23 rfl ?_
    refine q_s_aload_n dLw_25 rfl rfl ?_
    refine s_alen dLw_26 hsz ?_
    refine q_s_iconst (v := 5) dLw_27 rfl ⟨by decide, by decide⟩ ?_
    refine q_s_isub dLw_28 ?_
    rw [q_w32_id (x := (SC.2.1 : Int) - 5) (by constructor <;> omega)]
    refine q_s_icmp_gt (st := []) (tgt := 1759) dLw_29 (by decide) (fun _ => ?_) (fun z => absurd (show (SC.2.1 : Int) - 5 < ((5 * k : Nat) : Int) by omega) z)
    refine q_s_iconst (v := 1) dLw_1759 rfl ⟨by decide, by decide⟩ ?_
    exact s_ret rfl dLw_1760
  | succ n ih =>
    intro k b m hk I
    refine q_s_iload dLw_23 rfl ?_
    refine q_s_aload_n dLw_25 rfl rfl ?_
    refine s_alen dLw_26 hsz ?_
    refine q_s_iconst (v := 5) dLw_27 rfl ⟨by decide, by decide⟩ ?_
    refine q_s_isub dLw_28 ?_
    rw [q_w32_id (x := (SC.2.1 : Int) - 5) (by constructor <;> omega)]
    refine q_s_icmp_gt (st := []) (tgt := 1759) dLw_29 (by decide) (fun _ => ?_) (fun z => ?_)
    · refine q_s_iconst (v := 1) dLw_1759 rfl ⟨by decide, by decide⟩ ?_
      exact s_ret rfl dLw_1760
    · exact lw_head (kc := n) (ks := 6 * n) (fun b2 m2 I2 => ih (k + 1) b2 m2 (by omega) I2) I (by omega) (by omega) hsz
