/-! class PrimeTransform: contracts -/
set_option maxHeartbeats 4000000 in
set_option maxRecDepth 100000 in
theorem c_X1_init (l : Launch) (D : va_G) (cI cT : ClassId) (sz : Nat) (h pr lg N M : Nat) (hN : 2 ^ lg = N) (hM : N = 2 * M) (hN2 : N ≤ 1024) (hlg : lg < 32) : kMv (S := (Nat × Nat)) l yX1_init wsX1_init { frames := 1, cells := 2, slots := M + N, locals := 20 } D [(cI, .int), (cT, .object RX1)] [(h, .inr (1, [.int (nI (0)), .int (nI (0)), .int (nI (0)), .null, .null, .long (lN (0))]))] sz (fun _ => True) [.ref h, .int (nI (pr)), .int (nI (lg))] (fun _ => True) (fun u => [(h, .inr (1, [.int (nI (pr)), .int (nI (lg)), .int (nI (N)), .ref u.1, .ref u.2, .long (lN (0))])), (u.1, .inl (cI, M, .inl (nA (fun _ => 0)))), (u.2, .inl (cI, N, .inl (nA (fun _ => 0))))]) (2) (M + N) := by
  refine kM_of (Qc := fun A => va_Qv (S := (Nat × Nat)) (fun _ => True) (kB D A (fun u => [(h, .inr (1, [.int (nI (pr)), .int (nI (lg)), .int (nI (N)), .ref u.1, .ref u.2, .long (lN (0))])), (u.1, .inl (cI, M, .inl (nA (fun _ => 0)))), (u.2, .inl (cI, N, .inl (nA (fun _ => 0))))])) A) (cc := cX1_init) (maxL := 3) (ret := none) (by decide +kernel) rfl (Nat.le_of_ble_eq_true rfl) ?_
  intro p e s m below meth c A ls hC0 hr hlk hin hP hK hD hA hS hE hAe hsz hl
  obtain ⟨hx, hb, hml, hown, hts⟩ := id hC0
  have hl : lv_has ls 3 [(0, .ref h), (1, .int (nI (pr))), (2, .int (nI (lg)))] := hl
  have hp2 : 2 ^ lg < 2 ^ 32 := by omega
  refine lv_aload_n hx hb dX1_init_0 rfl (lv_at hl 0 rfl) ?_
  refine W.objInit hx hb hown (hts (.methodLink RX1 3 objectInit) (by decide +kernel)) (hts (.instanceMethod objectInit) (by decide +kernel)) (hts _ (List.mem_of_getElem? (i := 3) rfl)) rfl (by rw [hml]; exact hl.1) rfl dX1_init_1 (Nat.le_of_ble_eq_true rfl) (Nat.le_of_ble_eq_true rfl) ?_
  refine W.eq (g2 := F0 m 4 ls []) rfl ?_
  refine lv_aload_n hx hb dX1_init_4 rfl (lv_at hl 0 rfl) ?_
  refine lv_iload_n hx hb dX1_init_5 rfl (lv_at hl 1 rfl) ?_
  refine va_putF (D := D) (ci := 1) (v := .int (nI (pr))) (ty := .int) (C := RX1) (T := TX1) (N := 6) hx hb hts inX1_X1_init tyX1 tyX1_ok nmX1 hown hK hP hD hS 0 rfl rfl 0 (by decide) (hts (.fieldLink RX1 9 "TransformProduct$PrimeTransform" "prime" "I") (by decide +kernel)) (fun _ h9 => h9) rfl hin rfl (by decide +kernel) rfl rfl (Nat.le_of_ble_eq_true rfl) dX1_init_6 (fun H locs hP hD hS => ?_)
  have hP : va_P D vwCl [(h, .inr (1, [.int (nI (pr)), .int (nI (0)), .int (nI (0)), .null, .null, .long (lN (0))]))] H := hP
  have hD : va_D A [(h, .inr (1, [.int (nI (pr)), .int (nI (0)), .int (nI (0)), .null, .null, .long (lN (0))]))] := hD
  refine lv_aload_n hx hb dX1_init_9 rfl (lv_at hl 0 rfl) ?_
  refine lv_iload_n hx hb dX1_init_10 rfl (lv_at hl 2 rfl) ?_
  refine va_putF (D := D) (ci := 1) (v := .int (nI (lg))) (ty := .int) (C := RX1) (T := TX1) (N := 6) hx hb hts inX1_X1_init tyX1 tyX1_ok nmX1 hown hK hP hD hS 0 rfl rfl 1 (by decide) (hts (.fieldLink RX1 15 "TransformProduct$PrimeTransform" "log" "I") (by decide +kernel)) (fun _ h9 => h9) rfl hin rfl (by decide +kernel) rfl rfl (Nat.le_of_ble_eq_true rfl) dX1_init_11 (fun H locs hP hD hS => ?_)
  have hP : va_P D vwCl [(h, .inr (1, [.int (nI (pr)), .int (nI (lg)), .int (nI (0)), .null, .null, .long (lN (0))]))] H := hP
  have hD : va_D A [(h, .inr (1, [.int (nI (pr)), .int (nI (lg)), .int (nI (0)), .null, .null, .long (lN (0))]))] := hD
  refine lv_aload_n hx hb dX1_init_14 rfl (lv_at hl 0 rfl) ?_
  refine lv_iconst (v := nI 1) hx hb dX1_init_15 (by decide) ?_
  refine lv_iload_n hx hb dX1_init_16 rfl (lv_at hl 2 rfl) ?_
  refine lv_ishl hx hb dX1_init_17 ?_
  refine kr_i (kn_shl (by omega) (by rw [Nat.one_mul]; exact hp2)) ?_
  refine kr_i (congrArg nI (show 1 * 2 ^ lg = N from by rw [Nat.one_mul, hN])) ?_
  refine va_putF (D := D) (ci := 1) (v := .int (nI (N))) (ty := .int) (C := RX1) (T := TX1) (N := 6) hx hb hts inX1_X1_init tyX1 tyX1_ok nmX1 hown hK hP hD hS 0 rfl rfl 2 (by decide) (hts (.fieldLink RX1 18 "TransformProduct$PrimeTransform" "size" "I") (by decide +kernel)) (fun _ h9 => h9) rfl hin rfl (by decide +kernel) rfl rfl (Nat.le_of_ble_eq_true rfl) dX1_init_18 (fun H locs hP hD hS => ?_)
  have hP : va_P D vwCl [(h, .inr (1, [.int (nI (pr)), .int (nI (lg)), .int (nI (N)), .null, .null, .long (lN (0))]))] H := hP
  have hD : va_D A [(h, .inr (1, [.int (nI (pr)), .int (nI (lg)), .int (nI (N)), .null, .null, .long (lN (0))]))] := hD
  refine lv_aload_n hx hb dX1_init_21 rfl (lv_at hl 0 rfl) ?_
  refine lv_aload_n hx hb dX1_init_22 rfl (lv_at hl 0 rfl) ?_
  refine va_get (D := D) (ci := 1) (v := .int (nI (N))) (C := RX1) (T := TX1) (N := 6) hx hb hts inX1_X1_init hown hK hP 0 rfl rfl 2 (by decide) (hts (.fieldLink RX1 18 "TransformProduct$PrimeTransform" "size" "I") (by decide +kernel)) (fun _ h9 => h9) rfl dX1_init_23 ?_
  refine lv_iconst (v := nI 2) hx hb dX1_init_26 (by decide) ?_
  refine lv_idiv hx hb dX1_init_27 (nI_ne0 (by omega) (by omega)) ?_
  refine kr_i (pk_div (by omega) (by omega) (by omega)) ?_
  refine kr_i (congrArg nI (show N / 2 = M from by omega)) ?_
  refine kr_newa hx hb (hts (.arrayClass .int) (by decide +kernel)) hK hP hD hS hA (by omega) (by show _ ≤ 2; omega) (by show _ ≤ M + N; omega) dX1_init_28 (fun q1 H hP hD hS => ?_)
  have hP : va_P D vwCl [(h, .inr (1, [.int (nI (pr)), .int (nI (lg)), .int (nI (N)), .null, .null, .long (lN (0))])), (q1, .inl (cI, M, .inl (nA (fun _ => 0))))] H := hP
  have hD : va_D A [(h, .inr (1, [.int (nI (pr)), .int (nI (lg)), .int (nI (N)), .null, .null, .long (lN (0))])), (q1, .inl (cI, M, .inl (nA (fun _ => 0))))] := hD
  refine W.widen (k := 1) (n := M) (by omega) (by omega) ?_
  refine va_putF (D := D) (ci := 1) (v := .ref q1) (ty := .array .int) (C := RX1) (T := TX1) (N := 6) hx hb hts inX1_X1_init tyX1 tyX1_ok nmX1 hown hK hP hD hS 0 rfl rfl 3 (by decide) (hts (.fieldLink RX1 21 "TransformProduct$PrimeTransform" "roots" "[I") (by decide +kernel)) (fun _ h9 => h9) rfl hin rfl (by decide +kernel) rfl rfl (Nat.le_of_ble_eq_true rfl) dX1_init_30 (fun H locs hP hD hS => ?_)
  have hP : va_P D vwCl [(h, .inr (1, [.int (nI (pr)), .int (nI (lg)), .int (nI (N)), .ref q1, .null, .long (lN (0))])), (q1, .inl (cI, M, .inl (nA (fun _ => 0))))] H := hP
  have hD : va_D A [(h, .inr (1, [.int (nI (pr)), .int (nI (lg)), .int (nI (N)), .ref q1, .null, .long (lN (0))])), (q1, .inl (cI, M, .inl (nA (fun _ => 0))))] := hD
  refine lv_aload_n hx hb dX1_init_33 rfl (lv_at hl 0 rfl) ?_
  refine lv_aload_n hx hb dX1_init_34 rfl (lv_at hl 0 rfl) ?_
  refine va_get (D := D) (ci := 1) (v := .int (nI (N))) (C := RX1) (T := TX1) (N := 6) hx hb hts inX1_X1_init hown hK hP 0 rfl rfl 2 (by decide) (hts (.fieldLink RX1 18 "TransformProduct$PrimeTransform" "size" "I") (by decide +kernel)) (fun _ h9 => h9) rfl dX1_init_35 ?_
  refine kr_newa hx hb (hts (.arrayClass .int) (by decide +kernel)) hK hP hD hS hA (by omega) (by show _ ≤ 2; omega) (by show _ ≤ M + N; omega) dX1_init_38 (fun q2 H hP hD hS => ?_)
  have hP : va_P D vwCl [(h, .inr (1, [.int (nI (pr)), .int (nI (lg)), .int (nI (N)), .ref q1, .null, .long (lN (0))])), (q1, .inl (cI, M, .inl (nA (fun _ => 0)))), (q2, .inl (cI, N, .inl (nA (fun _ => 0))))] H := hP
  have hD : va_D A [(h, .inr (1, [.int (nI (pr)), .int (nI (lg)), .int (nI (N)), .ref q1, .null, .long (lN (0))])), (q1, .inl (cI, M, .inl (nA (fun _ => 0)))), (q2, .inl (cI, N, .inl (nA (fun _ => 0))))] := hD
  refine W.widen (k := 2) (n := M + N) (by omega) (by omega) ?_
  refine va_putF (D := D) (ci := 1) (v := .ref q2) (ty := .array .int) (C := RX1) (T := TX1) (N := 6) hx hb hts inX1_X1_init tyX1 tyX1_ok nmX1 hown hK hP hD hS 0 rfl rfl 4 (by decide) (hts (.fieldLink RX1 25 "TransformProduct$PrimeTransform" "values" "[I") (by decide +kernel)) (fun _ h9 => h9) rfl hin rfl (by decide +kernel) rfl rfl (Nat.le_of_ble_eq_true rfl) dX1_init_40 (fun H locs hP hD hS => ?_)
  have hP : va_P D vwCl [(h, .inr (1, [.int (nI (pr)), .int (nI (lg)), .int (nI (N)), .ref q1, .ref q2, .long (lN (0))])), (q1, .inl (cI, M, .inl (nA (fun _ => 0)))), (q2, .inl (cI, N, .inl (nA (fun _ => 0))))] H := hP
  have hD : va_D A [(h, .inr (1, [.int (nI (pr)), .int (nI (lg)), .int (nI (N)), .ref q1, .ref q2, .long (lN (0))])), (q1, .inl (cI, M, .inl (nA (fun _ => 0)))), (q2, .inl (cI, N, .inl (nA (fun _ => 0))))] := hD
  refine lv_aload_n hx hb dX1_init_43 rfl (lv_at hl 0 rfl) ?_
  refine lv_lconst (v := lN 0) hx hb dX1_init_44 (by decide) ?_
  refine va_put (D := D) (ci := 1) (v := .long (lN (0))) (ty := .long) (C := RX1) (T := TX1) (N := 6) hx hb hts inX1_X1_init tyX1 tyX1_ok nmX1 hown hK hP hD hS 0 rfl rfl 5 (by decide) (hts (.fieldLink RX1 28 "TransformProduct$PrimeTransform" "inverseSize" "J") (by decide +kernel)) (fun _ h9 => h9) rfl (by decide +kernel) rfl rfl (Nat.le_of_ble_eq_true rfl) dX1_init_45 (fun H locs hP hD hS => ?_)
  have hP : va_P D vwCl [(h, .inr (1, [.int (nI (pr)), .int (nI (lg)), .int (nI (N)), .ref q1, .ref q2, .long (lN (0))])), (q1, .inl (cI, M, .inl (nA (fun _ => 0)))), (q2, .inl (cI, N, .inl (nA (fun _ => 0))))] H := hP
  have hD : va_D A [(h, .inr (1, [.int (nI (pr)), .int (nI (lg)), .int (nI (N)), .ref q1, .ref q2, .long (lN (0))])), (q1, .inl (cI, M, .inl (nA (fun _ => 0)))), (q2, .inl (cI, N, .inl (nA (fun _ => 0))))] := hD
  exact kr_vret (q1, q2) hx hb hr hlk hP hD hS trivial dX1_init_48
set_option maxHeartbeats 4000000 in
set_option maxRecDepth 100000 in
theorem lp_prep {p : Program} {l : Launch} {e : Env} {R : Room} {s : State} {m : MethodId} {args : Array Value} {below : List Frame} {meth : Method} {c : Code} {cells slots : Nat} {Q : State → Prop} {A : Nat → Prop} {H0 : Heap} {D : va_G} {cI cT : ClassId} (h r vv pr lg N iv M w : Nat) (f : Nat → Nat) (hC0 : CallFix p m c cX1_prepare 6 s args wsX1_prepare RX1) (hK : va_K D vwCl [(cI, .int), (cT, .object RX1)] s) (hA : ∀ q, H0.size ≤ q → A q) (hw : w < pr) (hp : pr < 2 ^ 30) (hM : M ≤ 512)
    (kk : ∀ (j : Nat) (H : Heap) (locs : List Loc) (ls : Array Slot), j = M → va_P D vwCl [(h, .inr (1, [.int (nI (pr)), .int (nI (lg)), .int (nI (N)), .ref r, .ref vv, .long (lN (iv))])), (r, .inl (cI, M, .inl (nA (rtF w pr j f))))] H → va_D A [(h, .inr (1, [.int (nI (pr)), .int (nI (lg)), .int (nI (N)), .ref r, .ref vv, .long (lN (iv))])), (r, .inl (cI, M, .inl (nA (rtF w pr j f))))] → va_S A H0 H locs → lv_has ls 6 [(5, .int (nI (j))), (3, .long (lN (w ^ j % pr))), (1, .long (lN (w))), (0, .ref h)] → W p l e R s m args below meth c H locs cells slots Q (F0 m 64 ls [])) :
    ∀ (nn j : Nat) (H : Heap) (locs : List Loc) (ls : Array Slot), M - j < nn → j ≤ M → va_P D vwCl [(h, .inr (1, [.int (nI (pr)), .int (nI (lg)), .int (nI (N)), .ref r, .ref vv, .long (lN (iv))])), (r, .inl (cI, M, .inl (nA (rtF w pr j f))))] H → va_D A [(h, .inr (1, [.int (nI (pr)), .int (nI (lg)), .int (nI (N)), .ref r, .ref vv, .long (lN (iv))])), (r, .inl (cI, M, .inl (nA (rtF w pr j f))))] → va_S A H0 H locs → lv_has ls 6 [(5, .int (nI (j))), (3, .long (lN (w ^ j % pr))), (1, .long (lN (w))), (0, .ref h)] → W p l e R s m args below meth c H locs cells slots Q (F0 m 29 ls []) := by
  obtain ⟨hx, hb, hml, hown, hts⟩ := id hC0
  intro nn
  induction nn with
  | zero => intro _ _ _ _ h; exact absurd h (Nat.not_lt_zero _)
  | succ nn ih =>
    intro j H locs ls hn hj hP hD hS hl
    refine lv_iload hx hb dX1_prepare_29 (lv_at hl 0 rfl) ?_
    refine lv_aload_n hx hb dX1_prepare_31 rfl (lv_at hl 3 rfl) ?_
    refine va_get (D := D) (ci := 1) (v := .ref r) (C := RX1) (T := TX1) (N := 6) hx hb hts inX1_X1_prepare hown hK hP 0 rfl rfl 3 (by decide) (hts (.fieldLink RX1 21 "TransformProduct$PrimeTransform" "roots" "[I") (by decide +kernel)) (fun _ h9 => h9) rfl dX1_prepare_32 ?_
    refine va_alen (v := nI (M)) hx hb hK hP 1 0 rfl rfl rfl dX1_prepare_35 ?_
    refine kr_ge (tgt := 64) hx hb dX1_prepare_36 (by decide) (by omega) (by omega) (fun hc => ?_) (fun hc => ?_)
    · exact kk j H locs ls (by omega) hP hD hS hl
    · have a1 : w ^ j % pr < pr := Nat.mod_lt _ (by omega)
      have a2 : w ^ j % pr * w < 2 ^ 62 := kn_mm a1 hw (by omega)
      refine lv_aload_n hx hb dX1_prepare_39 rfl (lv_at hl 3 rfl) ?_
      refine va_get (D := D) (ci := 1) (v := .ref r) (C := RX1) (T := TX1) (N := 6) hx hb hts inX1_X1_prepare hown hK hP 0 rfl rfl 3 (by decide) (hts (.fieldLink RX1 21 "TransformProduct$PrimeTransform" "roots" "[I") (by decide +kernel)) (fun _ h9 => h9) rfl dX1_prepare_40 ?_
      refine lv_iload hx hb dX1_prepare_43 (lv_at hl 0 rfl) ?_
      refine lv_lload_n hx hb dX1_prepare_45 rfl (lv_at hl 1 rfl) ?_
      refine lv_l2i hx hb dX1_prepare_46 (lN_i _) ?_
      refine kr_st hx hb hK hP hD hS 1 0 rfl rfl (by omega) (by omega) dX1_prepare_47 (fun H locs hP hD hS => ?_)
      have hP : va_P D vwCl [(h, .inr (1, [.int (nI (pr)), .int (nI (lg)), .int (nI (N)), .ref r, .ref vv, .long (lN (iv))])), (r, .inl (cI, M, .inl (nA (va_up (rtF w pr j f) j (w ^ j % pr)))))] H := hP
      have hD : va_D A [(h, .inr (1, [.int (nI (pr)), .int (nI (lg)), .int (nI (N)), .ref r, .ref vv, .long (lN (iv))])), (r, .inl (cI, M, .inl (nA (va_up (rtF w pr j f) j (w ^ j % pr)))))] := hD
      rw [rtF_s] at hP hD
      refine lv_lload_n hx hb dX1_prepare_48 rfl (lv_at hl 1 rfl) ?_
      refine lv_lload_n hx hb dX1_prepare_49 rfl (lv_at hl 2 rfl) ?_
      refine lv_lmul hx hb dX1_prepare_50 ?_
      refine kr_l (lN_mul _ _) ?_
      refine lv_aload_n hx hb dX1_prepare_51 rfl (lv_at hl 3 rfl) ?_
      refine va_get (D := D) (ci := 1) (v := .int (nI (pr))) (C := RX1) (T := TX1) (N := 6) hx hb hts inX1_X1_prepare hown hK hP 0 rfl rfl 0 (by decide) (hts (.fieldLink RX1 9 "TransformProduct$PrimeTransform" "prime" "I") (by decide +kernel)) (fun _ h9 => h9) rfl dX1_prepare_52 ?_
      refine lv_i2l hx hb dX1_prepare_55 (nI_l (by omega)) ?_
      refine lv_lrem hx hb dX1_prepare_56 (kn_lne (by omega) (by omega)) ?_
      refine kr_l (pk_lRem (by omega) (by omega) (by omega)) ?_
      refine kr_l (congrArg lN (show ((w ^ j % pr) * w) % pr = w ^ (j + 1) % pr from by rw [Nat.pow_succ, Nat.mul_mod (w ^ j) w, Nat.mod_eq_of_lt hw])) ?_
      refine lv_lstore_n (lv' := [(3, .long (lN (w ^ (j + 1) % pr))), (5, .int (nI (j))), (1, .long (lN (w))), (0, .ref h)]) hx hb dX1_prepare_57 rfl hl (by decide) rfl (fun ls hl => ?_)
      refine lv_iinc (v := nI (j + 1)) (lv' := [(5, .int (nI (j + 1))), (3, .long (lN (w ^ (j + 1) % pr))), (1, .long (lN (w))), (0, .ref h)]) hx hb dX1_prepare_58 hl (k := 1) rfl (by rw [show Int32.ofInt 1 = nI 1 by decide]; exact nI_add _ _) (by decide) rfl (fun ls hl => ?_)
      refine lv_goto (tgt := 29) hx hb dX1_prepare_61 (by decide) ?_
      exact ih (j + 1) H locs ls (by omega) (by omega) hP hD hS (lv_sub hl [0, 1, 2, 3] rfl)
set_option maxHeartbeats 4000000 in
set_option maxRecDepth 100000 in
theorem c_X1_prepare (l : Launch) (D : va_G) (cI cT : ClassId) (sz : Nat) (tp h r vv pr lg N iv M : Nat) (f : Nat → Nat) (hp1 : 3 < pr) (hp : pr < 2 ^ 30) (hM : N = 2 * M) (hM0 : 0 < M) (hN : N ≤ 1024) : kMv (S := Unit) l yX1_prepare wsX1_prepare { frames := 2, cells := 0, slots := 0, locals := 53 } D [(cI, .int), (cT, .object RX1)] [(h, .inr (1, [.int (nI (pr)), .int (nI (lg)), .int (nI (N)), .ref r, .ref vv, .long (lN (iv))])), (r, .inl (cI, M, .inl (nA (f))))] sz (kX tp (va_A [(h, .inr (1, [.int (nI (pr)), .int (nI (lg)), .int (nI (N)), .ref r, .ref vv, .long (lN (iv))])), (r, .inl (cI, M, .inl (nA (f))))] sz)) [.ref h] (fun _ => True) (fun _ => [(h, .inr (1, [.int (nI (pr)), .int (nI (lg)), .int (nI (N)), .ref r, .ref vv, .long (lN (N ^ (pr - 2) % pr))])), (r, .inl (cI, M, .inl (nA (rtF (3 ^ ((pr - 1) / N) % pr) pr M f))))]) (0) (0) := by
  refine kM_of (Qc := fun A => va_Qv (S := Unit) (fun _ => True) (kB D A (fun _ => [(h, .inr (1, [.int (nI (pr)), .int (nI (lg)), .int (nI (N)), .ref r, .ref vv, .long (lN (N ^ (pr - 2) % pr))])), (r, .inl (cI, M, .inl (nA (rtF (3 ^ ((pr - 1) / N) % pr) pr M f))))])) A) (cc := cX1_prepare) (maxL := 6) (ret := none) (by decide +kernel) rfl (Nat.le_of_ble_eq_true rfl) ?_
  intro p e s m below meth c A ls hC0 hr hlk hin hP hK hD hA hS hE hAe hsz hl
  obtain ⟨hx, hb, hml, hown, hts⟩ := id hC0
  have hl : lv_has ls 6 [(0, .ref h)] := hl
  rw [← hsz, ← hAe] at hE
  have hq : (pr - 1) / N ≤ pr - 1 := Nat.div_le_self _ _
  refine lv_ldc2 hx hb hown (hts (.constantLong RX1 32 (3)) (by decide +kernel)) dX1_prepare_0 ?_
  refine kr_l (show (3 : Int64) = lN 3 by decide) ?_
  refine lv_aload_n hx hb dX1_prepare_3 rfl (lv_at hl 0 rfl) ?_
  refine va_get (D := D) (ci := 1) (v := .int (nI (pr))) (C := RX1) (T := TX1) (N := 6) hx hb hts inX1_X1_prepare hown hK hP 0 rfl rfl 0 (by decide) (hts (.fieldLink RX1 9 "TransformProduct$PrimeTransform" "prime" "I") (by decide +kernel)) (fun _ h9 => h9) rfl dX1_prepare_4 ?_
  refine lv_iconst (v := nI 1) hx hb dX1_prepare_7 (by decide) ?_
  refine lv_isub hx hb dX1_prepare_8 ?_
  refine kr_i (pk_sub (by omega)) ?_
  refine lv_aload_n hx hb dX1_prepare_9 rfl (lv_at hl 0 rfl) ?_
  refine va_get (D := D) (ci := 1) (v := .int (nI (N))) (C := RX1) (T := TX1) (N := 6) hx hb hts inX1_X1_prepare hown hK hP 0 rfl rfl 2 (by decide) (hts (.fieldLink RX1 18 "TransformProduct$PrimeTransform" "size" "I") (by decide +kernel)) (fun _ h9 => h9) rfl dX1_prepare_10 ?_
  refine lv_idiv hx hb dX1_prepare_13 (nI_ne0 (by omega) (by omega)) ?_
  refine kr_i (pk_div (by omega) (by omega) (by omega)) ?_
  refine lv_i2l hx hb dX1_prepare_14 (nI_l (by omega)) ?_
  refine lv_aload_n hx hb dX1_prepare_15 rfl (lv_at hl 0 rfl) ?_
  refine va_get (D := D) (ci := 1) (v := .int (nI (pr))) (C := RX1) (T := TX1) (N := 6) hx hb hts inX1_X1_prepare hown hK hP 0 rfl rfl 0 (by decide) (hts (.fieldLink RX1 9 "TransformProduct$PrimeTransform" "prime" "I") (by decide +kernel)) (fun _ h9 => h9) rfl dX1_prepare_16 ?_
  refine lv_i2l hx hb dX1_prepare_19 (nI_l (by omega)) ?_
  refine kc_l (wr := [(h, .inr (1, [.int (nI (pr)), .int (nI (lg)), .int (nI (N)), .ref r, .ref vv, .long (lN (iv))])), (r, .inl (cI, M, .inl (nA (f))))]) (va_runSN (As := [.long (lN (3)), .long (lN ((pr - 1) / N)), .long (lN (pr))]) (rest := []) hC0 (c_X3_power l D cI cT s.heap.size 3 ((pr - 1) / N) pr (by omega) (by omega) (by omega) (by omega)) ⟨va_cnB 3 hts gX1_prepare_X3_power_n34 rfl rfl rfl hE.2.2.2.1 (hts (.initialized RX3) (by decide +kernel)) (by decide +kernel) ⟨Nat.le_of_ble_eq_true rfl, Nat.le_of_ble_eq_true rfl⟩, hts (.static yX3_power) (by decide +kernel), trivial⟩ (kp_S kE_0 (fun _ _ _ => trivial) hK hP hD [] rfl (by decide)) rfl rfl hl.1 rfl (lv_room (Nat.le_of_ble_eq_true rfl)) dX1_prepare_20 ⟨Nat.le_of_ble_eq_true rfl, Nat.le_of_ble_eq_true rfl⟩) hP hD hS hA [] [0, 1] rfl rfl (by decide) (by decide) (fun rr uu H locs hw hP hD hS => ?_)
  subst hw
  have hP : va_P D vwCl [(h, .inr (1, [.int (nI (pr)), .int (nI (lg)), .int (nI (N)), .ref r, .ref vv, .long (lN (iv))])), (r, .inl (cI, M, .inl (nA (f))))] H := hP.sub [0, 1] rfl
  have hD : va_D A [(h, .inr (1, [.int (nI (pr)), .int (nI (lg)), .int (nI (N)), .ref r, .ref vv, .long (lN (iv))])), (r, .inl (cI, M, .inl (nA (f))))] := hD.sub [0, 1] (by decide) rfl
  have hw : 3 ^ ((pr - 1) / N) % pr < pr := Nat.mod_lt _ (by omega)
  generalize hwd : 3 ^ ((pr - 1) / N) % pr = w at hw ⊢
  refine lv_lstore_n (lv' := [(1, .long (lN (w))), (0, .ref h)]) hx hb dX1_prepare_23 rfl hl (by decide) rfl (fun ls hl => ?_)
  refine lv_lconst (v := lN 1) hx hb dX1_prepare_24 (by decide) ?_
  refine kr_l (congrArg lN (show 1 = w ^ 0 % pr from (by rw [Nat.pow_zero, Nat.mod_eq_of_lt (by omega)]))) ?_
  refine lv_lstore_n (lv' := [(3, .long (lN (w ^ 0 % pr))), (1, .long (lN (w))), (0, .ref h)]) hx hb dX1_prepare_25 rfl hl (by decide) rfl (fun ls hl => ?_)
  refine lv_iconst (v := nI 0) hx hb dX1_prepare_26 (by decide) ?_
  refine lv_istore (lv' := [(5, .int (nI (0))), (3, .long (lN (w ^ 0 % pr))), (1, .long (lN (w))), (0, .ref h)]) hx hb dX1_prepare_27 hl (by decide) rfl (fun ls hl => ?_)
  rw [show f = rtF w pr 0 f from (rtF_0 w pr f).symm] at hP hD
  refine lp_prep h r vv pr lg N iv M w f hC0 hK hA hw hp (by omega) (fun j H locs ls hj hP hD hS hl => ?_) (M + 1) 0 H locs ls (by omega) (by omega) hP hD hS (lv_sub hl [0, 1, 2, 3] rfl)
  rw [hj] at hP hD hl
  refine lv_aload_n hx hb dX1_prepare_64 rfl (lv_at hl 3 rfl) ?_
  refine lv_aload_n hx hb dX1_prepare_65 rfl (lv_at hl 3 rfl) ?_
  refine va_get (D := D) (ci := 1) (v := .int (nI (N))) (C := RX1) (T := TX1) (N := 6) hx hb hts inX1_X1_prepare hown hK hP 0 rfl rfl 2 (by decide) (hts (.fieldLink RX1 18 "TransformProduct$PrimeTransform" "size" "I") (by decide +kernel)) (fun _ h9 => h9) rfl dX1_prepare_66 ?_
  refine lv_i2l hx hb dX1_prepare_69 (nI_l (by omega)) ?_
  refine lv_aload_n hx hb dX1_prepare_70 rfl (lv_at hl 3 rfl) ?_
  refine va_get (D := D) (ci := 1) (v := .int (nI (pr))) (C := RX1) (T := TX1) (N := 6) hx hb hts inX1_X1_prepare hown hK hP 0 rfl rfl 0 (by decide) (hts (.fieldLink RX1 9 "TransformProduct$PrimeTransform" "prime" "I") (by decide +kernel)) (fun _ h9 => h9) rfl dX1_prepare_71 ?_
  refine lv_i2l hx hb dX1_prepare_74 (nI_l (by omega)) ?_
  refine kc_l (wr := [(h, .inr (1, [.int (nI (pr)), .int (nI (lg)), .int (nI (N)), .ref r, .ref vv, .long (lN (iv))])), (r, .inl (cI, M, .inl (nA (rtF w pr M f))))]) (va_runSN (As := [.long (lN (N)), .long (lN (pr))]) (rest := [.ref h]) hC0 (c_X3_inverse l D cI cT H.size N pr (by omega) (by omega) (by omega)) ⟨va_cnB 2 hts gX1_prepare_X3_inverse_n38 rfl rfl rfl hE.2.2.2.2 (hts (.initialized RX3) (by decide +kernel)) (by decide +kernel) ⟨Nat.le_of_ble_eq_true rfl, Nat.le_of_ble_eq_true rfl⟩, hts (.static yX3_inverse) (by decide +kernel), trivial⟩ (kp_S kE_0 (fun _ _ _ => trivial) hK hP hD [] rfl (by decide)) rfl rfl hl.1 rfl (lv_room (Nat.le_of_ble_eq_true rfl)) dX1_prepare_75 ⟨Nat.le_of_ble_eq_true rfl, Nat.le_of_ble_eq_true rfl⟩) hP hD hS hA [] [0, 1] rfl rfl (by decide) (by decide) (fun rr uu H locs hw hP hD hS => ?_)
  subst hw
  have hP : va_P D vwCl [(h, .inr (1, [.int (nI (pr)), .int (nI (lg)), .int (nI (N)), .ref r, .ref vv, .long (lN (iv))])), (r, .inl (cI, M, .inl (nA (rtF w pr M f))))] H := hP.sub [0, 1] rfl
  have hD : va_D A [(h, .inr (1, [.int (nI (pr)), .int (nI (lg)), .int (nI (N)), .ref r, .ref vv, .long (lN (iv))])), (r, .inl (cI, M, .inl (nA (rtF w pr M f))))] := hD.sub [0, 1] (by decide) rfl
  subst hwd
  refine va_put (D := D) (ci := 1) (v := .long (lN (N ^ (pr - 2) % pr))) (ty := .long) (C := RX1) (T := TX1) (N := 6) hx hb hts inX1_X1_prepare tyX1 tyX1_ok nmX1 hown hK hP hD hS 0 rfl rfl 5 (by decide) (hts (.fieldLink RX1 28 "TransformProduct$PrimeTransform" "inverseSize" "J") (by decide +kernel)) (fun _ h9 => h9) rfl (by decide +kernel) rfl rfl (Nat.le_of_ble_eq_true rfl) dX1_prepare_78 (fun H locs hP hD hS => ?_)
  have hP : va_P D vwCl [(h, .inr (1, [.int (nI (pr)), .int (nI (lg)), .int (nI (N)), .ref r, .ref vv, .long (lN (N ^ (pr - 2) % pr))])), (r, .inl (cI, M, .inl (nA (rtF (3 ^ ((pr - 1) / N) % pr) pr M f))))] H := hP
  have hD : va_D A [(h, .inr (1, [.int (nI (pr)), .int (nI (lg)), .int (nI (N)), .ref r, .ref vv, .long (lN (N ^ (pr - 2) % pr))])), (r, .inl (cI, M, .inl (nA (rtF (3 ^ ((pr - 1) / N) % pr) pr M f))))] := hD
  exact kr_vret () hx hb hr hlk hP hD hS trivial dX1_prepare_81
set_option maxHeartbeats 4000000 in
set_option maxRecDepth 100000 in
theorem c_X1_coefficient (l : Launch) (D : va_G) (cI cT : ClassId) (sz : Nat) (h r vv pr lg N iv i : Nat) (v : Nat → Nat) (hN : 2 ^ lg = N) (hN2 : N ≤ 1024) (hlg : lg < 32) (hi : i < N) (hp : pr < 2 ^ 30) (hv : ∀ i, i < N → v i < pr) (hiv : iv < pr) : kMi (S := Unit) l yX1_coefficient wsX1_coefficient { frames := 0, cells := 0, slots := 0, locals := 0 } D [(cI, .int), (cT, .object RX1)] [(h, .inr (1, [.int (nI (pr)), .int (nI (lg)), .int (nI (N)), .ref r, .ref vv, .long (lN (iv))])), (vv, .inl (cI, N, .inl (nA (v))))] sz (fun _ => True) [.ref h, .int (nI (i))] (fun r _ => r = nI (v ((N - i) % N) * iv % pr)) (fun _ => [(h, .inr (1, [.int (nI (pr)), .int (nI (lg)), .int (nI (N)), .ref r, .ref vv, .long (lN (iv))])), (vv, .inl (cI, N, .inl (nA (v))))]) (0) (0) := by
  refine kM_of (Qc := fun A => va_Qi (S := Unit) (fun r _ => r = nI (v ((N - i) % N) * iv % pr)) (kB D A (fun _ => [(h, .inr (1, [.int (nI (pr)), .int (nI (lg)), .int (nI (N)), .ref r, .ref vv, .long (lN (iv))])), (vv, .inl (cI, N, .inl (nA (v))))])) A) (cc := cX1_coefficient) (maxL := 2) (ret := (some .int)) (by decide +kernel) rfl (Nat.le_of_ble_eq_true rfl) ?_
  intro p e s m below meth c A ls hC0 hr hlk hin hP hK hD hA hS hE hAe hsz hl
  obtain ⟨hx, hb, hml, hown, hts⟩ := id hC0
  have hl : lv_has ls 2 [(0, .ref h), (1, .int (nI (i)))] := hl
  have m1 : (N - i) % N < N := Nat.mod_lt _ (by omega)
  have m2 : v ((N - i) % N) < pr := hv _ m1
  have m3 : v ((N - i) % N) * iv < 2 ^ 62 := kn_mm m2 hiv (by omega)
  refine lv_aload_n hx hb dX1_coefficient_0 rfl (lv_at hl 0 rfl) ?_
  refine va_get (D := D) (ci := 1) (v := .ref vv) (C := RX1) (T := TX1) (N := 6) hx hb hts inX1_X1_coefficient hown hK hP 0 rfl rfl 4 (by decide) (hts (.fieldLink RX1 25 "TransformProduct$PrimeTransform" "values" "[I") (by decide +kernel)) (fun _ h9 => h9) rfl dX1_coefficient_1 ?_
  refine lv_aload_n hx hb dX1_coefficient_4 rfl (lv_at hl 0 rfl) ?_
  refine va_get (D := D) (ci := 1) (v := .int (nI (N))) (C := RX1) (T := TX1) (N := 6) hx hb hts inX1_X1_coefficient hown hK hP 0 rfl rfl 2 (by decide) (hts (.fieldLink RX1 18 "TransformProduct$PrimeTransform" "size" "I") (by decide +kernel)) (fun _ h9 => h9) rfl dX1_coefficient_5 ?_
  refine lv_iload_n hx hb dX1_coefficient_8 rfl (lv_at hl 1 rfl) ?_
  refine lv_isub hx hb dX1_coefficient_9 ?_
  refine kr_i (pk_sub (by omega)) ?_
  refine lv_aload_n hx hb dX1_coefficient_10 rfl (lv_at hl 0 rfl) ?_
  refine va_get (D := D) (ci := 1) (v := .int (nI (N))) (C := RX1) (T := TX1) (N := 6) hx hb hts inX1_X1_coefficient hown hK hP 0 rfl rfl 2 (by decide) (hts (.fieldLink RX1 18 "TransformProduct$PrimeTransform" "size" "I") (by decide +kernel)) (fun _ h9 => h9) rfl dX1_coefficient_11 ?_
  refine lv_iconst (v := nI 1) hx hb dX1_coefficient_14 (by decide) ?_
  refine lv_isub hx hb dX1_coefficient_15 ?_
  refine kr_i (pk_sub (by omega)) ?_
  refine lv_iand hx hb dX1_coefficient_16 ?_
  refine kr_i (y := nI ((N - i) % N)) (show nI (N - i) &&& nI (N - 1) = nI ((N - i) % N) by rw [← hN]; exact kn_msk (by omega) (by rw [hN]; omega)) ?_
  refine kr_ld hx hb hK hP 1 0 rfl rfl (by omega) (by omega) dX1_coefficient_17 ?_
  refine lv_i2l hx hb dX1_coefficient_18 (nI_l (by omega)) ?_
  refine lv_aload_n hx hb dX1_coefficient_19 rfl (lv_at hl 0 rfl) ?_
  refine va_get (D := D) (ci := 1) (v := .long (lN (iv))) (C := RX1) (T := TX1) (N := 6) hx hb hts inX1_X1_coefficient hown hK hP 0 rfl rfl 5 (by decide) (hts (.fieldLink RX1 28 "TransformProduct$PrimeTransform" "inverseSize" "J") (by decide +kernel)) (fun _ h9 => h9) rfl dX1_coefficient_20 ?_
  refine lv_lmul hx hb dX1_coefficient_23 ?_
  refine kr_l (lN_mul _ _) ?_
  refine lv_aload_n hx hb dX1_coefficient_24 rfl (lv_at hl 0 rfl) ?_
  refine va_get (D := D) (ci := 1) (v := .int (nI (pr))) (C := RX1) (T := TX1) (N := 6) hx hb hts inX1_X1_coefficient hown hK hP 0 rfl rfl 0 (by decide) (hts (.fieldLink RX1 9 "TransformProduct$PrimeTransform" "prime" "I") (by decide +kernel)) (fun _ h9 => h9) rfl dX1_coefficient_25 ?_
  refine lv_i2l hx hb dX1_coefficient_28 (nI_l (by omega)) ?_
  refine lv_lrem hx hb dX1_coefficient_29 (kn_lne (by omega) (by omega)) ?_
  refine kr_l (pk_lRem (by omega) (by omega) (by omega)) ?_
  refine lv_l2i hx hb dX1_coefficient_30 (lN_i _) ?_
  exact kr_iret () hx hb hr hlk hP hD hS rfl dX1_coefficient_31
set_option maxHeartbeats 4000000 in
set_option maxRecDepth 100000 in
theorem lp_me1 {p : Program} {l : Launch} {e : Env} {R : Room} {s : State} {m : MethodId} {args : Array Value} {below : List Frame} {meth : Method} {c : Code} {cells slots : Nat} {Q : State → Prop} {A : Nat → Prop} {H0 : Heap} {D : va_G} {cI cT : ClassId} (h r vv pr lg N iv q : Nat) (v o : Nat → Nat) (hC0 : CallFix p m c cX1_multiplyEach 3 s args wsX1_multiplyEach RX1) (hK : va_K D vwCl [(cI, .int), (cT, .object RX1)] s) (hA : ∀ q, H0.size ≤ q → A q) (hp : pr < 2 ^ 30) (hp0 : 0 < pr) (hN2 : N ≤ 1024) (hv : ∀ i, i < N → v i < pr) (ho : ∀ i, i < N → o i < pr)
    (kk : ∀ (j : Nat) (H : Heap) (locs : List Loc) (ls : Array Slot), j = N → va_P D vwCl [(h, .inr (1, [.int (nI (pr)), .int (nI (lg)), .int (nI (N)), .ref r, .ref vv, .long (lN (iv))])), (vv, .inl (cI, N, .inl (nA (meF pr j v o)))), (q, .inl (cI, N, .inl (nA (o))))] H → va_D A [(h, .inr (1, [.int (nI (pr)), .int (nI (lg)), .int (nI (N)), .ref r, .ref vv, .long (lN (iv))])), (vv, .inl (cI, N, .inl (nA (meF pr j v o)))), (q, .inl (cI, N, .inl (nA (o))))] → va_S A H0 H locs → lv_has ls 3 [(2, .int (nI (j))), (0, .ref h), (1, .ref q)] → W p l e R s m args below meth c H locs cells slots Q (F0 m 41 ls [])) :
    ∀ (nn j : Nat) (H : Heap) (locs : List Loc) (ls : Array Slot), N - j < nn → j ≤ N → va_P D vwCl [(h, .inr (1, [.int (nI (pr)), .int (nI (lg)), .int (nI (N)), .ref r, .ref vv, .long (lN (iv))])), (vv, .inl (cI, N, .inl (nA (meF pr j v o)))), (q, .inl (cI, N, .inl (nA (o))))] H → va_D A [(h, .inr (1, [.int (nI (pr)), .int (nI (lg)), .int (nI (N)), .ref r, .ref vv, .long (lN (iv))])), (vv, .inl (cI, N, .inl (nA (meF pr j v o)))), (q, .inl (cI, N, .inl (nA (o))))] → va_S A H0 H locs → lv_has ls 3 [(2, .int (nI (j))), (0, .ref h), (1, .ref q)] → W p l e R s m args below meth c H locs cells slots Q (F0 m 2 ls []) := by
  obtain ⟨hx, hb, hml, hown, hts⟩ := id hC0
  intro nn
  induction nn with
  | zero => intro _ _ _ _ h; exact absurd h (Nat.not_lt_zero _)
  | succ nn ih =>
    intro j H locs ls hn hj hP hD hS hl
    refine lv_iload_n hx hb dX1_multiplyEach_2 rfl (lv_at hl 0 rfl) ?_
    refine lv_aload_n hx hb dX1_multiplyEach_3 rfl (lv_at hl 1 rfl) ?_
    refine va_get (D := D) (ci := 1) (v := .int (nI (N))) (C := RX1) (T := TX1) (N := 6) hx hb hts inX1_X1_multiplyEach hown hK hP 0 rfl rfl 2 (by decide) (hts (.fieldLink RX1 18 "TransformProduct$PrimeTransform" "size" "I") (by decide +kernel)) (fun _ h9 => h9) rfl dX1_multiplyEach_4 ?_
    refine kr_ge (tgt := 41) hx hb dX1_multiplyEach_7 (by decide) (by omega) (by omega) (fun hc => ?_) (fun hc => ?_)
    · exact kk j H locs ls (by omega) hP hD hS hl
    · have a1 : v j < pr := hv j (by omega)
      have a2 : o j < pr := ho j (by omega)
      have a3 : v j * o j < 2 ^ 62 := kn_mm a1 a2 (by omega)
      refine lv_aload_n hx hb dX1_multiplyEach_10 rfl (lv_at hl 1 rfl) ?_
      refine va_get (D := D) (ci := 1) (v := .ref vv) (C := RX1) (T := TX1) (N := 6) hx hb hts inX1_X1_multiplyEach hown hK hP 0 rfl rfl 4 (by decide) (hts (.fieldLink RX1 25 "TransformProduct$PrimeTransform" "values" "[I") (by decide +kernel)) (fun _ h9 => h9) rfl dX1_multiplyEach_11 ?_
      refine lv_iload_n hx hb dX1_multiplyEach_14 rfl (lv_at hl 0 rfl) ?_
      refine lv_aload_n hx hb dX1_multiplyEach_15 rfl (lv_at hl 1 rfl) ?_
      refine va_get (D := D) (ci := 1) (v := .ref vv) (C := RX1) (T := TX1) (N := 6) hx hb hts inX1_X1_multiplyEach hown hK hP 0 rfl rfl 4 (by decide) (hts (.fieldLink RX1 25 "TransformProduct$PrimeTransform" "values" "[I") (by decide +kernel)) (fun _ h9 => h9) rfl dX1_multiplyEach_16 ?_
      refine lv_iload_n hx hb dX1_multiplyEach_19 rfl (lv_at hl 0 rfl) ?_
      refine kr_ld hx hb hK hP 1 0 rfl rfl (by omega) (by omega) dX1_multiplyEach_20 ?_
      refine kr_i (congrArg nI (show (meF pr j v o) j = v j from meF_at pr j v o)) ?_
      refine lv_i2l hx hb dX1_multiplyEach_21 (nI_l (by omega)) ?_
      refine lv_aload_n hx hb dX1_multiplyEach_22 rfl (lv_at hl 2 rfl) ?_
      refine lv_iload_n hx hb dX1_multiplyEach_23 rfl (lv_at hl 0 rfl) ?_
      refine kr_ld hx hb hK hP 2 0 rfl rfl (by omega) (by omega) dX1_multiplyEach_24 ?_
      refine lv_i2l hx hb dX1_multiplyEach_25 (nI_l (by omega)) ?_
      refine lv_lmul hx hb dX1_multiplyEach_26 ?_
      refine kr_l (lN_mul _ _) ?_
      refine lv_aload_n hx hb dX1_multiplyEach_27 rfl (lv_at hl 1 rfl) ?_
      refine va_get (D := D) (ci := 1) (v := .int (nI (pr))) (C := RX1) (T := TX1) (N := 6) hx hb hts inX1_X1_multiplyEach hown hK hP 0 rfl rfl 0 (by decide) (hts (.fieldLink RX1 9 "TransformProduct$PrimeTransform" "prime" "I") (by decide +kernel)) (fun _ h9 => h9) rfl dX1_multiplyEach_28 ?_
      refine lv_i2l hx hb dX1_multiplyEach_31 (nI_l (by omega)) ?_
      refine lv_lrem hx hb dX1_multiplyEach_32 (kn_lne (by omega) (by omega)) ?_
      refine kr_l (pk_lRem (by omega) (by omega) (by omega)) ?_
      refine lv_l2i hx hb dX1_multiplyEach_33 (lN_i _) ?_
      refine kr_st hx hb hK hP hD hS 1 0 rfl rfl (by omega) (by omega) dX1_multiplyEach_34 (fun H locs hP hD hS => ?_)
      have hP : va_P D vwCl [(h, .inr (1, [.int (nI (pr)), .int (nI (lg)), .int (nI (N)), .ref r, .ref vv, .long (lN (iv))])), (vv, .inl (cI, N, .inl (nA (va_up (meF pr j v o) j (((v j) * (o j)) % pr))))), (q, .inl (cI, N, .inl (nA (o))))] H := hP
      have hD : va_D A [(h, .inr (1, [.int (nI (pr)), .int (nI (lg)), .int (nI (N)), .ref r, .ref vv, .long (lN (iv))])), (vv, .inl (cI, N, .inl (nA (va_up (meF pr j v o) j (((v j) * (o j)) % pr))))), (q, .inl (cI, N, .inl (nA (o))))] := hD
      rw [meF_s] at hP hD
      refine lv_iinc (v := nI (j + 1)) (lv' := [(2, .int (nI (j + 1))), (0, .ref h), (1, .ref q)]) hx hb dX1_multiplyEach_35 hl (k := 0) rfl (by rw [show Int32.ofInt 1 = nI 1 by decide]; exact nI_add _ _) (by decide) rfl (fun ls hl => ?_)
      refine lv_goto (tgt := 2) hx hb dX1_multiplyEach_38 (by decide) ?_
      exact ih (j + 1) H locs ls (by omega) (by omega) hP hD hS (lv_sub hl [0, 1, 2] rfl)
set_option maxHeartbeats 4000000 in
set_option maxRecDepth 100000 in
theorem c_X1_multiplyEach (l : Launch) (D : va_G) (cI cT : ClassId) (sz : Nat) (h r vv pr lg N iv q : Nat) (v o : Nat → Nat) (hp : pr < 2 ^ 30) (hp0 : 0 < pr) (hN2 : N ≤ 1024) (hv : ∀ i, i < N → v i < pr) (ho : ∀ i, i < N → o i < pr) : kMv (S := Unit) l yX1_multiplyEach wsX1_multiplyEach { frames := 0, cells := 0, slots := 0, locals := 0 } D [(cI, .int), (cT, .object RX1)] [(h, .inr (1, [.int (nI (pr)), .int (nI (lg)), .int (nI (N)), .ref r, .ref vv, .long (lN (iv))])), (vv, .inl (cI, N, .inl (nA (v)))), (q, .inl (cI, N, .inl (nA (o))))] sz (fun _ => True) [.ref h, .ref q] (fun _ => True) (fun _ => [(h, .inr (1, [.int (nI (pr)), .int (nI (lg)), .int (nI (N)), .ref r, .ref vv, .long (lN (iv))])), (vv, .inl (cI, N, .inl (nA (meF pr N v o)))), (q, .inl (cI, N, .inl (nA (o))))]) (0) (0) := by
  refine kM_of (Qc := fun A => va_Qv (S := Unit) (fun _ => True) (kB D A (fun _ => [(h, .inr (1, [.int (nI (pr)), .int (nI (lg)), .int (nI (N)), .ref r, .ref vv, .long (lN (iv))])), (vv, .inl (cI, N, .inl (nA (meF pr N v o)))), (q, .inl (cI, N, .inl (nA (o))))])) A) (cc := cX1_multiplyEach) (maxL := 3) (ret := none) (by decide +kernel) rfl (Nat.le_of_ble_eq_true rfl) ?_
  intro p e s m below meth c A ls hC0 hr hlk hin hP hK hD hA hS hE hAe hsz hl
  obtain ⟨hx, hb, hml, hown, hts⟩ := id hC0
  have hl : lv_has ls 3 [(0, .ref h), (1, .ref q)] := hl
  refine lv_iconst (v := nI 0) hx hb dX1_multiplyEach_0 (by decide) ?_
  refine lv_istore_n (lv' := [(2, .int (nI (0))), (0, .ref h), (1, .ref q)]) hx hb dX1_multiplyEach_1 rfl hl (by decide) rfl (fun ls hl => ?_)
  rw [show v = meF pr 0 v o from (meF_0 pr v o).symm] at hP hD
  refine lp_me1 h r vv pr lg N iv q v o hC0 hK hA hp hp0 hN2 hv ho (fun j H locs ls hj hP hD hS hl => ?_) (N + 1) 0 s.heap [] ls (by omega) (by omega) hP hD hS (lv_sub hl [0, 1, 2] rfl)
  subst hj
  exact kr_vret () hx hb hr hlk hP hD hS trivial dX1_multiplyEach_41
set_option maxHeartbeats 4000000 in
set_option maxRecDepth 100000 in
theorem lp_me2 {p : Program} {l : Launch} {e : Env} {R : Room} {s : State} {m : MethodId} {args : Array Value} {below : List Frame} {meth : Method} {c : Code} {cells slots : Nat} {Q : State → Prop} {A : Nat → Prop} {H0 : Heap} {D : va_G} {cI cT : ClassId} (h r vv pr lg N iv : Nat) (v : Nat → Nat) (hC0 : CallFix p m c cX1_multiplyEach 3 s args wsX1_multiplyEach RX1) (hK : va_K D vwCl [(cI, .int), (cT, .object RX1)] s) (hA : ∀ q, H0.size ≤ q → A q) (hp : pr < 2 ^ 30) (hp0 : 0 < pr) (hN2 : N ≤ 1024) (hv : ∀ i, i < N → v i < pr) (ho : ∀ i, i < N → v i < pr)
    (kk : ∀ (j : Nat) (H : Heap) (locs : List Loc) (ls : Array Slot), j = N → va_P D vwCl [(h, .inr (1, [.int (nI (pr)), .int (nI (lg)), .int (nI (N)), .ref r, .ref vv, .long (lN (iv))])), (vv, .inl (cI, N, .inl (nA (meF pr j v v))))] H → va_D A [(h, .inr (1, [.int (nI (pr)), .int (nI (lg)), .int (nI (N)), .ref r, .ref vv, .long (lN (iv))])), (vv, .inl (cI, N, .inl (nA (meF pr j v v))))] → va_S A H0 H locs → lv_has ls 3 [(2, .int (nI (j))), (0, .ref h), (1, .ref vv)] → W p l e R s m args below meth c H locs cells slots Q (F0 m 41 ls [])) :
    ∀ (nn j : Nat) (H : Heap) (locs : List Loc) (ls : Array Slot), N - j < nn → j ≤ N → va_P D vwCl [(h, .inr (1, [.int (nI (pr)), .int (nI (lg)), .int (nI (N)), .ref r, .ref vv, .long (lN (iv))])), (vv, .inl (cI, N, .inl (nA (meF pr j v v))))] H → va_D A [(h, .inr (1, [.int (nI (pr)), .int (nI (lg)), .int (nI (N)), .ref r, .ref vv, .long (lN (iv))])), (vv, .inl (cI, N, .inl (nA (meF pr j v v))))] → va_S A H0 H locs → lv_has ls 3 [(2, .int (nI (j))), (0, .ref h), (1, .ref vv)] → W p l e R s m args below meth c H locs cells slots Q (F0 m 2 ls []) := by
  obtain ⟨hx, hb, hml, hown, hts⟩ := id hC0
  intro nn
  induction nn with
  | zero => intro _ _ _ _ h; exact absurd h (Nat.not_lt_zero _)
  | succ nn ih =>
    intro j H locs ls hn hj hP hD hS hl
    refine lv_iload_n hx hb dX1_multiplyEach_2 rfl (lv_at hl 0 rfl) ?_
    refine lv_aload_n hx hb dX1_multiplyEach_3 rfl (lv_at hl 1 rfl) ?_
    refine va_get (D := D) (ci := 1) (v := .int (nI (N))) (C := RX1) (T := TX1) (N := 6) hx hb hts inX1_X1_multiplyEach hown hK hP 0 rfl rfl 2 (by decide) (hts (.fieldLink RX1 18 "TransformProduct$PrimeTransform" "size" "I") (by decide +kernel)) (fun _ h9 => h9) rfl dX1_multiplyEach_4 ?_
    refine kr_ge (tgt := 41) hx hb dX1_multiplyEach_7 (by decide) (by omega) (by omega) (fun hc => ?_) (fun hc => ?_)
    · exact kk j H locs ls (by omega) hP hD hS hl
    · have a1 : v j < pr := hv j (by omega)
      have a2 : v j < pr := ho j (by omega)
      have a3 : v j * v j < 2 ^ 62 := kn_mm a1 a2 (by omega)
      refine lv_aload_n hx hb dX1_multiplyEach_10 rfl (lv_at hl 1 rfl) ?_
      refine va_get (D := D) (ci := 1) (v := .ref vv) (C := RX1) (T := TX1) (N := 6) hx hb hts inX1_X1_multiplyEach hown hK hP 0 rfl rfl 4 (by decide) (hts (.fieldLink RX1 25 "TransformProduct$PrimeTransform" "values" "[I") (by decide +kernel)) (fun _ h9 => h9) rfl dX1_multiplyEach_11 ?_
      refine lv_iload_n hx hb dX1_multiplyEach_14 rfl (lv_at hl 0 rfl) ?_
      refine lv_aload_n hx hb dX1_multiplyEach_15 rfl (lv_at hl 1 rfl) ?_
      refine va_get (D := D) (ci := 1) (v := .ref vv) (C := RX1) (T := TX1) (N := 6) hx hb hts inX1_X1_multiplyEach hown hK hP 0 rfl rfl 4 (by decide) (hts (.fieldLink RX1 25 "TransformProduct$PrimeTransform" "values" "[I") (by decide +kernel)) (fun _ h9 => h9) rfl dX1_multiplyEach_16 ?_
      refine lv_iload_n hx hb dX1_multiplyEach_19 rfl (lv_at hl 0 rfl) ?_
      refine kr_ld hx hb hK hP 1 0 rfl rfl (by omega) (by omega) dX1_multiplyEach_20 ?_
      refine kr_i (congrArg nI (show (meF pr j v v) j = v j from meF_at pr j v v)) ?_
      refine lv_i2l hx hb dX1_multiplyEach_21 (nI_l (by omega)) ?_
      refine lv_aload_n hx hb dX1_multiplyEach_22 rfl (lv_at hl 2 rfl) ?_
      refine lv_iload_n hx hb dX1_multiplyEach_23 rfl (lv_at hl 0 rfl) ?_
      refine kr_ld hx hb hK hP 1 0 rfl rfl (by omega) (by omega) dX1_multiplyEach_24 ?_
      refine kr_i (congrArg nI (show (meF pr j v v) j = v j from meF_at pr j v v)) ?_
      refine lv_i2l hx hb dX1_multiplyEach_25 (nI_l (by omega)) ?_
      refine lv_lmul hx hb dX1_multiplyEach_26 ?_
      refine kr_l (lN_mul _ _) ?_
      refine lv_aload_n hx hb dX1_multiplyEach_27 rfl (lv_at hl 1 rfl) ?_
      refine va_get (D := D) (ci := 1) (v := .int (nI (pr))) (C := RX1) (T := TX1) (N := 6) hx hb hts inX1_X1_multiplyEach hown hK hP 0 rfl rfl 0 (by decide) (hts (.fieldLink RX1 9 "TransformProduct$PrimeTransform" "prime" "I") (by decide +kernel)) (fun _ h9 => h9) rfl dX1_multiplyEach_28 ?_
      refine lv_i2l hx hb dX1_multiplyEach_31 (nI_l (by omega)) ?_
      refine lv_lrem hx hb dX1_multiplyEach_32 (kn_lne (by omega) (by omega)) ?_
      refine kr_l (pk_lRem (by omega) (by omega) (by omega)) ?_
      refine lv_l2i hx hb dX1_multiplyEach_33 (lN_i _) ?_
      refine kr_st hx hb hK hP hD hS 1 0 rfl rfl (by omega) (by omega) dX1_multiplyEach_34 (fun H locs hP hD hS => ?_)
      have hP : va_P D vwCl [(h, .inr (1, [.int (nI (pr)), .int (nI (lg)), .int (nI (N)), .ref r, .ref vv, .long (lN (iv))])), (vv, .inl (cI, N, .inl (nA (va_up (meF pr j v v) j (((v j) * (v j)) % pr)))))] H := hP
      have hD : va_D A [(h, .inr (1, [.int (nI (pr)), .int (nI (lg)), .int (nI (N)), .ref r, .ref vv, .long (lN (iv))])), (vv, .inl (cI, N, .inl (nA (va_up (meF pr j v v) j (((v j) * (v j)) % pr)))))] := hD
      rw [meF_s] at hP hD
      refine lv_iinc (v := nI (j + 1)) (lv' := [(2, .int (nI (j + 1))), (0, .ref h), (1, .ref vv)]) hx hb dX1_multiplyEach_35 hl (k := 0) rfl (by rw [show Int32.ofInt 1 = nI 1 by decide]; exact nI_add _ _) (by decide) rfl (fun ls hl => ?_)
      refine lv_goto (tgt := 2) hx hb dX1_multiplyEach_38 (by decide) ?_
      exact ih (j + 1) H locs ls (by omega) (by omega) hP hD hS (lv_sub hl [0, 1, 2] rfl)
set_option maxHeartbeats 4000000 in
set_option maxRecDepth 100000 in
theorem c_X1_multiplyEach_own (l : Launch) (D : va_G) (cI cT : ClassId) (sz : Nat) (h r vv pr lg N iv : Nat) (v : Nat → Nat) (hp : pr < 2 ^ 30) (hp0 : 0 < pr) (hN2 : N ≤ 1024) (hv : ∀ i, i < N → v i < pr) (ho : ∀ i, i < N → v i < pr) : kMv (S := Unit) l yX1_multiplyEach wsX1_multiplyEach { frames := 0, cells := 0, slots := 0, locals := 0 } D [(cI, .int), (cT, .object RX1)] [(h, .inr (1, [.int (nI (pr)), .int (nI (lg)), .int (nI (N)), .ref r, .ref vv, .long (lN (iv))])), (vv, .inl (cI, N, .inl (nA (v))))] sz (fun _ => True) [.ref h, .ref vv] (fun _ => True) (fun _ => [(h, .inr (1, [.int (nI (pr)), .int (nI (lg)), .int (nI (N)), .ref r, .ref vv, .long (lN (iv))])), (vv, .inl (cI, N, .inl (nA (meF pr N v v))))]) (0) (0) := by
  refine kM_of (Qc := fun A => va_Qv (S := Unit) (fun _ => True) (kB D A (fun _ => [(h, .inr (1, [.int (nI (pr)), .int (nI (lg)), .int (nI (N)), .ref r, .ref vv, .long (lN (iv))])), (vv, .inl (cI, N, .inl (nA (meF pr N v v))))])) A) (cc := cX1_multiplyEach) (maxL := 3) (ret := none) (by decide +kernel) rfl (Nat.le_of_ble_eq_true rfl) ?_
  intro p e s m below meth c A ls hC0 hr hlk hin hP hK hD hA hS hE hAe hsz hl
  obtain ⟨hx, hb, hml, hown, hts⟩ := id hC0
  have hl : lv_has ls 3 [(0, .ref h), (1, .ref vv)] := hl
  refine lv_iconst (v := nI 0) hx hb dX1_multiplyEach_0 (by decide) ?_
  refine lv_istore_n (lv' := [(2, .int (nI (0))), (0, .ref h), (1, .ref vv)]) hx hb dX1_multiplyEach_1 rfl hl (by decide) rfl (fun ls hl => ?_)
  have hm0 := (meF_0 pr v v).symm
  have hP : va_P D vwCl [(h, .inr (1, [.int (nI (pr)), .int (nI (lg)), .int (nI (N)), .ref r, .ref vv, .long (lN (iv))])), (vv, .inl (cI, N, .inl (nA (meF pr 0 v v))))] s.heap := by rw [meF_0]; exact hP
  have hD : va_D A [(h, .inr (1, [.int (nI (pr)), .int (nI (lg)), .int (nI (N)), .ref r, .ref vv, .long (lN (iv))])), (vv, .inl (cI, N, .inl (nA (meF pr 0 v v))))] := by rw [meF_0]; exact hD
  refine lp_me2 h r vv pr lg N iv v hC0 hK hA hp hp0 hN2 hv ho (fun j H locs ls hj hP hD hS hl => ?_) (N + 1) 0 s.heap [] ls (by omega) (by omega) hP hD hS (lv_sub hl [0, 1, 2] rfl)
  subst hj
  exact kr_vret () hx hb hr hlk hP hD hS trivial dX1_multiplyEach_41
