/-! the reference: small methods -/
theorem flN_s0 (f : Nat → Nat) (v k : Nat) : va_up (flN f 0 v k) k v = flN f 0 v (k + 1) := by
  have := flN_s f 0 v k
  rwa [Nat.zero_add] at this
theorem cpy_0 {f g : Nat → Nat} {sp dp : Nat} : va_cpy f g sp dp 0 = g := by
  funext j
  unfold va_cpy
  exact if_neg (by omega)
theorem cpy_s {f g : Nat → Nat} {sp dp k : Nat} : va_up (va_cpy f g sp dp k) (dp + k) (f (sp + k)) = va_cpy f g sp dp (k + 1) := by
  funext j
  unfold va_up va_cpy
  by_cases h : j = dp + k
  · subst h
    rw [if_pos rfl, if_pos (by omega), show dp + k - dp = k by omega]
  · rw [if_neg h]
    by_cases h2 : dp ≤ j ∧ j < dp + k
    · rw [if_pos h2, if_pos (by omega)]
    · rw [if_neg h2, if_neg (by omega)]
theorem cpy_src {f g : Nat → Nat} {sp dp k x : Nat} (h : x < dp ∨ dp + k ≤ x) : va_cpy f g sp dp k x = g x := by
  unfold va_cpy
  exact if_neg (by omega)
theorem inX4_X4_init : ∀ w ∈ wsX40, w ∈ wsX4_init := by decide +kernel
theorem inX4_X4_init_ : ∀ w ∈ wsX40, w ∈ wsX4_init_ := by decide +kernel
theorem inX4_X4_clear : ∀ w ∈ wsX40, w ∈ wsX4_clear := by decide +kernel
theorem inX4_X4_repeat : ∀ w ∈ wsX40, w ∈ wsX4_repeat := by decide +kernel
theorem inX4_X4_feedA : ∀ w ∈ wsX40, w ∈ wsX4_feedA := by decide +kernel
theorem inX4_X4_feedB : ∀ w ∈ wsX40, w ∈ wsX4_feedB := by decide +kernel
theorem inX4_X4_trim : ∀ w ∈ wsX40, w ∈ wsX4_trim := by decide +kernel
theorem inX4_X4_by : ∀ w ∈ wsX40, w ∈ wsX4_by := by decide +kernel
theorem inX4_X4_multiply : ∀ w ∈ wsX40, w ∈ wsX4_multiply := by decide +kernel
theorem inX4_X4_square : ∀ w ∈ wsX40, w ∈ wsX4_square := by decide +kernel
theorem inX4_X4_length : ∀ w ∈ wsX40, w ∈ wsX4_length := by decide +kernel
theorem inX4_X4_digit : ∀ w ∈ wsX40, w ∈ wsX4_digit := by decide +kernel
theorem inX4_X4_butterflies : ∀ w ∈ wsX40, w ∈ wsX4_butterflies := by decide +kernel
theorem inX4_X4_spectrum : ∀ w ∈ wsX40, w ∈ wsX4_spectrum := by decide +kernel
theorem inX4_X4_take : ∀ w ∈ wsX40, w ∈ wsX4_take := by decide +kernel
theorem inX4_X4_give : ∀ w ∈ wsX40, w ∈ wsX4_give := by decide +kernel
theorem inX4_X4_digitOf : ∀ w ∈ wsX40, w ∈ wsX4_digitOf := by decide +kernel
theorem inX4_X4_compare : ∀ w ∈ wsX40, w ∈ wsX4_compare := by decide +kernel
theorem inX4_X4_rest : ∀ w ∈ wsX40, w ∈ wsX4_rest := by decide +kernel
set_option maxHeartbeats 4000000 in
set_option maxRecDepth 100000 in
theorem c_X4_init (l : Launch) (D : va_G) (cI cT : ClassId) (sz : Nat) (h lg N : Nat) (hN : 2 ^ lg = N) (hN2 : N ≤ 1024) (hl1 : 1 ≤ lg) (hl2 : lg ≤ 10) : kMv (S := (Nat → Nat)) l yX4_init wsX4_init { frames := 1, cells := 3, slots := 4098, locals := 20 } D [(cI, .int), (cT, .object RX1)] [(h, .inr (4, [.int (nI (0)), .int (nI (0)), .int (nI (0)), .null, .null, .null, .int (nI (0)), .int (nI (0))]))] sz (fun _ => True) [.ref h, .int (nI (lg))] (fun u => u 0 = h) (fun g => [(g 0, .inr (4, [.int (nI (lg)), .int (nI (N)), .int (nI (0)), .ref (g 1), .ref (g 2), .ref (g 3), .int (nI (0)), .int (nI (0))])), (g 1, .inl (cI, 2048, .inl (nA (fun _ => 0)))), (g 2, .inl (cI, 2, .inl (nA (fun _ => 0)))), (g 3, .inl (cI, 2048, .inl (nA (fun _ => 0))))]) (3) (4098) := by
  refine kM_of (Qc := fun A => va_Qv (S := (Nat → Nat)) (fun u => u 0 = h) (kB D A (fun g => [(g 0, .inr (4, [.int (nI (lg)), .int (nI (N)), .int (nI (0)), .ref (g 1), .ref (g 2), .ref (g 3), .int (nI (0)), .int (nI (0))])), (g 1, .inl (cI, 2048, .inl (nA (fun _ => 0)))), (g 2, .inl (cI, 2, .inl (nA (fun _ => 0)))), (g 3, .inl (cI, 2048, .inl (nA (fun _ => 0))))])) A) (cc := cX4_init) (maxL := 2) (ret := none) (by decide +kernel) rfl (Nat.le_of_ble_eq_true rfl) ?_
  intro p e s m below meth c A ls hC0 hr hlk hin hP hK hD hA hS hE hAe hsz hl
  obtain ⟨hx, hb, hml, hown, hts⟩ := id hC0
  have hl : lv_has ls 2 [(0, .ref h), (1, .int (nI (lg)))] := hl
  refine lv_aload_n hx hb dX4_init_0 rfl (lv_at hl 0 rfl) ?_
  refine W.objInit hx hb hown (hts (.methodLink RX4 1 objectInit) (by decide +kernel)) (hts (.instanceMethod objectInit) (by decide +kernel)) (hts _ (List.mem_of_getElem? (i := 3) rfl)) rfl (by rw [hml]; exact hl.1) rfl dX4_init_1 (Nat.le_of_ble_eq_true rfl) (Nat.le_of_ble_eq_true rfl) ?_
  refine W.eq (g2 := F0 m 4 ls []) rfl ?_
  refine lv_aload_n hx hb dX4_init_4 rfl (lv_at hl 0 rfl) ?_
  refine lv_sipush (v := nI 2048) hx hb dX4_init_5 (by decide) ?_
  refine kr_newa hx hb (hts (.arrayClass .int) (by decide +kernel)) hK hP hD hS hA (by decide) (by show _ ≤ 3; omega) (by show _ ≤ 4098; omega) dX4_init_8 (fun a1 H hP hD hS => ?_)
  have hP : va_P D vwCl [(h, .inr (4, [.int (nI (0)), .int (nI (0)), .int (nI (0)), .null, .null, .null, .int (nI (0)), .int (nI (0))])), (a1, .inl (cI, 2048, .inl (nA (fun _ => 0))))] H := hP
  have hD : va_D A [(h, .inr (4, [.int (nI (0)), .int (nI (0)), .int (nI (0)), .null, .null, .null, .int (nI (0)), .int (nI (0))])), (a1, .inl (cI, 2048, .inl (nA (fun _ => 0))))] := hD
  refine W.widen (k := 1) (n := 2048) (by omega) (by omega) ?_
  refine va_putF (D := D) (ci := 4) (v := .ref a1) (ty := .array .int) (C := RX4) (T := TX4) (N := 8) hx hb hts inX4_X4_init tyX4 tyX4_ok nmX4 hown hK hP hD hS 0 rfl rfl 3 (by decide) (hts (.fieldLink RX4 7 "TransformProductModel" "digits" "[I") (by decide +kernel)) (fun _ h9 => h9) rfl hin rfl (by decide +kernel) rfl rfl (Nat.le_of_ble_eq_true rfl) dX4_init_10 (fun H locs hP hD hS => ?_)
  have hP : va_P D vwCl [(h, .inr (4, [.int (nI (0)), .int (nI (0)), .int (nI (0)), .ref a1, .null, .null, .int (nI (0)), .int (nI (0))])), (a1, .inl (cI, 2048, .inl (nA (fun _ => 0))))] H := hP
  have hD : va_D A [(h, .inr (4, [.int (nI (0)), .int (nI (0)), .int (nI (0)), .ref a1, .null, .null, .int (nI (0)), .int (nI (0))])), (a1, .inl (cI, 2048, .inl (nA (fun _ => 0))))] := hD
  refine lv_aload_n hx hb dX4_init_13 rfl (lv_at hl 0 rfl) ?_
  refine lv_iconst (v := nI 2) hx hb dX4_init_14 (by decide) ?_
  refine kr_newa hx hb (hts (.arrayClass .int) (by decide +kernel)) hK hP hD hS hA (by decide) (by show _ ≤ 3; omega) (by show _ ≤ 4098; omega) dX4_init_15 (fun a2 H hP hD hS => ?_)
  have hP : va_P D vwCl [(h, .inr (4, [.int (nI (0)), .int (nI (0)), .int (nI (0)), .ref a1, .null, .null, .int (nI (0)), .int (nI (0))])), (a1, .inl (cI, 2048, .inl (nA (fun _ => 0)))), (a2, .inl (cI, 2, .inl (nA (fun _ => 0))))] H := hP
  have hD : va_D A [(h, .inr (4, [.int (nI (0)), .int (nI (0)), .int (nI (0)), .ref a1, .null, .null, .int (nI (0)), .int (nI (0))])), (a1, .inl (cI, 2048, .inl (nA (fun _ => 0)))), (a2, .inl (cI, 2, .inl (nA (fun _ => 0))))] := hD
  refine W.widen (k := 2) (n := 2050) (by omega) (by omega) ?_
  refine va_putF (D := D) (ci := 4) (v := .ref a2) (ty := .array .int) (C := RX4) (T := TX4) (N := 8) hx hb hts inX4_X4_init tyX4 tyX4_ok nmX4 hown hK hP hD hS 0 rfl rfl 4 (by decide) (hts (.fieldLink RX4 13 "TransformProductModel" "counts" "[I") (by decide +kernel)) (fun _ h9 => h9) rfl hin rfl (by decide +kernel) rfl rfl (Nat.le_of_ble_eq_true rfl) dX4_init_17 (fun H locs hP hD hS => ?_)
  have hP : va_P D vwCl [(h, .inr (4, [.int (nI (0)), .int (nI (0)), .int (nI (0)), .ref a1, .ref a2, .null, .int (nI (0)), .int (nI (0))])), (a1, .inl (cI, 2048, .inl (nA (fun _ => 0)))), (a2, .inl (cI, 2, .inl (nA (fun _ => 0))))] H := hP
  have hD : va_D A [(h, .inr (4, [.int (nI (0)), .int (nI (0)), .int (nI (0)), .ref a1, .ref a2, .null, .int (nI (0)), .int (nI (0))])), (a1, .inl (cI, 2048, .inl (nA (fun _ => 0)))), (a2, .inl (cI, 2, .inl (nA (fun _ => 0))))] := hD
  refine lv_aload_n hx hb dX4_init_20 rfl (lv_at hl 0 rfl) ?_
  refine lv_sipush (v := nI 2048) hx hb dX4_init_21 (by decide) ?_
  refine kr_newa hx hb (hts (.arrayClass .int) (by decide +kernel)) hK hP hD hS hA (by decide) (by show _ ≤ 3; omega) (by show _ ≤ 4098; omega) dX4_init_24 (fun a3 H hP hD hS => ?_)
  have hP : va_P D vwCl [(h, .inr (4, [.int (nI (0)), .int (nI (0)), .int (nI (0)), .ref a1, .ref a2, .null, .int (nI (0)), .int (nI (0))])), (a1, .inl (cI, 2048, .inl (nA (fun _ => 0)))), (a2, .inl (cI, 2, .inl (nA (fun _ => 0)))), (a3, .inl (cI, 2048, .inl (nA (fun _ => 0))))] H := hP
  have hD : va_D A [(h, .inr (4, [.int (nI (0)), .int (nI (0)), .int (nI (0)), .ref a1, .ref a2, .null, .int (nI (0)), .int (nI (0))])), (a1, .inl (cI, 2048, .inl (nA (fun _ => 0)))), (a2, .inl (cI, 2, .inl (nA (fun _ => 0)))), (a3, .inl (cI, 2048, .inl (nA (fun _ => 0))))] := hD
  refine W.widen (k := 3) (n := 4098) (by omega) (by omega) ?_
  refine va_putF (D := D) (ci := 4) (v := .ref a3) (ty := .array .int) (C := RX4) (T := TX4) (N := 8) hx hb hts inX4_X4_init tyX4 tyX4_ok nmX4 hown hK hP hD hS 0 rfl rfl 5 (by decide) (hts (.fieldLink RX4 16 "TransformProductModel" "product" "[I") (by decide +kernel)) (fun _ h9 => h9) rfl hin rfl (by decide +kernel) rfl rfl (Nat.le_of_ble_eq_true rfl) dX4_init_26 (fun H locs hP hD hS => ?_)
  have hP : va_P D vwCl [(h, .inr (4, [.int (nI (0)), .int (nI (0)), .int (nI (0)), .ref a1, .ref a2, .ref a3, .int (nI (0)), .int (nI (0))])), (a1, .inl (cI, 2048, .inl (nA (fun _ => 0)))), (a2, .inl (cI, 2, .inl (nA (fun _ => 0)))), (a3, .inl (cI, 2048, .inl (nA (fun _ => 0))))] H := hP
  have hD : va_D A [(h, .inr (4, [.int (nI (0)), .int (nI (0)), .int (nI (0)), .ref a1, .ref a2, .ref a3, .int (nI (0)), .int (nI (0))])), (a1, .inl (cI, 2048, .inl (nA (fun _ => 0)))), (a2, .inl (cI, 2, .inl (nA (fun _ => 0)))), (a3, .inl (cI, 2048, .inl (nA (fun _ => 0))))] := hD
  refine lv_aload_n hx hb dX4_init_29 rfl (lv_at hl 0 rfl) ?_
  refine lv_iload_n hx hb dX4_init_30 rfl (lv_at hl 1 rfl) ?_
  refine lv_iconst (v := nI 1) hx hb dX4_init_31 (by decide) ?_
  refine kr_lt (tgt := 45) hx hb dX4_init_32 (by decide) (by omega) (by omega) (fun hc => ?_) (fun hc => ?_)
  · exact absurd hc (by omega)
  · refine lv_iload_n hx hb dX4_init_35 rfl (lv_at hl 1 rfl) ?_
    refine lv_bipush (v := nI 10) hx hb dX4_init_36 (by decide) ?_
    refine kr_gt (tgt := 45) hx hb dX4_init_38 (by decide) (by omega) (by omega) (fun hc => ?_) (fun hc => ?_)
    · exact absurd hc (by omega)
    · refine lv_iload_n hx hb dX4_init_41 rfl (lv_at hl 1 rfl) ?_
      refine lv_goto (tgt := 46) hx hb dX4_init_42 (by decide) ?_
      refine va_putF (D := D) (ci := 4) (v := .int (nI (lg))) (ty := .int) (C := RX4) (T := TX4) (N := 8) hx hb hts inX4_X4_init tyX4 tyX4_ok nmX4 hown hK hP hD hS 0 rfl rfl 0 (by decide) (hts (.fieldLink RX4 19 "TransformProductModel" "log" "I") (by decide +kernel)) (fun _ h9 => h9) rfl hin rfl (by decide +kernel) rfl rfl (Nat.le_of_ble_eq_true rfl) dX4_init_46 (fun H locs hP hD hS => ?_)
      have hP : va_P D vwCl [(h, .inr (4, [.int (nI (lg)), .int (nI (0)), .int (nI (0)), .ref a1, .ref a2, .ref a3, .int (nI (0)), .int (nI (0))])), (a1, .inl (cI, 2048, .inl (nA (fun _ => 0)))), (a2, .inl (cI, 2, .inl (nA (fun _ => 0)))), (a3, .inl (cI, 2048, .inl (nA (fun _ => 0))))] H := hP
      have hD : va_D A [(h, .inr (4, [.int (nI (lg)), .int (nI (0)), .int (nI (0)), .ref a1, .ref a2, .ref a3, .int (nI (0)), .int (nI (0))])), (a1, .inl (cI, 2048, .inl (nA (fun _ => 0)))), (a2, .inl (cI, 2, .inl (nA (fun _ => 0)))), (a3, .inl (cI, 2048, .inl (nA (fun _ => 0))))] := hD
      refine lv_aload_n hx hb dX4_init_49 rfl (lv_at hl 0 rfl) ?_
      refine lv_iconst (v := nI 1) hx hb dX4_init_50 (by decide) ?_
      refine lv_aload_n hx hb dX4_init_51 rfl (lv_at hl 0 rfl) ?_
      refine va_get (D := D) (ci := 4) (v := .int (nI (lg))) (C := RX4) (T := TX4) (N := 8) hx hb hts inX4_X4_init hown hK hP 0 rfl rfl 0 (by decide) (hts (.fieldLink RX4 19 "TransformProductModel" "log" "I") (by decide +kernel)) (fun _ h9 => h9) rfl dX4_init_52 ?_
      refine lv_ishl hx hb dX4_init_55 ?_
      refine kr_i (kn_shl (by omega) (by rw [Nat.one_mul]; omega)) ?_
      refine kr_i (congrArg nI (show 1 * 2 ^ lg = N from by rw [Nat.one_mul, hN])) ?_
      refine va_putF (D := D) (ci := 4) (v := .int (nI (N))) (ty := .int) (C := RX4) (T := TX4) (N := 8) hx hb hts inX4_X4_init tyX4 tyX4_ok nmX4 hown hK hP hD hS 0 rfl rfl 1 (by decide) (hts (.fieldLink RX4 23 "TransformProductModel" "n" "I") (by decide +kernel)) (fun _ h9 => h9) rfl hin rfl (by decide +kernel) rfl rfl (Nat.le_of_ble_eq_true rfl) dX4_init_56 (fun H locs hP hD hS => ?_)
      have hP : va_P D vwCl [(h, .inr (4, [.int (nI (lg)), .int (nI (N)), .int (nI (0)), .ref a1, .ref a2, .ref a3, .int (nI (0)), .int (nI (0))])), (a1, .inl (cI, 2048, .inl (nA (fun _ => 0)))), (a2, .inl (cI, 2, .inl (nA (fun _ => 0)))), (a3, .inl (cI, 2048, .inl (nA (fun _ => 0))))] H := hP
      have hD : va_D A [(h, .inr (4, [.int (nI (lg)), .int (nI (N)), .int (nI (0)), .ref a1, .ref a2, .ref a3, .int (nI (0)), .int (nI (0))])), (a1, .inl (cI, 2048, .inl (nA (fun _ => 0)))), (a2, .inl (cI, 2, .inl (nA (fun _ => 0)))), (a3, .inl (cI, 2048, .inl (nA (fun _ => 0))))] := hD
      exact kr_vret (fun i => [h, a1, a2, a3].getD i 0) hx hb hr hlk hP hD hS rfl dX4_init_59
set_option maxHeartbeats 4000000 in
set_option maxRecDepth 100000 in
theorem c_X4_init_out (l : Launch) (D : va_G) (cI cT : ClassId) (sz : Nat) (h lg N : Nat) (x : Int32) (hno : ¬ ∃ j, 1 ≤ j ∧ j ≤ 10 ∧ x = nI j) (hlg : lg = 1) (hN : 2 ^ lg = N) (hN2 : N ≤ 1024) (hl1 : 1 ≤ lg) (hl2 : lg ≤ 10) : kMv (S := (Nat → Nat)) l yX4_init wsX4_init { frames := 1, cells := 3, slots := 4098, locals := 20 } D [(cI, .int), (cT, .object RX1)] [(h, .inr (4, [.int (nI (0)), .int (nI (0)), .int (nI (0)), .null, .null, .null, .int (nI (0)), .int (nI (0))]))] sz (fun _ => True) [.ref h, .int (x)] (fun u => u 0 = h) (fun g => [(g 0, .inr (4, [.int (nI (lg)), .int (nI (N)), .int (nI (0)), .ref (g 1), .ref (g 2), .ref (g 3), .int (nI (0)), .int (nI (0))])), (g 1, .inl (cI, 2048, .inl (nA (fun _ => 0)))), (g 2, .inl (cI, 2, .inl (nA (fun _ => 0)))), (g 3, .inl (cI, 2048, .inl (nA (fun _ => 0))))]) (3) (4098) := by
  refine kM_of (Qc := fun A => va_Qv (S := (Nat → Nat)) (fun u => u 0 = h) (kB D A (fun g => [(g 0, .inr (4, [.int (nI (lg)), .int (nI (N)), .int (nI (0)), .ref (g 1), .ref (g 2), .ref (g 3), .int (nI (0)), .int (nI (0))])), (g 1, .inl (cI, 2048, .inl (nA (fun _ => 0)))), (g 2, .inl (cI, 2, .inl (nA (fun _ => 0)))), (g 3, .inl (cI, 2048, .inl (nA (fun _ => 0))))])) A) (cc := cX4_init) (maxL := 2) (ret := none) (by decide +kernel) rfl (Nat.le_of_ble_eq_true rfl) ?_
  intro p e s m below meth c A ls hC0 hr hlk hin hP hK hD hA hS hE hAe hsz hl
  obtain ⟨hx, hb, hml, hown, hts⟩ := id hC0
  have hl : lv_has ls 2 [(0, .ref h), (1, .int (x))] := hl
  refine lv_aload_n hx hb dX4_init_0 rfl (lv_at hl 0 rfl) ?_
  refine W.objInit hx hb hown (hts (.methodLink RX4 1 objectInit) (by decide +kernel)) (hts (.instanceMethod objectInit) (by decide +kernel)) (hts _ (List.mem_of_getElem? (i := 3) rfl)) rfl (by rw [hml]; exact hl.1) rfl dX4_init_1 (Nat.le_of_ble_eq_true rfl) (Nat.le_of_ble_eq_true rfl) ?_
  refine W.eq (g2 := F0 m 4 ls []) rfl ?_
  refine lv_aload_n hx hb dX4_init_4 rfl (lv_at hl 0 rfl) ?_
  refine lv_sipush (v := nI 2048) hx hb dX4_init_5 (by decide) ?_
  refine kr_newa hx hb (hts (.arrayClass .int) (by decide +kernel)) hK hP hD hS hA (by decide) (by show _ ≤ 3; omega) (by show _ ≤ 4098; omega) dX4_init_8 (fun a1 H hP hD hS => ?_)
  have hP : va_P D vwCl [(h, .inr (4, [.int (nI (0)), .int (nI (0)), .int (nI (0)), .null, .null, .null, .int (nI (0)), .int (nI (0))])), (a1, .inl (cI, 2048, .inl (nA (fun _ => 0))))] H := hP
  have hD : va_D A [(h, .inr (4, [.int (nI (0)), .int (nI (0)), .int (nI (0)), .null, .null, .null, .int (nI (0)), .int (nI (0))])), (a1, .inl (cI, 2048, .inl (nA (fun _ => 0))))] := hD
  refine W.widen (k := 1) (n := 2048) (by omega) (by omega) ?_
  refine va_putF (D := D) (ci := 4) (v := .ref a1) (ty := .array .int) (C := RX4) (T := TX4) (N := 8) hx hb hts inX4_X4_init tyX4 tyX4_ok nmX4 hown hK hP hD hS 0 rfl rfl 3 (by decide) (hts (.fieldLink RX4 7 "TransformProductModel" "digits" "[I") (by decide +kernel)) (fun _ h9 => h9) rfl hin rfl (by decide +kernel) rfl rfl (Nat.le_of_ble_eq_true rfl) dX4_init_10 (fun H locs hP hD hS => ?_)
  have hP : va_P D vwCl [(h, .inr (4, [.int (nI (0)), .int (nI (0)), .int (nI (0)), .ref a1, .null, .null, .int (nI (0)), .int (nI (0))])), (a1, .inl (cI, 2048, .inl (nA (fun _ => 0))))] H := hP
  have hD : va_D A [(h, .inr (4, [.int (nI (0)), .int (nI (0)), .int (nI (0)), .ref a1, .null, .null, .int (nI (0)), .int (nI (0))])), (a1, .inl (cI, 2048, .inl (nA (fun _ => 0))))] := hD
  refine lv_aload_n hx hb dX4_init_13 rfl (lv_at hl 0 rfl) ?_
  refine lv_iconst (v := nI 2) hx hb dX4_init_14 (by decide) ?_
  refine kr_newa hx hb (hts (.arrayClass .int) (by decide +kernel)) hK hP hD hS hA (by decide) (by show _ ≤ 3; omega) (by show _ ≤ 4098; omega) dX4_init_15 (fun a2 H hP hD hS => ?_)
  have hP : va_P D vwCl [(h, .inr (4, [.int (nI (0)), .int (nI (0)), .int (nI (0)), .ref a1, .null, .null, .int (nI (0)), .int (nI (0))])), (a1, .inl (cI, 2048, .inl (nA (fun _ => 0)))), (a2, .inl (cI, 2, .inl (nA (fun _ => 0))))] H := hP
  have hD : va_D A [(h, .inr (4, [.int (nI (0)), .int (nI (0)), .int (nI (0)), .ref a1, .null, .null, .int (nI (0)), .int (nI (0))])), (a1, .inl (cI, 2048, .inl (nA (fun _ => 0)))), (a2, .inl (cI, 2, .inl (nA (fun _ => 0))))] := hD
  refine W.widen (k := 2) (n := 2050) (by omega) (by omega) ?_
  refine va_putF (D := D) (ci := 4) (v := .ref a2) (ty := .array .int) (C := RX4) (T := TX4) (N := 8) hx hb hts inX4_X4_init tyX4 tyX4_ok nmX4 hown hK hP hD hS 0 rfl rfl 4 (by decide) (hts (.fieldLink RX4 13 "TransformProductModel" "counts" "[I") (by decide +kernel)) (fun _ h9 => h9) rfl hin rfl (by decide +kernel) rfl rfl (Nat.le_of_ble_eq_true rfl) dX4_init_17 (fun H locs hP hD hS => ?_)
  have hP : va_P D vwCl [(h, .inr (4, [.int (nI (0)), .int (nI (0)), .int (nI (0)), .ref a1, .ref a2, .null, .int (nI (0)), .int (nI (0))])), (a1, .inl (cI, 2048, .inl (nA (fun _ => 0)))), (a2, .inl (cI, 2, .inl (nA (fun _ => 0))))] H := hP
  have hD : va_D A [(h, .inr (4, [.int (nI (0)), .int (nI (0)), .int (nI (0)), .ref a1, .ref a2, .null, .int (nI (0)), .int (nI (0))])), (a1, .inl (cI, 2048, .inl (nA (fun _ => 0)))), (a2, .inl (cI, 2, .inl (nA (fun _ => 0))))] := hD
  refine lv_aload_n hx hb dX4_init_20 rfl (lv_at hl 0 rfl) ?_
  refine lv_sipush (v := nI 2048) hx hb dX4_init_21 (by decide) ?_
  refine kr_newa hx hb (hts (.arrayClass .int) (by decide +kernel)) hK hP hD hS hA (by decide) (by show _ ≤ 3; omega) (by show _ ≤ 4098; omega) dX4_init_24 (fun a3 H hP hD hS => ?_)
  have hP : va_P D vwCl [(h, .inr (4, [.int (nI (0)), .int (nI (0)), .int (nI (0)), .ref a1, .ref a2, .null, .int (nI (0)), .int (nI (0))])), (a1, .inl (cI, 2048, .inl (nA (fun _ => 0)))), (a2, .inl (cI, 2, .inl (nA (fun _ => 0)))), (a3, .inl (cI, 2048, .inl (nA (fun _ => 0))))] H := hP
  have hD : va_D A [(h, .inr (4, [.int (nI (0)), .int (nI (0)), .int (nI (0)), .ref a1, .ref a2, .null, .int (nI (0)), .int (nI (0))])), (a1, .inl (cI, 2048, .inl (nA (fun _ => 0)))), (a2, .inl (cI, 2, .inl (nA (fun _ => 0)))), (a3, .inl (cI, 2048, .inl (nA (fun _ => 0))))] := hD
  refine W.widen (k := 3) (n := 4098) (by omega) (by omega) ?_
  refine va_putF (D := D) (ci := 4) (v := .ref a3) (ty := .array .int) (C := RX4) (T := TX4) (N := 8) hx hb hts inX4_X4_init tyX4 tyX4_ok nmX4 hown hK hP hD hS 0 rfl rfl 5 (by decide) (hts (.fieldLink RX4 16 "TransformProductModel" "product" "[I") (by decide +kernel)) (fun _ h9 => h9) rfl hin rfl (by decide +kernel) rfl rfl (Nat.le_of_ble_eq_true rfl) dX4_init_26 (fun H locs hP hD hS => ?_)
  have hP : va_P D vwCl [(h, .inr (4, [.int (nI (0)), .int (nI (0)), .int (nI (0)), .ref a1, .ref a2, .ref a3, .int (nI (0)), .int (nI (0))])), (a1, .inl (cI, 2048, .inl (nA (fun _ => 0)))), (a2, .inl (cI, 2, .inl (nA (fun _ => 0)))), (a3, .inl (cI, 2048, .inl (nA (fun _ => 0))))] H := hP
  have hD : va_D A [(h, .inr (4, [.int (nI (0)), .int (nI (0)), .int (nI (0)), .ref a1, .ref a2, .ref a3, .int (nI (0)), .int (nI (0))])), (a1, .inl (cI, 2048, .inl (nA (fun _ => 0)))), (a2, .inl (cI, 2, .inl (nA (fun _ => 0)))), (a3, .inl (cI, 2048, .inl (nA (fun _ => 0))))] := hD
  refine lv_aload_n hx hb dX4_init_29 rfl (lv_at hl 0 rfl) ?_
  refine lv_iload_n hx hb dX4_init_30 rfl (lv_at hl 1 rfl) ?_
  refine lv_iconst (v := nI 1) hx hb dX4_init_31 (by decide) ?_
  refine lv_icmp_lt (tgt := 45) hx hb dX4_init_32 (by decide) (fun hc => ?_) (fun hc => ?_)
  · refine lv_iconst (v := nI 1) hx hb dX4_init_45 (by decide) ?_
    refine kr_i (y := nI (lg)) (by rw [hlg]) ?_
    refine va_putF (D := D) (ci := 4) (v := .int (nI (lg))) (ty := .int) (C := RX4) (T := TX4) (N := 8) hx hb hts inX4_X4_init tyX4 tyX4_ok nmX4 hown hK hP hD hS 0 rfl rfl 0 (by decide) (hts (.fieldLink RX4 19 "TransformProductModel" "log" "I") (by decide +kernel)) (fun _ h9 => h9) rfl hin rfl (by decide +kernel) rfl rfl (Nat.le_of_ble_eq_true rfl) dX4_init_46 (fun H locs hP hD hS => ?_)
    have hP : va_P D vwCl [(h, .inr (4, [.int (nI (lg)), .int (nI (0)), .int (nI (0)), .ref a1, .ref a2, .ref a3, .int (nI (0)), .int (nI (0))])), (a1, .inl (cI, 2048, .inl (nA (fun _ => 0)))), (a2, .inl (cI, 2, .inl (nA (fun _ => 0)))), (a3, .inl (cI, 2048, .inl (nA (fun _ => 0))))] H := hP
    have hD : va_D A [(h, .inr (4, [.int (nI (lg)), .int (nI (0)), .int (nI (0)), .ref a1, .ref a2, .ref a3, .int (nI (0)), .int (nI (0))])), (a1, .inl (cI, 2048, .inl (nA (fun _ => 0)))), (a2, .inl (cI, 2, .inl (nA (fun _ => 0)))), (a3, .inl (cI, 2048, .inl (nA (fun _ => 0))))] := hD
    refine lv_aload_n hx hb dX4_init_49 rfl (lv_at hl 0 rfl) ?_
    refine lv_iconst (v := nI 1) hx hb dX4_init_50 (by decide) ?_
    refine lv_aload_n hx hb dX4_init_51 rfl (lv_at hl 0 rfl) ?_
    refine va_get (D := D) (ci := 4) (v := .int (nI (lg))) (C := RX4) (T := TX4) (N := 8) hx hb hts inX4_X4_init hown hK hP 0 rfl rfl 0 (by decide) (hts (.fieldLink RX4 19 "TransformProductModel" "log" "I") (by decide +kernel)) (fun _ h9 => h9) rfl dX4_init_52 ?_
    refine lv_ishl hx hb dX4_init_55 ?_
    refine kr_i (kn_shl (by omega) (by rw [Nat.one_mul]; omega)) ?_
    refine kr_i (congrArg nI (show 1 * 2 ^ lg = N from by rw [Nat.one_mul, hN])) ?_
    refine va_putF (D := D) (ci := 4) (v := .int (nI (N))) (ty := .int) (C := RX4) (T := TX4) (N := 8) hx hb hts inX4_X4_init tyX4 tyX4_ok nmX4 hown hK hP hD hS 0 rfl rfl 1 (by decide) (hts (.fieldLink RX4 23 "TransformProductModel" "n" "I") (by decide +kernel)) (fun _ h9 => h9) rfl hin rfl (by decide +kernel) rfl rfl (Nat.le_of_ble_eq_true rfl) dX4_init_56 (fun H locs hP hD hS => ?_)
    have hP : va_P D vwCl [(h, .inr (4, [.int (nI (lg)), .int (nI (N)), .int (nI (0)), .ref a1, .ref a2, .ref a3, .int (nI (0)), .int (nI (0))])), (a1, .inl (cI, 2048, .inl (nA (fun _ => 0)))), (a2, .inl (cI, 2, .inl (nA (fun _ => 0)))), (a3, .inl (cI, 2048, .inl (nA (fun _ => 0))))] H := hP
    have hD : va_D A [(h, .inr (4, [.int (nI (lg)), .int (nI (N)), .int (nI (0)), .ref a1, .ref a2, .ref a3, .int (nI (0)), .int (nI (0))])), (a1, .inl (cI, 2048, .inl (nA (fun _ => 0)))), (a2, .inl (cI, 2, .inl (nA (fun _ => 0)))), (a3, .inl (cI, 2048, .inl (nA (fun _ => 0))))] := hD
    exact kr_vret (fun i => [h, a1, a2, a3].getD i 0) hx hb hr hlk hP hD hS rfl dX4_init_59
  · refine lv_iload_n hx hb dX4_init_35 rfl (lv_at hl 1 rfl) ?_
    refine lv_bipush (v := nI 10) hx hb dX4_init_36 (by decide) ?_
    refine lv_icmp_gt (tgt := 45) hx hb dX4_init_38 (by decide) (fun hd => ?_) (fun hd => ?_)
    · refine lv_iconst (v := nI 1) hx hb dX4_init_45 (by decide) ?_
      refine kr_i (y := nI (lg)) (by rw [hlg]) ?_
      refine va_putF (D := D) (ci := 4) (v := .int (nI (lg))) (ty := .int) (C := RX4) (T := TX4) (N := 8) hx hb hts inX4_X4_init tyX4 tyX4_ok nmX4 hown hK hP hD hS 0 rfl rfl 0 (by decide) (hts (.fieldLink RX4 19 "TransformProductModel" "log" "I") (by decide +kernel)) (fun _ h9 => h9) rfl hin rfl (by decide +kernel) rfl rfl (Nat.le_of_ble_eq_true rfl) dX4_init_46 (fun H locs hP hD hS => ?_)
      have hP : va_P D vwCl [(h, .inr (4, [.int (nI (lg)), .int (nI (0)), .int (nI (0)), .ref a1, .ref a2, .ref a3, .int (nI (0)), .int (nI (0))])), (a1, .inl (cI, 2048, .inl (nA (fun _ => 0)))), (a2, .inl (cI, 2, .inl (nA (fun _ => 0)))), (a3, .inl (cI, 2048, .inl (nA (fun _ => 0))))] H := hP
      have hD : va_D A [(h, .inr (4, [.int (nI (lg)), .int (nI (0)), .int (nI (0)), .ref a1, .ref a2, .ref a3, .int (nI (0)), .int (nI (0))])), (a1, .inl (cI, 2048, .inl (nA (fun _ => 0)))), (a2, .inl (cI, 2, .inl (nA (fun _ => 0)))), (a3, .inl (cI, 2048, .inl (nA (fun _ => 0))))] := hD
      refine lv_aload_n hx hb dX4_init_49 rfl (lv_at hl 0 rfl) ?_
      refine lv_iconst (v := nI 1) hx hb dX4_init_50 (by decide) ?_
      refine lv_aload_n hx hb dX4_init_51 rfl (lv_at hl 0 rfl) ?_
      refine va_get (D := D) (ci := 4) (v := .int (nI (lg))) (C := RX4) (T := TX4) (N := 8) hx hb hts inX4_X4_init hown hK hP 0 rfl rfl 0 (by decide) (hts (.fieldLink RX4 19 "TransformProductModel" "log" "I") (by decide +kernel)) (fun _ h9 => h9) rfl dX4_init_52 ?_
      refine lv_ishl hx hb dX4_init_55 ?_
      refine kr_i (kn_shl (by omega) (by rw [Nat.one_mul]; omega)) ?_
      refine kr_i (congrArg nI (show 1 * 2 ^ lg = N from by rw [Nat.one_mul, hN])) ?_
      refine va_putF (D := D) (ci := 4) (v := .int (nI (N))) (ty := .int) (C := RX4) (T := TX4) (N := 8) hx hb hts inX4_X4_init tyX4 tyX4_ok nmX4 hown hK hP hD hS 0 rfl rfl 1 (by decide) (hts (.fieldLink RX4 23 "TransformProductModel" "n" "I") (by decide +kernel)) (fun _ h9 => h9) rfl hin rfl (by decide +kernel) rfl rfl (Nat.le_of_ble_eq_true rfl) dX4_init_56 (fun H locs hP hD hS => ?_)
      have hP : va_P D vwCl [(h, .inr (4, [.int (nI (lg)), .int (nI (N)), .int (nI (0)), .ref a1, .ref a2, .ref a3, .int (nI (0)), .int (nI (0))])), (a1, .inl (cI, 2048, .inl (nA (fun _ => 0)))), (a2, .inl (cI, 2, .inl (nA (fun _ => 0)))), (a3, .inl (cI, 2048, .inl (nA (fun _ => 0))))] H := hP
      have hD : va_D A [(h, .inr (4, [.int (nI (lg)), .int (nI (N)), .int (nI (0)), .ref a1, .ref a2, .ref a3, .int (nI (0)), .int (nI (0))])), (a1, .inl (cI, 2048, .inl (nA (fun _ => 0)))), (a2, .inl (cI, 2, .inl (nA (fun _ => 0)))), (a3, .inl (cI, 2048, .inl (nA (fun _ => 0))))] := hD
      exact kr_vret (fun i => [h, a1, a2, a3].getD i 0) hx hb hr hlk hP hD hS rfl dX4_init_59
    · exact absurd (lg_in hc hd) hno
set_option maxHeartbeats 4000000 in
set_option maxRecDepth 100000 in
theorem c_X4_init__0 (l : Launch) (D : va_G) (cI cT : ClassId) (sz : Nat) (g : Nat → Nat) (lg N rd len tk : Nat) (dd ct pp : Nat → Nat) : kMi (S := Unit) l yX4_init_ wsX4_init_ { frames := 0, cells := 0, slots := 0, locals := 0 } D [(cI, .int), (cT, .object RX1)] [(g 0, .inr (4, [.int (nI (lg)), .int (nI (N)), .int (nI (0)), .ref (g 1), .ref (g 2), .ref (g 3), .int (nI (len)), .int (nI (tk))])), (g 1, .inl (cI, 2048, .inl (nA (dd)))), (g 2, .inl (cI, 2, .inl (nA (ct)))), (g 3, .inl (cI, 2048, .inl (nA (pp))))] sz (fun _ => True) [.ref (g 0)] (fun r _ => r = nI 1) (fun _ => [(g 0, .inr (4, [.int (nI (lg)), .int (nI (N)), .int (nI (1)), .ref (g 1), .ref (g 2), .ref (g 3), .int (nI (len)), .int (nI (tk))])), (g 1, .inl (cI, 2048, .inl (nA (dd)))), (g 2, .inl (cI, 2, .inl (nA (ct)))), (g 3, .inl (cI, 2048, .inl (nA (pp))))]) (0) (0) := by
  refine kM_of (Qc := fun A => va_Qi (S := Unit) (fun r _ => r = nI 1) (kB D A (fun _ => [(g 0, .inr (4, [.int (nI (lg)), .int (nI (N)), .int (nI (1)), .ref (g 1), .ref (g 2), .ref (g 3), .int (nI (len)), .int (nI (tk))])), (g 1, .inl (cI, 2048, .inl (nA (dd)))), (g 2, .inl (cI, 2, .inl (nA (ct)))), (g 3, .inl (cI, 2048, .inl (nA (pp))))])) A) (cc := cX4_init_) (maxL := 2) (ret := (some .boolean)) (by decide +kernel) rfl (Nat.le_of_ble_eq_true rfl) ?_
  intro p e s m below meth c A ls hC0 hr hlk hin hP hK hD hA hS hE hAe hsz hl
  obtain ⟨hx, hb, hml, hown, hts⟩ := id hC0
  have hl : lv_has ls 2 [(0, .ref (g 0))] := hl
  refine lv_aload_n hx hb dX4_init__0 rfl (lv_at hl 0 rfl) ?_
  refine va_get (D := D) (ci := 4) (v := .int (nI (0))) (C := RX4) (T := TX4) (N := 8) hx hb hts inX4_X4_init_ hown hK hP 0 rfl rfl 2 (by decide) (hts (.fieldLink RX4 26 "TransformProductModel" "isReady" "Z") (by decide +kernel)) (fun _ h9 => h9) rfl dX4_init__1 ?_
  refine lv_istore_n (lv' := [(1, .int (nI (0))), (0, .ref (g 0))]) hx hb dX4_init__4 rfl hl (by decide) rfl (fun ls hl => ?_)
  refine lv_aload_n hx hb dX4_init__5 rfl (lv_at hl 1 rfl) ?_
  refine lv_iconst (v := nI 1) hx hb dX4_init__6 (by decide) ?_
  refine va_put (D := D) (ci := 4) (v := .int (nI (1))) (ty := .boolean) (C := RX4) (T := TX4) (N := 8) hx hb hts inX4_X4_init_ tyX4 tyX4_ok nmX4 hown hK hP hD hS 0 rfl rfl 2 (by decide) (hts (.fieldLink RX4 26 "TransformProductModel" "isReady" "Z") (by decide +kernel)) (fun _ h9 => h9) rfl (by decide +kernel) rfl rfl (Nat.le_of_ble_eq_true rfl) dX4_init__7 (fun H locs hP hD hS => ?_)
  have hP : va_P D vwCl [(g 0, .inr (4, [.int (nI (lg)), .int (nI (N)), .int (nI (1)), .ref (g 1), .ref (g 2), .ref (g 3), .int (nI (len)), .int (nI (tk))])), (g 1, .inl (cI, 2048, .inl (nA (dd)))), (g 2, .inl (cI, 2, .inl (nA (ct)))), (g 3, .inl (cI, 2048, .inl (nA (pp))))] H := hP
  have hD : va_D A [(g 0, .inr (4, [.int (nI (lg)), .int (nI (N)), .int (nI (1)), .ref (g 1), .ref (g 2), .ref (g 3), .int (nI (len)), .int (nI (tk))])), (g 1, .inl (cI, 2048, .inl (nA (dd)))), (g 2, .inl (cI, 2, .inl (nA (ct)))), (g 3, .inl (cI, 2048, .inl (nA (pp))))] := hD
  refine lv_iload_n hx hb dX4_init__10 rfl (lv_at hl 0 rfl) ?_
  refine kr_ne0 (tgt := 18) hx hb dX4_init__11 (by decide) (by omega) (fun hc => ?_) (fun hc => ?_)
  · exact absurd hc (by omega)
  · refine lv_iconst (v := nI 1) hx hb dX4_init__14 (by decide) ?_
    refine lv_goto (tgt := 19) hx hb dX4_init__15 (by decide) ?_
    exact kr_zret () hx hb hr hlk rfl hP hD hS rfl dX4_init__19
set_option maxHeartbeats 4000000 in
set_option maxRecDepth 100000 in
theorem c_X4_init__1 (l : Launch) (D : va_G) (cI cT : ClassId) (sz : Nat) (g : Nat → Nat) (lg N rd len tk : Nat) (dd ct pp : Nat → Nat) : kMi (S := Unit) l yX4_init_ wsX4_init_ { frames := 0, cells := 0, slots := 0, locals := 0 } D [(cI, .int), (cT, .object RX1)] [(g 0, .inr (4, [.int (nI (lg)), .int (nI (N)), .int (nI (1)), .ref (g 1), .ref (g 2), .ref (g 3), .int (nI (len)), .int (nI (tk))])), (g 1, .inl (cI, 2048, .inl (nA (dd)))), (g 2, .inl (cI, 2, .inl (nA (ct)))), (g 3, .inl (cI, 2048, .inl (nA (pp))))] sz (fun _ => True) [.ref (g 0)] (fun r _ => r = nI 0) (fun _ => [(g 0, .inr (4, [.int (nI (lg)), .int (nI (N)), .int (nI (1)), .ref (g 1), .ref (g 2), .ref (g 3), .int (nI (len)), .int (nI (tk))])), (g 1, .inl (cI, 2048, .inl (nA (dd)))), (g 2, .inl (cI, 2, .inl (nA (ct)))), (g 3, .inl (cI, 2048, .inl (nA (pp))))]) (0) (0) := by
  refine kM_of (Qc := fun A => va_Qi (S := Unit) (fun r _ => r = nI 0) (kB D A (fun _ => [(g 0, .inr (4, [.int (nI (lg)), .int (nI (N)), .int (nI (1)), .ref (g 1), .ref (g 2), .ref (g 3), .int (nI (len)), .int (nI (tk))])), (g 1, .inl (cI, 2048, .inl (nA (dd)))), (g 2, .inl (cI, 2, .inl (nA (ct)))), (g 3, .inl (cI, 2048, .inl (nA (pp))))])) A) (cc := cX4_init_) (maxL := 2) (ret := (some .boolean)) (by decide +kernel) rfl (Nat.le_of_ble_eq_true rfl) ?_
  intro p e s m below meth c A ls hC0 hr hlk hin hP hK hD hA hS hE hAe hsz hl
  obtain ⟨hx, hb, hml, hown, hts⟩ := id hC0
  have hl : lv_has ls 2 [(0, .ref (g 0))] := hl
  refine lv_aload_n hx hb dX4_init__0 rfl (lv_at hl 0 rfl) ?_
  refine va_get (D := D) (ci := 4) (v := .int (nI (1))) (C := RX4) (T := TX4) (N := 8) hx hb hts inX4_X4_init_ hown hK hP 0 rfl rfl 2 (by decide) (hts (.fieldLink RX4 26 "TransformProductModel" "isReady" "Z") (by decide +kernel)) (fun _ h9 => h9) rfl dX4_init__1 ?_
  refine lv_istore_n (lv' := [(1, .int (nI (1))), (0, .ref (g 0))]) hx hb dX4_init__4 rfl hl (by decide) rfl (fun ls hl => ?_)
  refine lv_aload_n hx hb dX4_init__5 rfl (lv_at hl 1 rfl) ?_
  refine lv_iconst (v := nI 1) hx hb dX4_init__6 (by decide) ?_
  refine va_put (D := D) (ci := 4) (v := .int (nI (1))) (ty := .boolean) (C := RX4) (T := TX4) (N := 8) hx hb hts inX4_X4_init_ tyX4 tyX4_ok nmX4 hown hK hP hD hS 0 rfl rfl 2 (by decide) (hts (.fieldLink RX4 26 "TransformProductModel" "isReady" "Z") (by decide +kernel)) (fun _ h9 => h9) rfl (by decide +kernel) rfl rfl (Nat.le_of_ble_eq_true rfl) dX4_init__7 (fun H locs hP hD hS => ?_)
  have hP : va_P D vwCl [(g 0, .inr (4, [.int (nI (lg)), .int (nI (N)), .int (nI (1)), .ref (g 1), .ref (g 2), .ref (g 3), .int (nI (len)), .int (nI (tk))])), (g 1, .inl (cI, 2048, .inl (nA (dd)))), (g 2, .inl (cI, 2, .inl (nA (ct)))), (g 3, .inl (cI, 2048, .inl (nA (pp))))] H := hP
  have hD : va_D A [(g 0, .inr (4, [.int (nI (lg)), .int (nI (N)), .int (nI (1)), .ref (g 1), .ref (g 2), .ref (g 3), .int (nI (len)), .int (nI (tk))])), (g 1, .inl (cI, 2048, .inl (nA (dd)))), (g 2, .inl (cI, 2, .inl (nA (ct)))), (g 3, .inl (cI, 2048, .inl (nA (pp))))] := hD
  refine lv_iload_n hx hb dX4_init__10 rfl (lv_at hl 0 rfl) ?_
  refine kr_ne0 (tgt := 18) hx hb dX4_init__11 (by decide) (by omega) (fun hc => ?_) (fun hc => ?_)
  · refine lv_iconst (v := nI 0) hx hb dX4_init__18 (by decide) ?_
    exact kr_zret () hx hb hr hlk rfl hP hD hS rfl dX4_init__19
  · exact absurd hc (by omega)
set_option maxHeartbeats 4000000 in
set_option maxRecDepth 100000 in
theorem c_X4_clear (l : Launch) (D : va_G) (cI cT : ClassId) (sz : Nat) (g : Nat → Nat) (lg N rd len tk : Nat) (dd ct pp : Nat → Nat) : kMv (S := Unit) l yX4_clear wsX4_clear { frames := 0, cells := 0, slots := 0, locals := 0 } D [(cI, .int), (cT, .object RX1)] [(g 0, .inr (4, [.int (nI (lg)), .int (nI (N)), .int (nI (rd)), .ref (g 1), .ref (g 2), .ref (g 3), .int (nI (len)), .int (nI (tk))])), (g 1, .inl (cI, 2048, .inl (nA (dd)))), (g 2, .inl (cI, 2, .inl (nA (ct)))), (g 3, .inl (cI, 2048, .inl (nA (pp))))] sz (fun _ => True) [.ref (g 0)] (fun _ => True) (fun _ => [(g 0, .inr (4, [.int (nI (lg)), .int (nI (N)), .int (nI (rd)), .ref (g 1), .ref (g 2), .ref (g 3), .int (nI (0)), .int (nI (0))])), (g 1, .inl (cI, 2048, .inl (nA (dd)))), (g 2, .inl (cI, 2, .inl (nA (va_up (va_up ct 0 0) 1 0)))), (g 3, .inl (cI, 2048, .inl (nA (pp))))]) (0) (0) := by
  refine kM_of (Qc := fun A => va_Qv (S := Unit) (fun _ => True) (kB D A (fun _ => [(g 0, .inr (4, [.int (nI (lg)), .int (nI (N)), .int (nI (rd)), .ref (g 1), .ref (g 2), .ref (g 3), .int (nI (0)), .int (nI (0))])), (g 1, .inl (cI, 2048, .inl (nA (dd)))), (g 2, .inl (cI, 2, .inl (nA (va_up (va_up ct 0 0) 1 0)))), (g 3, .inl (cI, 2048, .inl (nA (pp))))])) A) (cc := cX4_clear) (maxL := 1) (ret := none) (by decide +kernel) rfl (Nat.le_of_ble_eq_true rfl) ?_
  intro p e s m below meth c A ls hC0 hr hlk hin hP hK hD hA hS hE hAe hsz hl
  obtain ⟨hx, hb, hml, hown, hts⟩ := id hC0
  have hl : lv_has ls 1 [(0, .ref (g 0))] := hl
  refine lv_aload_n hx hb dX4_clear_0 rfl (lv_at hl 0 rfl) ?_
  refine va_get (D := D) (ci := 4) (v := .ref (g 2)) (C := RX4) (T := TX4) (N := 8) hx hb hts inX4_X4_clear hown hK hP 0 rfl rfl 4 (by decide) (hts (.fieldLink RX4 13 "TransformProductModel" "counts" "[I") (by decide +kernel)) (fun _ h9 => h9) rfl dX4_clear_1 ?_
  refine lv_iconst (v := nI 0) hx hb dX4_clear_4 (by decide) ?_
  refine lv_iconst (v := nI 0) hx hb dX4_clear_5 (by decide) ?_
  refine kr_st hx hb hK hP hD hS 2 0 rfl rfl (by omega) (by omega) dX4_clear_6 (fun H locs hP hD hS => ?_)
  have hP : va_P D vwCl [(g 0, .inr (4, [.int (nI (lg)), .int (nI (N)), .int (nI (rd)), .ref (g 1), .ref (g 2), .ref (g 3), .int (nI (len)), .int (nI (tk))])), (g 1, .inl (cI, 2048, .inl (nA (dd)))), (g 2, .inl (cI, 2, .inl (nA (va_up ct 0 0)))), (g 3, .inl (cI, 2048, .inl (nA (pp))))] H := hP
  have hD : va_D A [(g 0, .inr (4, [.int (nI (lg)), .int (nI (N)), .int (nI (rd)), .ref (g 1), .ref (g 2), .ref (g 3), .int (nI (len)), .int (nI (tk))])), (g 1, .inl (cI, 2048, .inl (nA (dd)))), (g 2, .inl (cI, 2, .inl (nA (va_up ct 0 0)))), (g 3, .inl (cI, 2048, .inl (nA (pp))))] := hD
  refine lv_aload_n hx hb dX4_clear_7 rfl (lv_at hl 0 rfl) ?_
  refine va_get (D := D) (ci := 4) (v := .ref (g 2)) (C := RX4) (T := TX4) (N := 8) hx hb hts inX4_X4_clear hown hK hP 0 rfl rfl 4 (by decide) (hts (.fieldLink RX4 13 "TransformProductModel" "counts" "[I") (by decide +kernel)) (fun _ h9 => h9) rfl dX4_clear_8 ?_
  refine lv_iconst (v := nI 1) hx hb dX4_clear_11 (by decide) ?_
  refine lv_iconst (v := nI 0) hx hb dX4_clear_12 (by decide) ?_
  refine kr_st hx hb hK hP hD hS 2 0 rfl rfl (by omega) (by omega) dX4_clear_13 (fun H locs hP hD hS => ?_)
  have hP : va_P D vwCl [(g 0, .inr (4, [.int (nI (lg)), .int (nI (N)), .int (nI (rd)), .ref (g 1), .ref (g 2), .ref (g 3), .int (nI (len)), .int (nI (tk))])), (g 1, .inl (cI, 2048, .inl (nA (dd)))), (g 2, .inl (cI, 2, .inl (nA (va_up (va_up ct 0 0) 1 0)))), (g 3, .inl (cI, 2048, .inl (nA (pp))))] H := hP
  have hD : va_D A [(g 0, .inr (4, [.int (nI (lg)), .int (nI (N)), .int (nI (rd)), .ref (g 1), .ref (g 2), .ref (g 3), .int (nI (len)), .int (nI (tk))])), (g 1, .inl (cI, 2048, .inl (nA (dd)))), (g 2, .inl (cI, 2, .inl (nA (va_up (va_up ct 0 0) 1 0)))), (g 3, .inl (cI, 2048, .inl (nA (pp))))] := hD
  refine lv_aload_n hx hb dX4_clear_14 rfl (lv_at hl 0 rfl) ?_
  refine lv_iconst (v := nI 0) hx hb dX4_clear_15 (by decide) ?_
  refine va_put (D := D) (ci := 4) (v := .int (nI (0))) (ty := .int) (C := RX4) (T := TX4) (N := 8) hx hb hts inX4_X4_clear tyX4 tyX4_ok nmX4 hown hK hP hD hS 0 rfl rfl 6 (by decide) (hts (.fieldLink RX4 30 "TransformProductModel" "length" "I") (by decide +kernel)) (fun _ h9 => h9) rfl (by decide +kernel) rfl rfl (Nat.le_of_ble_eq_true rfl) dX4_clear_16 (fun H locs hP hD hS => ?_)
  have hP : va_P D vwCl [(g 0, .inr (4, [.int (nI (lg)), .int (nI (N)), .int (nI (rd)), .ref (g 1), .ref (g 2), .ref (g 3), .int (nI (0)), .int (nI (tk))])), (g 1, .inl (cI, 2048, .inl (nA (dd)))), (g 2, .inl (cI, 2, .inl (nA (va_up (va_up ct 0 0) 1 0)))), (g 3, .inl (cI, 2048, .inl (nA (pp))))] H := hP
  have hD : va_D A [(g 0, .inr (4, [.int (nI (lg)), .int (nI (N)), .int (nI (rd)), .ref (g 1), .ref (g 2), .ref (g 3), .int (nI (0)), .int (nI (tk))])), (g 1, .inl (cI, 2048, .inl (nA (dd)))), (g 2, .inl (cI, 2, .inl (nA (va_up (va_up ct 0 0) 1 0)))), (g 3, .inl (cI, 2048, .inl (nA (pp))))] := hD
  refine lv_aload_n hx hb dX4_clear_19 rfl (lv_at hl 0 rfl) ?_
  refine lv_iconst (v := nI 0) hx hb dX4_clear_20 (by decide) ?_
  refine va_put (D := D) (ci := 4) (v := .int (nI (0))) (ty := .int) (C := RX4) (T := TX4) (N := 8) hx hb hts inX4_X4_clear tyX4 tyX4_ok nmX4 hown hK hP hD hS 0 rfl rfl 7 (by decide) (hts (.fieldLink RX4 33 "TransformProductModel" "taken" "I") (by decide +kernel)) (fun _ h9 => h9) rfl (by decide +kernel) rfl rfl (Nat.le_of_ble_eq_true rfl) dX4_clear_21 (fun H locs hP hD hS => ?_)
  have hP : va_P D vwCl [(g 0, .inr (4, [.int (nI (lg)), .int (nI (N)), .int (nI (rd)), .ref (g 1), .ref (g 2), .ref (g 3), .int (nI (0)), .int (nI (0))])), (g 1, .inl (cI, 2048, .inl (nA (dd)))), (g 2, .inl (cI, 2, .inl (nA (va_up (va_up ct 0 0) 1 0)))), (g 3, .inl (cI, 2048, .inl (nA (pp))))] H := hP
  have hD : va_D A [(g 0, .inr (4, [.int (nI (lg)), .int (nI (N)), .int (nI (rd)), .ref (g 1), .ref (g 2), .ref (g 3), .int (nI (0)), .int (nI (0))])), (g 1, .inl (cI, 2048, .inl (nA (dd)))), (g 2, .inl (cI, 2, .inl (nA (va_up (va_up ct 0 0) 1 0)))), (g 3, .inl (cI, 2048, .inl (nA (pp))))] := hD
  exact kr_vret () hx hb hr hlk hP hD hS trivial dX4_clear_24
set_option maxHeartbeats 4000000 in
set_option maxRecDepth 100000 in
theorem c_X4_isRow (l : Launch) (D : va_G) (cI cT : ClassId) (sz : Nat) (k : Nat) (hk : k ≤ 1) : kMi (S := Unit) l yX4_isRow wsX4_isRow { frames := 0, cells := 0, slots := 0, locals := 0 } D [(cI, .int), (cT, .object RX1)] [] sz (fun _ => True) [.int (nI (k))] (fun r _ => r = nI 1) (fun _ => []) (0) (0) := by
  refine kM_of (Qc := fun A => va_Qi (S := Unit) (fun r _ => r = nI 1) (kB D A (fun _ => [])) A) (cc := cX4_isRow) (maxL := 1) (ret := (some .boolean)) (by decide +kernel) rfl (Nat.le_of_ble_eq_true rfl) ?_
  intro p e s m below meth c A ls hC0 hr hlk hin hP hK hD hA hS hE hAe hsz hl
  obtain ⟨hx, hb, hml, hown, hts⟩ := id hC0
  have hl : lv_has ls 1 [(0, .int (nI (k)))] := hl
  refine lv_iload_n hx hb dX4_isRow_0 rfl (lv_at hl 0 rfl) ?_
  refine kr_eq0 (tgt := 9) hx hb dX4_isRow_1 (by decide) (by omega) (fun hc => ?_) (fun hc => ?_)
  · refine lv_iconst (v := nI 1) hx hb dX4_isRow_9 (by decide) ?_
    refine lv_goto (tgt := 14) hx hb dX4_isRow_10 (by decide) ?_
    exact kr_zret () hx hb hr hlk rfl hP hD hS rfl dX4_isRow_14
  · refine lv_iload_n hx hb dX4_isRow_4 rfl (lv_at hl 0 rfl) ?_
    refine lv_iconst (v := nI 1) hx hb dX4_isRow_5 (by decide) ?_
    refine kr_ne (tgt := 13) hx hb dX4_isRow_6 (by decide) (by omega) (by omega) (fun hc => ?_) (fun hc => ?_)
    · exact absurd hc (by omega)
    · refine lv_iconst (v := nI 1) hx hb dX4_isRow_9 (by decide) ?_
      refine lv_goto (tgt := 14) hx hb dX4_isRow_10 (by decide) ?_
      exact kr_zret () hx hb hr hlk rfl hP hD hS rfl dX4_isRow_14
set_option maxHeartbeats 4000000 in
set_option maxRecDepth 100000 in
theorem c_X4_isRow_no (l : Launch) (D : va_G) (cI cT : ClassId) (sz : Nat) (x : Int32) (h0 : ¬ x = 0) (h1 : ¬ x = nI 1) : kMi (S := Unit) l yX4_isRow wsX4_isRow { frames := 0, cells := 0, slots := 0, locals := 0 } D [(cI, .int), (cT, .object RX1)] [] sz (fun _ => True) [.int (x)] (fun r _ => r = nI 0) (fun _ => []) (0) (0) := by
  refine kM_of (Qc := fun A => va_Qi (S := Unit) (fun r _ => r = nI 0) (kB D A (fun _ => [])) A) (cc := cX4_isRow) (maxL := 1) (ret := (some .boolean)) (by decide +kernel) rfl (Nat.le_of_ble_eq_true rfl) ?_
  intro p e s m below meth c A ls hC0 hr hlk hin hP hK hD hA hS hE hAe hsz hl
  obtain ⟨hx, hb, hml, hown, hts⟩ := id hC0
  have hl : lv_has ls 1 [(0, .int (x))] := hl
  refine lv_iload_n hx hb dX4_isRow_0 rfl (lv_at hl 0 rfl) ?_
  refine lv_if_eq (tgt := 9) hx hb dX4_isRow_1 (by decide) (fun hc => ?_) (fun hc => ?_)
  · exact absurd hc h0
  · refine lv_iload_n hx hb dX4_isRow_4 rfl (lv_at hl 0 rfl) ?_
    refine lv_iconst (v := nI 1) hx hb dX4_isRow_5 (by decide) ?_
    refine lv_icmp_ne (tgt := 13) hx hb dX4_isRow_6 (by decide) (fun hc => ?_) (fun hc => ?_)
    · refine lv_iconst (v := nI 0) hx hb dX4_isRow_13 (by decide) ?_
      exact kr_zret () hx hb hr hlk rfl hP hD hS rfl dX4_isRow_14
    · exact absurd hc h1
set_option maxHeartbeats 4000000 in
set_option maxRecDepth 100000 in
theorem c_X4_isDigit (l : Launch) (D : va_G) (cI cT : ClassId) (sz : Nat) (v : Nat) (hv : v < 32768) : kMi (S := Unit) l yX4_isDigit wsX4_isDigit { frames := 0, cells := 0, slots := 0, locals := 0 } D [(cI, .int), (cT, .object RX1)] [] sz (fun _ => True) [.int (nI (v))] (fun r _ => r = nI 1) (fun _ => []) (0) (0) := by
  refine kM_of (Qc := fun A => va_Qi (S := Unit) (fun r _ => r = nI 1) (kB D A (fun _ => [])) A) (cc := cX4_isDigit) (maxL := 1) (ret := (some .boolean)) (by decide +kernel) rfl (Nat.le_of_ble_eq_true rfl) ?_
  intro p e s m below meth c A ls hC0 hr hlk hin hP hK hD hA hS hE hAe hsz hl
  obtain ⟨hx, hb, hml, hown, hts⟩ := id hC0
  have hl : lv_has ls 1 [(0, .int (nI (v)))] := hl
  refine lv_iload_n hx hb dX4_isDigit_0 rfl (lv_at hl 0 rfl) ?_
  refine kr_lt0 (tgt := 14) hx hb dX4_isDigit_1 (by decide) (by omega) ?_
  refine lv_iload_n hx hb dX4_isDigit_4 rfl (lv_at hl 0 rfl) ?_
  refine lv_ldc hx hb hown (hts (.constant RX4 36 (32768)) (by decide +kernel)) dX4_isDigit_5 ?_
  refine kr_i (show (32768 : Int32) = nI 32768 by decide) ?_
  refine kr_ge (tgt := 14) hx hb dX4_isDigit_7 (by decide) (by omega) (by omega) (fun hc => ?_) (fun hc => ?_)
  · exact absurd hc (by omega)
  · refine lv_iconst (v := nI 1) hx hb dX4_isDigit_10 (by decide) ?_
    refine lv_goto (tgt := 15) hx hb dX4_isDigit_11 (by decide) ?_
    exact kr_zret () hx hb hr hlk rfl hP hD hS rfl dX4_isDigit_15
set_option maxHeartbeats 4000000 in
set_option maxRecDepth 100000 in
theorem c_X4_isDigit_no (l : Launch) (D : va_G) (cI cT : ClassId) (sz : Nat) (x : Int32) (hno : ¬ ∃ v, v < 32768 ∧ x = nI v) : kMi (S := Unit) l yX4_isDigit wsX4_isDigit { frames := 0, cells := 0, slots := 0, locals := 0 } D [(cI, .int), (cT, .object RX1)] [] sz (fun _ => True) [.int (x)] (fun r _ => r = nI 0) (fun _ => []) (0) (0) := by
  refine kM_of (Qc := fun A => va_Qi (S := Unit) (fun r _ => r = nI 0) (kB D A (fun _ => [])) A) (cc := cX4_isDigit) (maxL := 1) (ret := (some .boolean)) (by decide +kernel) rfl (Nat.le_of_ble_eq_true rfl) ?_
  intro p e s m below meth c A ls hC0 hr hlk hin hP hK hD hA hS hE hAe hsz hl
  obtain ⟨hx, hb, hml, hown, hts⟩ := id hC0
  have hl : lv_has ls 1 [(0, .int (x))] := hl
  refine lv_iload_n hx hb dX4_isDigit_0 rfl (lv_at hl 0 rfl) ?_
  refine lv_if_lt (tgt := 14) hx hb dX4_isDigit_1 (by decide) (fun hc => ?_) (fun hc => ?_)
  · refine lv_iconst (v := nI 0) hx hb dX4_isDigit_14 (by decide) ?_
    exact kr_zret () hx hb hr hlk rfl hP hD hS rfl dX4_isDigit_15
  · obtain ⟨v, hv, rfl⟩ := nI_of hc
    refine lv_iload_n hx hb dX4_isDigit_4 rfl (lv_at hl 0 rfl) ?_
    refine lv_ldc hx hb hown (hts (.constant RX4 36 (32768)) (by decide +kernel)) dX4_isDigit_5 ?_
    refine kr_i (show (32768 : Int32) = nI 32768 by decide) ?_
    refine kr_ge (tgt := 14) hx hb dX4_isDigit_7 (by decide) (by omega) (by omega) (fun hc2 => ?_) (fun hc2 => ?_)
    · refine lv_iconst (v := nI 0) hx hb dX4_isDigit_14 (by decide) ?_
      exact kr_zret () hx hb hr hlk rfl hP hD hS rfl dX4_isDigit_15
    · exact absurd ⟨v, hc2, rfl⟩ hno
set_option maxHeartbeats 4000000 in
set_option maxRecDepth 100000 in
theorem lp_rep {p : Program} {l : Launch} {e : Env} {R : Room} {s : State} {m : MethodId} {args : Array Value} {below : List Frame} {meth : Method} {c : Code} {cells slots : Nat} {Q : State → Prop} {A : Nat → Prop} {H0 : Heap} {D : va_G} {cI cT : ClassId} (g : Nat → Nat) (lg N rd len tk : Nat) (dd ct pp : Nat → Nat) (k v c0 : Nat) (hC0 : CallFix p m c cX4_repeat 5 s args wsX4_repeat RX4) (hK : va_K D vwCl [(cI, .int), (cT, .object RX1)] s) (hA : ∀ q, H0.size ≤ q → A q) (hk : k ≤ 1) (hv : v < 32768) (hc0 : ct k + c0 ≤ N) (hN2 : N ≤ 1024)
    (kk : ∀ (j : Nat) (H : Heap) (locs : List Loc) (ls : Array Slot), j = c0 → va_P D vwCl [(g 0, .inr (4, [.int (nI (lg)), .int (nI (N)), .int (nI (rd)), .ref (g 1), .ref (g 2), .ref (g 3), .int (nI (len)), .int (nI (tk))])), (g 1, .inl (cI, 2048, .inl (nA (flN dd (1024 * k + ct k) v j)))), (g 2, .inl (cI, 2, .inl (nA (ct)))), (g 3, .inl (cI, 2048, .inl (nA (pp))))] H → va_D A [(g 0, .inr (4, [.int (nI (lg)), .int (nI (N)), .int (nI (rd)), .ref (g 1), .ref (g 2), .ref (g 3), .int (nI (len)), .int (nI (tk))])), (g 1, .inl (cI, 2048, .inl (nA (flN dd (1024 * k + ct k) v j)))), (g 2, .inl (cI, 2, .inl (nA (ct)))), (g 3, .inl (cI, 2048, .inl (nA (pp))))] → va_S A H0 H locs → lv_has ls 5 [(4, .int (nI (j))), (0, .ref (g 0)), (1, .int (nI (k))), (2, .int (nI (v))), (3, .int (nI (c0)))] → W p l e R s m args below meth c H locs cells slots Q (F0 m 71 ls [])) :
    ∀ (nn j : Nat) (H : Heap) (locs : List Loc) (ls : Array Slot), c0 - j < nn → j ≤ c0 → va_P D vwCl [(g 0, .inr (4, [.int (nI (lg)), .int (nI (N)), .int (nI (rd)), .ref (g 1), .ref (g 2), .ref (g 3), .int (nI (len)), .int (nI (tk))])), (g 1, .inl (cI, 2048, .inl (nA (flN dd (1024 * k + ct k) v j)))), (g 2, .inl (cI, 2, .inl (nA (ct)))), (g 3, .inl (cI, 2048, .inl (nA (pp))))] H → va_D A [(g 0, .inr (4, [.int (nI (lg)), .int (nI (N)), .int (nI (rd)), .ref (g 1), .ref (g 2), .ref (g 3), .int (nI (len)), .int (nI (tk))])), (g 1, .inl (cI, 2048, .inl (nA (flN dd (1024 * k + ct k) v j)))), (g 2, .inl (cI, 2, .inl (nA (ct)))), (g 3, .inl (cI, 2048, .inl (nA (pp))))] → va_S A H0 H locs → lv_has ls 5 [(4, .int (nI (j))), (0, .ref (g 0)), (1, .int (nI (k))), (2, .int (nI (v))), (3, .int (nI (c0)))] → W p l e R s m args below meth c H locs cells slots Q (F0 m 38 ls []) := by
  obtain ⟨hx, hb, hml, hown, hts⟩ := id hC0
  intro nn
  induction nn with
  | zero => intro _ _ _ _ h; exact absurd h (Nat.not_lt_zero _)
  | succ nn ih =>
    intro j H locs ls hn hj hP hD hS hl
    refine lv_iload hx hb dX4_repeat_38 (lv_at hl 0 rfl) ?_
    refine lv_iload_n hx hb dX4_repeat_40 rfl (lv_at hl 4 rfl) ?_
    refine kr_ge (tgt := 71) hx hb dX4_repeat_41 (by decide) (by omega) (by omega) (fun hc => ?_) (fun hc => ?_)
    · exact kk j H locs ls (by omega) hP hD hS hl
    · refine lv_aload_n hx hb dX4_repeat_44 rfl (lv_at hl 1 rfl) ?_
      refine va_get (D := D) (ci := 4) (v := .ref (g 1)) (C := RX4) (T := TX4) (N := 8) hx hb hts inX4_X4_repeat hown hK hP 0 rfl rfl 3 (by decide) (hts (.fieldLink RX4 7 "TransformProductModel" "digits" "[I") (by decide +kernel)) (fun _ h9 => h9) rfl dX4_repeat_45 ?_
      refine lv_sipush (v := nI 1024) hx hb dX4_repeat_48 (by decide) ?_
      refine lv_iload_n hx hb dX4_repeat_51 rfl (lv_at hl 2 rfl) ?_
      refine lv_imul hx hb dX4_repeat_52 ?_
      refine kr_i (pk_mul _ _) ?_
      refine lv_aload_n hx hb dX4_repeat_53 rfl (lv_at hl 1 rfl) ?_
      refine va_get (D := D) (ci := 4) (v := .ref (g 2)) (C := RX4) (T := TX4) (N := 8) hx hb hts inX4_X4_repeat hown hK hP 0 rfl rfl 4 (by decide) (hts (.fieldLink RX4 13 "TransformProductModel" "counts" "[I") (by decide +kernel)) (fun _ h9 => h9) rfl dX4_repeat_54 ?_
      refine lv_iload_n hx hb dX4_repeat_57 rfl (lv_at hl 2 rfl) ?_
      refine kr_ld hx hb hK hP 2 0 rfl rfl (by omega) (by decide) dX4_repeat_58 ?_
      refine lv_iadd hx hb dX4_repeat_59 ?_
      refine kr_i (nI_add _ _) ?_
      refine lv_iload hx hb dX4_repeat_60 (lv_at hl 0 rfl) ?_
      refine lv_iadd hx hb dX4_repeat_62 ?_
      refine kr_i (nI_add _ _) ?_
      refine lv_iload_n hx hb dX4_repeat_63 rfl (lv_at hl 3 rfl) ?_
      refine kr_st hx hb hK hP hD hS 1 0 rfl rfl (by omega) (by decide) dX4_repeat_64 (fun H locs hP hD hS => ?_)
      have hP : va_P D vwCl [(g 0, .inr (4, [.int (nI (lg)), .int (nI (N)), .int (nI (rd)), .ref (g 1), .ref (g 2), .ref (g 3), .int (nI (len)), .int (nI (tk))])), (g 1, .inl (cI, 2048, .inl (nA (va_up (flN dd (1024 * k + ct k) v j) (((1024 * k) + (ct k)) + j) v)))), (g 2, .inl (cI, 2, .inl (nA (ct)))), (g 3, .inl (cI, 2048, .inl (nA (pp))))] H := hP
      have hD : va_D A [(g 0, .inr (4, [.int (nI (lg)), .int (nI (N)), .int (nI (rd)), .ref (g 1), .ref (g 2), .ref (g 3), .int (nI (len)), .int (nI (tk))])), (g 1, .inl (cI, 2048, .inl (nA (va_up (flN dd (1024 * k + ct k) v j) (((1024 * k) + (ct k)) + j) v)))), (g 2, .inl (cI, 2, .inl (nA (ct)))), (g 3, .inl (cI, 2048, .inl (nA (pp))))] := hD
      rw [flN_s] at hP hD
      refine lv_iinc (v := nI (j + 1)) (lv' := [(4, .int (nI (j + 1))), (0, .ref (g 0)), (1, .int (nI (k))), (2, .int (nI (v))), (3, .int (nI (c0)))]) hx hb dX4_repeat_65 hl (k := 0) rfl (by rw [show Int32.ofInt 1 = nI 1 by decide]; exact nI_add _ _) (by decide) rfl (fun ls hl => ?_)
      refine lv_goto (tgt := 38) hx hb dX4_repeat_68 (by decide) ?_
      exact ih (j + 1) H locs ls (by omega) (by omega) hP hD hS (lv_sub hl [0, 1, 2, 3, 4] rfl)
set_option maxHeartbeats 4000000 in
set_option maxRecDepth 100000 in
theorem c_X4_repeat (l : Launch) (D : va_G) (cI cT : ClassId) (sz : Nat) (g : Nat → Nat) (lg N rd len tk : Nat) (dd ct pp : Nat → Nat) (k v c0 : Nat) (hk : k ≤ 1) (hv : v < 32768) (hc0 : ct k + c0 ≤ N) (hN2 : N ≤ 1024) : kMi (S := Unit) l yX4_repeat wsX4_repeat { frames := 1, cells := 0, slots := 0, locals := 20 } D [(cI, .int), (cT, .object RX1)] [(g 0, .inr (4, [.int (nI (lg)), .int (nI (N)), .int (nI (rd)), .ref (g 1), .ref (g 2), .ref (g 3), .int (nI (len)), .int (nI (tk))])), (g 1, .inl (cI, 2048, .inl (nA (dd)))), (g 2, .inl (cI, 2, .inl (nA (ct)))), (g 3, .inl (cI, 2048, .inl (nA (pp))))] sz (fun _ => True) [.ref (g 0), .int (nI (k)), .int (nI (v)), .int (nI (c0))] (fun r _ => r = nI 1) (fun _ => [(g 0, .inr (4, [.int (nI (lg)), .int (nI (N)), .int (nI (rd)), .ref (g 1), .ref (g 2), .ref (g 3), .int (nI (len)), .int (nI (tk))])), (g 1, .inl (cI, 2048, .inl (nA (flN dd (1024 * k + ct k) v c0)))), (g 2, .inl (cI, 2, .inl (nA (va_up ct k (ct k + c0))))), (g 3, .inl (cI, 2048, .inl (nA (pp))))]) (0) (0) := by
  refine kM_of (Qc := fun A => va_Qi (S := Unit) (fun r _ => r = nI 1) (kB D A (fun _ => [(g 0, .inr (4, [.int (nI (lg)), .int (nI (N)), .int (nI (rd)), .ref (g 1), .ref (g 2), .ref (g 3), .int (nI (len)), .int (nI (tk))])), (g 1, .inl (cI, 2048, .inl (nA (flN dd (1024 * k + ct k) v c0)))), (g 2, .inl (cI, 2, .inl (nA (va_up ct k (ct k + c0))))), (g 3, .inl (cI, 2048, .inl (nA (pp))))])) A) (cc := cX4_repeat) (maxL := 5) (ret := (some .boolean)) (by decide +kernel) rfl (Nat.le_of_ble_eq_true rfl) ?_
  intro p e s m below meth c A ls hC0 hr hlk hin hP hK hD hA hS hE hAe hsz hl
  obtain ⟨hx, hb, hml, hown, hts⟩ := id hC0
  have hl : lv_has ls 5 [(0, .ref (g 0)), (1, .int (nI (k))), (2, .int (nI (v))), (3, .int (nI (c0)))] := hl
  refine lv_iload_n hx hb dX4_repeat_0 rfl (lv_at hl 1 rfl) ?_
  refine kc_i (wr := [(g 0, .inr (4, [.int (nI (lg)), .int (nI (N)), .int (nI (rd)), .ref (g 1), .ref (g 2), .ref (g 3), .int (nI (len)), .int (nI (tk))])), (g 1, .inl (cI, 2048, .inl (nA (dd)))), (g 2, .inl (cI, 2, .inl (nA (ct)))), (g 3, .inl (cI, 2048, .inl (nA (pp))))]) (va_runS (As := [.int (nI (k))]) (rest := []) hC0 (c_X4_isRow l D cI cT s.heap.size k hk) (va_cwS 1 hts gX4_repeat_X4_isRow rfl rfl rfl (by decide +kernel) ⟨Nat.le_of_ble_eq_true rfl, Nat.le_of_ble_eq_true rfl⟩) (kp_S kE_0 (fun _ _ _ => trivial) hK hP hD [] rfl (by decide)) rfl rfl hl.1 rfl (lv_room (Nat.le_of_ble_eq_true rfl)) dX4_repeat_1 ⟨Nat.le_of_ble_eq_true rfl, Nat.le_of_ble_eq_true rfl⟩) hP hD hS hA [] [0, 1, 2, 3] rfl rfl (by decide) (by decide) (fun rr uu H locs hw hP hD hS => ?_)
  subst hw
  have hP : va_P D vwCl [(g 0, .inr (4, [.int (nI (lg)), .int (nI (N)), .int (nI (rd)), .ref (g 1), .ref (g 2), .ref (g 3), .int (nI (len)), .int (nI (tk))])), (g 1, .inl (cI, 2048, .inl (nA (dd)))), (g 2, .inl (cI, 2, .inl (nA (ct)))), (g 3, .inl (cI, 2048, .inl (nA (pp))))] H := hP.sub [0, 1, 2, 3] rfl
  have hD : va_D A [(g 0, .inr (4, [.int (nI (lg)), .int (nI (N)), .int (nI (rd)), .ref (g 1), .ref (g 2), .ref (g 3), .int (nI (len)), .int (nI (tk))])), (g 1, .inl (cI, 2048, .inl (nA (dd)))), (g 2, .inl (cI, 2, .inl (nA (ct)))), (g 3, .inl (cI, 2048, .inl (nA (pp))))] := hD.sub [0, 1, 2, 3] (by decide) rfl
  refine kr_eq0 (tgt := 33) hx hb dX4_repeat_4 (by decide) (by omega) (fun hc => ?_) (fun hc => ?_)
  · exact absurd hc (by omega)
  · refine lv_iload_n hx hb dX4_repeat_7 rfl (lv_at hl 2 rfl) ?_
    refine kc_i (wr := [(g 0, .inr (4, [.int (nI (lg)), .int (nI (N)), .int (nI (rd)), .ref (g 1), .ref (g 2), .ref (g 3), .int (nI (len)), .int (nI (tk))])), (g 1, .inl (cI, 2048, .inl (nA (dd)))), (g 2, .inl (cI, 2, .inl (nA (ct)))), (g 3, .inl (cI, 2048, .inl (nA (pp))))]) (va_runS (As := [.int (nI (v))]) (rest := []) hC0 (c_X4_isDigit l D cI cT H.size v hv) (va_cwS 1 hts gX4_repeat_X4_isDigit rfl rfl rfl (by decide +kernel) ⟨Nat.le_of_ble_eq_true rfl, Nat.le_of_ble_eq_true rfl⟩) (kp_S kE_0 (fun _ _ _ => trivial) hK hP hD [] rfl (by decide)) rfl rfl hl.1 rfl (lv_room (Nat.le_of_ble_eq_true rfl)) dX4_repeat_8 ⟨Nat.le_of_ble_eq_true rfl, Nat.le_of_ble_eq_true rfl⟩) hP hD hS hA [] [0, 1, 2, 3] rfl rfl (by decide) (by decide) (fun rr uu H locs hw hP hD hS => ?_)
    subst hw
    have hP : va_P D vwCl [(g 0, .inr (4, [.int (nI (lg)), .int (nI (N)), .int (nI (rd)), .ref (g 1), .ref (g 2), .ref (g 3), .int (nI (len)), .int (nI (tk))])), (g 1, .inl (cI, 2048, .inl (nA (dd)))), (g 2, .inl (cI, 2, .inl (nA (ct)))), (g 3, .inl (cI, 2048, .inl (nA (pp))))] H := hP.sub [0, 1, 2, 3] rfl
    have hD : va_D A [(g 0, .inr (4, [.int (nI (lg)), .int (nI (N)), .int (nI (rd)), .ref (g 1), .ref (g 2), .ref (g 3), .int (nI (len)), .int (nI (tk))])), (g 1, .inl (cI, 2048, .inl (nA (dd)))), (g 2, .inl (cI, 2, .inl (nA (ct)))), (g 3, .inl (cI, 2048, .inl (nA (pp))))] := hD.sub [0, 1, 2, 3] (by decide) rfl
    refine kr_eq0 (tgt := 33) hx hb dX4_repeat_11 (by decide) (by omega) (fun hc => ?_) (fun hc => ?_)
    · exact absurd hc (by omega)
    · refine lv_iload_n hx hb dX4_repeat_14 rfl (lv_at hl 3 rfl) ?_
      refine kr_lt0 (tgt := 33) hx hb dX4_repeat_15 (by decide) (by omega) ?_
      refine lv_iload_n hx hb dX4_repeat_18 rfl (lv_at hl 3 rfl) ?_
      refine lv_aload_n hx hb dX4_repeat_19 rfl (lv_at hl 0 rfl) ?_
      refine va_get (D := D) (ci := 4) (v := .int (nI (N))) (C := RX4) (T := TX4) (N := 8) hx hb hts inX4_X4_repeat hown hK hP 0 rfl rfl 1 (by decide) (hts (.fieldLink RX4 23 "TransformProductModel" "n" "I") (by decide +kernel)) (fun _ h9 => h9) rfl dX4_repeat_20 ?_
      refine lv_aload_n hx hb dX4_repeat_23 rfl (lv_at hl 0 rfl) ?_
      refine va_get (D := D) (ci := 4) (v := .ref (g 2)) (C := RX4) (T := TX4) (N := 8) hx hb hts inX4_X4_repeat hown hK hP 0 rfl rfl 4 (by decide) (hts (.fieldLink RX4 13 "TransformProductModel" "counts" "[I") (by decide +kernel)) (fun _ h9 => h9) rfl dX4_repeat_24 ?_
      refine lv_iload_n hx hb dX4_repeat_27 rfl (lv_at hl 1 rfl) ?_
      refine kr_ld hx hb hK hP 2 0 rfl rfl (by omega) (by decide) dX4_repeat_28 ?_
      refine lv_isub hx hb dX4_repeat_29 ?_
      refine kr_i (pk_sub (by omega)) ?_
      refine kr_le (tgt := 35) hx hb dX4_repeat_30 (by decide) (by omega) (by omega) (fun hc => ?_) (fun hc => ?_)
      · refine lv_iconst (v := nI 0) hx hb dX4_repeat_35 (by decide) ?_
        refine lv_istore (lv' := [(4, .int (nI (0))), (0, .ref (g 0)), (1, .int (nI (k))), (2, .int (nI (v))), (3, .int (nI (c0)))]) hx hb dX4_repeat_36 hl (by decide) rfl (fun ls hl => ?_)
        rw [show dd = flN dd (1024 * k + ct k) v 0 from (flN_0 _ _ _).symm] at hP hD
        refine lp_rep g lg N rd len tk dd ct pp k v c0 hC0 hK hA hk hv hc0 hN2 (fun j H locs ls hj hP hD hS hl => ?_) (c0 + 1) 0 H locs ls (by omega) (by omega) hP hD hS (lv_sub hl [0, 1, 2, 3, 4] rfl)
        rw [hj] at hP hD hl
        refine lv_aload_n hx hb dX4_repeat_71 rfl (lv_at hl 1 rfl) ?_
        refine va_get (D := D) (ci := 4) (v := .ref (g 2)) (C := RX4) (T := TX4) (N := 8) hx hb hts inX4_X4_repeat hown hK hP 0 rfl rfl 4 (by decide) (hts (.fieldLink RX4 13 "TransformProductModel" "counts" "[I") (by decide +kernel)) (fun _ h9 => h9) rfl dX4_repeat_72 ?_
        refine lv_iload_n hx hb dX4_repeat_75 rfl (lv_at hl 2 rfl) ?_
        refine lv_dup2_11 hx hb dX4_repeat_76 rfl rfl ?_
        refine kr_ld hx hb hK hP 2 0 rfl rfl (by omega) (by decide) dX4_repeat_77 ?_
        refine lv_iload_n hx hb dX4_repeat_78 rfl (lv_at hl 4 rfl) ?_
        refine lv_iadd hx hb dX4_repeat_79 ?_
        refine kr_i (nI_add _ _) ?_
        refine kr_st hx hb hK hP hD hS 2 0 rfl rfl (by omega) (by decide) dX4_repeat_80 (fun H locs hP hD hS => ?_)
        have hP : va_P D vwCl [(g 0, .inr (4, [.int (nI (lg)), .int (nI (N)), .int (nI (rd)), .ref (g 1), .ref (g 2), .ref (g 3), .int (nI (len)), .int (nI (tk))])), (g 1, .inl (cI, 2048, .inl (nA (flN dd (1024 * k + ct k) v c0)))), (g 2, .inl (cI, 2, .inl (nA (va_up ct k ((ct k) + c0))))), (g 3, .inl (cI, 2048, .inl (nA (pp))))] H := hP
        have hD : va_D A [(g 0, .inr (4, [.int (nI (lg)), .int (nI (N)), .int (nI (rd)), .ref (g 1), .ref (g 2), .ref (g 3), .int (nI (len)), .int (nI (tk))])), (g 1, .inl (cI, 2048, .inl (nA (flN dd (1024 * k + ct k) v c0)))), (g 2, .inl (cI, 2, .inl (nA (va_up ct k ((ct k) + c0))))), (g 3, .inl (cI, 2048, .inl (nA (pp))))] := hD
        refine lv_iconst (v := nI 1) hx hb dX4_repeat_81 (by decide) ?_
        exact kr_zret () hx hb hr hlk rfl hP hD hS rfl dX4_repeat_82
      · exact absurd hc (by omega)
set_option maxHeartbeats 4000000 in
set_option maxRecDepth 100000 in
theorem c_X4_repeat_no (l : Launch) (D : va_G) (cI cT : ClassId) (sz : Nat) (g : Nat → Nat) (lg N rd len tk : Nat) (dd ct pp : Nat → Nat) (k : Nat) (x y : Int32) (hk : k ≤ 1) (hu : ct k ≤ N) (hno : ¬ apOk N (ct k) x y) (hN2 : N ≤ 1024) : kMi (S := Unit) l yX4_repeat wsX4_repeat { frames := 1, cells := 0, slots := 0, locals := 20 } D [(cI, .int), (cT, .object RX1)] [(g 0, .inr (4, [.int (nI (lg)), .int (nI (N)), .int (nI (rd)), .ref (g 1), .ref (g 2), .ref (g 3), .int (nI (len)), .int (nI (tk))])), (g 1, .inl (cI, 2048, .inl (nA (dd)))), (g 2, .inl (cI, 2, .inl (nA (ct)))), (g 3, .inl (cI, 2048, .inl (nA (pp))))] sz (fun _ => True) [.ref (g 0), .int (nI (k)), .int (x), .int (y)] (fun r _ => r = nI 0) (fun _ => [(g 0, .inr (4, [.int (nI (lg)), .int (nI (N)), .int (nI (rd)), .ref (g 1), .ref (g 2), .ref (g 3), .int (nI (len)), .int (nI (tk))])), (g 1, .inl (cI, 2048, .inl (nA (dd)))), (g 2, .inl (cI, 2, .inl (nA (ct)))), (g 3, .inl (cI, 2048, .inl (nA (pp))))]) (0) (0) := by
  refine kM_of (Qc := fun A => va_Qi (S := Unit) (fun r _ => r = nI 0) (kB D A (fun _ => [(g 0, .inr (4, [.int (nI (lg)), .int (nI (N)), .int (nI (rd)), .ref (g 1), .ref (g 2), .ref (g 3), .int (nI (len)), .int (nI (tk))])), (g 1, .inl (cI, 2048, .inl (nA (dd)))), (g 2, .inl (cI, 2, .inl (nA (ct)))), (g 3, .inl (cI, 2048, .inl (nA (pp))))])) A) (cc := cX4_repeat) (maxL := 5) (ret := (some .boolean)) (by decide +kernel) rfl (Nat.le_of_ble_eq_true rfl) ?_
  intro p e s m below meth c A ls hC0 hr hlk hin hP hK hD hA hS hE hAe hsz hl
  obtain ⟨hx, hb, hml, hown, hts⟩ := id hC0
  have hl : lv_has ls 5 [(0, .ref (g 0)), (1, .int (nI (k))), (2, .int (x)), (3, .int (y))] := hl
  refine lv_iload_n hx hb dX4_repeat_0 rfl (lv_at hl 1 rfl) ?_
  refine kc_i (wr := [(g 0, .inr (4, [.int (nI (lg)), .int (nI (N)), .int (nI (rd)), .ref (g 1), .ref (g 2), .ref (g 3), .int (nI (len)), .int (nI (tk))])), (g 1, .inl (cI, 2048, .inl (nA (dd)))), (g 2, .inl (cI, 2, .inl (nA (ct)))), (g 3, .inl (cI, 2048, .inl (nA (pp))))]) (va_runS (As := [.int (nI (k))]) (rest := []) hC0 (c_X4_isRow l D cI cT s.heap.size k hk) (va_cwS 1 hts gX4_repeat_X4_isRow rfl rfl rfl (by decide +kernel) ⟨Nat.le_of_ble_eq_true rfl, Nat.le_of_ble_eq_true rfl⟩) (kp_S kE_0 (fun _ _ _ => trivial) hK hP hD [] rfl (by decide)) rfl rfl hl.1 rfl (lv_room (Nat.le_of_ble_eq_true rfl)) dX4_repeat_1 ⟨Nat.le_of_ble_eq_true rfl, Nat.le_of_ble_eq_true rfl⟩) hP hD hS hA [] [0, 1, 2, 3] rfl rfl (by decide) (by decide) (fun rr uu H locs hw hP hD hS => ?_)
  subst hw
  have hP : va_P D vwCl [(g 0, .inr (4, [.int (nI (lg)), .int (nI (N)), .int (nI (rd)), .ref (g 1), .ref (g 2), .ref (g 3), .int (nI (len)), .int (nI (tk))])), (g 1, .inl (cI, 2048, .inl (nA (dd)))), (g 2, .inl (cI, 2, .inl (nA (ct)))), (g 3, .inl (cI, 2048, .inl (nA (pp))))] H := hP.sub [0, 1, 2, 3] rfl
  have hD : va_D A [(g 0, .inr (4, [.int (nI (lg)), .int (nI (N)), .int (nI (rd)), .ref (g 1), .ref (g 2), .ref (g 3), .int (nI (len)), .int (nI (tk))])), (g 1, .inl (cI, 2048, .inl (nA (dd)))), (g 2, .inl (cI, 2, .inl (nA (ct)))), (g 3, .inl (cI, 2048, .inl (nA (pp))))] := hD.sub [0, 1, 2, 3] (by decide) rfl
  refine kr_eq0 (tgt := 33) hx hb dX4_repeat_4 (by decide) (by omega) (fun hc => ?_) (fun hc => ?_)
  · exact absurd hc (by omega)
  · refine lv_iload_n hx hb dX4_repeat_7 rfl (lv_at hl 2 rfl) ?_
    by_cases hdg : ∃ v, v < 32768 ∧ x = nI v
    · obtain ⟨v, hv, rfl⟩ := hdg
      refine kc_i (wr := [(g 0, .inr (4, [.int (nI (lg)), .int (nI (N)), .int (nI (rd)), .ref (g 1), .ref (g 2), .ref (g 3), .int (nI (len)), .int (nI (tk))])), (g 1, .inl (cI, 2048, .inl (nA (dd)))), (g 2, .inl (cI, 2, .inl (nA (ct)))), (g 3, .inl (cI, 2048, .inl (nA (pp))))]) (va_runS (As := [.int (nI (v))]) (rest := []) hC0 (c_X4_isDigit l D cI cT H.size v hv) (va_cwS 1 hts gX4_repeat_X4_isDigit rfl rfl rfl (by decide +kernel) ⟨Nat.le_of_ble_eq_true rfl, Nat.le_of_ble_eq_true rfl⟩) (kp_S kE_0 (fun _ _ _ => trivial) hK hP hD [] rfl (by decide)) rfl rfl hl.1 rfl (lv_room (Nat.le_of_ble_eq_true rfl)) dX4_repeat_8 ⟨Nat.le_of_ble_eq_true rfl, Nat.le_of_ble_eq_true rfl⟩) hP hD hS hA [] [0, 1, 2, 3] rfl rfl (by decide) (by decide) (fun rr uu H locs hw hP hD hS => ?_)
      subst hw
      have hP : va_P D vwCl [(g 0, .inr (4, [.int (nI (lg)), .int (nI (N)), .int (nI (rd)), .ref (g 1), .ref (g 2), .ref (g 3), .int (nI (len)), .int (nI (tk))])), (g 1, .inl (cI, 2048, .inl (nA (dd)))), (g 2, .inl (cI, 2, .inl (nA (ct)))), (g 3, .inl (cI, 2048, .inl (nA (pp))))] H := hP.sub [0, 1, 2, 3] rfl
      have hD : va_D A [(g 0, .inr (4, [.int (nI (lg)), .int (nI (N)), .int (nI (rd)), .ref (g 1), .ref (g 2), .ref (g 3), .int (nI (len)), .int (nI (tk))])), (g 1, .inl (cI, 2048, .inl (nA (dd)))), (g 2, .inl (cI, 2, .inl (nA (ct)))), (g 3, .inl (cI, 2048, .inl (nA (pp))))] := hD.sub [0, 1, 2, 3] (by decide) rfl
      refine kr_eq0 (tgt := 33) hx hb dX4_repeat_11 (by decide) (by omega) (fun hc2 => ?_) (fun hc2 => ?_)
      · exact absurd hc2 (by decide)
      · refine lv_iload_n hx hb dX4_repeat_14 rfl (lv_at hl 3 rfl) ?_
        refine lv_if_lt (tgt := 33) hx hb dX4_repeat_15 (by decide) (fun hc3 => ?_) (fun hc3 => ?_)
        · refine lv_iconst (v := nI 0) hx hb dX4_repeat_33 (by decide) ?_
          exact kr_zret () hx hb hr hlk rfl hP hD hS rfl dX4_repeat_34
        · obtain ⟨c0, hc0, rfl⟩ := nI_of hc3
          refine lv_iload_n hx hb dX4_repeat_18 rfl (lv_at hl 3 rfl) ?_
          refine lv_aload_n hx hb dX4_repeat_19 rfl (lv_at hl 0 rfl) ?_
          refine va_get (D := D) (ci := 4) (v := .int (nI (N))) (C := RX4) (T := TX4) (N := 8) hx hb hts inX4_X4_repeat hown hK hP 0 rfl rfl 1 (by decide) (hts (.fieldLink RX4 23 "TransformProductModel" "n" "I") (by decide +kernel)) (fun _ h9 => h9) rfl dX4_repeat_20 ?_
          refine lv_aload_n hx hb dX4_repeat_23 rfl (lv_at hl 0 rfl) ?_
          refine va_get (D := D) (ci := 4) (v := .ref (g 2)) (C := RX4) (T := TX4) (N := 8) hx hb hts inX4_X4_repeat hown hK hP 0 rfl rfl 4 (by decide) (hts (.fieldLink RX4 13 "TransformProductModel" "counts" "[I") (by decide +kernel)) (fun _ h9 => h9) rfl dX4_repeat_24 ?_
          refine lv_iload_n hx hb dX4_repeat_27 rfl (lv_at hl 1 rfl) ?_
          refine kr_ld hx hb hK hP 2 0 rfl rfl (by omega) (by decide) dX4_repeat_28 ?_
          refine lv_isub hx hb dX4_repeat_29 ?_
          refine kr_i (pk_sub (by omega)) ?_
          refine kr_le (tgt := 35) hx hb dX4_repeat_30 (by decide) (by omega) (by omega) (fun hc4 => ?_) (fun hc4 => ?_)
          · exact absurd ⟨v, c0, rfl, hv, rfl, by omega⟩ hno
          · refine lv_iconst (v := nI 0) hx hb dX4_repeat_33 (by decide) ?_
            exact kr_zret () hx hb hr hlk rfl hP hD hS rfl dX4_repeat_34
    · refine kc_i (wr := [(g 0, .inr (4, [.int (nI (lg)), .int (nI (N)), .int (nI (rd)), .ref (g 1), .ref (g 2), .ref (g 3), .int (nI (len)), .int (nI (tk))])), (g 1, .inl (cI, 2048, .inl (nA (dd)))), (g 2, .inl (cI, 2, .inl (nA (ct)))), (g 3, .inl (cI, 2048, .inl (nA (pp))))]) (va_runS (As := [.int (x)]) (rest := []) hC0 (c_X4_isDigit_no l D cI cT H.size x hdg) (va_cwS 1 hts gX4_repeat_X4_isDigit rfl rfl rfl (by decide +kernel) ⟨Nat.le_of_ble_eq_true rfl, Nat.le_of_ble_eq_true rfl⟩) (kp_S kE_0 (fun _ _ _ => trivial) hK hP hD [] rfl (by decide)) rfl rfl hl.1 rfl (lv_room (Nat.le_of_ble_eq_true rfl)) dX4_repeat_8 ⟨Nat.le_of_ble_eq_true rfl, Nat.le_of_ble_eq_true rfl⟩) hP hD hS hA [] [0, 1, 2, 3] rfl rfl (by decide) (by decide) (fun rr uu H locs hw hP hD hS => ?_)
      subst hw
      have hP : va_P D vwCl [(g 0, .inr (4, [.int (nI (lg)), .int (nI (N)), .int (nI (rd)), .ref (g 1), .ref (g 2), .ref (g 3), .int (nI (len)), .int (nI (tk))])), (g 1, .inl (cI, 2048, .inl (nA (dd)))), (g 2, .inl (cI, 2, .inl (nA (ct)))), (g 3, .inl (cI, 2048, .inl (nA (pp))))] H := hP.sub [0, 1, 2, 3] rfl
      have hD : va_D A [(g 0, .inr (4, [.int (nI (lg)), .int (nI (N)), .int (nI (rd)), .ref (g 1), .ref (g 2), .ref (g 3), .int (nI (len)), .int (nI (tk))])), (g 1, .inl (cI, 2048, .inl (nA (dd)))), (g 2, .inl (cI, 2, .inl (nA (ct)))), (g 3, .inl (cI, 2048, .inl (nA (pp))))] := hD.sub [0, 1, 2, 3] (by decide) rfl
      refine kr_eq0 (tgt := 33) hx hb dX4_repeat_11 (by decide) (by omega) (fun hc2 => ?_) (fun hc2 => ?_)
      · refine lv_iconst (v := nI 0) hx hb dX4_repeat_33 (by decide) ?_
        exact kr_zret () hx hb hr hlk rfl hP hD hS rfl dX4_repeat_34
      · exact absurd rfl hc2
set_option maxHeartbeats 4000000 in
set_option maxRecDepth 100000 in
theorem c_X4_repeat_nr (l : Launch) (D : va_G) (cI cT : ClassId) (sz : Nat) (g : Nat → Nat) (lg N rd len tk : Nat) (dd ct pp : Nat → Nat) (wh x y : Int32) (h0 : ¬ wh = 0) (h1 : ¬ wh = nI 1) : kMi (S := Unit) l yX4_repeat wsX4_repeat { frames := 1, cells := 0, slots := 0, locals := 20 } D [(cI, .int), (cT, .object RX1)] [(g 0, .inr (4, [.int (nI (lg)), .int (nI (N)), .int (nI (rd)), .ref (g 1), .ref (g 2), .ref (g 3), .int (nI (len)), .int (nI (tk))])), (g 1, .inl (cI, 2048, .inl (nA (dd)))), (g 2, .inl (cI, 2, .inl (nA (ct)))), (g 3, .inl (cI, 2048, .inl (nA (pp))))] sz (fun _ => True) [.ref (g 0), .int (wh), .int (x), .int (y)] (fun r _ => r = nI 0) (fun _ => [(g 0, .inr (4, [.int (nI (lg)), .int (nI (N)), .int (nI (rd)), .ref (g 1), .ref (g 2), .ref (g 3), .int (nI (len)), .int (nI (tk))])), (g 1, .inl (cI, 2048, .inl (nA (dd)))), (g 2, .inl (cI, 2, .inl (nA (ct)))), (g 3, .inl (cI, 2048, .inl (nA (pp))))]) (0) (0) := by
  refine kM_of (Qc := fun A => va_Qi (S := Unit) (fun r _ => r = nI 0) (kB D A (fun _ => [(g 0, .inr (4, [.int (nI (lg)), .int (nI (N)), .int (nI (rd)), .ref (g 1), .ref (g 2), .ref (g 3), .int (nI (len)), .int (nI (tk))])), (g 1, .inl (cI, 2048, .inl (nA (dd)))), (g 2, .inl (cI, 2, .inl (nA (ct)))), (g 3, .inl (cI, 2048, .inl (nA (pp))))])) A) (cc := cX4_repeat) (maxL := 5) (ret := (some .boolean)) (by decide +kernel) rfl (Nat.le_of_ble_eq_true rfl) ?_
  intro p e s m below meth c A ls hC0 hr hlk hin hP hK hD hA hS hE hAe hsz hl
  obtain ⟨hx, hb, hml, hown, hts⟩ := id hC0
  have hl : lv_has ls 5 [(0, .ref (g 0)), (1, .int (wh)), (2, .int (x)), (3, .int (y))] := hl
  refine lv_iload_n hx hb dX4_repeat_0 rfl (lv_at hl 1 rfl) ?_
  refine kc_i (wr := [(g 0, .inr (4, [.int (nI (lg)), .int (nI (N)), .int (nI (rd)), .ref (g 1), .ref (g 2), .ref (g 3), .int (nI (len)), .int (nI (tk))])), (g 1, .inl (cI, 2048, .inl (nA (dd)))), (g 2, .inl (cI, 2, .inl (nA (ct)))), (g 3, .inl (cI, 2048, .inl (nA (pp))))]) (va_runS (As := [.int (wh)]) (rest := []) hC0 (c_X4_isRow_no l D cI cT s.heap.size wh h0 h1) (va_cwS 1 hts gX4_repeat_X4_isRow rfl rfl rfl (by decide +kernel) ⟨Nat.le_of_ble_eq_true rfl, Nat.le_of_ble_eq_true rfl⟩) (kp_S kE_0 (fun _ _ _ => trivial) hK hP hD [] rfl (by decide)) rfl rfl hl.1 rfl (lv_room (Nat.le_of_ble_eq_true rfl)) dX4_repeat_1 ⟨Nat.le_of_ble_eq_true rfl, Nat.le_of_ble_eq_true rfl⟩) hP hD hS hA [] [0, 1, 2, 3] rfl rfl (by decide) (by decide) (fun rr uu H locs hw hP hD hS => ?_)
  subst hw
  have hP : va_P D vwCl [(g 0, .inr (4, [.int (nI (lg)), .int (nI (N)), .int (nI (rd)), .ref (g 1), .ref (g 2), .ref (g 3), .int (nI (len)), .int (nI (tk))])), (g 1, .inl (cI, 2048, .inl (nA (dd)))), (g 2, .inl (cI, 2, .inl (nA (ct)))), (g 3, .inl (cI, 2048, .inl (nA (pp))))] H := hP.sub [0, 1, 2, 3] rfl
  have hD : va_D A [(g 0, .inr (4, [.int (nI (lg)), .int (nI (N)), .int (nI (rd)), .ref (g 1), .ref (g 2), .ref (g 3), .int (nI (len)), .int (nI (tk))])), (g 1, .inl (cI, 2048, .inl (nA (dd)))), (g 2, .inl (cI, 2, .inl (nA (ct)))), (g 3, .inl (cI, 2048, .inl (nA (pp))))] := hD.sub [0, 1, 2, 3] (by decide) rfl
  refine kr_eq0 (tgt := 33) hx hb dX4_repeat_4 (by decide) (by omega) (fun hc => ?_) (fun hc => ?_)
  · refine lv_iconst (v := nI 0) hx hb dX4_repeat_33 (by decide) ?_
    exact kr_zret () hx hb hr hlk rfl hP hD hS rfl dX4_repeat_34
  · exact absurd hc (by omega)
set_option maxHeartbeats 4000000 in
set_option maxRecDepth 100000 in
theorem c_X4_feedA (l : Launch) (D : va_G) (cI cT : ClassId) (sz : Nat) (g : Nat → Nat) (lg N rd len tk : Nat) (dd ct pp : Nat → Nat) (v : Nat) (hv : v < 32768) (hc0 : ct 0 + 1 ≤ N) (hN2 : N ≤ 1024) : kMi (S := Unit) l yX4_feedA wsX4_feedA { frames := 2, cells := 0, slots := 0, locals := 44 } D [(cI, .int), (cT, .object RX1)] [(g 0, .inr (4, [.int (nI (lg)), .int (nI (N)), .int (nI (rd)), .ref (g 1), .ref (g 2), .ref (g 3), .int (nI (len)), .int (nI (tk))])), (g 1, .inl (cI, 2048, .inl (nA (dd)))), (g 2, .inl (cI, 2, .inl (nA (ct)))), (g 3, .inl (cI, 2048, .inl (nA (pp))))] sz (fun _ => True) [.ref (g 0), .int (nI (v))] (fun r _ => r = nI 1) (fun _ => [(g 0, .inr (4, [.int (nI (lg)), .int (nI (N)), .int (nI (rd)), .ref (g 1), .ref (g 2), .ref (g 3), .int (nI (len)), .int (nI (tk))])), (g 1, .inl (cI, 2048, .inl (nA (flN dd (1024 * 0 + ct 0) v 1)))), (g 2, .inl (cI, 2, .inl (nA (va_up ct 0 (ct 0 + 1))))), (g 3, .inl (cI, 2048, .inl (nA (pp))))]) (0) (0) := by
  refine kM_of (Qc := fun A => va_Qi (S := Unit) (fun r _ => r = nI 1) (kB D A (fun _ => [(g 0, .inr (4, [.int (nI (lg)), .int (nI (N)), .int (nI (rd)), .ref (g 1), .ref (g 2), .ref (g 3), .int (nI (len)), .int (nI (tk))])), (g 1, .inl (cI, 2048, .inl (nA (flN dd (1024 * 0 + ct 0) v 1)))), (g 2, .inl (cI, 2, .inl (nA (va_up ct 0 (ct 0 + 1))))), (g 3, .inl (cI, 2048, .inl (nA (pp))))])) A) (cc := cX4_feedA) (maxL := 2) (ret := (some .boolean)) (by decide +kernel) rfl (Nat.le_of_ble_eq_true rfl) ?_
  intro p e s m below meth c A ls hC0 hr hlk hin hP hK hD hA hS hE hAe hsz hl
  obtain ⟨hx, hb, hml, hown, hts⟩ := id hC0
  have hl : lv_has ls 2 [(0, .ref (g 0)), (1, .int (nI (v)))] := hl
  refine lv_aload_n hx hb dX4_feedA_0 rfl (lv_at hl 0 rfl) ?_
  refine lv_iconst (v := nI 0) hx hb dX4_feedA_1 (by decide) ?_
  refine lv_iload_n hx hb dX4_feedA_2 rfl (lv_at hl 1 rfl) ?_
  refine lv_iconst (v := nI 1) hx hb dX4_feedA_3 (by decide) ?_
  refine kc_i (wr := []) (va_runV (As := [.int (nI (0)), .int (nI (v)), .int (nI (1))]) (rest := []) hC0 (c_X4_repeat l D cI cT s.heap.size g lg N rd len tk dd ct pp 0 v 1 (by decide) hv hc0 hN2) (cwV 3 hts gX4_feedA_X4_repeat rfl rfl rfl (by decide +kernel) ⟨Nat.le_of_ble_eq_true rfl, Nat.le_of_ble_eq_true rfl⟩) (kp_V (ci := 4) (k0 := 0) kE_0 (fun _ _ _ => trivial) hK hP hD [0, 1, 2, 3] rfl (by decide) rfl rfl) rfl rfl hl.1 rfl (lv_room (Nat.le_of_ble_eq_true rfl)) dX4_feedA_4 ⟨Nat.le_of_ble_eq_true rfl, Nat.le_of_ble_eq_true rfl⟩) hP hD hS hA [0, 1, 2, 3] [] rfl rfl (by decide) (by decide) (fun rr uu H locs hw hP hD hS => ?_)
  subst hw
  have hP : va_P D vwCl [(g 0, .inr (4, [.int (nI (lg)), .int (nI (N)), .int (nI (rd)), .ref (g 1), .ref (g 2), .ref (g 3), .int (nI (len)), .int (nI (tk))])), (g 1, .inl (cI, 2048, .inl (nA (flN dd (1024 * 0 + ct 0) v 1)))), (g 2, .inl (cI, 2, .inl (nA (va_up ct 0 (ct 0 + 1))))), (g 3, .inl (cI, 2048, .inl (nA (pp))))] H := hP.sub [0, 1, 2, 3] rfl
  have hD : va_D A [(g 0, .inr (4, [.int (nI (lg)), .int (nI (N)), .int (nI (rd)), .ref (g 1), .ref (g 2), .ref (g 3), .int (nI (len)), .int (nI (tk))])), (g 1, .inl (cI, 2048, .inl (nA (flN dd (1024 * 0 + ct 0) v 1)))), (g 2, .inl (cI, 2, .inl (nA (va_up ct 0 (ct 0 + 1))))), (g 3, .inl (cI, 2048, .inl (nA (pp))))] := hD.sub [0, 1, 2, 3] (by decide) rfl
  exact kr_zret () hx hb hr hlk rfl hP hD hS rfl dX4_feedA_7
set_option maxHeartbeats 4000000 in
set_option maxRecDepth 100000 in
theorem c_X4_feedA_no (l : Launch) (D : va_G) (cI cT : ClassId) (sz : Nat) (g : Nat → Nat) (lg N rd len tk : Nat) (dd ct pp : Nat → Nat) (x : Int32) (hu : ct 0 ≤ N) (hno : ¬ apOk N (ct 0) x (nI 1)) (hN2 : N ≤ 1024) : kMi (S := Unit) l yX4_feedA wsX4_feedA { frames := 2, cells := 0, slots := 0, locals := 44 } D [(cI, .int), (cT, .object RX1)] [(g 0, .inr (4, [.int (nI (lg)), .int (nI (N)), .int (nI (rd)), .ref (g 1), .ref (g 2), .ref (g 3), .int (nI (len)), .int (nI (tk))])), (g 1, .inl (cI, 2048, .inl (nA (dd)))), (g 2, .inl (cI, 2, .inl (nA (ct)))), (g 3, .inl (cI, 2048, .inl (nA (pp))))] sz (fun _ => True) [.ref (g 0), .int (x)] (fun r _ => r = nI 0) (fun _ => [(g 0, .inr (4, [.int (nI (lg)), .int (nI (N)), .int (nI (rd)), .ref (g 1), .ref (g 2), .ref (g 3), .int (nI (len)), .int (nI (tk))])), (g 1, .inl (cI, 2048, .inl (nA (dd)))), (g 2, .inl (cI, 2, .inl (nA (ct)))), (g 3, .inl (cI, 2048, .inl (nA (pp))))]) (0) (0) := by
  refine kM_of (Qc := fun A => va_Qi (S := Unit) (fun r _ => r = nI 0) (kB D A (fun _ => [(g 0, .inr (4, [.int (nI (lg)), .int (nI (N)), .int (nI (rd)), .ref (g 1), .ref (g 2), .ref (g 3), .int (nI (len)), .int (nI (tk))])), (g 1, .inl (cI, 2048, .inl (nA (dd)))), (g 2, .inl (cI, 2, .inl (nA (ct)))), (g 3, .inl (cI, 2048, .inl (nA (pp))))])) A) (cc := cX4_feedA) (maxL := 2) (ret := (some .boolean)) (by decide +kernel) rfl (Nat.le_of_ble_eq_true rfl) ?_
  intro p e s m below meth c A ls hC0 hr hlk hin hP hK hD hA hS hE hAe hsz hl
  obtain ⟨hx, hb, hml, hown, hts⟩ := id hC0
  have hl : lv_has ls 2 [(0, .ref (g 0)), (1, .int (x))] := hl
  refine lv_aload_n hx hb dX4_feedA_0 rfl (lv_at hl 0 rfl) ?_
  refine lv_iconst (v := nI 0) hx hb dX4_feedA_1 (by decide) ?_
  refine lv_iload_n hx hb dX4_feedA_2 rfl (lv_at hl 1 rfl) ?_
  refine lv_iconst (v := nI 1) hx hb dX4_feedA_3 (by decide) ?_
  refine kc_i (wr := []) (va_runV (As := [.int (nI (0)), .int (x), .int (nI (1))]) (rest := []) hC0 (c_X4_repeat_no l D cI cT s.heap.size g lg N rd len tk dd ct pp 0 x (nI 1) (by decide) hu hno hN2) (cwV 3 hts gX4_feedA_X4_repeat rfl rfl rfl (by decide +kernel) ⟨Nat.le_of_ble_eq_true rfl, Nat.le_of_ble_eq_true rfl⟩) (kp_V (ci := 4) (k0 := 0) kE_0 (fun _ _ _ => trivial) hK hP hD [0, 1, 2, 3] rfl (by decide) rfl rfl) rfl rfl hl.1 rfl (lv_room (Nat.le_of_ble_eq_true rfl)) dX4_feedA_4 ⟨Nat.le_of_ble_eq_true rfl, Nat.le_of_ble_eq_true rfl⟩) hP hD hS hA [0, 1, 2, 3] [] rfl rfl (by decide) (by decide) (fun rr uu H locs hw hP hD hS => ?_)
  subst hw
  have hP : va_P D vwCl [(g 0, .inr (4, [.int (nI (lg)), .int (nI (N)), .int (nI (rd)), .ref (g 1), .ref (g 2), .ref (g 3), .int (nI (len)), .int (nI (tk))])), (g 1, .inl (cI, 2048, .inl (nA (dd)))), (g 2, .inl (cI, 2, .inl (nA (ct)))), (g 3, .inl (cI, 2048, .inl (nA (pp))))] H := hP.sub [0, 1, 2, 3] rfl
  have hD : va_D A [(g 0, .inr (4, [.int (nI (lg)), .int (nI (N)), .int (nI (rd)), .ref (g 1), .ref (g 2), .ref (g 3), .int (nI (len)), .int (nI (tk))])), (g 1, .inl (cI, 2048, .inl (nA (dd)))), (g 2, .inl (cI, 2, .inl (nA (ct)))), (g 3, .inl (cI, 2048, .inl (nA (pp))))] := hD.sub [0, 1, 2, 3] (by decide) rfl
  exact kr_zret () hx hb hr hlk rfl hP hD hS rfl dX4_feedA_7
set_option maxHeartbeats 4000000 in
set_option maxRecDepth 100000 in
theorem c_X4_feedB (l : Launch) (D : va_G) (cI cT : ClassId) (sz : Nat) (g : Nat → Nat) (lg N rd len tk : Nat) (dd ct pp : Nat → Nat) (v : Nat) (hv : v < 32768) (hc0 : ct 1 + 1 ≤ N) (hN2 : N ≤ 1024) : kMi (S := Unit) l yX4_feedB wsX4_feedB { frames := 2, cells := 0, slots := 0, locals := 44 } D [(cI, .int), (cT, .object RX1)] [(g 0, .inr (4, [.int (nI (lg)), .int (nI (N)), .int (nI (rd)), .ref (g 1), .ref (g 2), .ref (g 3), .int (nI (len)), .int (nI (tk))])), (g 1, .inl (cI, 2048, .inl (nA (dd)))), (g 2, .inl (cI, 2, .inl (nA (ct)))), (g 3, .inl (cI, 2048, .inl (nA (pp))))] sz (fun _ => True) [.ref (g 0), .int (nI (v))] (fun r _ => r = nI 1) (fun _ => [(g 0, .inr (4, [.int (nI (lg)), .int (nI (N)), .int (nI (rd)), .ref (g 1), .ref (g 2), .ref (g 3), .int (nI (len)), .int (nI (tk))])), (g 1, .inl (cI, 2048, .inl (nA (flN dd (1024 * 1 + ct 1) v 1)))), (g 2, .inl (cI, 2, .inl (nA (va_up ct 1 (ct 1 + 1))))), (g 3, .inl (cI, 2048, .inl (nA (pp))))]) (0) (0) := by
  refine kM_of (Qc := fun A => va_Qi (S := Unit) (fun r _ => r = nI 1) (kB D A (fun _ => [(g 0, .inr (4, [.int (nI (lg)), .int (nI (N)), .int (nI (rd)), .ref (g 1), .ref (g 2), .ref (g 3), .int (nI (len)), .int (nI (tk))])), (g 1, .inl (cI, 2048, .inl (nA (flN dd (1024 * 1 + ct 1) v 1)))), (g 2, .inl (cI, 2, .inl (nA (va_up ct 1 (ct 1 + 1))))), (g 3, .inl (cI, 2048, .inl (nA (pp))))])) A) (cc := cX4_feedB) (maxL := 2) (ret := (some .boolean)) (by decide +kernel) rfl (Nat.le_of_ble_eq_true rfl) ?_
  intro p e s m below meth c A ls hC0 hr hlk hin hP hK hD hA hS hE hAe hsz hl
  obtain ⟨hx, hb, hml, hown, hts⟩ := id hC0
  have hl : lv_has ls 2 [(0, .ref (g 0)), (1, .int (nI (v)))] := hl
  refine lv_aload_n hx hb dX4_feedB_0 rfl (lv_at hl 0 rfl) ?_
  refine lv_iconst (v := nI 1) hx hb dX4_feedB_1 (by decide) ?_
  refine lv_iload_n hx hb dX4_feedB_2 rfl (lv_at hl 1 rfl) ?_
  refine lv_iconst (v := nI 1) hx hb dX4_feedB_3 (by decide) ?_
  refine kc_i (wr := []) (va_runV (As := [.int (nI (1)), .int (nI (v)), .int (nI (1))]) (rest := []) hC0 (c_X4_repeat l D cI cT s.heap.size g lg N rd len tk dd ct pp 1 v 1 (by decide) hv hc0 hN2) (cwV 3 hts gX4_feedB_X4_repeat rfl rfl rfl (by decide +kernel) ⟨Nat.le_of_ble_eq_true rfl, Nat.le_of_ble_eq_true rfl⟩) (kp_V (ci := 4) (k0 := 0) kE_0 (fun _ _ _ => trivial) hK hP hD [0, 1, 2, 3] rfl (by decide) rfl rfl) rfl rfl hl.1 rfl (lv_room (Nat.le_of_ble_eq_true rfl)) dX4_feedB_4 ⟨Nat.le_of_ble_eq_true rfl, Nat.le_of_ble_eq_true rfl⟩) hP hD hS hA [0, 1, 2, 3] [] rfl rfl (by decide) (by decide) (fun rr uu H locs hw hP hD hS => ?_)
  subst hw
  have hP : va_P D vwCl [(g 0, .inr (4, [.int (nI (lg)), .int (nI (N)), .int (nI (rd)), .ref (g 1), .ref (g 2), .ref (g 3), .int (nI (len)), .int (nI (tk))])), (g 1, .inl (cI, 2048, .inl (nA (flN dd (1024 * 1 + ct 1) v 1)))), (g 2, .inl (cI, 2, .inl (nA (va_up ct 1 (ct 1 + 1))))), (g 3, .inl (cI, 2048, .inl (nA (pp))))] H := hP.sub [0, 1, 2, 3] rfl
  have hD : va_D A [(g 0, .inr (4, [.int (nI (lg)), .int (nI (N)), .int (nI (rd)), .ref (g 1), .ref (g 2), .ref (g 3), .int (nI (len)), .int (nI (tk))])), (g 1, .inl (cI, 2048, .inl (nA (flN dd (1024 * 1 + ct 1) v 1)))), (g 2, .inl (cI, 2, .inl (nA (va_up ct 1 (ct 1 + 1))))), (g 3, .inl (cI, 2048, .inl (nA (pp))))] := hD.sub [0, 1, 2, 3] (by decide) rfl
  exact kr_zret () hx hb hr hlk rfl hP hD hS rfl dX4_feedB_7
set_option maxHeartbeats 4000000 in
set_option maxRecDepth 100000 in
theorem c_X4_feedB_no (l : Launch) (D : va_G) (cI cT : ClassId) (sz : Nat) (g : Nat → Nat) (lg N rd len tk : Nat) (dd ct pp : Nat → Nat) (x : Int32) (hu : ct 1 ≤ N) (hno : ¬ apOk N (ct 1) x (nI 1)) (hN2 : N ≤ 1024) : kMi (S := Unit) l yX4_feedB wsX4_feedB { frames := 2, cells := 0, slots := 0, locals := 44 } D [(cI, .int), (cT, .object RX1)] [(g 0, .inr (4, [.int (nI (lg)), .int (nI (N)), .int (nI (rd)), .ref (g 1), .ref (g 2), .ref (g 3), .int (nI (len)), .int (nI (tk))])), (g 1, .inl (cI, 2048, .inl (nA (dd)))), (g 2, .inl (cI, 2, .inl (nA (ct)))), (g 3, .inl (cI, 2048, .inl (nA (pp))))] sz (fun _ => True) [.ref (g 0), .int (x)] (fun r _ => r = nI 0) (fun _ => [(g 0, .inr (4, [.int (nI (lg)), .int (nI (N)), .int (nI (rd)), .ref (g 1), .ref (g 2), .ref (g 3), .int (nI (len)), .int (nI (tk))])), (g 1, .inl (cI, 2048, .inl (nA (dd)))), (g 2, .inl (cI, 2, .inl (nA (ct)))), (g 3, .inl (cI, 2048, .inl (nA (pp))))]) (0) (0) := by
  refine kM_of (Qc := fun A => va_Qi (S := Unit) (fun r _ => r = nI 0) (kB D A (fun _ => [(g 0, .inr (4, [.int (nI (lg)), .int (nI (N)), .int (nI (rd)), .ref (g 1), .ref (g 2), .ref (g 3), .int (nI (len)), .int (nI (tk))])), (g 1, .inl (cI, 2048, .inl (nA (dd)))), (g 2, .inl (cI, 2, .inl (nA (ct)))), (g 3, .inl (cI, 2048, .inl (nA (pp))))])) A) (cc := cX4_feedB) (maxL := 2) (ret := (some .boolean)) (by decide +kernel) rfl (Nat.le_of_ble_eq_true rfl) ?_
  intro p e s m below meth c A ls hC0 hr hlk hin hP hK hD hA hS hE hAe hsz hl
  obtain ⟨hx, hb, hml, hown, hts⟩ := id hC0
  have hl : lv_has ls 2 [(0, .ref (g 0)), (1, .int (x))] := hl
  refine lv_aload_n hx hb dX4_feedB_0 rfl (lv_at hl 0 rfl) ?_
  refine lv_iconst (v := nI 1) hx hb dX4_feedB_1 (by decide) ?_
  refine lv_iload_n hx hb dX4_feedB_2 rfl (lv_at hl 1 rfl) ?_
  refine lv_iconst (v := nI 1) hx hb dX4_feedB_3 (by decide) ?_
  refine kc_i (wr := []) (va_runV (As := [.int (nI (1)), .int (x), .int (nI (1))]) (rest := []) hC0 (c_X4_repeat_no l D cI cT s.heap.size g lg N rd len tk dd ct pp 1 x (nI 1) (by decide) hu hno hN2) (cwV 3 hts gX4_feedB_X4_repeat rfl rfl rfl (by decide +kernel) ⟨Nat.le_of_ble_eq_true rfl, Nat.le_of_ble_eq_true rfl⟩) (kp_V (ci := 4) (k0 := 0) kE_0 (fun _ _ _ => trivial) hK hP hD [0, 1, 2, 3] rfl (by decide) rfl rfl) rfl rfl hl.1 rfl (lv_room (Nat.le_of_ble_eq_true rfl)) dX4_feedB_4 ⟨Nat.le_of_ble_eq_true rfl, Nat.le_of_ble_eq_true rfl⟩) hP hD hS hA [0, 1, 2, 3] [] rfl rfl (by decide) (by decide) (fun rr uu H locs hw hP hD hS => ?_)
  subst hw
  have hP : va_P D vwCl [(g 0, .inr (4, [.int (nI (lg)), .int (nI (N)), .int (nI (rd)), .ref (g 1), .ref (g 2), .ref (g 3), .int (nI (len)), .int (nI (tk))])), (g 1, .inl (cI, 2048, .inl (nA (dd)))), (g 2, .inl (cI, 2, .inl (nA (ct)))), (g 3, .inl (cI, 2048, .inl (nA (pp))))] H := hP.sub [0, 1, 2, 3] rfl
  have hD : va_D A [(g 0, .inr (4, [.int (nI (lg)), .int (nI (N)), .int (nI (rd)), .ref (g 1), .ref (g 2), .ref (g 3), .int (nI (len)), .int (nI (tk))])), (g 1, .inl (cI, 2048, .inl (nA (dd)))), (g 2, .inl (cI, 2, .inl (nA (ct)))), (g 3, .inl (cI, 2048, .inl (nA (pp))))] := hD.sub [0, 1, 2, 3] (by decide) rfl
  exact kr_zret () hx hb hr hlk rfl hP hD hS rfl dX4_feedB_7
set_option maxHeartbeats 4000000 in
set_option maxRecDepth 100000 in
theorem lp_trm {p : Program} {l : Launch} {e : Env} {R : Room} {s : State} {m : MethodId} {args : Array Value} {below : List Frame} {meth : Method} {c : Code} {cells slots : Nat} {Q : State → Prop} {A : Nat → Prop} {H0 : Heap} {D : va_G} {cI cT : ClassId} (g : Nat → Nat) (lg N rd n0 tk : Nat) (dd ct pp : Nat → Nat) (res : Nat) (hC0 : CallFix p m c cX4_trim 1 s args wsX4_trim RX4) (hK : va_K D vwCl [(cI, .int), (cT, .object RX1)] s)  (hf : ∀ i, i < n0 → pp i < 2 ^ 31) (hn0 : n0 ≤ 2048)
    (kk : ∀ (j : Nat) (H : Heap) (locs : List Loc) (ls : Array Slot), j = res → va_P D vwCl [(g 0, .inr (4, [.int (nI (lg)), .int (nI (N)), .int (nI (rd)), .ref (g 1), .ref (g 2), .ref (g 3), .int (nI (j)), .int (nI (tk))])), (g 1, .inl (cI, 2048, .inl (nA (dd)))), (g 2, .inl (cI, 2, .inl (nA (ct)))), (g 3, .inl (cI, 2048, .inl (nA (pp))))] H → va_D A [(g 0, .inr (4, [.int (nI (lg)), .int (nI (N)), .int (nI (rd)), .ref (g 1), .ref (g 2), .ref (g 3), .int (nI (j)), .int (nI (tk))])), (g 1, .inl (cI, 2048, .inl (nA (dd)))), (g 2, .inl (cI, 2, .inl (nA (ct)))), (g 3, .inl (cI, 2048, .inl (nA (pp))))] → va_S A H0 H locs → lv_has ls 1 [(0, .ref (g 0))] → W p l e R s m args below meth c H locs cells slots Q (F0 m 34 ls [])) :
    ∀ (k : Nat)  (H : Heap) (locs : List Loc) (ls : Array Slot), trN pp k = res → k ≤ n0 → va_P D vwCl [(g 0, .inr (4, [.int (nI (lg)), .int (nI (N)), .int (nI (rd)), .ref (g 1), .ref (g 2), .ref (g 3), .int (nI (k)), .int (nI (tk))])), (g 1, .inl (cI, 2048, .inl (nA (dd)))), (g 2, .inl (cI, 2, .inl (nA (ct)))), (g 3, .inl (cI, 2048, .inl (nA (pp))))] H → va_D A [(g 0, .inr (4, [.int (nI (lg)), .int (nI (N)), .int (nI (rd)), .ref (g 1), .ref (g 2), .ref (g 3), .int (nI (k)), .int (nI (tk))])), (g 1, .inl (cI, 2048, .inl (nA (dd)))), (g 2, .inl (cI, 2, .inl (nA (ct)))), (g 3, .inl (cI, 2048, .inl (nA (pp))))] → va_S A H0 H locs → lv_has ls 1 [(0, .ref (g 0))] → W p l e R s m args below meth c H locs cells slots Q (F0 m 0 ls []) := by
  obtain ⟨hx, hb, hml, hown, hts⟩ := id hC0
  intro k
  induction k with
  | zero =>
    intro  H locs ls hI hk hP hD hS hl
    refine lv_aload_n hx hb dX4_trim_0 rfl (lv_at hl 0 rfl) ?_
    refine va_get (D := D) (ci := 4) (v := .int (nI (0))) (C := RX4) (T := TX4) (N := 8) hx hb hts inX4_X4_trim hown hK hP 0 rfl rfl 6 (by decide) (hts (.fieldLink RX4 30 "TransformProductModel" "length" "I") (by decide +kernel)) (fun _ h9 => h9) rfl dX4_trim_1 ?_
    refine kr_le0 (tgt := 34) hx hb dX4_trim_4 (by decide) (by omega) (fun hc => ?_) (fun hc => ?_)
    · exact kk 0 H locs ls hI hP hD hS hl
    · exact absurd hc (by decide)
  | succ k ih =>
    intro  H locs ls hI hk hP hD hS hl
    have b1 : pp k < 2 ^ 31 := hf k (by omega)
    refine lv_aload_n hx hb dX4_trim_0 rfl (lv_at hl 0 rfl) ?_
    refine va_get (D := D) (ci := 4) (v := .int (nI ((k + 1)))) (C := RX4) (T := TX4) (N := 8) hx hb hts inX4_X4_trim hown hK hP 0 rfl rfl 6 (by decide) (hts (.fieldLink RX4 30 "TransformProductModel" "length" "I") (by decide +kernel)) (fun _ h9 => h9) rfl dX4_trim_1 ?_
    refine kr_le0 (tgt := 34) hx hb dX4_trim_4 (by decide) (by omega) (fun hc => ?_) (fun hc => ?_)
    · exact absurd hc (by omega)
    · refine lv_aload_n hx hb dX4_trim_7 rfl (lv_at hl 0 rfl) ?_
      refine va_get (D := D) (ci := 4) (v := .ref (g 3)) (C := RX4) (T := TX4) (N := 8) hx hb hts inX4_X4_trim hown hK hP 0 rfl rfl 5 (by decide) (hts (.fieldLink RX4 16 "TransformProductModel" "product" "[I") (by decide +kernel)) (fun _ h9 => h9) rfl dX4_trim_8 ?_
      refine lv_aload_n hx hb dX4_trim_11 rfl (lv_at hl 0 rfl) ?_
      refine va_get (D := D) (ci := 4) (v := .int (nI ((k + 1)))) (C := RX4) (T := TX4) (N := 8) hx hb hts inX4_X4_trim hown hK hP 0 rfl rfl 6 (by decide) (hts (.fieldLink RX4 30 "TransformProductModel" "length" "I") (by decide +kernel)) (fun _ h9 => h9) rfl dX4_trim_12 ?_
      refine lv_iconst (v := nI 1) hx hb dX4_trim_15 (by decide) ?_
      refine lv_isub hx hb dX4_trim_16 ?_
      refine kr_i (pk_sub (by omega)) ?_
      refine kr_i (congrArg nI (show ((k + 1)) - 1 = k from Nat.add_sub_cancel k 1)) ?_
      refine kr_ld hx hb hK hP 3 0 rfl rfl (by omega) (by decide) dX4_trim_17 ?_
      refine kr_ne0 (tgt := 34) hx hb dX4_trim_18 (by decide) b1 (fun hz => ?_) (fun hz => ?_)
      · exact kk (k + 1) H locs ls (by rw [← hI, trN_n hz]) hP hD hS hl
      · refine lv_aload_n hx hb dX4_trim_21 rfl (lv_at hl 0 rfl) ?_
        refine lv_dup hx hb dX4_trim_22 rfl ?_
        refine va_get (D := D) (ci := 4) (v := .int (nI ((k + 1)))) (C := RX4) (T := TX4) (N := 8) hx hb hts inX4_X4_trim hown hK hP 0 rfl rfl 6 (by decide) (hts (.fieldLink RX4 30 "TransformProductModel" "length" "I") (by decide +kernel)) (fun _ h9 => h9) rfl dX4_trim_23 ?_
        refine lv_iconst (v := nI 1) hx hb dX4_trim_26 (by decide) ?_
        refine lv_isub hx hb dX4_trim_27 ?_
        refine kr_i (pk_sub (by omega)) ?_
        refine kr_i (congrArg nI (show ((k + 1)) - 1 = k from Nat.add_sub_cancel k 1)) ?_
        refine va_put (D := D) (ci := 4) (v := .int (nI (k))) (ty := .int) (C := RX4) (T := TX4) (N := 8) hx hb hts inX4_X4_trim tyX4 tyX4_ok nmX4 hown hK hP hD hS 0 rfl rfl 6 (by decide) (hts (.fieldLink RX4 30 "TransformProductModel" "length" "I") (by decide +kernel)) (fun _ h9 => h9) rfl (by decide +kernel) rfl rfl (Nat.le_of_ble_eq_true rfl) dX4_trim_28 (fun H locs hP hD hS => ?_)
        have hP : va_P D vwCl [(g 0, .inr (4, [.int (nI (lg)), .int (nI (N)), .int (nI (rd)), .ref (g 1), .ref (g 2), .ref (g 3), .int (nI (k)), .int (nI (tk))])), (g 1, .inl (cI, 2048, .inl (nA (dd)))), (g 2, .inl (cI, 2, .inl (nA (ct)))), (g 3, .inl (cI, 2048, .inl (nA (pp))))] H := hP
        have hD : va_D A [(g 0, .inr (4, [.int (nI (lg)), .int (nI (N)), .int (nI (rd)), .ref (g 1), .ref (g 2), .ref (g 3), .int (nI (k)), .int (nI (tk))])), (g 1, .inl (cI, 2048, .inl (nA (dd)))), (g 2, .inl (cI, 2, .inl (nA (ct)))), (g 3, .inl (cI, 2048, .inl (nA (pp))))] := hD
        refine lv_goto (tgt := 0) hx hb dX4_trim_31 (by decide) ?_
        exact ih H locs ls (by rw [← hI, trN_z hz]) (by omega) hP hD hS hl
set_option maxHeartbeats 4000000 in
set_option maxRecDepth 100000 in
theorem c_X4_trim (l : Launch) (D : va_G) (cI cT : ClassId) (sz : Nat) (g : Nat → Nat) (lg N rd len tk : Nat) (dd ct pp : Nat → Nat) (hf : ∀ i, i < len → pp i < 2 ^ 31) (hn0 : len ≤ 2048) : kMv (S := Unit) l yX4_trim wsX4_trim { frames := 0, cells := 0, slots := 0, locals := 0 } D [(cI, .int), (cT, .object RX1)] [(g 0, .inr (4, [.int (nI (lg)), .int (nI (N)), .int (nI (rd)), .ref (g 1), .ref (g 2), .ref (g 3), .int (nI (len)), .int (nI (tk))])), (g 1, .inl (cI, 2048, .inl (nA (dd)))), (g 2, .inl (cI, 2, .inl (nA (ct)))), (g 3, .inl (cI, 2048, .inl (nA (pp))))] sz (fun _ => True) [.ref (g 0)] (fun _ => True) (fun _ => [(g 0, .inr (4, [.int (nI (lg)), .int (nI (N)), .int (nI (rd)), .ref (g 1), .ref (g 2), .ref (g 3), .int (nI (trN pp len)), .int (nI (tk))])), (g 1, .inl (cI, 2048, .inl (nA (dd)))), (g 2, .inl (cI, 2, .inl (nA (ct)))), (g 3, .inl (cI, 2048, .inl (nA (pp))))]) (0) (0) := by
  refine kM_of (Qc := fun A => va_Qv (S := Unit) (fun _ => True) (kB D A (fun _ => [(g 0, .inr (4, [.int (nI (lg)), .int (nI (N)), .int (nI (rd)), .ref (g 1), .ref (g 2), .ref (g 3), .int (nI (trN pp len)), .int (nI (tk))])), (g 1, .inl (cI, 2048, .inl (nA (dd)))), (g 2, .inl (cI, 2, .inl (nA (ct)))), (g 3, .inl (cI, 2048, .inl (nA (pp))))])) A) (cc := cX4_trim) (maxL := 1) (ret := none) (by decide +kernel) rfl (Nat.le_of_ble_eq_true rfl) ?_
  intro p e s m below meth c A ls hC0 hr hlk hin hP hK hD hA hS hE hAe hsz hl
  obtain ⟨hx, hb, hml, hown, hts⟩ := id hC0
  have hl : lv_has ls 1 [(0, .ref (g 0))] := hl
  refine lp_trm g lg N rd len tk dd ct pp (trN pp len) hC0 hK hf hn0 (fun j H locs ls hI hP hD hS hl => ?_) len s.heap [] ls rfl (Nat.le_refl _) hP hD hS (lv_sub hl [0] rfl)
  rw [hI] at hP hD
  exact kr_vret () hx hb hr hlk hP hD hS trivial dX4_trim_34
set_option maxHeartbeats 4000000 in
set_option maxRecDepth 100000 in
theorem c_X4_length (l : Launch) (D : va_G) (cI cT : ClassId) (sz : Nat) (g : Nat → Nat) (lg N rd len tk : Nat) (dd ct pp : Nat → Nat) : kMi (S := Unit) l yX4_length wsX4_length { frames := 0, cells := 0, slots := 0, locals := 0 } D [(cI, .int), (cT, .object RX1)] [(g 0, .inr (4, [.int (nI (lg)), .int (nI (N)), .int (nI (rd)), .ref (g 1), .ref (g 2), .ref (g 3), .int (nI (len)), .int (nI (tk))])), (g 1, .inl (cI, 2048, .inl (nA (dd)))), (g 2, .inl (cI, 2, .inl (nA (ct)))), (g 3, .inl (cI, 2048, .inl (nA (pp))))] sz (fun _ => True) [.ref (g 0)] (fun r _ => r = nI len) (fun _ => [(g 0, .inr (4, [.int (nI (lg)), .int (nI (N)), .int (nI (rd)), .ref (g 1), .ref (g 2), .ref (g 3), .int (nI (len)), .int (nI (tk))])), (g 1, .inl (cI, 2048, .inl (nA (dd)))), (g 2, .inl (cI, 2, .inl (nA (ct)))), (g 3, .inl (cI, 2048, .inl (nA (pp))))]) (0) (0) := by
  refine kM_of (Qc := fun A => va_Qi (S := Unit) (fun r _ => r = nI len) (kB D A (fun _ => [(g 0, .inr (4, [.int (nI (lg)), .int (nI (N)), .int (nI (rd)), .ref (g 1), .ref (g 2), .ref (g 3), .int (nI (len)), .int (nI (tk))])), (g 1, .inl (cI, 2048, .inl (nA (dd)))), (g 2, .inl (cI, 2, .inl (nA (ct)))), (g 3, .inl (cI, 2048, .inl (nA (pp))))])) A) (cc := cX4_length) (maxL := 1) (ret := (some .int)) (by decide +kernel) rfl (Nat.le_of_ble_eq_true rfl) ?_
  intro p e s m below meth c A ls hC0 hr hlk hin hP hK hD hA hS hE hAe hsz hl
  obtain ⟨hx, hb, hml, hown, hts⟩ := id hC0
  have hl : lv_has ls 1 [(0, .ref (g 0))] := hl
  refine lv_aload_n hx hb dX4_length_0 rfl (lv_at hl 0 rfl) ?_
  refine va_get (D := D) (ci := 4) (v := .int (nI (len))) (C := RX4) (T := TX4) (N := 8) hx hb hts inX4_X4_length hown hK hP 0 rfl rfl 6 (by decide) (hts (.fieldLink RX4 30 "TransformProductModel" "length" "I") (by decide +kernel)) (fun _ h9 => h9) rfl dX4_length_1 ?_
  exact kr_iret () hx hb hr hlk hP hD hS rfl dX4_length_4
set_option maxHeartbeats 4000000 in
set_option maxRecDepth 100000 in
theorem c_X4_butterflies (l : Launch) (D : va_G) (cI cT : ClassId) (sz : Nat) (g : Nat → Nat) (lg N rd len tk : Nat) (dd ct pp : Nat → Nat) : kMi (S := Unit) l yX4_butterflies wsX4_butterflies { frames := 0, cells := 0, slots := 0, locals := 0 } D [(cI, .int), (cT, .object RX1)] [(g 0, .inr (4, [.int (nI (lg)), .int (nI (N)), .int (nI (rd)), .ref (g 1), .ref (g 2), .ref (g 3), .int (nI (len)), .int (nI (tk))])), (g 1, .inl (cI, 2048, .inl (nA (dd)))), (g 2, .inl (cI, 2, .inl (nA (ct)))), (g 3, .inl (cI, 2048, .inl (nA (pp))))] sz (fun _ => True) [.ref (g 0)] (fun r _ => r = nI tk) (fun _ => [(g 0, .inr (4, [.int (nI (lg)), .int (nI (N)), .int (nI (rd)), .ref (g 1), .ref (g 2), .ref (g 3), .int (nI (len)), .int (nI (tk))])), (g 1, .inl (cI, 2048, .inl (nA (dd)))), (g 2, .inl (cI, 2, .inl (nA (ct)))), (g 3, .inl (cI, 2048, .inl (nA (pp))))]) (0) (0) := by
  refine kM_of (Qc := fun A => va_Qi (S := Unit) (fun r _ => r = nI tk) (kB D A (fun _ => [(g 0, .inr (4, [.int (nI (lg)), .int (nI (N)), .int (nI (rd)), .ref (g 1), .ref (g 2), .ref (g 3), .int (nI (len)), .int (nI (tk))])), (g 1, .inl (cI, 2048, .inl (nA (dd)))), (g 2, .inl (cI, 2, .inl (nA (ct)))), (g 3, .inl (cI, 2048, .inl (nA (pp))))])) A) (cc := cX4_butterflies) (maxL := 1) (ret := (some .int)) (by decide +kernel) rfl (Nat.le_of_ble_eq_true rfl) ?_
  intro p e s m below meth c A ls hC0 hr hlk hin hP hK hD hA hS hE hAe hsz hl
  obtain ⟨hx, hb, hml, hown, hts⟩ := id hC0
  have hl : lv_has ls 1 [(0, .ref (g 0))] := hl
  refine lv_aload_n hx hb dX4_butterflies_0 rfl (lv_at hl 0 rfl) ?_
  refine va_get (D := D) (ci := 4) (v := .int (nI (tk))) (C := RX4) (T := TX4) (N := 8) hx hb hts inX4_X4_butterflies hown hK hP 0 rfl rfl 7 (by decide) (hts (.fieldLink RX4 33 "TransformProductModel" "taken" "I") (by decide +kernel)) (fun _ h9 => h9) rfl dX4_butterflies_1 ?_
  exact kr_iret () hx hb hr hlk hP hD hS rfl dX4_butterflies_4
set_option maxHeartbeats 4000000 in
set_option maxRecDepth 100000 in
theorem c_X4_digit (l : Launch) (D : va_G) (cI cT : ClassId) (sz : Nat) (g : Nat → Nat) (lg N rd len tk : Nat) (dd ct pp : Nat → Nat) (i : Nat) (hi : i < len) (hl2 : len ≤ 1024) : kMi (S := Unit) l yX4_digit wsX4_digit { frames := 0, cells := 0, slots := 0, locals := 0 } D [(cI, .int), (cT, .object RX1)] [(g 0, .inr (4, [.int (nI (lg)), .int (nI (N)), .int (nI (rd)), .ref (g 1), .ref (g 2), .ref (g 3), .int (nI (len)), .int (nI (tk))])), (g 1, .inl (cI, 2048, .inl (nA (dd)))), (g 2, .inl (cI, 2, .inl (nA (ct)))), (g 3, .inl (cI, 2048, .inl (nA (pp))))] sz (fun _ => True) [.ref (g 0), .int (nI (i))] (fun r _ => r = nI (pp i)) (fun _ => [(g 0, .inr (4, [.int (nI (lg)), .int (nI (N)), .int (nI (rd)), .ref (g 1), .ref (g 2), .ref (g 3), .int (nI (len)), .int (nI (tk))])), (g 1, .inl (cI, 2048, .inl (nA (dd)))), (g 2, .inl (cI, 2, .inl (nA (ct)))), (g 3, .inl (cI, 2048, .inl (nA (pp))))]) (0) (0) := by
  refine kM_of (Qc := fun A => va_Qi (S := Unit) (fun r _ => r = nI (pp i)) (kB D A (fun _ => [(g 0, .inr (4, [.int (nI (lg)), .int (nI (N)), .int (nI (rd)), .ref (g 1), .ref (g 2), .ref (g 3), .int (nI (len)), .int (nI (tk))])), (g 1, .inl (cI, 2048, .inl (nA (dd)))), (g 2, .inl (cI, 2, .inl (nA (ct)))), (g 3, .inl (cI, 2048, .inl (nA (pp))))])) A) (cc := cX4_digit) (maxL := 2) (ret := (some .int)) (by decide +kernel) rfl (Nat.le_of_ble_eq_true rfl) ?_
  intro p e s m below meth c A ls hC0 hr hlk hin hP hK hD hA hS hE hAe hsz hl
  obtain ⟨hx, hb, hml, hown, hts⟩ := id hC0
  have hl : lv_has ls 2 [(0, .ref (g 0)), (1, .int (nI (i)))] := hl
  refine lv_iload_n hx hb dX4_digit_0 rfl (lv_at hl 1 rfl) ?_
  refine kr_lt0 (tgt := 21) hx hb dX4_digit_1 (by decide) (by omega) ?_
  refine lv_iload_n hx hb dX4_digit_4 rfl (lv_at hl 1 rfl) ?_
  refine lv_aload_n hx hb dX4_digit_5 rfl (lv_at hl 0 rfl) ?_
  refine va_get (D := D) (ci := 4) (v := .int (nI (len))) (C := RX4) (T := TX4) (N := 8) hx hb hts inX4_X4_digit hown hK hP 0 rfl rfl 6 (by decide) (hts (.fieldLink RX4 30 "TransformProductModel" "length" "I") (by decide +kernel)) (fun _ h9 => h9) rfl dX4_digit_6 ?_
  refine kr_ge (tgt := 21) hx hb dX4_digit_9 (by decide) (by omega) (by omega) (fun hc => ?_) (fun hc => ?_)
  · exact absurd hc (by omega)
  · refine lv_aload_n hx hb dX4_digit_12 rfl (lv_at hl 0 rfl) ?_
    refine va_get (D := D) (ci := 4) (v := .ref (g 3)) (C := RX4) (T := TX4) (N := 8) hx hb hts inX4_X4_digit hown hK hP 0 rfl rfl 5 (by decide) (hts (.fieldLink RX4 16 "TransformProductModel" "product" "[I") (by decide +kernel)) (fun _ h9 => h9) rfl dX4_digit_13 ?_
    refine lv_iload_n hx hb dX4_digit_16 rfl (lv_at hl 1 rfl) ?_
    refine kr_ld hx hb hK hP 3 0 rfl rfl (by omega) (by decide) dX4_digit_17 ?_
    refine lv_goto (tgt := 22) hx hb dX4_digit_18 (by decide) ?_
    exact kr_iret () hx hb hr hlk hP hD hS rfl dX4_digit_22
set_option maxHeartbeats 4000000 in
set_option maxRecDepth 100000 in
theorem c_X4_digit_no (l : Launch) (D : va_G) (cI cT : ClassId) (sz : Nat) (g : Nat → Nat) (lg N rd len tk : Nat) (dd ct pp : Nat → Nat) (x : Int32) (hno : ¬ ∃ i, i < len ∧ x = nI i) (hl2 : len ≤ 1024) : kMi (S := Unit) l yX4_digit wsX4_digit { frames := 0, cells := 0, slots := 0, locals := 0 } D [(cI, .int), (cT, .object RX1)] [(g 0, .inr (4, [.int (nI (lg)), .int (nI (N)), .int (nI (rd)), .ref (g 1), .ref (g 2), .ref (g 3), .int (nI (len)), .int (nI (tk))])), (g 1, .inl (cI, 2048, .inl (nA (dd)))), (g 2, .inl (cI, 2, .inl (nA (ct)))), (g 3, .inl (cI, 2048, .inl (nA (pp))))] sz (fun _ => True) [.ref (g 0), .int (x)] (fun r _ => r = (-1)) (fun _ => [(g 0, .inr (4, [.int (nI (lg)), .int (nI (N)), .int (nI (rd)), .ref (g 1), .ref (g 2), .ref (g 3), .int (nI (len)), .int (nI (tk))])), (g 1, .inl (cI, 2048, .inl (nA (dd)))), (g 2, .inl (cI, 2, .inl (nA (ct)))), (g 3, .inl (cI, 2048, .inl (nA (pp))))]) (0) (0) := by
  refine kM_of (Qc := fun A => va_Qi (S := Unit) (fun r _ => r = (-1)) (kB D A (fun _ => [(g 0, .inr (4, [.int (nI (lg)), .int (nI (N)), .int (nI (rd)), .ref (g 1), .ref (g 2), .ref (g 3), .int (nI (len)), .int (nI (tk))])), (g 1, .inl (cI, 2048, .inl (nA (dd)))), (g 2, .inl (cI, 2, .inl (nA (ct)))), (g 3, .inl (cI, 2048, .inl (nA (pp))))])) A) (cc := cX4_digit) (maxL := 2) (ret := (some .int)) (by decide +kernel) rfl (Nat.le_of_ble_eq_true rfl) ?_
  intro p e s m below meth c A ls hC0 hr hlk hin hP hK hD hA hS hE hAe hsz hl
  obtain ⟨hx, hb, hml, hown, hts⟩ := id hC0
  have hl : lv_has ls 2 [(0, .ref (g 0)), (1, .int (x))] := hl
  refine lv_iload_n hx hb dX4_digit_0 rfl (lv_at hl 1 rfl) ?_
  refine lv_if_lt (tgt := 21) hx hb dX4_digit_1 (by decide) (fun hc => ?_) (fun hc => ?_)
  · refine lv_iconst (v := (-1)) hx hb dX4_digit_21 (by decide) ?_
    exact kr_iret () hx hb hr hlk hP hD hS rfl dX4_digit_22
  · obtain ⟨i, hi, rfl⟩ := nI_of hc
    refine lv_iload_n hx hb dX4_digit_4 rfl (lv_at hl 1 rfl) ?_
    refine lv_aload_n hx hb dX4_digit_5 rfl (lv_at hl 0 rfl) ?_
    refine va_get (D := D) (ci := 4) (v := .int (nI (len))) (C := RX4) (T := TX4) (N := 8) hx hb hts inX4_X4_digit hown hK hP 0 rfl rfl 6 (by decide) (hts (.fieldLink RX4 30 "TransformProductModel" "length" "I") (by decide +kernel)) (fun _ h9 => h9) rfl dX4_digit_6 ?_
    refine kr_ge (tgt := 21) hx hb dX4_digit_9 (by decide) (by omega) (by omega) (fun hc2 => ?_) (fun hc2 => ?_)
    · refine lv_iconst (v := (-1)) hx hb dX4_digit_21 (by decide) ?_
      exact kr_iret () hx hb hr hlk hP hD hS rfl dX4_digit_22
    · exact absurd ⟨i, hc2, rfl⟩ hno
