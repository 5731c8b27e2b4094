/-! the law: its start, and the claim -/
set_option maxHeartbeats 4000000 in
set_option maxRecDepth 100000 in
theorem c_X3_init_any (l : Launch) (D : va_G) (cI cT : ClassId) (sz : Nat) (tp h lg N M : Nat) (x : Int32) (hsc : x = nI lg ∨ ((¬ ∃ j, 1 ≤ j ∧ j ≤ 10 ∧ x = nI j) ∧ lg = 1)) (hN : 2 ^ lg = N) (hM : N = 2 * M) (hN2 : N ≤ 1024) (hl1 : 1 ≤ lg) (hl2 : lg ≤ 10) : kMv (S := (Nat → Nat)) l yX3_init wsX3_init { frames := 2, cells := 18, slots := 29 + 7 * N + 3 * M, locals := 42 } D [(cI, .int), (cT, .object RX1)] [(h, .inr (3, [.int (nI (0)), .int (nI (0)), .null, .null, .null, .null, .null, .null, .int (nI (0)), .int (nI (0))]))] sz (kY tp (va_A [(h, .inr (3, [.int (nI (0)), .int (nI (0)), .null, .null, .null, .null, .null, .null, .int (nI (0)), .int (nI (0))]))] sz)) [.ref h, .int x] (fun u => u 0 = h) (fun q => [(q 0, .inr (3, [.int (nI (N)), .int (nI (M * lg)), .ref (q 1), .ref (q 3), .ref (q 5), .ref (q 7), .ref (q 17), .ref (q 18), .int (nI (0)), .int (nI (0))])), (q 1, .inr (2, [.ref (q 2), .int (nI (0))])), (q 2, .inl (cI, N, .inl (nA (fun _ => 0)))), (q 3, .inr (2, [.ref (q 4), .int (nI (0))])), (q 4, .inl (cI, N, .inl (nA (fun _ => 0)))), (q 5, .inr (2, [.ref (q 6), .int (nI (0))])), (q 6, .inl (cI, N, .inl (nA (fun _ => 0)))), (q 7, .inl (cT, 3, .inr (.inr (.inr (.inr (va_up (va_up (va_up (fun _ => none) 0 (some (q 8))) 1 (some (q 11))) 2 (some (q 14)))))))), (q 8, .inr (1, [.int (nI (pmN 0)), .int (nI (lg)), .int (nI (N)), .ref (q 9), .ref (q 10), .long (lN (0))])), (q 9, .inl (cI, M, .inl (nA (fun _ => 0)))), (q 10, .inl (cI, N, .inl (nA (fun _ => 0)))), (q 11, .inr (1, [.int (nI (pmN 1)), .int (nI (lg)), .int (nI (N)), .ref (q 12), .ref (q 13), .long (lN (0))])), (q 12, .inl (cI, M, .inl (nA (fun _ => 0)))), (q 13, .inl (cI, N, .inl (nA (fun _ => 0)))), (q 14, .inr (1, [.int (nI (pmN 2)), .int (nI (lg)), .int (nI (N)), .ref (q 15), .ref (q 16), .long (lN (0))])), (q 15, .inl (cI, M, .inl (nA (fun _ => 0)))), (q 16, .inl (cI, N, .inl (nA (fun _ => 0)))), (q 17, .inr (0, [.long (lN (0)), .long (lN (0))])), (q 18, .inl (cI, N, .inl (nA (fun _ => 0))))]) (18) (29 + 7 * N + 3 * M) := by
  rcases hsc with rfl | ⟨hno, h1⟩
  · exact c_X3_init l D cI cT sz tp h lg N M hN hM hN2 hl1 hl2
  · exact c_X3_init_out l D cI cT sz tp h lg N M x hno h1 hN hM hN2 hl1 hl2
set_option maxHeartbeats 4000000 in
set_option maxRecDepth 100000 in
theorem c_X4_init_any (l : Launch) (D : va_G) (cI cT : ClassId) (sz : Nat) (h lg N : Nat) (x : Int32) (hsc : x = nI lg ∨ ((¬ ∃ j, 1 ≤ j ∧ j ≤ 10 ∧ x = nI j) ∧ lg = 1)) (hN : 2 ^ lg = N) (hN2 : N ≤ 1024) (hl1 : 1 ≤ lg) (hl2 : lg ≤ 10) : kMv (S := (Nat → Nat)) l yX4_init wsX4_init { frames := 1, cells := 3, slots := 4098, locals := 20 } D [(cI, .int), (cT, .object RX1)] [(h, .inr (4, [.int (nI (0)), .int (nI (0)), .int (nI (0)), .null, .null, .null, .int (nI (0)), .int (nI (0))]))] sz (fun _ => True) [.ref h, .int x] (fun u => u 0 = h) (fun g => [(g 0, .inr (4, [.int (nI (lg)), .int (nI (N)), .int (nI (0)), .ref (g 1), .ref (g 2), .ref (g 3), .int (nI (0)), .int (nI (0))])), (g 1, .inl (cI, 2048, .inl (nA (fun _ => 0)))), (g 2, .inl (cI, 2, .inl (nA (fun _ => 0)))), (g 3, .inl (cI, 2048, .inl (nA (fun _ => 0))))]) (3) (4098) := by
  rcases hsc with rfl | ⟨hno, h1⟩
  · exact c_X4_init l D cI cT sz h lg N hN hN2 hl1 hl2
  · exact c_X4_init_out l D cI cT sz h lg N x hno h1 hN hN2 hl1 hl2
set_option maxHeartbeats 4000000 in
set_option maxRecDepth 100000 in
theorem lw_start {p : Program} {l : Launch} {e : Env} {s : State} {m : MethodId} {below : List Frame} {meth : Method} {c : Code} {A : Nat → Prop} {D : va_G} {cI cT : ClassId} (tp b L : Nat) (xs : Nat → Int32) (hL : L ≤ 2049) (hC0 : CallFix p m c cL_law 4 s #[Value.ref b] wsL_law RL) (hr : meth.sig.returnType = ret) (hlk : meth.locks = false) (hK : va_K D vwCl [(cI, .int), (cT, .object RX1)] s) (hA : ∀ q, s.heap.size ≤ q → A q) (hAh : ∀ q, A q → s.heap.size ≤ q) (hE : kY tp A s) (hX : va_X b L xs s s.heap) (hbl : b < s.heap.size) (hbA : ¬ A b) (ls : Array Slot) (hl : lv_has ls 4 [(0, .ref b)]) :
    W p l e room_1 s m #[Value.ref b] below meth c s.heap [] 0 0 (lw_Z below #[Value.ref b] s) (F0 m 0 ls []) := by
  obtain ⟨hx, hb, hml, hown, hts⟩ := id hC0
  obtain ⟨k, hk, hsc0⟩ : ∃ k, k < 10 ∧ (sc0 L xs = nI (k + 1) ∨ ((¬ ∃ j, 1 ≤ j ∧ j ≤ 10 ∧ sc0 L xs = nI j) ∧ k + 1 = 1)) := by
    by_cases h : ∃ j, 1 ≤ j ∧ j ≤ 10 ∧ sc0 L xs = nI j
    · obtain ⟨j, h1, h2, h3⟩ := h
      exact ⟨j - 1, by omega, Or.inl (by rw [h3, show j - 1 + 1 = j by omega])⟩
    · exact ⟨0, by omega, Or.inr ⟨h, rfl⟩⟩
  obtain ⟨lg, hlg⟩ : ∃ lg, lg = k + 1 := ⟨_, rfl⟩
  have hsc : sc0 L xs = nI lg ∨ ((¬ ∃ j, 1 ≤ j ∧ j ≤ 10 ∧ sc0 L xs = nI j) ∧ lg = 1) := by rw [hlg]; exact hsc0
  obtain ⟨N, hN1⟩ : ∃ N, 2 ^ lg = N := ⟨_, rfl⟩
  obtain ⟨M, hM⟩ : ∃ M, 2 ^ k = M := ⟨_, rfl⟩
  have hNM : N = 2 * M := by rw [← hN1, ← hM, hlg, Nat.pow_succ, Nat.mul_comm]
  have hN2 : N ≤ 1024 := by rw [← hN1]; exact Nat.pow_le_pow_right (by decide) (show lg ≤ 10 by omega)
  have hl1 : 1 ≤ lg := by omega
  have hl2 : lg ≤ 10 := by omega
  have hS : va_S A s.heap s.heap [] := va_S.rf
  have hP : va_P D vwCl [] s.heap := fun k q h => by simp at h
  have hD : va_D A [] := ⟨fun i j p q h => by simp at h, fun k q h => by simp at h⟩
  refine va_new (ci := 3) (fs := [.int (nI (0)), .int (nI (0)), .null, .null, .null, .null, .null, .null, .int (nI (0)), .int (nI (0))]) (C := RX3) (T := TX3) (N := 10) hx hb hts inX3_L_law tyX3 tyX3_ok hown (hts (.classLink RL 7 RX3) (by decide +kernel)) (hts (.instantiable RX3 10) (by decide +kernel)) (hts (.initialized RX3) (by decide +kernel)) hK hP hD hS hA rfl (fun j hj => by rcases (show j = 0 ∨ j = 1 ∨ j = 2 ∨ j = 3 ∨ j = 4 ∨ j = 5 ∨ j = 6 ∨ j = 7 ∨ j = 8 ∨ j = 9 by omega) with rfl | rfl | rfl | rfl | rfl | rfl | rfl | rfl | rfl | rfl <;> rfl) (by show _ ≤ 600000; omega) (by show _ ≤ 7302249; omega) dL_law_0 (fun a0 H hP hD hS => ?_)
  have hP : va_P D vwCl [(a0, .inr (3, [.int (nI (0)), .int (nI (0)), .null, .null, .null, .null, .null, .null, .int (nI (0)), .int (nI (0))]))] H := hP
  have hD : va_D A [(a0, .inr (3, [.int (nI (0)), .int (nI (0)), .null, .null, .null, .null, .null, .null, .int (nI (0)), .int (nI (0))]))] := hD
  refine W.widen (k := 1) (n := 10) (by omega) (by omega) ?_
  refine lv_dup hx hb dL_law_3 rfl ?_
  refine lv_aload_n hx hb dL_law_4 rfl (lv_at hl 0 rfl) ?_
  refine lv_iconst (v := nI 0) hx hb dL_law_5 (by decide) ?_
  refine kc_i (wr := [(a0, .inr (3, [.int (nI (0)), .int (nI (0)), .null, .null, .null, .null, .null, .null, .int (nI (0)), .int (nI (0))]))]) (va_runS (As := [.ref b, .int (nI (0))]) (rest := [.ref a0, .ref a0]) hC0 (c_L_cell l D cI cT H.size b L xs hL) (va_cwS 2 hts gL_law_L_cell rfl rfl rfl (by decide +kernel) ⟨Nat.le_of_ble_eq_true rfl, Nat.le_of_ble_eq_true rfl⟩) (kp_S kE_sc (fun U hU hW => ⟨by rw [hU]; exact (hX.kept (hS.2.1 b hbl hbA)).moved hW.alike, Nat.lt_of_lt_of_le hbl hS.1⟩) hK hP hD [] rfl (by decide)) rfl rfl hl.1 rfl (lv_room (Nat.le_of_ble_eq_true rfl)) dL_law_6 ⟨by show _ ≤ 600000; omega, by show _ ≤ 7302249; omega⟩) hP hD hS hA [] [0] rfl rfl (by decide) (by decide) (fun rr uu H locs hw hP hD hS => ?_)
  subst hw
  have hP : va_P D vwCl [(a0, .inr (3, [.int (nI (0)), .int (nI (0)), .null, .null, .null, .null, .null, .null, .int (nI (0)), .int (nI (0))]))] H := hP.sub [0] rfl
  have hD : va_D A [(a0, .inr (3, [.int (nI (0)), .int (nI (0)), .null, .null, .null, .null, .null, .null, .int (nI (0)), .int (nI (0))]))] := hD.sub [0] (by decide) rfl
  refine kc_v (wr := []) (va_runI (As := [.int (sc0 L xs)]) (rest := [.ref a0]) hC0 (c_X3_init_any l D cI cT H.size tp a0 lg N M (sc0 L xs) hsc hN1 hNM hN2 hl1 hl2) (cwI 1 hts gL_law_X3_init rfl rfl rfl (hts (.initialized RX3) (by decide +kernel)) (hts (.methodLink RL 15 yX3_init) (by decide +kernel)) (hts (.instanceMethod yX3_init) (by decide +kernel)) rfl (by decide +kernel) ⟨Nat.le_of_ble_eq_true rfl, Nat.le_of_ble_eq_true rfl⟩) (kp_S (kE_Y _ _) (kY_go hE hS (va_free hD hS hA [0] rfl)) hK hP hD [0] rfl (by decide)) rfl rfl hl.1 rfl (lv_room (Nat.le_of_ble_eq_true rfl)) dL_law_9 ⟨by show _ ≤ 600000; omega, by show _ ≤ 7302249; omega⟩) hP hD hS hA [0] [] rfl rfl (by decide) (by decide) (fun q H locs hq hP hD hS => ?_)
  have hP : va_P D vwCl [(q 0, .inr (3, [.int (nI (N)), .int (nI (M * lg)), .ref (q 1), .ref (q 3), .ref (q 5), .ref (q 7), .ref (q 17), .ref (q 18), .int (nI (0)), .int (nI (0))])), (q 1, .inr (2, [.ref (q 2), .int (nI (0))])), (q 2, .inl (cI, N, .inl (nA (fun _ => 0)))), (q 3, .inr (2, [.ref (q 4), .int (nI (0))])), (q 4, .inl (cI, N, .inl (nA (fun _ => 0)))), (q 5, .inr (2, [.ref (q 6), .int (nI (0))])), (q 6, .inl (cI, N, .inl (nA (fun _ => 0)))), (q 7, .inl (cT, 3, .inr (.inr (.inr (.inr (va_up (va_up (va_up (fun _ => none) 0 (some (q 8))) 1 (some (q 11))) 2 (some (q 14)))))))), (q 8, .inr (1, [.int (nI (pmN 0)), .int (nI (lg)), .int (nI (N)), .ref (q 9), .ref (q 10), .long (lN (0))])), (q 9, .inl (cI, M, .inl (nA (fun _ => 0)))), (q 10, .inl (cI, N, .inl (nA (fun _ => 0)))), (q 11, .inr (1, [.int (nI (pmN 1)), .int (nI (lg)), .int (nI (N)), .ref (q 12), .ref (q 13), .long (lN (0))])), (q 12, .inl (cI, M, .inl (nA (fun _ => 0)))), (q 13, .inl (cI, N, .inl (nA (fun _ => 0)))), (q 14, .inr (1, [.int (nI (pmN 2)), .int (nI (lg)), .int (nI (N)), .ref (q 15), .ref (q 16), .long (lN (0))])), (q 15, .inl (cI, M, .inl (nA (fun _ => 0)))), (q 16, .inl (cI, N, .inl (nA (fun _ => 0)))), (q 17, .inr (0, [.long (lN (0)), .long (lN (0))])), (q 18, .inl (cI, N, .inl (nA (fun _ => 0))))] H := hP.sub [0, 1, 2, 3, 4, 5, 6, 7, 8, 9, 10, 11, 12, 13, 14, 15, 16, 17, 18] rfl
  have hD : va_D A [(q 0, .inr (3, [.int (nI (N)), .int (nI (M * lg)), .ref (q 1), .ref (q 3), .ref (q 5), .ref (q 7), .ref (q 17), .ref (q 18), .int (nI (0)), .int (nI (0))])), (q 1, .inr (2, [.ref (q 2), .int (nI (0))])), (q 2, .inl (cI, N, .inl (nA (fun _ => 0)))), (q 3, .inr (2, [.ref (q 4), .int (nI (0))])), (q 4, .inl (cI, N, .inl (nA (fun _ => 0)))), (q 5, .inr (2, [.ref (q 6), .int (nI (0))])), (q 6, .inl (cI, N, .inl (nA (fun _ => 0)))), (q 7, .inl (cT, 3, .inr (.inr (.inr (.inr (va_up (va_up (va_up (fun _ => none) 0 (some (q 8))) 1 (some (q 11))) 2 (some (q 14)))))))), (q 8, .inr (1, [.int (nI (pmN 0)), .int (nI (lg)), .int (nI (N)), .ref (q 9), .ref (q 10), .long (lN (0))])), (q 9, .inl (cI, M, .inl (nA (fun _ => 0)))), (q 10, .inl (cI, N, .inl (nA (fun _ => 0)))), (q 11, .inr (1, [.int (nI (pmN 1)), .int (nI (lg)), .int (nI (N)), .ref (q 12), .ref (q 13), .long (lN (0))])), (q 12, .inl (cI, M, .inl (nA (fun _ => 0)))), (q 13, .inl (cI, N, .inl (nA (fun _ => 0)))), (q 14, .inr (1, [.int (nI (pmN 2)), .int (nI (lg)), .int (nI (N)), .ref (q 15), .ref (q 16), .long (lN (0))])), (q 15, .inl (cI, M, .inl (nA (fun _ => 0)))), (q 16, .inl (cI, N, .inl (nA (fun _ => 0)))), (q 17, .inr (0, [.long (lN (0)), .long (lN (0))])), (q 18, .inl (cI, N, .inl (nA (fun _ => 0))))] := hD.sub [0, 1, 2, 3, 4, 5, 6, 7, 8, 9, 10, 11, 12, 13, 14, 15, 16, 17, 18] (by decide) rfl
  refine W.widen (k := 19) (n := 9000) (by omega) (by omega) ?_
  have hP3 := hP
  have hD3 := hD
  subst hq
  have hP := hP3
  have hD := hD3
  refine lv_astore_n (lv' := [(1, .ref (q 0)), (0, .ref b)]) hx hb dL_law_12 rfl hl (by decide) rfl (fun ls hl => ?_)
  refine va_new (ci := 4) (fs := [.int (nI (0)), .int (nI (0)), .int (nI (0)), .null, .null, .null, .int (nI (0)), .int (nI (0))]) (C := RX4) (T := TX4) (N := 8) hx hb hts inX4_L_law tyX4 tyX4_ok hown (hts (.classLink RL 18 RX4) (by decide +kernel)) (hts (.instantiable RX4 8) (by decide +kernel)) (hts (.initialized RX4) (by decide +kernel)) hK hP hD hS hA rfl (fun j hj => by rcases (show j = 0 ∨ j = 1 ∨ j = 2 ∨ j = 3 ∨ j = 4 ∨ j = 5 ∨ j = 6 ∨ j = 7 by omega) with rfl | rfl | rfl | rfl | rfl | rfl | rfl | rfl <;> rfl) (by show _ ≤ 600000; omega) (by show _ ≤ 7302249; omega) dL_law_13 (fun a1 H hP hD hS => ?_)
  have hP : va_P D vwCl [(q 0, .inr (3, [.int (nI (N)), .int (nI (M * lg)), .ref (q 1), .ref (q 3), .ref (q 5), .ref (q 7), .ref (q 17), .ref (q 18), .int (nI (0)), .int (nI (0))])), (q 1, .inr (2, [.ref (q 2), .int (nI (0))])), (q 2, .inl (cI, N, .inl (nA (fun _ => 0)))), (q 3, .inr (2, [.ref (q 4), .int (nI (0))])), (q 4, .inl (cI, N, .inl (nA (fun _ => 0)))), (q 5, .inr (2, [.ref (q 6), .int (nI (0))])), (q 6, .inl (cI, N, .inl (nA (fun _ => 0)))), (q 7, .inl (cT, 3, .inr (.inr (.inr (.inr (va_up (va_up (va_up (fun _ => none) 0 (some (q 8))) 1 (some (q 11))) 2 (some (q 14)))))))), (q 8, .inr (1, [.int (nI (pmN 0)), .int (nI (lg)), .int (nI (N)), .ref (q 9), .ref (q 10), .long (lN (0))])), (q 9, .inl (cI, M, .inl (nA (fun _ => 0)))), (q 10, .inl (cI, N, .inl (nA (fun _ => 0)))), (q 11, .inr (1, [.int (nI (pmN 1)), .int (nI (lg)), .int (nI (N)), .ref (q 12), .ref (q 13), .long (lN (0))])), (q 12, .inl (cI, M, .inl (nA (fun _ => 0)))), (q 13, .inl (cI, N, .inl (nA (fun _ => 0)))), (q 14, .inr (1, [.int (nI (pmN 2)), .int (nI (lg)), .int (nI (N)), .ref (q 15), .ref (q 16), .long (lN (0))])), (q 15, .inl (cI, M, .inl (nA (fun _ => 0)))), (q 16, .inl (cI, N, .inl (nA (fun _ => 0)))), (q 17, .inr (0, [.long (lN (0)), .long (lN (0))])), (q 18, .inl (cI, N, .inl (nA (fun _ => 0)))), (a1, .inr (4, [.int (nI (0)), .int (nI (0)), .int (nI (0)), .null, .null, .null, .int (nI (0)), .int (nI (0))]))] H := hP
  have hD : va_D A [(q 0, .inr (3, [.int (nI (N)), .int (nI (M * lg)), .ref (q 1), .ref (q 3), .ref (q 5), .ref (q 7), .ref (q 17), .ref (q 18), .int (nI (0)), .int (nI (0))])), (q 1, .inr (2, [.ref (q 2), .int (nI (0))])), (q 2, .inl (cI, N, .inl (nA (fun _ => 0)))), (q 3, .inr (2, [.ref (q 4), .int (nI (0))])), (q 4, .inl (cI, N, .inl (nA (fun _ => 0)))), (q 5, .inr (2, [.ref (q 6), .int (nI (0))])), (q 6, .inl (cI, N, .inl (nA (fun _ => 0)))), (q 7, .inl (cT, 3, .inr (.inr (.inr (.inr (va_up (va_up (va_up (fun _ => none) 0 (some (q 8))) 1 (some (q 11))) 2 (some (q 14)))))))), (q 8, .inr (1, [.int (nI (pmN 0)), .int (nI (lg)), .int (nI (N)), .ref (q 9), .ref (q 10), .long (lN (0))])), (q 9, .inl (cI, M, .inl (nA (fun _ => 0)))), (q 10, .inl (cI, N, .inl (nA (fun _ => 0)))), (q 11, .inr (1, [.int (nI (pmN 1)), .int (nI (lg)), .int (nI (N)), .ref (q 12), .ref (q 13), .long (lN (0))])), (q 12, .inl (cI, M, .inl (nA (fun _ => 0)))), (q 13, .inl (cI, N, .inl (nA (fun _ => 0)))), (q 14, .inr (1, [.int (nI (pmN 2)), .int (nI (lg)), .int (nI (N)), .ref (q 15), .ref (q 16), .long (lN (0))])), (q 15, .inl (cI, M, .inl (nA (fun _ => 0)))), (q 16, .inl (cI, N, .inl (nA (fun _ => 0)))), (q 17, .inr (0, [.long (lN (0)), .long (lN (0))])), (q 18, .inl (cI, N, .inl (nA (fun _ => 0)))), (a1, .inr (4, [.int (nI (0)), .int (nI (0)), .int (nI (0)), .null, .null, .null, .int (nI (0)), .int (nI (0))]))] := hD
  refine W.widen (k := 20) (n := 9008) (by omega) (by omega) ?_
  refine lv_dup hx hb dL_law_16 rfl ?_
  refine lv_aload_n hx hb dL_law_17 rfl (lv_at hl 1 rfl) ?_
  refine lv_iconst (v := nI 0) hx hb dL_law_18 (by decide) ?_
  refine kc_i (wr := [(q 0, .inr (3, [.int (nI (N)), .int (nI (M * lg)), .ref (q 1), .ref (q 3), .ref (q 5), .ref (q 7), .ref (q 17), .ref (q 18), .int (nI (0)), .int (nI (0))])), (q 1, .inr (2, [.ref (q 2), .int (nI (0))])), (q 2, .inl (cI, N, .inl (nA (fun _ => 0)))), (q 3, .inr (2, [.ref (q 4), .int (nI (0))])), (q 4, .inl (cI, N, .inl (nA (fun _ => 0)))), (q 5, .inr (2, [.ref (q 6), .int (nI (0))])), (q 6, .inl (cI, N, .inl (nA (fun _ => 0)))), (q 7, .inl (cT, 3, .inr (.inr (.inr (.inr (va_up (va_up (va_up (fun _ => none) 0 (some (q 8))) 1 (some (q 11))) 2 (some (q 14)))))))), (q 8, .inr (1, [.int (nI (pmN 0)), .int (nI (lg)), .int (nI (N)), .ref (q 9), .ref (q 10), .long (lN (0))])), (q 9, .inl (cI, M, .inl (nA (fun _ => 0)))), (q 10, .inl (cI, N, .inl (nA (fun _ => 0)))), (q 11, .inr (1, [.int (nI (pmN 1)), .int (nI (lg)), .int (nI (N)), .ref (q 12), .ref (q 13), .long (lN (0))])), (q 12, .inl (cI, M, .inl (nA (fun _ => 0)))), (q 13, .inl (cI, N, .inl (nA (fun _ => 0)))), (q 14, .inr (1, [.int (nI (pmN 2)), .int (nI (lg)), .int (nI (N)), .ref (q 15), .ref (q 16), .long (lN (0))])), (q 15, .inl (cI, M, .inl (nA (fun _ => 0)))), (q 16, .inl (cI, N, .inl (nA (fun _ => 0)))), (q 17, .inr (0, [.long (lN (0)), .long (lN (0))])), (q 18, .inl (cI, N, .inl (nA (fun _ => 0)))), (a1, .inr (4, [.int (nI (0)), .int (nI (0)), .int (nI (0)), .null, .null, .null, .int (nI (0)), .int (nI (0))]))]) (va_runS (As := [.ref b, .int (nI (0))]) (rest := [.ref a1, .ref a1]) hC0 (c_L_cell l D cI cT H.size b L xs hL) (va_cwS 2 hts gL_law_L_cell rfl rfl rfl (by decide +kernel) ⟨Nat.le_of_ble_eq_true rfl, Nat.le_of_ble_eq_true rfl⟩) (kp_S kE_sc (fun U hU hW => ⟨by rw [hU]; exact (hX.kept (hS.2.1 b hbl hbA)).moved hW.alike, Nat.lt_of_lt_of_le hbl hS.1⟩) hK hP hD [] rfl (by decide)) rfl rfl hl.1 rfl (lv_room (Nat.le_of_ble_eq_true rfl)) dL_law_19 ⟨by show _ ≤ 600000; omega, by show _ ≤ 7302249; omega⟩) hP hD hS hA [] [0, 1, 2, 3, 4, 5, 6, 7, 8, 9, 10, 11, 12, 13, 14, 15, 16, 17, 18, 19] rfl rfl (by decide) (by decide) (fun rr uu H locs hw hP hD hS => ?_)
  subst hw
  have hP : va_P D vwCl [(q 0, .inr (3, [.int (nI (N)), .int (nI (M * lg)), .ref (q 1), .ref (q 3), .ref (q 5), .ref (q 7), .ref (q 17), .ref (q 18), .int (nI (0)), .int (nI (0))])), (q 1, .inr (2, [.ref (q 2), .int (nI (0))])), (q 2, .inl (cI, N, .inl (nA (fun _ => 0)))), (q 3, .inr (2, [.ref (q 4), .int (nI (0))])), (q 4, .inl (cI, N, .inl (nA (fun _ => 0)))), (q 5, .inr (2, [.ref (q 6), .int (nI (0))])), (q 6, .inl (cI, N, .inl (nA (fun _ => 0)))), (q 7, .inl (cT, 3, .inr (.inr (.inr (.inr (va_up (va_up (va_up (fun _ => none) 0 (some (q 8))) 1 (some (q 11))) 2 (some (q 14)))))))), (q 8, .inr (1, [.int (nI (pmN 0)), .int (nI (lg)), .int (nI (N)), .ref (q 9), .ref (q 10), .long (lN (0))])), (q 9, .inl (cI, M, .inl (nA (fun _ => 0)))), (q 10, .inl (cI, N, .inl (nA (fun _ => 0)))), (q 11, .inr (1, [.int (nI (pmN 1)), .int (nI (lg)), .int (nI (N)), .ref (q 12), .ref (q 13), .long (lN (0))])), (q 12, .inl (cI, M, .inl (nA (fun _ => 0)))), (q 13, .inl (cI, N, .inl (nA (fun _ => 0)))), (q 14, .inr (1, [.int (nI (pmN 2)), .int (nI (lg)), .int (nI (N)), .ref (q 15), .ref (q 16), .long (lN (0))])), (q 15, .inl (cI, M, .inl (nA (fun _ => 0)))), (q 16, .inl (cI, N, .inl (nA (fun _ => 0)))), (q 17, .inr (0, [.long (lN (0)), .long (lN (0))])), (q 18, .inl (cI, N, .inl (nA (fun _ => 0)))), (a1, .inr (4, [.int (nI (0)), .int (nI (0)), .int (nI (0)), .null, .null, .null, .int (nI (0)), .int (nI (0))]))] H := hP.sub [0, 1, 2, 3, 4, 5, 6, 7, 8, 9, 10, 11, 12, 13, 14, 15, 16, 17, 18, 19] rfl
  have hD : va_D A [(q 0, .inr (3, [.int (nI (N)), .int (nI (M * lg)), .ref (q 1), .ref (q 3), .ref (q 5), .ref (q 7), .ref (q 17), .ref (q 18), .int (nI (0)), .int (nI (0))])), (q 1, .inr (2, [.ref (q 2), .int (nI (0))])), (q 2, .inl (cI, N, .inl (nA (fun _ => 0)))), (q 3, .inr (2, [.ref (q 4), .int (nI (0))])), (q 4, .inl (cI, N, .inl (nA (fun _ => 0)))), (q 5, .inr (2, [.ref (q 6), .int (nI (0))])), (q 6, .inl (cI, N, .inl (nA (fun _ => 0)))), (q 7, .inl (cT, 3, .inr (.inr (.inr (.inr (va_up (va_up (va_up (fun _ => none) 0 (some (q 8))) 1 (some (q 11))) 2 (some (q 14)))))))), (q 8, .inr (1, [.int (nI (pmN 0)), .int (nI (lg)), .int (nI (N)), .ref (q 9), .ref (q 10), .long (lN (0))])), (q 9, .inl (cI, M, .inl (nA (fun _ => 0)))), (q 10, .inl (cI, N, .inl (nA (fun _ => 0)))), (q 11, .inr (1, [.int (nI (pmN 1)), .int (nI (lg)), .int (nI (N)), .ref (q 12), .ref (q 13), .long (lN (0))])), (q 12, .inl (cI, M, .inl (nA (fun _ => 0)))), (q 13, .inl (cI, N, .inl (nA (fun _ => 0)))), (q 14, .inr (1, [.int (nI (pmN 2)), .int (nI (lg)), .int (nI (N)), .ref (q 15), .ref (q 16), .long (lN (0))])), (q 15, .inl (cI, M, .inl (nA (fun _ => 0)))), (q 16, .inl (cI, N, .inl (nA (fun _ => 0)))), (q 17, .inr (0, [.long (lN (0)), .long (lN (0))])), (q 18, .inl (cI, N, .inl (nA (fun _ => 0)))), (a1, .inr (4, [.int (nI (0)), .int (nI (0)), .int (nI (0)), .null, .null, .null, .int (nI (0)), .int (nI (0))]))] := hD.sub [0, 1, 2, 3, 4, 5, 6, 7, 8, 9, 10, 11, 12, 13, 14, 15, 16, 17, 18, 19] (by decide) rfl
  refine kc_v (wr := [(q 0, .inr (3, [.int (nI (N)), .int (nI (M * lg)), .ref (q 1), .ref (q 3), .ref (q 5), .ref (q 7), .ref (q 17), .ref (q 18), .int (nI (0)), .int (nI (0))])), (q 1, .inr (2, [.ref (q 2), .int (nI (0))])), (q 2, .inl (cI, N, .inl (nA (fun _ => 0)))), (q 3, .inr (2, [.ref (q 4), .int (nI (0))])), (q 4, .inl (cI, N, .inl (nA (fun _ => 0)))), (q 5, .inr (2, [.ref (q 6), .int (nI (0))])), (q 6, .inl (cI, N, .inl (nA (fun _ => 0)))), (q 7, .inl (cT, 3, .inr (.inr (.inr (.inr (va_up (va_up (va_up (fun _ => none) 0 (some (q 8))) 1 (some (q 11))) 2 (some (q 14)))))))), (q 8, .inr (1, [.int (nI (pmN 0)), .int (nI (lg)), .int (nI (N)), .ref (q 9), .ref (q 10), .long (lN (0))])), (q 9, .inl (cI, M, .inl (nA (fun _ => 0)))), (q 10, .inl (cI, N, .inl (nA (fun _ => 0)))), (q 11, .inr (1, [.int (nI (pmN 1)), .int (nI (lg)), .int (nI (N)), .ref (q 12), .ref (q 13), .long (lN (0))])), (q 12, .inl (cI, M, .inl (nA (fun _ => 0)))), (q 13, .inl (cI, N, .inl (nA (fun _ => 0)))), (q 14, .inr (1, [.int (nI (pmN 2)), .int (nI (lg)), .int (nI (N)), .ref (q 15), .ref (q 16), .long (lN (0))])), (q 15, .inl (cI, M, .inl (nA (fun _ => 0)))), (q 16, .inl (cI, N, .inl (nA (fun _ => 0)))), (q 17, .inr (0, [.long (lN (0)), .long (lN (0))])), (q 18, .inl (cI, N, .inl (nA (fun _ => 0))))]) (va_runI (As := [.int (sc0 L xs)]) (rest := [.ref a1]) hC0 (c_X4_init_any l D cI cT H.size a1 lg N (sc0 L xs) hsc hN1 hN2 hl1 hl2) (cwI 1 hts gL_law_X4_init rfl rfl rfl (hts (.initialized RX4) (by decide +kernel)) (hts (.methodLink RL 20 yX4_init) (by decide +kernel)) (hts (.instanceMethod yX4_init) (by decide +kernel)) rfl (by decide +kernel) ⟨Nat.le_of_ble_eq_true rfl, Nat.le_of_ble_eq_true rfl⟩) (kp_S kE_0 (fun _ _ _ => trivial) hK hP hD [19] rfl (by decide)) rfl rfl hl.1 rfl (lv_room (Nat.le_of_ble_eq_true rfl)) dL_law_22 ⟨by show _ ≤ 600000; omega, by show _ ≤ 7302249; omega⟩) hP hD hS hA [19] [0, 1, 2, 3, 4, 5, 6, 7, 8, 9, 10, 11, 12, 13, 14, 15, 16, 17, 18] rfl rfl (by decide) (by decide) (fun g H locs hg hP hD hS => ?_)
  have hP : va_P D vwCl [(q 0, .inr (3, [.int (nI (N)), .int (nI (M * lg)), .ref (q 1), .ref (q 3), .ref (q 5), .ref (q 7), .ref (q 17), .ref (q 18), .int (nI (0)), .int (nI (0))])), (q 1, .inr (2, [.ref (q 2), .int (nI (0))])), (q 2, .inl (cI, N, .inl (nA (fun _ => 0)))), (q 3, .inr (2, [.ref (q 4), .int (nI (0))])), (q 4, .inl (cI, N, .inl (nA (fun _ => 0)))), (q 5, .inr (2, [.ref (q 6), .int (nI (0))])), (q 6, .inl (cI, N, .inl (nA (fun _ => 0)))), (q 7, .inl (cT, 3, .inr (.inr (.inr (.inr (va_up (va_up (va_up (fun _ => none) 0 (some (q 8))) 1 (some (q 11))) 2 (some (q 14)))))))), (q 8, .inr (1, [.int (nI (pmN 0)), .int (nI (lg)), .int (nI (N)), .ref (q 9), .ref (q 10), .long (lN (0))])), (q 9, .inl (cI, M, .inl (nA (fun _ => 0)))), (q 10, .inl (cI, N, .inl (nA (fun _ => 0)))), (q 11, .inr (1, [.int (nI (pmN 1)), .int (nI (lg)), .int (nI (N)), .ref (q 12), .ref (q 13), .long (lN (0))])), (q 12, .inl (cI, M, .inl (nA (fun _ => 0)))), (q 13, .inl (cI, N, .inl (nA (fun _ => 0)))), (q 14, .inr (1, [.int (nI (pmN 2)), .int (nI (lg)), .int (nI (N)), .ref (q 15), .ref (q 16), .long (lN (0))])), (q 15, .inl (cI, M, .inl (nA (fun _ => 0)))), (q 16, .inl (cI, N, .inl (nA (fun _ => 0)))), (q 17, .inr (0, [.long (lN (0)), .long (lN (0))])), (q 18, .inl (cI, N, .inl (nA (fun _ => 0)))), (g 0, .inr (4, [.int (nI (lg)), .int (nI (N)), .int (nI (0)), .ref (g 1), .ref (g 2), .ref (g 3), .int (nI (0)), .int (nI (0))])), (g 1, .inl (cI, 2048, .inl (nA (fun _ => 0)))), (g 2, .inl (cI, 2, .inl (nA (fun _ => 0)))), (g 3, .inl (cI, 2048, .inl (nA (fun _ => 0))))] H := hP.sub [0, 1, 2, 3, 4, 5, 6, 7, 8, 9, 10, 11, 12, 13, 14, 15, 16, 17, 18, 19, 20, 21, 22] rfl
  have hD : va_D A [(q 0, .inr (3, [.int (nI (N)), .int (nI (M * lg)), .ref (q 1), .ref (q 3), .ref (q 5), .ref (q 7), .ref (q 17), .ref (q 18), .int (nI (0)), .int (nI (0))])), (q 1, .inr (2, [.ref (q 2), .int (nI (0))])), (q 2, .inl (cI, N, .inl (nA (fun _ => 0)))), (q 3, .inr (2, [.ref (q 4), .int (nI (0))])), (q 4, .inl (cI, N, .inl (nA (fun _ => 0)))), (q 5, .inr (2, [.ref (q 6), .int (nI (0))])), (q 6, .inl (cI, N, .inl (nA (fun _ => 0)))), (q 7, .inl (cT, 3, .inr (.inr (.inr (.inr (va_up (va_up (va_up (fun _ => none) 0 (some (q 8))) 1 (some (q 11))) 2 (some (q 14)))))))), (q 8, .inr (1, [.int (nI (pmN 0)), .int (nI (lg)), .int (nI (N)), .ref (q 9), .ref (q 10), .long (lN (0))])), (q 9, .inl (cI, M, .inl (nA (fun _ => 0)))), (q 10, .inl (cI, N, .inl (nA (fun _ => 0)))), (q 11, .inr (1, [.int (nI (pmN 1)), .int (nI (lg)), .int (nI (N)), .ref (q 12), .ref (q 13), .long (lN (0))])), (q 12, .inl (cI, M, .inl (nA (fun _ => 0)))), (q 13, .inl (cI, N, .inl (nA (fun _ => 0)))), (q 14, .inr (1, [.int (nI (pmN 2)), .int (nI (lg)), .int (nI (N)), .ref (q 15), .ref (q 16), .long (lN (0))])), (q 15, .inl (cI, M, .inl (nA (fun _ => 0)))), (q 16, .inl (cI, N, .inl (nA (fun _ => 0)))), (q 17, .inr (0, [.long (lN (0)), .long (lN (0))])), (q 18, .inl (cI, N, .inl (nA (fun _ => 0)))), (g 0, .inr (4, [.int (nI (lg)), .int (nI (N)), .int (nI (0)), .ref (g 1), .ref (g 2), .ref (g 3), .int (nI (0)), .int (nI (0))])), (g 1, .inl (cI, 2048, .inl (nA (fun _ => 0)))), (g 2, .inl (cI, 2, .inl (nA (fun _ => 0)))), (g 3, .inl (cI, 2048, .inl (nA (fun _ => 0))))] := hD.sub [0, 1, 2, 3, 4, 5, 6, 7, 8, 9, 10, 11, 12, 13, 14, 15, 16, 17, 18, 19, 20, 21, 22] (by decide) rfl
  refine W.widen (k := 23) (n := 13106) (by omega) (by omega) ?_
  have hP4 := hP
  have hD4 := hD
  subst hg
  have hP := hP4
  have hD := hD4
  refine lv_astore_n (lv' := [(2, .ref (g 0)), (1, .ref (q 0)), (0, .ref b)]) hx hb dL_law_25 rfl hl (by decide) rfl (fun ls hl => ?_)
  refine lv_iconst (v := nI 1) hx hb dL_law_26 (by decide) ?_
  refine lv_istore_n (lv' := [(3, .int (nI (1))), (2, .ref (g 0)), (1, .ref (q 0)), (0, .ref b)]) hx hb dL_law_27 rfl hl (by decide) rfl (fun ls hl => ?_)
  refine W.widen (k := 100) (n := 20000) (by omega) (by omega) ?_
  exact lw_loop q g lg N M (M * lg) k tp b L xs hC0 hr hlk hK hA hAh hE.1 hX hbl hbA (by rw [← hlg]; exact hN1) hM hk hlg rfl hL (L + 4) 1 0 0 0 0 0 0 0 (fun _ => 0) (fun _ => 0) (fun _ => 0) (fun _ => 0) (fun _ _ => 0) (fun _ _ => 0) (fun _ => 0) (fun _ => 0) (fun _ => 0) (fun _ => 0) H locs ls (by omega) (by omega) ⟨Nat.zero_le _, fun h => absurd h (by decide), rfl, rfl, Nat.zero_le _, Nat.zero_le _, Nat.zero_le _, fun i h => absurd h (Nat.not_lt_zero _), fun i h => absurd h (Nat.not_lt_zero _), fun i h => absurd h (Nat.not_lt_zero _)⟩ hP hD hS (lv_sub hl [0, 3, 2, 1] rfl)
set_option maxHeartbeats 4000000 in
set_option maxRecDepth 100000 in
theorem lw_facts {p : Program} {s : State} {m : MethodId} {meth : Method} {c : Code} {b L : Nat} {xs : Nat → Int32} (C0 : lw_At p s m meth c b L xs) : ∃ (D : va_G) (cI cT : ClassId) (tp : Nat), va_K D vwCl [(cI, .int), (cT, .object RX1)] s ∧ kY tp (fun q : Nat => s.heap.size ≤ q) s := by
  obtain ⟨hx, hb, hr, hml, hown, hts, hX, hbl, hlocks, hgv⟩ := id C0
  obtain ⟨c0, i0, hKn0⟩ := u_known (C := RX0) (T := TX0) (N := 2) (n := 2) hts inX0 (hts (.instantiable RX0 2) (by decide +kernel))
  obtain ⟨c1, i1, hKn1⟩ := u_known (C := RX1) (T := TX1) (N := 6) (n := 6) hts inX1 (hts (.instantiable RX1 6) (by decide +kernel))
  obtain ⟨c2, i2, hKn2⟩ := u_known (C := RX2) (T := TX2) (N := 2) (n := 2) hts inX2 (hts (.instantiable RX2 2) (by decide +kernel))
  obtain ⟨c3, i3, hKn3⟩ := u_known (C := RX3) (T := TX3) (N := 10) (n := 10) hts inX3 (hts (.instantiable RX3 10) (by decide +kernel))
  obtain ⟨c4, i4, hKn4⟩ := u_known (C := RX4) (T := TX4) (N := 8) (n := 8) hts inX4 (hts (.instantiable RX4 8) (by decide +kernel))
  obtain ⟨cI, kI, jI, f1, f2, f3⟩ := Cond.arrayClass_spec (hts (.arrayClass .int) (by decide +kernel))
  have hAO := hts (.arrayOver (.object RX1)) (by decide +kernel)
  obtain ⟨jT, cT, kT, g1, -, g3, g4, g5⟩ := Cond.arrayOver_spec hAO
  have hs := flat_of_before _ hgv
  have harr : (Cond.arrayOf (.static "TransformProduct" "PRIMES" "[I") .int).before #[Value.ref b] s = true := hs _ (by decide +kernel)
  have hlen : (Cond.eq (.length (.static "TransformProduct" "PRIMES" "[I")) (.int 3)).before #[Value.ref b] s = true := hs _ (by decide +kernel)
  have h0 : (Cond.eq (.elem (.static "TransformProduct" "PRIMES" "[I") (.int 0)) (.int 998244353)).before #[Value.ref b] s = true := hs _ (by decide +kernel)
  have h1 : (Cond.eq (.elem (.static "TransformProduct" "PRIMES" "[I") (.int 1)) (.int 167772161)).before #[Value.ref b] s = true := hs _ (by decide +kernel)
  have h2 : (Cond.eq (.elem (.static "TransformProduct" "PRIMES" "[I") (.int 2)) (.int 469762049)).before #[Value.ref b] s = true := hs _ (by decide +kernel)
  have hnA : ∀ a : Nat, a < s.heap.size → ¬ (fun q : Nat => s.heap.size ≤ q) a := fun a h => Nat.not_le.mpr h
  obtain ⟨tp, ht, hT⟩ := va_Tof (A := fun q : Nat => s.heap.size ≤ q) (N := 3) (f := pmF) (by decide) harr (va_eqt hlen) (fun j hj => by
    rcases (show j = 0 ∨ j = 1 ∨ j = 2 by omega) with rfl | rfl | rfl
    · exact (va_eqt h0).trans (congrArg (fun z => some (Value.int z)) (show (998244353 : Int32) = nI (pmN 0) by decide))
    · exact (va_eqt h1).trans (congrArg (fun z => some (Value.int z)) (show (167772161 : Int32) = nI (pmN 1) by decide))
    · exact (va_eqt h2).trans (congrArg (fun z => some (Value.int z)) (show (469762049 : Int32) = nI (pmN 2) by decide))) hnA
  have hZ := va_Zref (hts (.laysStatic "TransformProduct" "PRIMES" "[I") (by decide +kernel)) (hts (.initialized "TransformProduct") (by decide +kernel)) ht hnA
  have n1 : va_Nw (.fieldLinkNest RX0 16 "TransformProduct" "PRIMES" "[I" "TransformProduct") s := va_Nw.of rfl (hts _ (by decide +kernel))
  have n2 : va_Nw (.methodLinkNest RX0 22 yX3_inverse "TransformProduct") s := va_Nw.of rfl (hts _ (by decide +kernel))
  have n3 : va_Nw (.methodLinkNest RX1 34 yX3_power "TransformProduct") s := va_Nw.of rfl (hts _ (by decide +kernel))
  have n4 : va_Nw (.methodLinkNest RX1 38 yX3_inverse "TransformProduct") s := va_Nw.of rfl (hts _ (by decide +kernel))
  refine ⟨(fun k => match k with | 0 => c0 | 1 => c1 | 2 => c2 | 3 => c3 | _ => c4, fun k => match k with | 0 => i0 | 1 => i1 | 2 => i2 | 3 => i3 | _ => i4), cI, cT, tp, ⟨?_, ?_⟩, ⟨⟨⟨hZ, hT⟩, n1, n2, n3, n4⟩, va_AO.of hAO⟩⟩
  · intro k q hq
    match k, hq with
    | 0, hq => cases hq; exact hKn0
    | 1, hq => cases hq; exact hKn1
    | 2, hq => cases hq; exact hKn2
    | 3, hq => cases hq; exact hKn3
    | 4, hq => cases hq; exact hKn4
    | k + 5, hq => simp [vwCl] at hq
  · intro k q hq
    match k, hq with
    | 0, hq => cases hq; exact ⟨fun N z => ⟨(fun k h => by cases h), kI, f2, jI, f3⟩, f1⟩
    | 1, hq => cases hq; exact ⟨fun N z => ⟨(fun k h => by cases h), kT, g3, jT, g4⟩, kT, jT, g3, g4, g1, g5⟩
    | k + 2, hq => simp at hq
/-- YOUR PART: from the entry, for every script of at most 2049 ints, the law comes to its end with true -/
theorem whole_start {p : Program} {e : Env} {s : State} {m : MethodId} {below : List Frame} {meth : Method} {c : Code} (l : Launch) {b L : Nat} {xs : Nat → Int32} (hL : L ≤ 2049) (C0 : lw_At p s m meth c b L xs) : W p l e room_1 s m #[Value.ref b] below meth c s.heap [] 0 0 (lw_Z below #[Value.ref b] s) (entryFrame m ([Value.ref b] : List Value).toArray 4) := by
  obtain ⟨hx, hb, hr, hml, hown, hts, hX, hbl, hlocks, hgv⟩ := id C0
  obtain ⟨D, cI, cT, tp, hK, hE⟩ := lw_facts C0
  have hl := lv_entry ([.ref b]) (n := 4) (Nat.le_of_ble_eq_true rfl)
  rw [lg_entry_eq]
  generalize (lg_sl ([.ref b]) ++ List.replicate (4 - (lg_sl ([.ref b])).length) Slot.unset).toArray = ls at hl ⊢
  have hl : lv_has ls 4 [(0, .ref b)] := hl
  exact lw_start tp b L xs hL ⟨hx, hb, hml, hown, fun w h => hts w (wsL_law_in w h)⟩ hr hlocks hK (fun _ h => h) (fun _ h => h) hE hX hbl (Nat.not_le.mpr hbl) ls hl
set_option maxHeartbeats 4000000 in
theorem lw_walk (l : Launch) (b : Addr) (xs : List Int32) : MetFree l x (headSpec (Jvm.Cond.code x code maxLocals ret :: tables_1) room_1) (lw_P b xs) (fun _ _ _ _ _ => True) lw_Q := by
  refine MetFree.of_bodyS (code := code) (maxLocals := maxLocals) (ret := ret) (by decide) ?_ ?_
  · intro args s m h hn
    obtain ⟨meth, c, h1, h2, h3, h4, h5, h6, -, -⟩ := Cond.code_spec hn (atoms_spec (ws := Jvm.Cond.code x code maxLocals ret :: tables_1) h _ List.mem_cons_self)
    exact ⟨meth, c, h1, h2, h3, h4, h5, h6⟩
  · intro p e s m args below meth c s₁ B hml0 hP _
    obtain ⟨rfl, hx, hbd, hgv⟩ := hP
    obtain ⟨scr, harrAt, hlist, hof, hsmall⟩ := hx
    obtain ⟨hcb, hkn, -, -⟩ := State.arrayAt?_spec harrAt
    have hown : s.vm.findClass R_law = some m.cls := findClass_of_methodNamed B.named
    have hts0 : ∀ c ∈ (Jvm.Cond.code x code maxLocals ret :: tables_1), c.before #[Value.ref b] s = true := atoms_spec (ws := Jvm.Cond.code x code maxLocals ret :: tables_1) B.pre
    have hts : ∀ w ∈ lw_tbl, w.before #[Value.ref b] s = true := k2_hts_sels lw_privs (fun w hw => hts0 w (List.mem_cons_of_mem _ hw)) lw_privs_ok
    have hml : c.maxLocals = 4 := B.maxLocals_eq (hts0 _ List.mem_cons_self)
    have X₀ : Stand p l e room_1 s m #[Value.ref b] below meth c s₁ [] 0 0 := Stand.of_body B
    have hh0 : s₁.heap = s.heap := by rw [B.state]; rfl
    have hsz : scr.slots.size = xs.length := by rw [← Array.length_toList, hlist, List.length_map]
    have hval : ∀ j : Nat, j < xs.length → scr.slots[j]? = some (.int (xs.getD j 0)) := fun j hj => by
      rw [← Array.getElem?_toList, hlist]
      simp [hj]
    have hbl : b < s.heap.size := (Array.getElem?_eq_some_iff.mp hcb).1
    have hX : va_X b xs.length (fun j => xs.getD j 0) s s.heap := ⟨scr, hcb, hof, hkn, hsz, hval⟩
    have K : W p l e room_1 s m #[Value.ref b] below meth c s₁.heap [] 0 0 (lw_Z below #[Value.ref b] s) (entryFrame m ([Value.ref b] : List Value).toArray 4) := by
      rw [hh0]
      exact whole_start l hbd ⟨B.exec, B.bytes, B.returns, hml, hown, hts, hX, hbl, B.notSynchronized, hgv⟩
    obtain ⟨t, a1, o, b1, b2, b3⟩ := K s₁ rfl X₀
    exact ⟨t, o, a1, b1, b2, b3⟩
theorem lw_pre_spec {args : Array Value} {s : State} (h : (Jvm.Cond.and given_1 narrow_1).before args s = true) (hr : rest_1_c.before args s = true) : ∃ (b : Addr) (xs : List Int32), lw_P b xs args s := by
  have hs := flat_of_before _ h
  have hq := flat_of_before _ hr
  have hc : (Cond.count 1).before args s = true := hs _ (by decide +kernel)
  have harr : (Cond.arrayOf (.arg 0) .int).before args s = true := hs _ (by decide +kernel)
  have hle : (Cond.le (.length (.arg 0)) (.int 2049)).before args s = true := hs _ (by decide +kernel)
  have hlen : (Cond.isInt (.length (.arg 0))).before args s = true := hq _ (by decide +kernel)
  have hall : (Cond.all (.arg 0) (.isInt (.elem (.arg 0) (.index 0)))).before args s = true := hq _ (by decide +kernel)
  obtain ⟨b, xs, hb, hx⟩ := State.ints_of_pre rfl harr hlen hall
  have hsm : xs.length < 2 ^ 31 := hx.choose_spec.2.2.2
  have hev : (Term.length (.arg 0)).eval args s none [] s = some (.int xs.length.toInt32) := hx.length_eval hb
  have hv := Cond.le_ints hev (show (Term.int 2049).eval args s none [] s = some (.int 2049) from rfl)
  have hd : xs.length.toInt32 ≤ 2049 := by
    simpa [Cond.before, Cond.holds, hv] using hle
  have hN : xs.length ≤ 2049 := (Int32.ofNat_le_ofNat hsm (by decide)).mp (show Int32.ofNat xs.length ≤ Int32.ofNat 2049 from hd)
  exact ⟨b, xs, Cond.one_arg hc (show args[0]? = some (.ref b) from hb), hx, hN, h⟩
theorem lw_comes (l : Launch) : Comes l x (Jvm.Cond.code x code maxLocals ret :: tables_1) room_1 (fun tb e args s => Calls_1 tb e args s ∧ rest_1 tb e args s ∧ Pre_1 tb e args s)
    (fun _ _ args s o t => lw_Q args s o t) := by
  intro p e ha hc hk s m args below hf hfit hheap happ hpre
  obtain ⟨b, xs, hP⟩ := lw_pre_spec hpre.2.2 hpre.2.1
  obtain ⟨k, o, h1, h2, h3, hQ⟩ := lw_walk l b xs p e ha hc hk s m args below hf ((Spec.applies_iff_loose hf).mp happ).1 hP trivial
  exact ⟨k, o, h1, h2, h3, hQ⟩
theorem lw_frame {s t : State} {o : Outcome} {args : Array Value} (h : Framed s o t [] 600000 7302249) :
    Framed s o t (fieldLocs frame_1_writes args s ++ arrayLocs frame_1_arrays args s ++ staticLocs frame_1_statics s) 600000 7302249 := h
theorem lw_limb (L : Cond) (hL : ∀ (args : Array Value) (s t : State), L.after args s (.returned (some (.int 1))) t = true) :
    ArmFor flags0 classFile x code maxLocals ret World_1 tables_1 room_1 Calls_1 rest_1 Pre_1
      (fun tb e a s o t => postC L tb e a s o t ∧ Framed s o t (fieldLocs frame_1_writes a s ++ arrayLocs frame_1_arrays a s ++ staticLocs frame_1_statics s) 600000 7302249) := by
  intro l _ _ _ p e ha hc hk s m args below hf hfit hheap happ hpre
  obtain ⟨k, o, h1, h2, h3, rfl, hF⟩ := lw_comes l p e ha hc hk s m args below hf hfit hheap happ hpre
  exact ⟨k, _, h1, h2, h3, hL args s _, lw_frame hF⟩
theorem i_vc : Claimed_1_1 ∧ Claimed_1_2 := ⟨lw_limb limb_1_1 (fun args s t => by simp [limb_1_1, Cond.after, Cond.holds, Cond.value]), lw_limb limb_1_2 (fun args s t => Cond.after_iff.mpr (by
  first | (rw [show limb_1_2 = Cond.eq .result (.int 1) from rfl, Cond.eq_ints (x := 1) (y := 1) rfl rfl]; simp; done) | (simp [limb_1_2, Cond.value, Term.eval]; done)))⟩
