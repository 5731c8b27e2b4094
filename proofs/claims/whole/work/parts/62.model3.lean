/-! the reference: take, give, compare, rest, spectrum -/
theorem cvI_1 : cvI 1 = nI 1 := rfl
set_option maxHeartbeats 4000000 in
set_option maxRecDepth 100000 in
theorem lp_mtk {p : Program} {l : Launch} {e : Env} {R : Room} {s : State} {m : MethodId} {args : Array Value} {below : List Frame} {meth : Method} {c : Code} {cells slots : Nat} {Q : State → Prop} {A : Nat → Prop} {H0 : Heap} {D : va_G} {cI cT : ClassId} (g : Nat → Nat) (lg N rd tk k : Nat) (dd ct pp : Nat → Nat) (hC0 : CallFix p m c cX4_take 3 s args wsX4_take RX4) (hK : va_K D vwCl [(cI, .int), (cT, .object RX1)] s) (hA : ∀ q, H0.size ≤ q → A q) (hk : k ≤ 1) (hu : ct k ≤ 1024)
    (kk : ∀ (j : Nat) (H : Heap) (locs : List Loc) (ls : Array Slot), j = ct k → va_P D vwCl [(g 0, .inr (4, [.int (nI (lg)), .int (nI (N)), .int (nI (rd)), .ref (g 1), .ref (g 2), .ref (g 3), .int (nI (ct k)), .int (nI (tk))])), (g 1, .inl (cI, 2048, .inl (nA (dd)))), (g 2, .inl (cI, 2, .inl (nA (ct)))), (g 3, .inl (cI, 2048, .inl (nA (va_cpy dd pp (1024 * k) 0 j))))] H → va_D A [(g 0, .inr (4, [.int (nI (lg)), .int (nI (N)), .int (nI (rd)), .ref (g 1), .ref (g 2), .ref (g 3), .int (nI (ct k)), .int (nI (tk))])), (g 1, .inl (cI, 2048, .inl (nA (dd)))), (g 2, .inl (cI, 2, .inl (nA (ct)))), (g 3, .inl (cI, 2048, .inl (nA (va_cpy dd pp (1024 * k) 0 j))))] → va_S A H0 H locs → lv_has ls 3 [(2, .int (nI (j))), (0, .ref (g 0)), (1, .int (nI (k)))] → W p l e R s m args below meth c H locs cells slots Q (F0 m 53 ls [])) :
    ∀ (nn j : Nat) (H : Heap) (locs : List Loc) (ls : Array Slot), ct k - j < nn → j ≤ ct k → va_P D vwCl [(g 0, .inr (4, [.int (nI (lg)), .int (nI (N)), .int (nI (rd)), .ref (g 1), .ref (g 2), .ref (g 3), .int (nI (ct k)), .int (nI (tk))])), (g 1, .inl (cI, 2048, .inl (nA (dd)))), (g 2, .inl (cI, 2, .inl (nA (ct)))), (g 3, .inl (cI, 2048, .inl (nA (va_cpy dd pp (1024 * k) 0 j))))] H → va_D A [(g 0, .inr (4, [.int (nI (lg)), .int (nI (N)), .int (nI (rd)), .ref (g 1), .ref (g 2), .ref (g 3), .int (nI (ct k)), .int (nI (tk))])), (g 1, .inl (cI, 2048, .inl (nA (dd)))), (g 2, .inl (cI, 2, .inl (nA (ct)))), (g 3, .inl (cI, 2048, .inl (nA (va_cpy dd pp (1024 * k) 0 j))))] → va_S A H0 H locs → lv_has ls 3 [(2, .int (nI (j))), (0, .ref (g 0)), (1, .int (nI (k)))] → W p l e R s m args below meth c H locs cells slots Q (F0 m 21 ls []) := by
  obtain ⟨hx, hb, hml, hown, hts⟩ := id hC0
  intro nn
  induction nn with
  | zero => intro _ _ _ _ h; exact absurd h (Nat.not_lt_zero _)
  | succ nn ih =>
    intro j H locs ls hn hj hP hD hS hl
    refine lv_iload_n hx hb dX4_take_21 rfl (lv_at hl 0 rfl) ?_
    refine lv_aload_n hx hb dX4_take_22 rfl (lv_at hl 1 rfl) ?_
    refine va_get (D := D) (ci := 4) (v := .int (nI (ct k))) (C := RX4) (T := TX4) (N := 8) hx hb hts inX4_X4_take hown hK hP 0 rfl rfl 6 (by decide) (hts (.fieldLink RX4 30 "TransformProductModel" "length" "I") (by decide +kernel)) (fun _ h9 => h9) rfl dX4_take_23 ?_
    refine kr_ge (tgt := 53) hx hb dX4_take_26 (by decide) (by omega) (by omega) (fun hc => ?_) (fun hc => ?_)
    · exact kk j H locs ls (by omega) hP hD hS hl
    · refine lv_aload_n hx hb dX4_take_29 rfl (lv_at hl 1 rfl) ?_
      refine va_get (D := D) (ci := 4) (v := .ref (g 3)) (C := RX4) (T := TX4) (N := 8) hx hb hts inX4_X4_take hown hK hP 0 rfl rfl 5 (by decide) (hts (.fieldLink RX4 16 "TransformProductModel" "product" "[I") (by decide +kernel)) (fun _ h9 => h9) rfl dX4_take_30 ?_
      refine lv_iload_n hx hb dX4_take_33 rfl (lv_at hl 0 rfl) ?_
      refine lv_aload_n hx hb dX4_take_34 rfl (lv_at hl 1 rfl) ?_
      refine va_get (D := D) (ci := 4) (v := .ref (g 1)) (C := RX4) (T := TX4) (N := 8) hx hb hts inX4_X4_take hown hK hP 0 rfl rfl 3 (by decide) (hts (.fieldLink RX4 7 "TransformProductModel" "digits" "[I") (by decide +kernel)) (fun _ h9 => h9) rfl dX4_take_35 ?_
      refine lv_sipush (v := nI 1024) hx hb dX4_take_38 (by decide) ?_
      refine lv_iload_n hx hb dX4_take_41 rfl (lv_at hl 2 rfl) ?_
      refine lv_imul hx hb dX4_take_42 ?_
      refine kr_i (pk_mul _ _) ?_
      refine lv_iload_n hx hb dX4_take_43 rfl (lv_at hl 0 rfl) ?_
      refine lv_iadd hx hb dX4_take_44 ?_
      refine kr_i (nI_add _ _) ?_
      refine kr_ld hx hb hK hP 1 0 rfl rfl (by omega) (by decide) dX4_take_45 ?_
      refine kr_st hx hb hK hP hD hS 3 0 rfl rfl (by omega) (by decide) dX4_take_46 (fun H locs hP hD hS => ?_)
      have hP : va_P D vwCl [(g 0, .inr (4, [.int (nI (lg)), .int (nI (N)), .int (nI (rd)), .ref (g 1), .ref (g 2), .ref (g 3), .int (nI (ct k)), .int (nI (tk))])), (g 1, .inl (cI, 2048, .inl (nA (dd)))), (g 2, .inl (cI, 2, .inl (nA (ct)))), (g 3, .inl (cI, 2048, .inl (nA (va_up (va_cpy dd pp (1024 * k) 0 j) j (dd ((1024 * k) + j))))))] H := hP
      have hD : va_D A [(g 0, .inr (4, [.int (nI (lg)), .int (nI (N)), .int (nI (rd)), .ref (g 1), .ref (g 2), .ref (g 3), .int (nI (ct k)), .int (nI (tk))])), (g 1, .inl (cI, 2048, .inl (nA (dd)))), (g 2, .inl (cI, 2, .inl (nA (ct)))), (g 3, .inl (cI, 2048, .inl (nA (va_up (va_cpy dd pp (1024 * k) 0 j) j (dd ((1024 * k) + j))))))] := hD
      rw [show va_up (va_cpy dd pp (1024 * k) 0 j) j (dd (1024 * k + j)) = va_cpy dd pp (1024 * k) 0 (j + 1) from by have := @cpy_s dd pp (1024 * k) 0 j; rwa [Nat.zero_add] at this] at hP hD
      refine lv_iinc (v := nI (j + 1)) (lv' := [(2, .int (nI (j + 1))), (0, .ref (g 0)), (1, .int (nI (k)))]) hx hb dX4_take_47 hl (k := 0) rfl (by rw [show Int32.ofInt 1 = nI 1 by decide]; exact nI_add _ _) (by decide) rfl (fun ls hl => ?_)
      refine lv_goto (tgt := 21) hx hb dX4_take_50 (by decide) ?_
      exact ih (j + 1) H locs ls (by omega) (by omega) hP hD hS (lv_sub hl [0, 1, 2] rfl)
theorem cpy_k {f g : Nat → Nat} {sp n i : Nat} (h : i < n) : va_cpy f g sp 0 n i = f (sp + i) := by
  unfold va_cpy
  rw [if_pos (by omega), Nat.sub_zero]
theorem cpy_d {f g : Nat → Nat} {dp n i : Nat} (h : i < n) : va_cpy f g 0 dp n (dp + i) = f i := by
  unfold va_cpy
  rw [if_pos (by omega)]
  congr 1
  omega
set_option maxHeartbeats 4000000 in
set_option maxRecDepth 100000 in
theorem c_X4_take (l : Launch) (D : va_G) (cI cT : ClassId) (sz : Nat) (g : Nat → Nat) (lg N rd len tk : Nat) (dd ct pp : Nat → Nat) (k : Nat) (hk : k ≤ 1) (hu : ct k ≤ 1024) (hf : ∀ i, i < ct k → dd (1024 * k + i) < 2 ^ 31) : kMi (S := Unit) l yX4_take wsX4_take { frames := 1, cells := 0, slots := 0, locals := 20 } D [(cI, .int), (cT, .object RX1)] [(g 0, .inr (4, [.int (nI (lg)), .int (nI (N)), .int (nI (rd)), .ref (g 1), .ref (g 2), .ref (g 3), .int (nI (len)), .int (nI (tk))])), (g 1, .inl (cI, 2048, .inl (nA (dd)))), (g 2, .inl (cI, 2, .inl (nA (ct)))), (g 3, .inl (cI, 2048, .inl (nA (pp))))] sz (fun _ => True) [.ref (g 0), .int (nI (k))] (fun r _ => r = nI 1) (fun _ => [(g 0, .inr (4, [.int (nI (lg)), .int (nI (N)), .int (nI (rd)), .ref (g 1), .ref (g 2), .ref (g 3), .int (nI (trN (va_cpy dd pp (1024 * k) 0 (ct k)) (ct k))), .int (nI (tk))])), (g 1, .inl (cI, 2048, .inl (nA (dd)))), (g 2, .inl (cI, 2, .inl (nA (ct)))), (g 3, .inl (cI, 2048, .inl (nA (va_cpy dd pp (1024 * k) 0 (ct k)))))]) (0) (0) := by
  refine kM_of (Qc := fun A => va_Qi (S := Unit) (fun r _ => r = nI 1) (kB D A (fun _ => [(g 0, .inr (4, [.int (nI (lg)), .int (nI (N)), .int (nI (rd)), .ref (g 1), .ref (g 2), .ref (g 3), .int (nI (trN (va_cpy dd pp (1024 * k) 0 (ct k)) (ct k))), .int (nI (tk))])), (g 1, .inl (cI, 2048, .inl (nA (dd)))), (g 2, .inl (cI, 2, .inl (nA (ct)))), (g 3, .inl (cI, 2048, .inl (nA (va_cpy dd pp (1024 * k) 0 (ct k)))))])) A) (cc := cX4_take) (maxL := 3) (ret := (some .boolean)) (by decide +kernel) rfl (Nat.le_of_ble_eq_true rfl) ?_
  intro p e s m below meth c A ls hC0 hr hlk hin hP hK hD hA hS hE hAe hsz hl
  obtain ⟨hx, hb, hml, hown, hts⟩ := id hC0
  have hl : lv_has ls 3 [(0, .ref (g 0)), (1, .int (nI (k)))] := hl
  refine lv_iload_n hx hb dX4_take_0 rfl (lv_at hl 1 rfl) ?_
  refine kc_i (wr := [(g 0, .inr (4, [.int (nI (lg)), .int (nI (N)), .int (nI (rd)), .ref (g 1), .ref (g 2), .ref (g 3), .int (nI (len)), .int (nI (tk))])), (g 1, .inl (cI, 2048, .inl (nA (dd)))), (g 2, .inl (cI, 2, .inl (nA (ct)))), (g 3, .inl (cI, 2048, .inl (nA (pp))))]) (va_runS (As := [.int (nI (k))]) (rest := []) hC0 (c_X4_isRow l D cI cT s.heap.size k hk) (va_cwS 1 hts gX4_take_X4_isRow rfl rfl rfl (by decide +kernel) ⟨Nat.le_of_ble_eq_true rfl, Nat.le_of_ble_eq_true rfl⟩) (kp_S kE_0 (fun _ _ _ => trivial) hK hP hD [] rfl (by decide)) rfl rfl hl.1 rfl (lv_room (Nat.le_of_ble_eq_true rfl)) dX4_take_1 ⟨Nat.le_of_ble_eq_true rfl, Nat.le_of_ble_eq_true rfl⟩) hP hD hS hA [] [0, 1, 2, 3] rfl rfl (by decide) (by decide) (fun rr uu H locs hw hP hD hS => ?_)
  subst hw
  have hP : va_P D vwCl [(g 0, .inr (4, [.int (nI (lg)), .int (nI (N)), .int (nI (rd)), .ref (g 1), .ref (g 2), .ref (g 3), .int (nI (len)), .int (nI (tk))])), (g 1, .inl (cI, 2048, .inl (nA (dd)))), (g 2, .inl (cI, 2, .inl (nA (ct)))), (g 3, .inl (cI, 2048, .inl (nA (pp))))] H := hP.sub [0, 1, 2, 3] rfl
  have hD : va_D A [(g 0, .inr (4, [.int (nI (lg)), .int (nI (N)), .int (nI (rd)), .ref (g 1), .ref (g 2), .ref (g 3), .int (nI (len)), .int (nI (tk))])), (g 1, .inl (cI, 2048, .inl (nA (dd)))), (g 2, .inl (cI, 2, .inl (nA (ct)))), (g 3, .inl (cI, 2048, .inl (nA (pp))))] := hD.sub [0, 1, 2, 3] (by decide) rfl
  refine kr_ne0 (tgt := 9) hx hb dX4_take_4 (by decide) (by omega) (fun hc => ?_) (fun hc => ?_)
  · refine lv_aload_n hx hb dX4_take_9 rfl (lv_at hl 0 rfl) ?_
    refine lv_aload_n hx hb dX4_take_10 rfl (lv_at hl 0 rfl) ?_
    refine va_get (D := D) (ci := 4) (v := .ref (g 2)) (C := RX4) (T := TX4) (N := 8) hx hb hts inX4_X4_take hown hK hP 0 rfl rfl 4 (by decide) (hts (.fieldLink RX4 13 "TransformProductModel" "counts" "[I") (by decide +kernel)) (fun _ h9 => h9) rfl dX4_take_11 ?_
    refine lv_iload_n hx hb dX4_take_14 rfl (lv_at hl 1 rfl) ?_
    refine kr_ld hx hb hK hP 2 0 rfl rfl (by omega) (by decide) dX4_take_15 ?_
    refine va_put (D := D) (ci := 4) (v := .int (nI (ct k))) (ty := .int) (C := RX4) (T := TX4) (N := 8) hx hb hts inX4_X4_take tyX4 tyX4_ok nmX4 hown hK hP hD hS 0 rfl rfl 6 (by decide) (hts (.fieldLink RX4 30 "TransformProductModel" "length" "I") (by decide +kernel)) (fun _ h9 => h9) rfl (by decide +kernel) rfl rfl (Nat.le_of_ble_eq_true rfl) dX4_take_16 (fun H locs hP hD hS => ?_)
    have hP : va_P D vwCl [(g 0, .inr (4, [.int (nI (lg)), .int (nI (N)), .int (nI (rd)), .ref (g 1), .ref (g 2), .ref (g 3), .int (nI (ct k)), .int (nI (tk))])), (g 1, .inl (cI, 2048, .inl (nA (dd)))), (g 2, .inl (cI, 2, .inl (nA (ct)))), (g 3, .inl (cI, 2048, .inl (nA (pp))))] H := hP
    have hD : va_D A [(g 0, .inr (4, [.int (nI (lg)), .int (nI (N)), .int (nI (rd)), .ref (g 1), .ref (g 2), .ref (g 3), .int (nI (ct k)), .int (nI (tk))])), (g 1, .inl (cI, 2048, .inl (nA (dd)))), (g 2, .inl (cI, 2, .inl (nA (ct)))), (g 3, .inl (cI, 2048, .inl (nA (pp))))] := hD
    refine lv_iconst (v := nI 0) hx hb dX4_take_19 (by decide) ?_
    refine lv_istore_n (lv' := [(2, .int (nI (0))), (0, .ref (g 0)), (1, .int (nI (k)))]) hx hb dX4_take_20 rfl hl (by decide) rfl (fun ls hl => ?_)
    rw [show pp = va_cpy dd pp (1024 * k) 0 0 from cpy_0.symm] at hP hD
    refine lp_mtk g lg N rd tk k dd ct pp hC0 hK hA hk hu (fun j H locs ls hj hP hD hS hl => ?_) (ct k + 1) 0 H locs ls (by omega) (by omega) hP hD hS (lv_sub hl [0, 1, 2] rfl)
    rw [hj] at hP hD hl
    refine lv_aload_n hx hb dX4_take_53 rfl (lv_at hl 1 rfl) ?_
    refine kc_v (wr := []) (va_runV (As := []) (rest := []) hC0 (c_X4_trim l D cI cT H.size g lg N rd (ct k) tk dd ct (va_cpy dd pp (1024 * k) 0 (ct k)) (fun i hi => by rw [cpy_k hi]; exact hf i hi) (by omega)) (cwV 0 hts gX4_take_X4_trim rfl rfl rfl (by decide +kernel) ⟨Nat.le_of_ble_eq_true rfl, Nat.le_of_ble_eq_true rfl⟩) (kp_V (ci := 4) (k0 := 0) kE_0 (fun _ _ _ => trivial) hK hP hD [0, 1, 2, 3] rfl (by decide) rfl rfl) rfl rfl hl.1 rfl (lv_room (Nat.le_of_ble_eq_true rfl)) dX4_take_54 ⟨Nat.le_of_ble_eq_true rfl, Nat.le_of_ble_eq_true rfl⟩) hP hD hS hA [0, 1, 2, 3] [] rfl rfl (by decide) (by decide) (fun uu H locs hw hP hD hS => ?_)
    have hP : va_P D vwCl [(g 0, .inr (4, [.int (nI (lg)), .int (nI (N)), .int (nI (rd)), .ref (g 1), .ref (g 2), .ref (g 3), .int (nI (trN (va_cpy dd pp (1024 * k) 0 (ct k)) (ct k))), .int (nI (tk))])), (g 1, .inl (cI, 2048, .inl (nA (dd)))), (g 2, .inl (cI, 2, .inl (nA (ct)))), (g 3, .inl (cI, 2048, .inl (nA (va_cpy dd pp (1024 * k) 0 (ct k)))))] H := hP.sub [0, 1, 2, 3] rfl
    have hD : va_D A [(g 0, .inr (4, [.int (nI (lg)), .int (nI (N)), .int (nI (rd)), .ref (g 1), .ref (g 2), .ref (g 3), .int (nI (trN (va_cpy dd pp (1024 * k) 0 (ct k)) (ct k))), .int (nI (tk))])), (g 1, .inl (cI, 2048, .inl (nA (dd)))), (g 2, .inl (cI, 2, .inl (nA (ct)))), (g 3, .inl (cI, 2048, .inl (nA (va_cpy dd pp (1024 * k) 0 (ct k)))))] := hD.sub [0, 1, 2, 3] (by decide) rfl
    refine lv_iconst (v := nI 1) hx hb dX4_take_57 (by decide) ?_
    exact kr_zret () hx hb hr hlk rfl hP hD hS rfl dX4_take_58
  · exact absurd hc (by omega)
set_option maxHeartbeats 4000000 in
set_option maxRecDepth 100000 in
theorem lp_mgv {p : Program} {l : Launch} {e : Env} {R : Room} {s : State} {m : MethodId} {args : Array Value} {below : List Frame} {meth : Method} {c : Code} {cells slots : Nat} {Q : State → Prop} {A : Nat → Prop} {H0 : Heap} {D : va_G} {cI cT : ClassId} (g : Nat → Nat) (lg N rd len tk : Nat) (dd ct pp : Nat → Nat) (k : Nat) (hC0 : CallFix p m c cX4_give 3 s args wsX4_give RX4) (hK : va_K D vwCl [(cI, .int), (cT, .object RX1)] s) (hA : ∀ q, H0.size ≤ q → A q) (hk : k ≤ 1) (hu : len ≤ 1024)
    (kk : ∀ (j : Nat) (H : Heap) (locs : List Loc) (ls : Array Slot), j = len → va_P D vwCl [(g 0, .inr (4, [.int (nI (lg)), .int (nI (N)), .int (nI (rd)), .ref (g 1), .ref (g 2), .ref (g 3), .int (nI (len)), .int (nI (tk))])), (g 1, .inl (cI, 2048, .inl (nA (va_cpy pp dd 0 (1024 * k) j)))), (g 2, .inl (cI, 2, .inl (nA (va_up ct k len)))), (g 3, .inl (cI, 2048, .inl (nA (pp))))] H → va_D A [(g 0, .inr (4, [.int (nI (lg)), .int (nI (N)), .int (nI (rd)), .ref (g 1), .ref (g 2), .ref (g 3), .int (nI (len)), .int (nI (tk))])), (g 1, .inl (cI, 2048, .inl (nA (va_cpy pp dd 0 (1024 * k) j)))), (g 2, .inl (cI, 2, .inl (nA (va_up ct k len)))), (g 3, .inl (cI, 2048, .inl (nA (pp))))] → va_S A H0 H locs → lv_has ls 3 [(2, .int (nI (j))), (0, .ref (g 0)), (1, .int (nI (k)))] → W p l e R s m args below meth c H locs cells slots Q (F0 m 53 ls [])) :
    ∀ (nn j : Nat) (H : Heap) (locs : List Loc) (ls : Array Slot), len - j < nn → j ≤ len → va_P D vwCl [(g 0, .inr (4, [.int (nI (lg)), .int (nI (N)), .int (nI (rd)), .ref (g 1), .ref (g 2), .ref (g 3), .int (nI (len)), .int (nI (tk))])), (g 1, .inl (cI, 2048, .inl (nA (va_cpy pp dd 0 (1024 * k) j)))), (g 2, .inl (cI, 2, .inl (nA (va_up ct k len)))), (g 3, .inl (cI, 2048, .inl (nA (pp))))] H → va_D A [(g 0, .inr (4, [.int (nI (lg)), .int (nI (N)), .int (nI (rd)), .ref (g 1), .ref (g 2), .ref (g 3), .int (nI (len)), .int (nI (tk))])), (g 1, .inl (cI, 2048, .inl (nA (va_cpy pp dd 0 (1024 * k) j)))), (g 2, .inl (cI, 2, .inl (nA (va_up ct k len)))), (g 3, .inl (cI, 2048, .inl (nA (pp))))] → va_S A H0 H locs → lv_has ls 3 [(2, .int (nI (j))), (0, .ref (g 0)), (1, .int (nI (k)))] → W p l e R s m args below meth c H locs cells slots Q (F0 m 21 ls []) := by
  obtain ⟨hx, hb, hml, hown, hts⟩ := id hC0
  intro nn
  induction nn with
  | zero => intro _ _ _ _ h; exact absurd h (Nat.not_lt_zero _)
  | succ nn ih =>
    intro j H locs ls hn hj hP hD hS hl
    refine lv_iload_n hx hb dX4_give_21 rfl (lv_at hl 0 rfl) ?_
    refine lv_aload_n hx hb dX4_give_22 rfl (lv_at hl 1 rfl) ?_
    refine va_get (D := D) (ci := 4) (v := .int (nI (len))) (C := RX4) (T := TX4) (N := 8) hx hb hts inX4_X4_give hown hK hP 0 rfl rfl 6 (by decide) (hts (.fieldLink RX4 30 "TransformProductModel" "length" "I") (by decide +kernel)) (fun _ h9 => h9) rfl dX4_give_23 ?_
    refine kr_ge (tgt := 53) hx hb dX4_give_26 (by decide) (by omega) (by omega) (fun hc => ?_) (fun hc => ?_)
    · exact kk j H locs ls (by omega) hP hD hS hl
    · refine lv_aload_n hx hb dX4_give_29 rfl (lv_at hl 1 rfl) ?_
      refine va_get (D := D) (ci := 4) (v := .ref (g 1)) (C := RX4) (T := TX4) (N := 8) hx hb hts inX4_X4_give hown hK hP 0 rfl rfl 3 (by decide) (hts (.fieldLink RX4 7 "TransformProductModel" "digits" "[I") (by decide +kernel)) (fun _ h9 => h9) rfl dX4_give_30 ?_
      refine lv_sipush (v := nI 1024) hx hb dX4_give_33 (by decide) ?_
      refine lv_iload_n hx hb dX4_give_36 rfl (lv_at hl 2 rfl) ?_
      refine lv_imul hx hb dX4_give_37 ?_
      refine kr_i (pk_mul _ _) ?_
      refine lv_iload_n hx hb dX4_give_38 rfl (lv_at hl 0 rfl) ?_
      refine lv_iadd hx hb dX4_give_39 ?_
      refine kr_i (nI_add _ _) ?_
      refine lv_aload_n hx hb dX4_give_40 rfl (lv_at hl 1 rfl) ?_
      refine va_get (D := D) (ci := 4) (v := .ref (g 3)) (C := RX4) (T := TX4) (N := 8) hx hb hts inX4_X4_give hown hK hP 0 rfl rfl 5 (by decide) (hts (.fieldLink RX4 16 "TransformProductModel" "product" "[I") (by decide +kernel)) (fun _ h9 => h9) rfl dX4_give_41 ?_
      refine lv_iload_n hx hb dX4_give_44 rfl (lv_at hl 0 rfl) ?_
      refine kr_ld hx hb hK hP 3 0 rfl rfl (by omega) (by decide) dX4_give_45 ?_
      refine kr_st hx hb hK hP hD hS 1 0 rfl rfl (by omega) (by decide) dX4_give_46 (fun H locs hP hD hS => ?_)
      have hP : va_P D vwCl [(g 0, .inr (4, [.int (nI (lg)), .int (nI (N)), .int (nI (rd)), .ref (g 1), .ref (g 2), .ref (g 3), .int (nI (len)), .int (nI (tk))])), (g 1, .inl (cI, 2048, .inl (nA (va_up (va_cpy pp dd 0 (1024 * k) j) ((1024 * k) + j) (pp j))))), (g 2, .inl (cI, 2, .inl (nA (va_up ct k len)))), (g 3, .inl (cI, 2048, .inl (nA (pp))))] H := hP
      have hD : va_D A [(g 0, .inr (4, [.int (nI (lg)), .int (nI (N)), .int (nI (rd)), .ref (g 1), .ref (g 2), .ref (g 3), .int (nI (len)), .int (nI (tk))])), (g 1, .inl (cI, 2048, .inl (nA (va_up (va_cpy pp dd 0 (1024 * k) j) ((1024 * k) + j) (pp j))))), (g 2, .inl (cI, 2, .inl (nA (va_up ct k len)))), (g 3, .inl (cI, 2048, .inl (nA (pp))))] := hD
      rw [show va_up (va_cpy pp dd 0 (1024 * k) j) (1024 * k + j) (pp j) = va_cpy pp dd 0 (1024 * k) (j + 1) from by have := @cpy_s pp dd 0 (1024 * k) j; rwa [Nat.zero_add] at this] at hP hD
      refine lv_iinc (v := nI (j + 1)) (lv' := [(2, .int (nI (j + 1))), (0, .ref (g 0)), (1, .int (nI (k)))]) hx hb dX4_give_47 hl (k := 0) rfl (by rw [show Int32.ofInt 1 = nI 1 by decide]; exact nI_add _ _) (by decide) rfl (fun ls hl => ?_)
      refine lv_goto (tgt := 21) hx hb dX4_give_50 (by decide) ?_
      exact ih (j + 1) H locs ls (by omega) (by omega) hP hD hS (lv_sub hl [0, 1, 2] rfl)
set_option maxHeartbeats 4000000 in
set_option maxRecDepth 100000 in
theorem c_X4_give (l : Launch) (D : va_G) (cI cT : ClassId) (sz : Nat) (g : Nat → Nat) (lg N rd len tk : Nat) (dd ct pp : Nat → Nat) (k : Nat) (hk : k ≤ 1) (hu : len ≤ 1024) : kMi (S := Unit) l yX4_give wsX4_give { frames := 1, cells := 0, slots := 0, locals := 20 } D [(cI, .int), (cT, .object RX1)] [(g 0, .inr (4, [.int (nI (lg)), .int (nI (N)), .int (nI (rd)), .ref (g 1), .ref (g 2), .ref (g 3), .int (nI (len)), .int (nI (tk))])), (g 1, .inl (cI, 2048, .inl (nA (dd)))), (g 2, .inl (cI, 2, .inl (nA (ct)))), (g 3, .inl (cI, 2048, .inl (nA (pp))))] sz (fun _ => True) [.ref (g 0), .int (nI (k))] (fun r _ => r = nI 1) (fun _ => [(g 0, .inr (4, [.int (nI (lg)), .int (nI (N)), .int (nI (rd)), .ref (g 1), .ref (g 2), .ref (g 3), .int (nI (len)), .int (nI (tk))])), (g 1, .inl (cI, 2048, .inl (nA (va_cpy pp dd 0 (1024 * k) len)))), (g 2, .inl (cI, 2, .inl (nA (va_up ct k len)))), (g 3, .inl (cI, 2048, .inl (nA (pp))))]) (0) (0) := by
  refine kM_of (Qc := fun A => va_Qi (S := Unit) (fun r _ => r = nI 1) (kB D A (fun _ => [(g 0, .inr (4, [.int (nI (lg)), .int (nI (N)), .int (nI (rd)), .ref (g 1), .ref (g 2), .ref (g 3), .int (nI (len)), .int (nI (tk))])), (g 1, .inl (cI, 2048, .inl (nA (va_cpy pp dd 0 (1024 * k) len)))), (g 2, .inl (cI, 2, .inl (nA (va_up ct k len)))), (g 3, .inl (cI, 2048, .inl (nA (pp))))])) A) (cc := cX4_give) (maxL := 3) (ret := (some .boolean)) (by decide +kernel) rfl (Nat.le_of_ble_eq_true rfl) ?_
  intro p e s m below meth c A ls hC0 hr hlk hin hP hK hD hA hS hE hAe hsz hl
  obtain ⟨hx, hb, hml, hown, hts⟩ := id hC0
  have hl : lv_has ls 3 [(0, .ref (g 0)), (1, .int (nI (k)))] := hl
  refine lv_iload_n hx hb dX4_give_0 rfl (lv_at hl 1 rfl) ?_
  refine kc_i (wr := [(g 0, .inr (4, [.int (nI (lg)), .int (nI (N)), .int (nI (rd)), .ref (g 1), .ref (g 2), .ref (g 3), .int (nI (len)), .int (nI (tk))])), (g 1, .inl (cI, 2048, .inl (nA (dd)))), (g 2, .inl (cI, 2, .inl (nA (ct)))), (g 3, .inl (cI, 2048, .inl (nA (pp))))]) (va_runS (As := [.int (nI (k))]) (rest := []) hC0 (c_X4_isRow l D cI cT s.heap.size k hk) (va_cwS 1 hts gX4_give_X4_isRow rfl rfl rfl (by decide +kernel) ⟨Nat.le_of_ble_eq_true rfl, Nat.le_of_ble_eq_true rfl⟩) (kp_S kE_0 (fun _ _ _ => trivial) hK hP hD [] rfl (by decide)) rfl rfl hl.1 rfl (lv_room (Nat.le_of_ble_eq_true rfl)) dX4_give_1 ⟨Nat.le_of_ble_eq_true rfl, Nat.le_of_ble_eq_true rfl⟩) hP hD hS hA [] [0, 1, 2, 3] rfl rfl (by decide) (by decide) (fun rr uu H locs hw hP hD hS => ?_)
  subst hw
  have hP : va_P D vwCl [(g 0, .inr (4, [.int (nI (lg)), .int (nI (N)), .int (nI (rd)), .ref (g 1), .ref (g 2), .ref (g 3), .int (nI (len)), .int (nI (tk))])), (g 1, .inl (cI, 2048, .inl (nA (dd)))), (g 2, .inl (cI, 2, .inl (nA (ct)))), (g 3, .inl (cI, 2048, .inl (nA (pp))))] H := hP.sub [0, 1, 2, 3] rfl
  have hD : va_D A [(g 0, .inr (4, [.int (nI (lg)), .int (nI (N)), .int (nI (rd)), .ref (g 1), .ref (g 2), .ref (g 3), .int (nI (len)), .int (nI (tk))])), (g 1, .inl (cI, 2048, .inl (nA (dd)))), (g 2, .inl (cI, 2, .inl (nA (ct)))), (g 3, .inl (cI, 2048, .inl (nA (pp))))] := hD.sub [0, 1, 2, 3] (by decide) rfl
  refine kr_ne0 (tgt := 9) hx hb dX4_give_4 (by decide) (by omega) (fun hc => ?_) (fun hc => ?_)
  · refine lv_aload_n hx hb dX4_give_9 rfl (lv_at hl 0 rfl) ?_
    refine va_get (D := D) (ci := 4) (v := .ref (g 2)) (C := RX4) (T := TX4) (N := 8) hx hb hts inX4_X4_give hown hK hP 0 rfl rfl 4 (by decide) (hts (.fieldLink RX4 13 "TransformProductModel" "counts" "[I") (by decide +kernel)) (fun _ h9 => h9) rfl dX4_give_10 ?_
    refine lv_iload_n hx hb dX4_give_13 rfl (lv_at hl 1 rfl) ?_
    refine lv_aload_n hx hb dX4_give_14 rfl (lv_at hl 0 rfl) ?_
    refine va_get (D := D) (ci := 4) (v := .int (nI (len))) (C := RX4) (T := TX4) (N := 8) hx hb hts inX4_X4_give hown hK hP 0 rfl rfl 6 (by decide) (hts (.fieldLink RX4 30 "TransformProductModel" "length" "I") (by decide +kernel)) (fun _ h9 => h9) rfl dX4_give_15 ?_
    refine kr_st hx hb hK hP hD hS 2 0 rfl rfl (by omega) (by decide) dX4_give_18 (fun H locs hP hD hS => ?_)
    have hP : va_P D vwCl [(g 0, .inr (4, [.int (nI (lg)), .int (nI (N)), .int (nI (rd)), .ref (g 1), .ref (g 2), .ref (g 3), .int (nI (len)), .int (nI (tk))])), (g 1, .inl (cI, 2048, .inl (nA (dd)))), (g 2, .inl (cI, 2, .inl (nA (va_up ct k len)))), (g 3, .inl (cI, 2048, .inl (nA (pp))))] H := hP
    have hD : va_D A [(g 0, .inr (4, [.int (nI (lg)), .int (nI (N)), .int (nI (rd)), .ref (g 1), .ref (g 2), .ref (g 3), .int (nI (len)), .int (nI (tk))])), (g 1, .inl (cI, 2048, .inl (nA (dd)))), (g 2, .inl (cI, 2, .inl (nA (va_up ct k len)))), (g 3, .inl (cI, 2048, .inl (nA (pp))))] := hD
    refine lv_iconst (v := nI 0) hx hb dX4_give_19 (by decide) ?_
    refine lv_istore_n (lv' := [(2, .int (nI (0))), (0, .ref (g 0)), (1, .int (nI (k)))]) hx hb dX4_give_20 rfl hl (by decide) rfl (fun ls hl => ?_)
    rw [show dd = va_cpy pp dd 0 (1024 * k) 0 from cpy_0.symm] at hP hD
    refine lp_mgv g lg N rd len tk dd ct pp k hC0 hK hA hk hu (fun j H locs ls hj hP hD hS hl => ?_) (len + 1) 0 H locs ls (by omega) (by omega) hP hD hS (lv_sub hl [0, 1, 2] rfl)
    rw [hj] at hP hD hl
    refine lv_iconst (v := nI 1) hx hb dX4_give_53 (by decide) ?_
    exact kr_zret () hx hb hr hlk rfl hP hD hS rfl dX4_give_54
  · exact absurd hc (by omega)
set_option maxHeartbeats 4000000 in
set_option maxRecDepth 100000 in
theorem c_X4_take_no (l : Launch) (D : va_G) (cI cT : ClassId) (sz : Nat) (g : Nat → Nat) (lg N rd len tk : Nat) (dd ct pp : Nat → Nat) (wh : Int32) (h0 : ¬ wh = 0) (h1 : ¬ wh = nI 1) : kMi (S := Unit) l yX4_take wsX4_take { frames := 1, cells := 0, slots := 0, locals := 20 } D [(cI, .int), (cT, .object RX1)] [(g 0, .inr (4, [.int (nI (lg)), .int (nI (N)), .int (nI (rd)), .ref (g 1), .ref (g 2), .ref (g 3), .int (nI (len)), .int (nI (tk))])), (g 1, .inl (cI, 2048, .inl (nA (dd)))), (g 2, .inl (cI, 2, .inl (nA (ct)))), (g 3, .inl (cI, 2048, .inl (nA (pp))))] sz (fun _ => True) [.ref (g 0), .int (wh)] (fun r _ => r = nI 0) (fun _ => [(g 0, .inr (4, [.int (nI (lg)), .int (nI (N)), .int (nI (rd)), .ref (g 1), .ref (g 2), .ref (g 3), .int (nI (len)), .int (nI (tk))])), (g 1, .inl (cI, 2048, .inl (nA (dd)))), (g 2, .inl (cI, 2, .inl (nA (ct)))), (g 3, .inl (cI, 2048, .inl (nA (pp))))]) (0) (0) := by
  refine kM_of (Qc := fun A => va_Qi (S := Unit) (fun r _ => r = nI 0) (kB D A (fun _ => [(g 0, .inr (4, [.int (nI (lg)), .int (nI (N)), .int (nI (rd)), .ref (g 1), .ref (g 2), .ref (g 3), .int (nI (len)), .int (nI (tk))])), (g 1, .inl (cI, 2048, .inl (nA (dd)))), (g 2, .inl (cI, 2, .inl (nA (ct)))), (g 3, .inl (cI, 2048, .inl (nA (pp))))])) A) (cc := cX4_take) (maxL := 3) (ret := (some .boolean)) (by decide +kernel) rfl (Nat.le_of_ble_eq_true rfl) ?_
  intro p e s m below meth c A ls hC0 hr hlk hin hP hK hD hA hS hE hAe hsz hl
  obtain ⟨hx, hb, hml, hown, hts⟩ := id hC0
  have hl : lv_has ls 3 [(0, .ref (g 0)), (1, .int (wh))] := hl
  refine lv_iload_n hx hb dX4_take_0 rfl (lv_at hl 1 rfl) ?_
  refine kc_i (wr := [(g 0, .inr (4, [.int (nI (lg)), .int (nI (N)), .int (nI (rd)), .ref (g 1), .ref (g 2), .ref (g 3), .int (nI (len)), .int (nI (tk))])), (g 1, .inl (cI, 2048, .inl (nA (dd)))), (g 2, .inl (cI, 2, .inl (nA (ct)))), (g 3, .inl (cI, 2048, .inl (nA (pp))))]) (va_runS (As := [.int (wh)]) (rest := []) hC0 (c_X4_isRow_no l D cI cT s.heap.size wh h0 h1) (va_cwS 1 hts gX4_take_X4_isRow rfl rfl rfl (by decide +kernel) ⟨Nat.le_of_ble_eq_true rfl, Nat.le_of_ble_eq_true rfl⟩) (kp_S kE_0 (fun _ _ _ => trivial) hK hP hD [] rfl (by decide)) rfl rfl hl.1 rfl (lv_room (Nat.le_of_ble_eq_true rfl)) dX4_take_1 ⟨Nat.le_of_ble_eq_true rfl, Nat.le_of_ble_eq_true rfl⟩) hP hD hS hA [] [0, 1, 2, 3] rfl rfl (by decide) (by decide) (fun rr uu H locs hw hP hD hS => ?_)
  subst hw
  have hP : va_P D vwCl [(g 0, .inr (4, [.int (nI (lg)), .int (nI (N)), .int (nI (rd)), .ref (g 1), .ref (g 2), .ref (g 3), .int (nI (len)), .int (nI (tk))])), (g 1, .inl (cI, 2048, .inl (nA (dd)))), (g 2, .inl (cI, 2, .inl (nA (ct)))), (g 3, .inl (cI, 2048, .inl (nA (pp))))] H := hP.sub [0, 1, 2, 3] rfl
  have hD : va_D A [(g 0, .inr (4, [.int (nI (lg)), .int (nI (N)), .int (nI (rd)), .ref (g 1), .ref (g 2), .ref (g 3), .int (nI (len)), .int (nI (tk))])), (g 1, .inl (cI, 2048, .inl (nA (dd)))), (g 2, .inl (cI, 2, .inl (nA (ct)))), (g 3, .inl (cI, 2048, .inl (nA (pp))))] := hD.sub [0, 1, 2, 3] (by decide) rfl
  refine kr_ne0 (tgt := 9) hx hb dX4_take_4 (by decide) (by omega) (fun hc => ?_) (fun hc => ?_)
  · exact absurd hc (by omega)
  · refine lv_iconst (v := nI 0) hx hb dX4_take_7 (by decide) ?_
    exact kr_zret () hx hb hr hlk rfl hP hD hS rfl dX4_take_8
set_option maxHeartbeats 4000000 in
set_option maxRecDepth 100000 in
theorem c_X4_give_no (l : Launch) (D : va_G) (cI cT : ClassId) (sz : Nat) (g : Nat → Nat) (lg N rd len tk : Nat) (dd ct pp : Nat → Nat) (wh : Int32) (h0 : ¬ wh = 0) (h1 : ¬ wh = nI 1) : kMi (S := Unit) l yX4_give wsX4_give { frames := 1, cells := 0, slots := 0, locals := 20 } D [(cI, .int), (cT, .object RX1)] [(g 0, .inr (4, [.int (nI (lg)), .int (nI (N)), .int (nI (rd)), .ref (g 1), .ref (g 2), .ref (g 3), .int (nI (len)), .int (nI (tk))])), (g 1, .inl (cI, 2048, .inl (nA (dd)))), (g 2, .inl (cI, 2, .inl (nA (ct)))), (g 3, .inl (cI, 2048, .inl (nA (pp))))] sz (fun _ => True) [.ref (g 0), .int (wh)] (fun r _ => r = nI 0) (fun _ => [(g 0, .inr (4, [.int (nI (lg)), .int (nI (N)), .int (nI (rd)), .ref (g 1), .ref (g 2), .ref (g 3), .int (nI (len)), .int (nI (tk))])), (g 1, .inl (cI, 2048, .inl (nA (dd)))), (g 2, .inl (cI, 2, .inl (nA (ct)))), (g 3, .inl (cI, 2048, .inl (nA (pp))))]) (0) (0) := by
  refine kM_of (Qc := fun A => va_Qi (S := Unit) (fun r _ => r = nI 0) (kB D A (fun _ => [(g 0, .inr (4, [.int (nI (lg)), .int (nI (N)), .int (nI (rd)), .ref (g 1), .ref (g 2), .ref (g 3), .int (nI (len)), .int (nI (tk))])), (g 1, .inl (cI, 2048, .inl (nA (dd)))), (g 2, .inl (cI, 2, .inl (nA (ct)))), (g 3, .inl (cI, 2048, .inl (nA (pp))))])) A) (cc := cX4_give) (maxL := 3) (ret := (some .boolean)) (by decide +kernel) rfl (Nat.le_of_ble_eq_true rfl) ?_
  intro p e s m below meth c A ls hC0 hr hlk hin hP hK hD hA hS hE hAe hsz hl
  obtain ⟨hx, hb, hml, hown, hts⟩ := id hC0
  have hl : lv_has ls 3 [(0, .ref (g 0)), (1, .int (wh))] := hl
  refine lv_iload_n hx hb dX4_give_0 rfl (lv_at hl 1 rfl) ?_
  refine kc_i (wr := [(g 0, .inr (4, [.int (nI (lg)), .int (nI (N)), .int (nI (rd)), .ref (g 1), .ref (g 2), .ref (g 3), .int (nI (len)), .int (nI (tk))])), (g 1, .inl (cI, 2048, .inl (nA (dd)))), (g 2, .inl (cI, 2, .inl (nA (ct)))), (g 3, .inl (cI, 2048, .inl (nA (pp))))]) (va_runS (As := [.int (wh)]) (rest := []) hC0 (c_X4_isRow_no l D cI cT s.heap.size wh h0 h1) (va_cwS 1 hts gX4_give_X4_isRow rfl rfl rfl (by decide +kernel) ⟨Nat.le_of_ble_eq_true rfl, Nat.le_of_ble_eq_true rfl⟩) (kp_S kE_0 (fun _ _ _ => trivial) hK hP hD [] rfl (by decide)) rfl rfl hl.1 rfl (lv_room (Nat.le_of_ble_eq_true rfl)) dX4_give_1 ⟨Nat.le_of_ble_eq_true rfl, Nat.le_of_ble_eq_true rfl⟩) hP hD hS hA [] [0, 1, 2, 3] rfl rfl (by decide) (by decide) (fun rr uu H locs hw hP hD hS => ?_)
  subst hw
  have hP : va_P D vwCl [(g 0, .inr (4, [.int (nI (lg)), .int (nI (N)), .int (nI (rd)), .ref (g 1), .ref (g 2), .ref (g 3), .int (nI (len)), .int (nI (tk))])), (g 1, .inl (cI, 2048, .inl (nA (dd)))), (g 2, .inl (cI, 2, .inl (nA (ct)))), (g 3, .inl (cI, 2048, .inl (nA (pp))))] H := hP.sub [0, 1, 2, 3] rfl
  have hD : va_D A [(g 0, .inr (4, [.int (nI (lg)), .int (nI (N)), .int (nI (rd)), .ref (g 1), .ref (g 2), .ref (g 3), .int (nI (len)), .int (nI (tk))])), (g 1, .inl (cI, 2048, .inl (nA (dd)))), (g 2, .inl (cI, 2, .inl (nA (ct)))), (g 3, .inl (cI, 2048, .inl (nA (pp))))] := hD.sub [0, 1, 2, 3] (by decide) rfl
  refine kr_ne0 (tgt := 9) hx hb dX4_give_4 (by decide) (by omega) (fun hc => ?_) (fun hc => ?_)
  · exact absurd hc (by omega)
  · refine lv_iconst (v := nI 0) hx hb dX4_give_7 (by decide) ?_
    exact kr_zret () hx hb hr hlk rfl hP hD hS rfl dX4_give_8
set_option maxHeartbeats 4000000 in
set_option maxRecDepth 100000 in
theorem c_X4_digitOf (l : Launch) (D : va_G) (cI cT : ClassId) (sz : Nat) (g : Nat → Nat) (lg N rd len tk : Nat) (dd ct pp : Nat → Nat) (k i : Nat) (hk : k ≤ 1) (hu : ct k ≤ 1024) (hi : i < 1024) : kMi (S := Unit) l yX4_digitOf wsX4_digitOf { frames := 0, cells := 0, slots := 0, locals := 0 } D [(cI, .int), (cT, .object RX1)] [(g 0, .inr (4, [.int (nI (lg)), .int (nI (N)), .int (nI (rd)), .ref (g 1), .ref (g 2), .ref (g 3), .int (nI (len)), .int (nI (tk))])), (g 1, .inl (cI, 2048, .inl (nA (dd)))), (g 2, .inl (cI, 2, .inl (nA (ct)))), (g 3, .inl (cI, 2048, .inl (nA (pp))))] sz (fun _ => True) [.ref (g 0), .int (nI (k)), .int (nI (i))] (fun r _ => r = nI (padN (fun j => dd (1024 * k + j)) (ct k) i)) (fun _ => [(g 0, .inr (4, [.int (nI (lg)), .int (nI (N)), .int (nI (rd)), .ref (g 1), .ref (g 2), .ref (g 3), .int (nI (len)), .int (nI (tk))])), (g 1, .inl (cI, 2048, .inl (nA (dd)))), (g 2, .inl (cI, 2, .inl (nA (ct)))), (g 3, .inl (cI, 2048, .inl (nA (pp))))]) (0) (0) := by
  refine kM_of (Qc := fun A => va_Qi (S := Unit) (fun r _ => r = nI (padN (fun j => dd (1024 * k + j)) (ct k) i)) (kB D A (fun _ => [(g 0, .inr (4, [.int (nI (lg)), .int (nI (N)), .int (nI (rd)), .ref (g 1), .ref (g 2), .ref (g 3), .int (nI (len)), .int (nI (tk))])), (g 1, .inl (cI, 2048, .inl (nA (dd)))), (g 2, .inl (cI, 2, .inl (nA (ct)))), (g 3, .inl (cI, 2048, .inl (nA (pp))))])) A) (cc := cX4_digitOf) (maxL := 3) (ret := (some .int)) (by decide +kernel) rfl (Nat.le_of_ble_eq_true rfl) ?_
  intro p e s m below meth c A ls hC0 hr hlk hin hP hK hD hA hS hE hAe hsz hl
  obtain ⟨hx, hb, hml, hown, hts⟩ := id hC0
  have hl : lv_has ls 3 [(0, .ref (g 0)), (1, .int (nI (k))), (2, .int (nI (i)))] := hl
  refine lv_iload_n hx hb dX4_digitOf_0 rfl (lv_at hl 2 rfl) ?_
  refine lv_aload_n hx hb dX4_digitOf_1 rfl (lv_at hl 0 rfl) ?_
  refine va_get (D := D) (ci := 4) (v := .ref (g 2)) (C := RX4) (T := TX4) (N := 8) hx hb hts inX4_X4_digitOf hown hK hP 0 rfl rfl 4 (by decide) (hts (.fieldLink RX4 13 "TransformProductModel" "counts" "[I") (by decide +kernel)) (fun _ h9 => h9) rfl dX4_digitOf_2 ?_
  refine lv_iload_n hx hb dX4_digitOf_5 rfl (lv_at hl 1 rfl) ?_
  refine kr_ld hx hb hK hP 2 0 rfl rfl (by omega) (by decide) dX4_digitOf_6 ?_
  refine kr_ge (tgt := 25) hx hb dX4_digitOf_7 (by decide) (by omega) (by omega) (fun hc => ?_) (fun hc => ?_)
  · refine lv_iconst (v := nI 0) hx hb dX4_digitOf_25 (by decide) ?_
    exact kr_iret () hx hb hr hlk hP hD hS (by unfold padN; rw [if_neg (by omega)]) dX4_digitOf_26
  · refine lv_aload_n hx hb dX4_digitOf_10 rfl (lv_at hl 0 rfl) ?_
    refine va_get (D := D) (ci := 4) (v := .ref (g 1)) (C := RX4) (T := TX4) (N := 8) hx hb hts inX4_X4_digitOf hown hK hP 0 rfl rfl 3 (by decide) (hts (.fieldLink RX4 7 "TransformProductModel" "digits" "[I") (by decide +kernel)) (fun _ h9 => h9) rfl dX4_digitOf_11 ?_
    refine lv_sipush (v := nI 1024) hx hb dX4_digitOf_14 (by decide) ?_
    refine lv_iload_n hx hb dX4_digitOf_17 rfl (lv_at hl 1 rfl) ?_
    refine lv_imul hx hb dX4_digitOf_18 ?_
    refine kr_i (pk_mul _ _) ?_
    refine lv_iload_n hx hb dX4_digitOf_19 rfl (lv_at hl 2 rfl) ?_
    refine lv_iadd hx hb dX4_digitOf_20 ?_
    refine kr_i (nI_add _ _) ?_
    refine kr_ld hx hb hK hP 1 0 rfl rfl (by omega) (by decide) dX4_digitOf_21 ?_
    refine lv_goto (tgt := 26) hx hb dX4_digitOf_22 (by decide) ?_
    exact kr_iret () hx hb hr hlk hP hD hS (by unfold padN; rw [if_pos hc]) dX4_digitOf_26
theorem pd_lt {f : Nat → Nat} {n c : Nat} (hc : 0 < c) (h : ∀ i, i < n → f i < c) (i : Nat) : padN f n i < c := by
  unfold padN
  split
  · exact h i (by assumption)
  · exact hc
set_option maxHeartbeats 4000000 in
set_option maxRecDepth 100000 in
theorem lp_mcm {p : Program} {l : Launch} {e : Env} {s : State} {m : MethodId} {args : Array Value} {below : List Frame} {meth : Method} {c : Code} {Q : State → Prop} {A : Nat → Prop} {H0 : Heap} {D : va_G} {cI cT : ClassId} (g : Nat → Nat) (lg N rd len tk : Nat) (dd ct pp : Nat → Nat) (res : Nat) (hC0 : CallFix p m c cX4_compare 3 s args wsX4_compare RX4) (hK : va_K D vwCl [(cI, .int), (cT, .object RX1)] s) (hA : ∀ q, H0.size ≤ q → A q) (h0 : ct 0 ≤ 1024) (h1 : ct 1 ≤ 1024) (ha : ∀ q, q < ct 0 → dd (1024 * 0 + q) < 32768) (hbb : ∀ q, q < ct 1 → dd (1024 * 1 + q) < 32768) (hN2 : N ≤ 1024)
    (kk : ∀ (pcx : Nat) (v : Int32) (H : Heap) (locs : List Loc) (ls : Array Slot), (pcx = 38 ∨ pcx = 46) → v = cvI res → va_P D vwCl [(g 0, .inr (4, [.int (nI (lg)), .int (nI (N)), .int (nI (rd)), .ref (g 1), .ref (g 2), .ref (g 3), .int (nI (len)), .int (nI (tk))])), (g 1, .inl (cI, 2048, .inl (nA (dd)))), (g 2, .inl (cI, 2, .inl (nA (ct)))), (g 3, .inl (cI, 2048, .inl (nA (pp))))] H → va_D A [(g 0, .inr (4, [.int (nI (lg)), .int (nI (N)), .int (nI (rd)), .ref (g 1), .ref (g 2), .ref (g 3), .int (nI (len)), .int (nI (tk))])), (g 1, .inl (cI, 2048, .inl (nA (dd)))), (g 2, .inl (cI, 2, .inl (nA (ct)))), (g 3, .inl (cI, 2048, .inl (nA (pp))))] → va_S A H0 H locs → W p l e { frames := 1, cells := 0, slots := 0, locals := 22 } s m args below meth c H locs 0 0 Q (F0 m pcx ls [.int v])) :
    ∀ (i : Nat)  (H : Heap) (locs : List Loc) (ls : Array Slot), cmpN (padN (fun j => dd (1024 * 0 + j)) (ct 0)) (padN (fun j => dd (1024 * 1 + j)) (ct 1)) i = res → i ≤ N → va_P D vwCl [(g 0, .inr (4, [.int (nI (lg)), .int (nI (N)), .int (nI (rd)), .ref (g 1), .ref (g 2), .ref (g 3), .int (nI (len)), .int (nI (tk))])), (g 1, .inl (cI, 2048, .inl (nA (dd)))), (g 2, .inl (cI, 2, .inl (nA (ct)))), (g 3, .inl (cI, 2048, .inl (nA (pp))))] H → va_D A [(g 0, .inr (4, [.int (nI (lg)), .int (nI (N)), .int (nI (rd)), .ref (g 1), .ref (g 2), .ref (g 3), .int (nI (len)), .int (nI (tk))])), (g 1, .inl (cI, 2048, .inl (nA (dd)))), (g 2, .inl (cI, 2, .inl (nA (ct)))), (g 3, .inl (cI, 2048, .inl (nA (pp))))] → va_S A H0 H locs → lv_has ls 3 [(1, .int (nI i - nI 1)), (0, .ref (g 0))] → W p l e { frames := 1, cells := 0, slots := 0, locals := 22 } s m args below meth c H locs 0 0 Q (F0 m 7 ls []) := by
  obtain ⟨hx, hb, hml, hown, hts⟩ := id hC0
  intro i
  induction i with
  | zero =>
    intro  H locs ls hI hiN hP hD hS hl
    refine lv_iload_n hx hb dX4_compare_7 rfl (lv_at hl 0 rfl) ?_
    refine lv_if_lt (tgt := 45) hx hb dX4_compare_8 (by decide) (fun _ => ?_) (fun hc => absurd (by decide) hc)
    refine lv_iconst (v := nI 0) hx hb dX4_compare_45 (by decide) ?_
    exact kk 46 _ H locs ls (Or.inr rfl) (by rw [← hI]; rfl) hP hD hS
  | succ i ih =>
    intro  H locs ls hI hiN hP hD hS hl
    rw [kn_p1] at hl
    have b1 : padN (fun j => dd (1024 * 0 + j)) (ct 0) i < 32768 := pd_lt (by omega) ha i
    have b2 : padN (fun j => dd (1024 * 1 + j)) (ct 1) i < 32768 := pd_lt (by omega) hbb i
    refine lv_iload_n hx hb dX4_compare_7 rfl (lv_at hl 0 rfl) ?_
    refine kr_lt0 (tgt := 45) hx hb dX4_compare_8 (by decide) (by omega) ?_
    refine lv_aload_n hx hb dX4_compare_11 rfl (lv_at hl 1 rfl) ?_
    refine lv_iconst (v := nI 0) hx hb dX4_compare_12 (by decide) ?_
    refine lv_iload_n hx hb dX4_compare_13 rfl (lv_at hl 0 rfl) ?_
    refine kc_i (wr := []) (va_runV (As := [.int (nI (0)), .int (nI (i))]) (rest := []) hC0 (c_X4_digitOf l D cI cT H.size g lg N rd len tk dd ct pp 0 i (by decide) h0 (by omega)) (cwV 2 hts gX4_compare_X4_digitOf rfl rfl rfl (by decide +kernel) ⟨Nat.le_of_ble_eq_true rfl, Nat.le_of_ble_eq_true rfl⟩) (kp_V (ci := 4) (k0 := 0) kE_0 (fun _ _ _ => trivial) hK hP hD [0, 1, 2, 3] rfl (by decide) rfl rfl) rfl rfl hl.1 rfl (lv_room (Nat.le_of_ble_eq_true rfl)) dX4_compare_14 ⟨Nat.le_of_ble_eq_true rfl, Nat.le_of_ble_eq_true rfl⟩) hP hD hS hA [0, 1, 2, 3] [] rfl rfl (by decide) (by decide) (fun rr uu H locs hw hP hD hS => ?_)
    subst hw
    have hP : va_P D vwCl [(g 0, .inr (4, [.int (nI (lg)), .int (nI (N)), .int (nI (rd)), .ref (g 1), .ref (g 2), .ref (g 3), .int (nI (len)), .int (nI (tk))])), (g 1, .inl (cI, 2048, .inl (nA (dd)))), (g 2, .inl (cI, 2, .inl (nA (ct)))), (g 3, .inl (cI, 2048, .inl (nA (pp))))] H := hP.sub [0, 1, 2, 3] rfl
    have hD : va_D A [(g 0, .inr (4, [.int (nI (lg)), .int (nI (N)), .int (nI (rd)), .ref (g 1), .ref (g 2), .ref (g 3), .int (nI (len)), .int (nI (tk))])), (g 1, .inl (cI, 2048, .inl (nA (dd)))), (g 2, .inl (cI, 2, .inl (nA (ct)))), (g 3, .inl (cI, 2048, .inl (nA (pp))))] := hD.sub [0, 1, 2, 3] (by decide) rfl
    refine lv_aload_n hx hb dX4_compare_17 rfl (lv_at hl 1 rfl) ?_
    refine lv_iconst (v := nI 1) hx hb dX4_compare_18 (by decide) ?_
    refine lv_iload_n hx hb dX4_compare_19 rfl (lv_at hl 0 rfl) ?_
    refine kc_i (wr := []) (va_runV (As := [.int (nI (1)), .int (nI (i))]) (rest := [.int (nI (padN (fun j => dd (1024 * 0 + j)) (ct 0) i))]) hC0 (c_X4_digitOf l D cI cT H.size g lg N rd len tk dd ct pp 1 i (by decide) h1 (by omega)) (cwV 2 hts gX4_compare_X4_digitOf rfl rfl rfl (by decide +kernel) ⟨Nat.le_of_ble_eq_true rfl, Nat.le_of_ble_eq_true rfl⟩) (kp_V (ci := 4) (k0 := 0) kE_0 (fun _ _ _ => trivial) hK hP hD [0, 1, 2, 3] rfl (by decide) rfl rfl) rfl rfl hl.1 rfl (lv_room (Nat.le_of_ble_eq_true rfl)) dX4_compare_20 ⟨Nat.le_of_ble_eq_true rfl, Nat.le_of_ble_eq_true rfl⟩) hP hD hS hA [0, 1, 2, 3] [] rfl rfl (by decide) (by decide) (fun rr uu H locs hw hP hD hS => ?_)
    subst hw
    have hP : va_P D vwCl [(g 0, .inr (4, [.int (nI (lg)), .int (nI (N)), .int (nI (rd)), .ref (g 1), .ref (g 2), .ref (g 3), .int (nI (len)), .int (nI (tk))])), (g 1, .inl (cI, 2048, .inl (nA (dd)))), (g 2, .inl (cI, 2, .inl (nA (ct)))), (g 3, .inl (cI, 2048, .inl (nA (pp))))] H := hP.sub [0, 1, 2, 3] rfl
    have hD : va_D A [(g 0, .inr (4, [.int (nI (lg)), .int (nI (N)), .int (nI (rd)), .ref (g 1), .ref (g 2), .ref (g 3), .int (nI (len)), .int (nI (tk))])), (g 1, .inl (cI, 2048, .inl (nA (dd)))), (g 2, .inl (cI, 2, .inl (nA (ct)))), (g 3, .inl (cI, 2048, .inl (nA (pp))))] := hD.sub [0, 1, 2, 3] (by decide) rfl
    refine lv_isub hx hb dX4_compare_23 ?_
    refine lv_istore_n (lv' := [(2, .int (nI (padN (fun j => dd (1024 * 0 + j)) (ct 0) i) - nI (padN (fun j => dd (1024 * 1 + j)) (ct 1) i))), (1, .int (nI (i))), (0, .ref (g 0))]) hx hb dX4_compare_24 rfl hl (by decide) rfl (fun ls hl => ?_)
    refine lv_iload_n hx hb dX4_compare_25 rfl (lv_at hl 0 rfl) ?_
    refine lv_if_eq (tgt := 39) hx hb dX4_compare_26 (by decide) (fun hc => ?_) (fun hc => ?_)
    · have hq := (kn_eq0 (by omega) (by omega)).mp hc
      refine lv_iinc (v := nI i - nI 1) (lv' := [(1, .int (nI i - nI 1)), (2, .int (nI (padN (fun j => dd (1024 * 0 + j)) (ct 0) i) - nI (padN (fun j => dd (1024 * 1 + j)) (ct 1) i))), (0, .ref (g 0))]) hx hb dX4_compare_39 hl (k := 1) rfl (kn_m1 _) (by decide) rfl (fun ls hl => ?_)
      refine lv_goto (tgt := 7) hx hb dX4_compare_42 (by decide) ?_
      exact ih H locs ls (by rw [← hI]; exact (if_pos hq).symm) (by omega) hP hD hS (lv_sub hl [0, 2] rfl)
    · have hq : ¬ padN (fun j => dd (1024 * 0 + j)) (ct 0) i = padN (fun j => dd (1024 * 1 + j)) (ct 1) i := fun z => hc ((kn_eq0 (by omega) (by omega)).mpr z)
      refine lv_iload_n hx hb dX4_compare_29 rfl (lv_at hl 0 rfl) ?_
      refine lv_if_ge (tgt := 37) hx hb dX4_compare_30 (by decide) (fun hd => ?_) (fun hd => ?_)
      · have hg : ¬ padN (fun j => dd (1024 * 0 + j)) (ct 0) i < padN (fun j => dd (1024 * 1 + j)) (ct 1) i := fun z => absurd hd (Int32.not_le.mpr ((kn_lt0 (by omega) (by omega)).mpr z))
        refine lv_iconst (v := nI 1) hx hb dX4_compare_37 (by decide) ?_
        exact kk 38 _ H locs ls (Or.inl rfl) (by rw [← hI]; unfold cmpN; rw [if_neg hq, if_neg hg]; rfl) hP hD hS
      · have hg : padN (fun j => dd (1024 * 0 + j)) (ct 0) i < padN (fun j => dd (1024 * 1 + j)) (ct 1) i := (kn_lt0 (by omega) (by omega)).mp (Int32.not_le.mp hd)
        refine lv_iconst (v := (-1)) hx hb dX4_compare_33 (by decide) ?_
        refine lv_goto (tgt := 38) hx hb dX4_compare_34 (by decide) ?_
        exact kk 38 _ H locs ls (Or.inl rfl) (by rw [← hI]; unfold cmpN; rw [if_neg hq, if_pos hg]; rfl) hP hD hS
set_option maxHeartbeats 4000000 in
set_option maxRecDepth 100000 in
theorem c_X4_compare (l : Launch) (D : va_G) (cI cT : ClassId) (sz : Nat) (g : Nat → Nat) (lg N rd len tk : Nat) (dd ct pp : Nat → Nat) (h0 : ct 0 ≤ 1024) (h1 : ct 1 ≤ 1024) (ha : ∀ q, q < ct 0 → dd (1024 * 0 + q) < 32768) (hbb : ∀ q, q < ct 1 → dd (1024 * 1 + q) < 32768) (hN2 : N ≤ 1024) : kMi (S := Unit) l yX4_compare wsX4_compare { frames := 1, cells := 0, slots := 0, locals := 22 } D [(cI, .int), (cT, .object RX1)] [(g 0, .inr (4, [.int (nI (lg)), .int (nI (N)), .int (nI (rd)), .ref (g 1), .ref (g 2), .ref (g 3), .int (nI (len)), .int (nI (tk))])), (g 1, .inl (cI, 2048, .inl (nA (dd)))), (g 2, .inl (cI, 2, .inl (nA (ct)))), (g 3, .inl (cI, 2048, .inl (nA (pp))))] sz (fun _ => True) [.ref (g 0)] (fun r _ => r = cvI (cmpN (padN (fun j => dd (1024 * 0 + j)) (ct 0)) (padN (fun j => dd (1024 * 1 + j)) (ct 1)) N)) (fun _ => [(g 0, .inr (4, [.int (nI (lg)), .int (nI (N)), .int (nI (rd)), .ref (g 1), .ref (g 2), .ref (g 3), .int (nI (len)), .int (nI (tk))])), (g 1, .inl (cI, 2048, .inl (nA (dd)))), (g 2, .inl (cI, 2, .inl (nA (ct)))), (g 3, .inl (cI, 2048, .inl (nA (pp))))]) (0) (0) := by
  refine kM_of (Qc := fun A => va_Qi (S := Unit) (fun r _ => r = cvI (cmpN (padN (fun j => dd (1024 * 0 + j)) (ct 0)) (padN (fun j => dd (1024 * 1 + j)) (ct 1)) N)) (kB D A (fun _ => [(g 0, .inr (4, [.int (nI (lg)), .int (nI (N)), .int (nI (rd)), .ref (g 1), .ref (g 2), .ref (g 3), .int (nI (len)), .int (nI (tk))])), (g 1, .inl (cI, 2048, .inl (nA (dd)))), (g 2, .inl (cI, 2, .inl (nA (ct)))), (g 3, .inl (cI, 2048, .inl (nA (pp))))])) A) (cc := cX4_compare) (maxL := 3) (ret := (some .int)) (by decide +kernel) rfl (Nat.le_of_ble_eq_true rfl) ?_
  intro p e s m below meth c A ls hC0 hr hlk hin hP hK hD hA hS hE hAe hsz hl
  obtain ⟨hx, hb, hml, hown, hts⟩ := id hC0
  have hl : lv_has ls 3 [(0, .ref (g 0))] := hl
  refine lv_aload_n hx hb dX4_compare_0 rfl (lv_at hl 0 rfl) ?_
  refine va_get (D := D) (ci := 4) (v := .int (nI (N))) (C := RX4) (T := TX4) (N := 8) hx hb hts inX4_X4_compare hown hK hP 0 rfl rfl 1 (by decide) (hts (.fieldLink RX4 23 "TransformProductModel" "n" "I") (by decide +kernel)) (fun _ h9 => h9) rfl dX4_compare_1 ?_
  refine lv_iconst (v := nI 1) hx hb dX4_compare_4 (by decide) ?_
  refine lv_isub hx hb dX4_compare_5 ?_
  refine lv_istore_n (lv' := [(1, .int (nI N - nI 1)), (0, .ref (g 0))]) hx hb dX4_compare_6 rfl hl (by decide) rfl (fun ls hl => ?_)
  refine lp_mcm g lg N rd len tk dd ct pp (cmpN (padN (fun j => dd (1024 * 0 + j)) (ct 0)) (padN (fun j => dd (1024 * 1 + j)) (ct 1)) N) hC0 hK hA h0 h1 ha hbb hN2 (fun pcx v H locs ls hp hv hP hD hS => ?_) N s.heap [] ls rfl (Nat.le_refl _) hP hD hS (lv_sub hl [0, 1] rfl)
  rcases hp with rfl | rfl
  · exact kr_iret () hx hb hr hlk hP hD hS hv dX4_compare_38
  · exact kr_iret () hx hb hr hlk hP hD hS hv dX4_compare_46
set_option maxHeartbeats 4000000 in
set_option maxRecDepth 100000 in
theorem lp_mrs {p : Program} {l : Launch} {e : Env} {R : Room} {s : State} {m : MethodId} {args : Array Value} {below : List Frame} {meth : Method} {c : Code} {cells slots : Nat} {Q : State → Prop} {A : Nat → Prop} {H0 : Heap} {D : va_G} {cI cT : ClassId} (g : Nat → Nat) (lg N rd len tk : Nat) (dd ct pp : Nat → Nat) (md res : Nat) (hC0 : CallFix p m c cX4_rest 5 s args wsX4_rest RX4) (hK : va_K D vwCl [(cI, .int), (cT, .object RX1)] s)  (hf : ∀ i, i < len → pp i < 32768) (hu : len ≤ 1024) (hm : 1 ≤ md) (hm2 : md ≤ 1000000000)
    (kk : ∀ (x : Nat) (H : Heap) (locs : List Loc) (ls : Array Slot), x = res → va_P D vwCl [(g 0, .inr (4, [.int (nI (lg)), .int (nI (N)), .int (nI (rd)), .ref (g 1), .ref (g 2), .ref (g 3), .int (nI (len)), .int (nI (tk))])), (g 1, .inl (cI, 2048, .inl (nA (dd)))), (g 2, .inl (cI, 2, .inl (nA (ct)))), (g 3, .inl (cI, 2048, .inl (nA (pp))))] H → va_D A [(g 0, .inr (4, [.int (nI (lg)), .int (nI (N)), .int (nI (rd)), .ref (g 1), .ref (g 2), .ref (g 3), .int (nI (len)), .int (nI (tk))])), (g 1, .inl (cI, 2048, .inl (nA (dd)))), (g 2, .inl (cI, 2, .inl (nA (ct)))), (g 3, .inl (cI, 2048, .inl (nA (pp))))] → va_S A H0 H locs → lv_has ls 5 [(4, .int (nI 0 - nI 1)), (2, .long (lN (x))), (0, .ref (g 0)), (1, .int (nI (md)))] → W p l e R s m args below meth c H locs cells slots Q (F0 m 52 ls [])) :
    ∀ (k : Nat) (x : Nat) (H : Heap) (locs : List Loc) (ls : Array Slot), hrN pp 32768 md k x = res → x < md → k ≤ len → va_P D vwCl [(g 0, .inr (4, [.int (nI (lg)), .int (nI (N)), .int (nI (rd)), .ref (g 1), .ref (g 2), .ref (g 3), .int (nI (len)), .int (nI (tk))])), (g 1, .inl (cI, 2048, .inl (nA (dd)))), (g 2, .inl (cI, 2, .inl (nA (ct)))), (g 3, .inl (cI, 2048, .inl (nA (pp))))] H → va_D A [(g 0, .inr (4, [.int (nI (lg)), .int (nI (N)), .int (nI (rd)), .ref (g 1), .ref (g 2), .ref (g 3), .int (nI (len)), .int (nI (tk))])), (g 1, .inl (cI, 2048, .inl (nA (dd)))), (g 2, .inl (cI, 2, .inl (nA (ct)))), (g 3, .inl (cI, 2048, .inl (nA (pp))))] → va_S A H0 H locs → lv_has ls 5 [(4, .int (nI k - nI 1)), (2, .long (lN (x))), (0, .ref (g 0)), (1, .int (nI (md)))] → W p l e R s m args below meth c H locs cells slots Q (F0 m 23 ls []) := by
  obtain ⟨hx, hb, hml, hown, hts⟩ := id hC0
  intro k
  induction k with
  | zero =>
    intro x H locs ls hI hx0 hk hP hD hS hl
    refine lv_iload hx hb dX4_rest_23 (lv_at hl 0 rfl) ?_
    refine lv_if_lt (tgt := 52) hx hb dX4_rest_25 (by decide) (fun _ => ?_) (fun hc => absurd (by decide) hc)
    exact kk x H locs ls hI hP hD hS hl
  | succ k ih =>
    intro x H locs ls hI hx0 hk hP hD hS hl
    rw [kn_p1] at hl
    have b1 : pp k < 32768 := hf k (by omega)
    refine lv_iload hx hb dX4_rest_23 (lv_at hl 0 rfl) ?_
    refine kr_lt0 (tgt := 52) hx hb dX4_rest_25 (by decide) (by omega) ?_
    refine lv_lload_n hx hb dX4_rest_28 rfl (lv_at hl 1 rfl) ?_
    refine lv_ldc2 hx hb hown (hts (.constantLong RX4 48 (32768)) (by decide +kernel)) dX4_rest_29 ?_
    refine kr_l (show (32768 : Int64) = lN 32768 by decide) ?_
    refine lv_lmul hx hb dX4_rest_32 ?_
    refine kr_l (lN_mul _ _) ?_
    refine lv_aload_n hx hb dX4_rest_33 rfl (lv_at hl 2 rfl) ?_
    refine va_get (D := D) (ci := 4) (v := .ref (g 3)) (C := RX4) (T := TX4) (N := 8) hx hb hts inX4_X4_rest hown hK hP 0 rfl rfl 5 (by decide) (hts (.fieldLink RX4 16 "TransformProductModel" "product" "[I") (by decide +kernel)) (fun _ h9 => h9) rfl dX4_rest_34 ?_
    refine lv_iload hx hb dX4_rest_37 (lv_at hl 0 rfl) ?_
    refine kr_ld hx hb hK hP 3 0 rfl rfl (by omega) (by decide) dX4_rest_39 ?_
    refine lv_i2l hx hb dX4_rest_40 (nI_l (by omega)) ?_
    refine lv_ladd hx hb dX4_rest_41 ?_
    refine kr_l (lN_add _ _) ?_
    refine lv_iload_n hx hb dX4_rest_42 rfl (lv_at hl 3 rfl) ?_
    refine lv_i2l hx hb dX4_rest_43 (nI_l (by omega)) ?_
    refine lv_lrem hx hb dX4_rest_44 (kn_lne (by omega) (by omega)) ?_
    refine kr_l (pk_lRem (by omega) (by omega) (by omega)) ?_
    refine lv_lstore_n (lv' := [(2, .long (lN (((x * 32768) + (pp k)) % md))), (4, .int (nI (k))), (0, .ref (g 0)), (1, .int (nI (md)))]) hx hb dX4_rest_45 rfl hl (by decide) rfl (fun ls hl => ?_)
    refine lv_iinc (v := nI k - nI 1) (lv' := [(4, .int (nI k - nI 1)), (2, .long (lN (((x * 32768) + (pp k)) % md))), (0, .ref (g 0)), (1, .int (nI (md)))]) hx hb dX4_rest_46 hl (k := 1) rfl (kn_m1 _) (by decide) rfl (fun ls hl => ?_)
    refine lv_goto (tgt := 23) hx hb dX4_rest_49 (by decide) ?_
    exact ih ((x * 32768 + pp k) % md) H locs ls hI (Nat.mod_lt _ (by omega)) (by omega) hP hD hS (lv_sub hl [0, 1, 2, 3] rfl)
set_option maxHeartbeats 4000000 in
set_option maxRecDepth 100000 in
theorem c_X4_rest (l : Launch) (D : va_G) (cI cT : ClassId) (sz : Nat) (g : Nat → Nat) (lg N rd len tk : Nat) (dd ct pp : Nat → Nat) (md : Nat) (hf : ∀ i, i < len → pp i < 32768) (hu : len ≤ 1024) (hm : 1 ≤ md) (hm2 : md ≤ 1000000000) : kMi (S := Unit) l yX4_rest wsX4_rest { frames := 0, cells := 0, slots := 0, locals := 0 } D [(cI, .int), (cT, .object RX1)] [(g 0, .inr (4, [.int (nI (lg)), .int (nI (N)), .int (nI (rd)), .ref (g 1), .ref (g 2), .ref (g 3), .int (nI (len)), .int (nI (tk))])), (g 1, .inl (cI, 2048, .inl (nA (dd)))), (g 2, .inl (cI, 2, .inl (nA (ct)))), (g 3, .inl (cI, 2048, .inl (nA (pp))))] sz (fun _ => True) [.ref (g 0), .int (nI (md))] (fun r _ => r = nI (hrN pp 32768 md len 0)) (fun _ => [(g 0, .inr (4, [.int (nI (lg)), .int (nI (N)), .int (nI (rd)), .ref (g 1), .ref (g 2), .ref (g 3), .int (nI (len)), .int (nI (tk))])), (g 1, .inl (cI, 2048, .inl (nA (dd)))), (g 2, .inl (cI, 2, .inl (nA (ct)))), (g 3, .inl (cI, 2048, .inl (nA (pp))))]) (0) (0) := by
  refine kM_of (Qc := fun A => va_Qi (S := Unit) (fun r _ => r = nI (hrN pp 32768 md len 0)) (kB D A (fun _ => [(g 0, .inr (4, [.int (nI (lg)), .int (nI (N)), .int (nI (rd)), .ref (g 1), .ref (g 2), .ref (g 3), .int (nI (len)), .int (nI (tk))])), (g 1, .inl (cI, 2048, .inl (nA (dd)))), (g 2, .inl (cI, 2, .inl (nA (ct)))), (g 3, .inl (cI, 2048, .inl (nA (pp))))])) A) (cc := cX4_rest) (maxL := 5) (ret := (some .int)) (by decide +kernel) rfl (Nat.le_of_ble_eq_true rfl) ?_
  intro p e s m below meth c A ls hC0 hr hlk hin hP hK hD hA hS hE hAe hsz hl
  obtain ⟨hx, hb, hml, hown, hts⟩ := id hC0
  have hl : lv_has ls 5 [(0, .ref (g 0)), (1, .int (nI (md)))] := hl
  refine lv_iload_n hx hb dX4_rest_0 rfl (lv_at hl 1 rfl) ?_
  refine lv_iconst (v := nI 1) hx hb dX4_rest_1 (by decide) ?_
  refine kr_lt (tgt := 11) hx hb dX4_rest_2 (by decide) (by omega) (by omega) (fun hc => ?_) (fun hc => ?_)
  · exact absurd hc (by omega)
  · refine lv_iload_n hx hb dX4_rest_5 rfl (lv_at hl 1 rfl) ?_
    refine lv_ldc hx hb hown (hts (.constant RX4 79 (1000000000)) (by decide +kernel)) dX4_rest_6 ?_
    refine kr_i (show (1000000000 : Int32) = nI 1000000000 by decide) ?_
    refine kr_le (tgt := 13) hx hb dX4_rest_8 (by decide) (by omega) (by omega) (fun hc => ?_) (fun hc => ?_)
    · refine lv_lconst (v := lN 0) hx hb dX4_rest_13 (by decide) ?_
      refine lv_lstore_n (lv' := [(2, .long (lN (0))), (0, .ref (g 0)), (1, .int (nI (md)))]) hx hb dX4_rest_14 rfl hl (by decide) rfl (fun ls hl => ?_)
      refine lv_aload_n hx hb dX4_rest_15 rfl (lv_at hl 1 rfl) ?_
      refine va_get (D := D) (ci := 4) (v := .int (nI (len))) (C := RX4) (T := TX4) (N := 8) hx hb hts inX4_X4_rest hown hK hP 0 rfl rfl 6 (by decide) (hts (.fieldLink RX4 30 "TransformProductModel" "length" "I") (by decide +kernel)) (fun _ h9 => h9) rfl dX4_rest_16 ?_
      refine lv_iconst (v := nI 1) hx hb dX4_rest_19 (by decide) ?_
      refine lv_isub hx hb dX4_rest_20 ?_
      refine lv_istore (lv' := [(4, .int (nI len - nI 1)), (2, .long (lN (0))), (0, .ref (g 0)), (1, .int (nI (md)))]) hx hb dX4_rest_21 hl (by decide) rfl (fun ls hl => ?_)
      refine lp_mrs g lg N rd len tk dd ct pp md (hrN pp 32768 md len 0) hC0 hK hf hu hm hm2 (fun x H locs ls hI hP hD hS hl => ?_) len 0 s.heap [] ls rfl (by omega) (Nat.le_refl _) hP hD hS (lv_sub hl [0, 1, 2, 3] rfl)
      refine lv_lload_n hx hb dX4_rest_52 rfl (lv_at hl 1 rfl) ?_
      refine lv_l2i hx hb dX4_rest_53 (lN_i _) ?_
      exact kr_iret () hx hb hr hlk hP hD hS (by rw [hI]) dX4_rest_54
    · exact absurd hc (by omega)
set_option maxHeartbeats 4000000 in
set_option maxRecDepth 100000 in
theorem c_X4_rest_no (l : Launch) (D : va_G) (cI cT : ClassId) (sz : Nat) (g : Nat → Nat) (lg N rd len tk : Nat) (dd ct pp : Nat → Nat) (x : Int32) (hno : ¬ ∃ md, 1 ≤ md ∧ md ≤ 1000000000 ∧ x = nI md) : kMi (S := Unit) l yX4_rest wsX4_rest { frames := 0, cells := 0, slots := 0, locals := 0 } D [(cI, .int), (cT, .object RX1)] [(g 0, .inr (4, [.int (nI (lg)), .int (nI (N)), .int (nI (rd)), .ref (g 1), .ref (g 2), .ref (g 3), .int (nI (len)), .int (nI (tk))])), (g 1, .inl (cI, 2048, .inl (nA (dd)))), (g 2, .inl (cI, 2, .inl (nA (ct)))), (g 3, .inl (cI, 2048, .inl (nA (pp))))] sz (fun _ => True) [.ref (g 0), .int (x)] (fun r _ => r = (-1)) (fun _ => [(g 0, .inr (4, [.int (nI (lg)), .int (nI (N)), .int (nI (rd)), .ref (g 1), .ref (g 2), .ref (g 3), .int (nI (len)), .int (nI (tk))])), (g 1, .inl (cI, 2048, .inl (nA (dd)))), (g 2, .inl (cI, 2, .inl (nA (ct)))), (g 3, .inl (cI, 2048, .inl (nA (pp))))]) (0) (0) := by
  refine kM_of (Qc := fun A => va_Qi (S := Unit) (fun r _ => r = (-1)) (kB D A (fun _ => [(g 0, .inr (4, [.int (nI (lg)), .int (nI (N)), .int (nI (rd)), .ref (g 1), .ref (g 2), .ref (g 3), .int (nI (len)), .int (nI (tk))])), (g 1, .inl (cI, 2048, .inl (nA (dd)))), (g 2, .inl (cI, 2, .inl (nA (ct)))), (g 3, .inl (cI, 2048, .inl (nA (pp))))])) A) (cc := cX4_rest) (maxL := 5) (ret := (some .int)) (by decide +kernel) rfl (Nat.le_of_ble_eq_true rfl) ?_
  intro p e s m below meth c A ls hC0 hr hlk hin hP hK hD hA hS hE hAe hsz hl
  obtain ⟨hx, hb, hml, hown, hts⟩ := id hC0
  have hl : lv_has ls 5 [(0, .ref (g 0)), (1, .int (x))] := hl
  refine lv_iload_n hx hb dX4_rest_0 rfl (lv_at hl 1 rfl) ?_
  refine lv_iconst (v := nI 1) hx hb dX4_rest_1 (by decide) ?_
  refine lv_icmp_lt (tgt := 11) hx hb dX4_rest_2 (by decide) (fun hc => ?_) (fun hc => ?_)
  · refine lv_iconst (v := (-1)) hx hb dX4_rest_11 (by decide) ?_
    exact kr_iret () hx hb hr hlk hP hD hS rfl dX4_rest_12
  · refine lv_iload_n hx hb dX4_rest_5 rfl (lv_at hl 1 rfl) ?_
    refine lv_ldc hx hb hown (hts (.constant RX4 79 (1000000000)) (by decide +kernel)) dX4_rest_6 ?_
    refine kr_i (show (1000000000 : Int32) = nI 1000000000 by decide) ?_
    refine lv_icmp_le (tgt := 13) hx hb dX4_rest_8 (by decide) (fun hd => ?_) (fun hd => ?_)
    · exact absurd (rs_ok hc hd) hno
    · refine lv_iconst (v := (-1)) hx hb dX4_rest_11 (by decide) ?_
      exact kr_iret () hx hb hr hlk hP hD hS rfl dX4_rest_12
set_option maxHeartbeats 4000000 in
set_option maxRecDepth 100000 in
theorem c_X4_primeOf (l : Launch) (D : va_G) (cI cT : ClassId) (sz : Nat) (k : Nat) (hk : k < 3) : kMl (S := Unit) l yX4_primeOf wsX4_primeOf { frames := 0, cells := 0, slots := 0, locals := 0 } D [(cI, .int), (cT, .object RX1)] [] sz (fun _ => True) [.int (nI (k))] (fun r _ => r = lN (pmN k)) (fun _ => []) (0) (0) := by
  refine kM_of (Qc := fun A => va_Ql (S := Unit) (fun r _ => r = lN (pmN k)) (kB D A (fun _ => [])) A) (cc := cX4_primeOf) (maxL := 1) (ret := (some .long)) (by decide +kernel) rfl (Nat.le_of_ble_eq_true rfl) ?_
  intro p e s m below meth c A ls hC0 hr hlk hin hP hK hD hA hS hE hAe hsz hl
  obtain ⟨hx, hb, hml, hown, hts⟩ := id hC0
  have hl : lv_has ls 1 [(0, .int (nI (k)))] := hl
  refine lv_iload_n hx hb dX4_primeOf_0 rfl (lv_at hl 0 rfl) ?_
  refine kr_ne0 (tgt := 10) hx hb dX4_primeOf_1 (by decide) (by omega) (fun hc => ?_) (fun hc => ?_)
  · refine lv_iload_n hx hb dX4_primeOf_10 rfl (lv_at hl 0 rfl) ?_
    refine lv_iconst (v := nI 1) hx hb dX4_primeOf_11 (by decide) ?_
    refine kr_ne (tgt := 21) hx hb dX4_primeOf_12 (by decide) (by omega) (by omega) (fun hc2 => ?_) (fun hc2 => ?_)
    · refine lv_ldc2 hx hb hown (hts (.constantLong RX4 61 (469762049)) (by decide +kernel)) dX4_primeOf_21 ?_
      refine kr_l (show (469762049 : Int64) = lN 469762049 by decide) ?_
      exact kr_lret () hx hb hr hlk hP hD hS (by rw [show k = 2 by omega]; rfl) dX4_primeOf_24
    · refine lv_ldc2 hx hb hown (hts (.constantLong RX4 59 (167772161)) (by decide +kernel)) dX4_primeOf_15 ?_
      refine kr_l (show (167772161 : Int64) = lN 167772161 by decide) ?_
      refine lv_goto (tgt := 24) hx hb dX4_primeOf_18 (by decide) ?_
      exact kr_lret () hx hb hr hlk hP hD hS (by rw [hc2]; rfl) dX4_primeOf_24
  · refine lv_ldc2 hx hb hown (hts (.constantLong RX4 57 (998244353)) (by decide +kernel)) dX4_primeOf_4 ?_
    refine kr_l (show (998244353 : Int64) = lN 998244353 by decide) ?_
    refine lv_goto (tgt := 24) hx hb dX4_primeOf_7 (by decide) ?_
    exact kr_lret () hx hb hr hlk hP hD hS (by rw [hc]; rfl) dX4_primeOf_24
theorem mp_1 {pr md sq lf : Nat} (h : lf % 2 = 1) : md * sq % pr * (sq * sq % pr) ^ (lf / 2) % pr = md * sq ^ lf % pr := by
  rw [Nat.mul_mod, Nat.mod_mod, ← Nat.pow_mod, ← Nat.mul_mod]
  congr 1
  have e : sq ^ lf = sq * (sq * sq) ^ (lf / 2) := by
    have h2 : lf = 1 + 2 * (lf / 2) := by omega
    rw [← Nat.pow_two, ← Nat.pow_mul]
    conv => lhs; rw [h2]
    rw [Nat.pow_add, Nat.pow_one]
  rw [e, Nat.mul_assoc]
theorem mp_0 {pr md sq lf : Nat} (h : ¬ lf % 2 = 1) : md * (sq * sq % pr) ^ (lf / 2) % pr = md * sq ^ lf % pr := by
  rw [Nat.mul_mod, ← Nat.pow_mod, ← Nat.mul_mod]
  congr 1
  have e : sq ^ lf = (sq * sq) ^ (lf / 2) := by
    have h2 : lf = 2 * (lf / 2) := by omega
    rw [← Nat.pow_two, ← Nat.pow_mul]
    conv => lhs; rw [h2]
  rw [e]
set_option maxHeartbeats 4000000 in
set_option maxRecDepth 100000 in
theorem lp_mpw {p : Program} {l : Launch} {e : Env} {R : Room} {s : State} {m : MethodId} {args : Array Value} {below : List Frame} {meth : Method} {c : Code} {cells slots : Nat} {Q : State → Prop} {A : Nat → Prop} {H0 : Heap} {D : va_G} {cI cT : ClassId} (pr res : Nat) (hC0 : CallFix p m c cX4_power 12 s args wsX4_power RX4) (hK : va_K D vwCl [(cI, .int), (cT, .object RX1)] s)  (h1 : 1 < pr) (h2 : pr < 2 ^ 31)
    (kk : ∀ (md lf sq : Nat) (H : Heap) (locs : List Loc) (ls : Array Slot), md = res → va_P D vwCl [] H → va_D A [] → va_S A H0 H locs → lv_has ls 12 [(10, .long (lN (lf))), (8, .long (lN (sq))), (6, .long (lN (md))), (4, .long (lN (pr)))] → W p l e R s m args below meth c H locs cells slots Q (F0 m 66 ls [])) :
    ∀ (nn : Nat) (md lf sq : Nat) (H : Heap) (locs : List Loc) (ls : Array Slot), lf < nn → md * sq ^ lf % pr = res → md < pr → sq < pr → lf < 2 ^ 62 → va_P D vwCl [] H → va_D A [] → va_S A H0 H locs → lv_has ls 12 [(10, .long (lN (lf))), (8, .long (lN (sq))), (6, .long (lN (md))), (4, .long (lN (pr)))] → W p l e R s m args below meth c H locs cells slots Q (F0 m 12 ls []) := by
  obtain ⟨hx, hb, hml, hown, hts⟩ := id hC0
  intro nn
  induction nn with
  | zero =>
    intro md lf sq H locs ls hn hI hm hs hlf hP hD hS hl
    exact absurd hn (Nat.not_lt_zero _)
  | succ nn ih =>
    intro md lf sq H locs ls hn hI hm hs hlf hP hD hS hl
    refine lv_lload hx hb dX4_power_12 (lv_at hl 0 rfl) ?_
    refine lv_lconst (v := lN 0) hx hb dX4_power_14 (by decide) ?_
    refine W.lcmp hx hb dX4_power_15 ?_
    refine lv_if_le (tgt := 66) hx hb dX4_power_16 (by decide) (fun hc => ?_) (fun hc => ?_)
    · have hz : lf = 0 := by have := (kl_le (by omega) (by decide)).mp hc; omega
      exact kk md lf sq H locs ls (by rw [← hI, hz, Nat.pow_zero, Nat.mul_one, Nat.mod_eq_of_lt hm]) hP hD hS hl
    · have hz : 0 < lf := Nat.not_le.mp fun z => hc ((kl_le (by omega) (by decide)).mpr z)
      have a1 : md * sq < 2 ^ 62 := kn_mm hm hs h2
      have a2 : sq * sq < 2 ^ 62 := kn_mm hs hs h2
      refine lv_lload hx hb dX4_power_19 (lv_at hl 0 rfl) ?_
      refine lv_ldc2 hx hb hown (hts (.constantLong RX4 63 (2)) (by decide +kernel)) dX4_power_21 ?_
      refine kr_l (show (2 : Int64) = lN 2 by decide) ?_
      refine lv_lrem hx hb dX4_power_24 (kn_lne (by omega) (by omega)) ?_
      refine kr_l (pk_lRem (by omega) (by omega) (by omega)) ?_
      refine lv_lconst (v := lN 1) hx hb dX4_power_25 (by decide) ?_
      refine W.lcmp hx hb dX4_power_26 ?_
      refine lv_if_ne (tgt := 41) hx hb dX4_power_27 (by decide) (fun hc2 => ?_) (fun hc2 => ?_)
      · have hb0 : ¬ lf % 2 = 1 := fun z => hc2 ((kl_eq (by omega) (by decide)).mpr z)
        refine lv_lload hx hb dX4_power_41 (lv_at hl 2 rfl) ?_
        refine lv_lstore (lv' := [(6, .long (lN (md))), (10, .long (lN (lf))), (8, .long (lN (sq))), (4, .long (lN (pr)))]) hx hb dX4_power_43 hl (by decide) rfl (fun ls hl => ?_)
        refine lv_lload hx hb dX4_power_45 (lv_at hl 2 rfl) ?_
        refine lv_lload hx hb dX4_power_47 (lv_at hl 2 rfl) ?_
        refine lv_lmul hx hb dX4_power_49 ?_
        refine kr_l (lN_mul _ _) ?_
        refine lv_lload hx hb dX4_power_50 (lv_at hl 3 rfl) ?_
        refine lv_lrem hx hb dX4_power_52 (kn_lne (by omega) (by omega)) ?_
        refine kr_l (pk_lRem (by omega) (by omega) (by omega)) ?_
        refine lv_lstore (lv' := [(8, .long (lN ((sq * sq) % pr))), (6, .long (lN (md))), (10, .long (lN (lf))), (4, .long (lN (pr)))]) hx hb dX4_power_53 hl (by decide) rfl (fun ls hl => ?_)
        refine lv_lload hx hb dX4_power_55 (lv_at hl 2 rfl) ?_
        refine lv_ldc2 hx hb hown (hts (.constantLong RX4 63 (2)) (by decide +kernel)) dX4_power_57 ?_
        refine kr_l (show (2 : Int64) = lN 2 by decide) ?_
        refine lv_ldiv hx hb dX4_power_60 (kn_lne (by omega) (by omega)) ?_
        refine kr_l (pk_lDiv (by omega) (by omega) (by omega)) ?_
        refine lv_lstore (lv' := [(10, .long (lN (lf / 2))), (8, .long (lN ((sq * sq) % pr))), (6, .long (lN (md))), (4, .long (lN (pr)))]) hx hb dX4_power_61 hl (by decide) rfl (fun ls hl => ?_)
        refine lv_goto (tgt := 12) hx hb dX4_power_63 (by decide) ?_
        exact ih md (lf / 2) (sq * sq % pr) H locs ls (by omega) (by rw [← hI]; exact mp_0 hb0) hm (Nat.mod_lt _ (by omega)) (by omega) hP hD hS (lv_sub hl [0, 1, 2, 3] rfl)
      · have hb1 : lf % 2 = 1 := (kl_eq (by omega) (by decide)).mp hc2
        refine lv_lload hx hb dX4_power_30 (lv_at hl 2 rfl) ?_
        refine lv_lload hx hb dX4_power_32 (lv_at hl 1 rfl) ?_
        refine lv_lmul hx hb dX4_power_34 ?_
        refine kr_l (lN_mul _ _) ?_
        refine lv_lload hx hb dX4_power_35 (lv_at hl 3 rfl) ?_
        refine lv_lrem hx hb dX4_power_37 (kn_lne (by omega) (by omega)) ?_
        refine kr_l (pk_lRem (by omega) (by omega) (by omega)) ?_
        refine lv_goto (tgt := 43) hx hb dX4_power_38 (by decide) ?_
        refine lv_lstore (lv' := [(6, .long (lN ((md * sq) % pr))), (10, .long (lN (lf))), (8, .long (lN (sq))), (4, .long (lN (pr)))]) hx hb dX4_power_43 hl (by decide) rfl (fun ls hl => ?_)
        refine lv_lload hx hb dX4_power_45 (lv_at hl 2 rfl) ?_
        refine lv_lload hx hb dX4_power_47 (lv_at hl 2 rfl) ?_
        refine lv_lmul hx hb dX4_power_49 ?_
        refine kr_l (lN_mul _ _) ?_
        refine lv_lload hx hb dX4_power_50 (lv_at hl 3 rfl) ?_
        refine lv_lrem hx hb dX4_power_52 (kn_lne (by omega) (by omega)) ?_
        refine kr_l (pk_lRem (by omega) (by omega) (by omega)) ?_
        refine lv_lstore (lv' := [(8, .long (lN ((sq * sq) % pr))), (6, .long (lN ((md * sq) % pr))), (10, .long (lN (lf))), (4, .long (lN (pr)))]) hx hb dX4_power_53 hl (by decide) rfl (fun ls hl => ?_)
        refine lv_lload hx hb dX4_power_55 (lv_at hl 2 rfl) ?_
        refine lv_ldc2 hx hb hown (hts (.constantLong RX4 63 (2)) (by decide +kernel)) dX4_power_57 ?_
        refine kr_l (show (2 : Int64) = lN 2 by decide) ?_
        refine lv_ldiv hx hb dX4_power_60 (kn_lne (by omega) (by omega)) ?_
        refine kr_l (pk_lDiv (by omega) (by omega) (by omega)) ?_
        refine lv_lstore (lv' := [(10, .long (lN (lf / 2))), (8, .long (lN ((sq * sq) % pr))), (6, .long (lN ((md * sq) % pr))), (4, .long (lN (pr)))]) hx hb dX4_power_61 hl (by decide) rfl (fun ls hl => ?_)
        refine lv_goto (tgt := 12) hx hb dX4_power_63 (by decide) ?_
        exact ih (md * sq % pr) (lf / 2) (sq * sq % pr) H locs ls (by omega) (by rw [← hI]; exact mp_1 hb1) (Nat.mod_lt _ (by omega)) (Nat.mod_lt _ (by omega)) (by omega) hP hD hS (lv_sub hl [0, 1, 2, 3] rfl)
set_option maxHeartbeats 4000000 in
set_option maxRecDepth 100000 in
theorem c_X4_power (l : Launch) (D : va_G) (cI cT : ClassId) (sz : Nat) (b ex pr : Nat) (h1 : 1 < pr) (h2 : pr < 2 ^ 31) (h3 : ex < 2 ^ 62) (h4 : b < 2 ^ 63) : kMl (S := Unit) l yX4_power wsX4_power { frames := 0, cells := 0, slots := 0, locals := 0 } D [(cI, .int), (cT, .object RX1)] [] sz (fun _ => True) [.long (lN (b)), .long (lN (ex)), .long (lN (pr))] (fun r _ => r = lN (b ^ ex % pr)) (fun _ => []) (0) (0) := by
  refine kM_of (Qc := fun A => va_Ql (S := Unit) (fun r _ => r = lN (b ^ ex % pr)) (kB D A (fun _ => [])) A) (cc := cX4_power) (maxL := 12) (ret := (some .long)) (by decide +kernel) rfl (Nat.le_of_ble_eq_true rfl) ?_
  intro p e s m below meth c A ls hC0 hr hlk hin hP hK hD hA hS hE hAe hsz hl
  obtain ⟨hx, hb, hml, hown, hts⟩ := id hC0
  have hl : lv_has ls 12 [(0, .long (lN (b))), (2, .long (lN (ex))), (4, .long (lN (pr)))] := hl
  refine lv_lconst (v := lN 1) hx hb dX4_power_0 (by decide) ?_
  refine lv_lstore (lv' := [(6, .long (lN (1))), (0, .long (lN (b))), (2, .long (lN (ex))), (4, .long (lN (pr)))]) hx hb dX4_power_1 hl (by decide) rfl (fun ls hl => ?_)
  refine lv_lload_n hx hb dX4_power_3 rfl (lv_at hl 1 rfl) ?_
  refine lv_lload hx hb dX4_power_4 (lv_at hl 3 rfl) ?_
  refine lv_lrem hx hb dX4_power_6 (kn_lne (by omega) (by omega)) ?_
  refine kr_l (pk_lRem (by omega) (by omega) (by omega)) ?_
  refine lv_lstore (lv' := [(8, .long (lN (b % pr))), (6, .long (lN (1))), (0, .long (lN (b))), (2, .long (lN (ex))), (4, .long (lN (pr)))]) hx hb dX4_power_7 hl (by decide) rfl (fun ls hl => ?_)
  refine lv_lload_n hx hb dX4_power_9 rfl (lv_at hl 3 rfl) ?_
  refine lv_lstore (lv' := [(10, .long (lN (ex))), (8, .long (lN (b % pr))), (6, .long (lN (1))), (0, .long (lN (b))), (2, .long (lN (ex))), (4, .long (lN (pr)))]) hx hb dX4_power_10 hl (by decide) rfl (fun ls hl => ?_)
  refine lp_mpw pr (b ^ ex % pr) hC0 hK h1 h2 (fun md lf sq H locs ls hI hP hD hS hl => ?_) (ex + 1) 1 ex (b % pr) s.heap [] ls (by omega) (by rw [Nat.one_mul, ← Nat.pow_mod]) (by omega) (Nat.mod_lt _ (by omega)) h3 hP hD hS (lv_sub hl [0, 1, 2, 5] rfl)
  refine lv_lload hx hb dX4_power_66 (lv_at hl 2 rfl) ?_
  exact kr_lret () hx hb hr hlk hP hD hS (by rw [hI]) dX4_power_68
set_option maxHeartbeats 4000000 in
set_option maxRecDepth 100000 in
theorem lp_msp {p : Program} {l : Launch} {e : Env} {R : Room} {s : State} {m : MethodId} {args : Array Value} {below : List Frame} {meth : Method} {c : Code} {cells slots : Nat} {Q : State → Prop} {A : Nat → Prop} {H0 : Heap} {D : va_G} {cI cT : ClassId} (g : Nat → Nat) (lg N rd len tk : Nat) (dd ct pp : Nat → Nat) (k0 sp pr res : Nat) (hC0 : CallFix p m c cX4_spectrum 11 s args wsX4_spectrum RX4) (hK : va_K D vwCl [(cI, .int), (cT, .object RX1)] s)  (hk0 : k0 ≤ 1) (hp : pr < 2 ^ 30) (hsp : sp < pr) (hf : ∀ i, i < ct k0 → dd (1024 * k0 + i) < 32768) (hu : ct k0 ≤ 1024)
    (kk : ∀ (x : Nat) (H : Heap) (locs : List Loc) (ls : Array Slot), x = res → va_P D vwCl [(g 0, .inr (4, [.int (nI (lg)), .int (nI (N)), .int (nI (rd)), .ref (g 1), .ref (g 2), .ref (g 3), .int (nI (len)), .int (nI (tk))])), (g 1, .inl (cI, 2048, .inl (nA (dd)))), (g 2, .inl (cI, 2, .inl (nA (ct)))), (g 3, .inl (cI, 2048, .inl (nA (pp))))] H → va_D A [(g 0, .inr (4, [.int (nI (lg)), .int (nI (N)), .int (nI (rd)), .ref (g 1), .ref (g 2), .ref (g 3), .int (nI (len)), .int (nI (tk))])), (g 1, .inl (cI, 2048, .inl (nA (dd)))), (g 2, .inl (cI, 2, .inl (nA (ct)))), (g 3, .inl (cI, 2048, .inl (nA (pp))))] → va_S A H0 H locs → lv_has ls 11 [(10, .int (nI 0 - nI 1)), (8, .long (lN (x))), (6, .long (lN (sp))), (4, .long (lN (pr))), (0, .ref (g 0)), (1, .int (nI (k0)))] → W p l e R s m args below meth c H locs cells slots Q (F0 m 119 ls [])) :
    ∀ (k : Nat) (x : Nat) (H : Heap) (locs : List Loc) (ls : Array Slot), hrN (fun j => dd (1024 * k0 + j)) sp pr k x = res → x < pr → k ≤ ct k0 → va_P D vwCl [(g 0, .inr (4, [.int (nI (lg)), .int (nI (N)), .int (nI (rd)), .ref (g 1), .ref (g 2), .ref (g 3), .int (nI (len)), .int (nI (tk))])), (g 1, .inl (cI, 2048, .inl (nA (dd)))), (g 2, .inl (cI, 2, .inl (nA (ct)))), (g 3, .inl (cI, 2048, .inl (nA (pp))))] H → va_D A [(g 0, .inr (4, [.int (nI (lg)), .int (nI (N)), .int (nI (rd)), .ref (g 1), .ref (g 2), .ref (g 3), .int (nI (len)), .int (nI (tk))])), (g 1, .inl (cI, 2048, .inl (nA (dd)))), (g 2, .inl (cI, 2, .inl (nA (ct)))), (g 3, .inl (cI, 2048, .inl (nA (pp))))] → va_S A H0 H locs → lv_has ls 11 [(10, .int (nI k - nI 1)), (8, .long (lN (x))), (6, .long (lN (sp))), (4, .long (lN (pr))), (0, .ref (g 0)), (1, .int (nI (k0)))] → W p l e R s m args below meth c H locs cells slots Q (F0 m 83 ls []) := by
  obtain ⟨hx, hb, hml, hown, hts⟩ := id hC0
  intro k
  induction k with
  | zero =>
    intro x H locs ls hI hx0 hk hP hD hS hl
    refine lv_iload hx hb dX4_spectrum_83 (lv_at hl 0 rfl) ?_
    refine lv_if_lt (tgt := 119) hx hb dX4_spectrum_85 (by decide) (fun _ => ?_) (fun hc => absurd (by decide) hc)
    exact kk x H locs ls hI hP hD hS hl
  | succ k ih =>
    intro x H locs ls hI hx0 hk hP hD hS hl
    rw [kn_p1] at hl
    have b1 : dd (1024 * k0 + k) < 32768 := hf k (by omega)
    have b2 : x * sp < 2 ^ 62 := kn_mm hx0 hsp (by omega)
    refine lv_iload hx hb dX4_spectrum_83 (lv_at hl 0 rfl) ?_
    refine kr_lt0 (tgt := 119) hx hb dX4_spectrum_85 (by decide) (by omega) ?_
    refine lv_lload hx hb dX4_spectrum_88 (lv_at hl 1 rfl) ?_
    refine lv_lload hx hb dX4_spectrum_90 (lv_at hl 2 rfl) ?_
    refine lv_lmul hx hb dX4_spectrum_92 ?_
    refine kr_l (lN_mul _ _) ?_
    refine lv_aload_n hx hb dX4_spectrum_93 rfl (lv_at hl 4 rfl) ?_
    refine va_get (D := D) (ci := 4) (v := .ref (g 1)) (C := RX4) (T := TX4) (N := 8) hx hb hts inX4_X4_spectrum hown hK hP 0 rfl rfl 3 (by decide) (hts (.fieldLink RX4 7 "TransformProductModel" "digits" "[I") (by decide +kernel)) (fun _ h9 => h9) rfl dX4_spectrum_94 ?_
    refine lv_sipush (v := nI 1024) hx hb dX4_spectrum_97 (by decide) ?_
    refine lv_iload_n hx hb dX4_spectrum_100 rfl (lv_at hl 5 rfl) ?_
    refine lv_imul hx hb dX4_spectrum_101 ?_
    refine kr_i (pk_mul _ _) ?_
    refine lv_iload hx hb dX4_spectrum_102 (lv_at hl 0 rfl) ?_
    refine lv_iadd hx hb dX4_spectrum_104 ?_
    refine kr_i (nI_add _ _) ?_
    refine kr_ld hx hb hK hP 1 0 rfl rfl (by omega) (by decide) dX4_spectrum_105 ?_
    refine lv_i2l hx hb dX4_spectrum_106 (nI_l (by omega)) ?_
    refine lv_ladd hx hb dX4_spectrum_107 ?_
    refine kr_l (lN_add _ _) ?_
    refine lv_lload hx hb dX4_spectrum_108 (lv_at hl 3 rfl) ?_
    refine lv_lrem hx hb dX4_spectrum_110 (kn_lne (by omega) (by omega)) ?_
    refine kr_l (pk_lRem (by omega) (by omega) (by omega)) ?_
    refine lv_lstore (lv' := [(8, .long (lN (((x * sp) + (dd ((1024 * k0) + k))) % pr))), (10, .int (nI (k))), (6, .long (lN (sp))), (4, .long (lN (pr))), (0, .ref (g 0)), (1, .int (nI (k0)))]) hx hb dX4_spectrum_111 hl (by decide) rfl (fun ls hl => ?_)
    refine lv_iinc (v := nI k - nI 1) (lv' := [(10, .int (nI k - nI 1)), (8, .long (lN (((x * sp) + (dd ((1024 * k0) + k))) % pr))), (6, .long (lN (sp))), (4, .long (lN (pr))), (0, .ref (g 0)), (1, .int (nI (k0)))]) hx hb dX4_spectrum_113 hl (k := 1) rfl (kn_m1 _) (by decide) rfl (fun ls hl => ?_)
    refine lv_goto (tgt := 83) hx hb dX4_spectrum_116 (by decide) ?_
    exact ih ((x * sp + dd (1024 * k0 + k)) % pr) H locs ls hI (Nat.mod_lt _ (by omega)) (by omega) hP hD hS (lv_sub hl [0, 1, 2, 3, 4, 5] rfl)
set_option maxHeartbeats 4000000 in
set_option maxRecDepth 100000 in
theorem c_X4_spectrum (l : Launch) (D : va_G) (cI cT : ClassId) (sz : Nat) (g : Nat → Nat) (lg N rd len tk : Nat) (dd ct pp : Nat → Nat) (k0 kp i kk2 : Nat) (hk0 : k0 ≤ 1) (hkp : kp < 3) (hi : i < N) (hN : 2 ^ (kk2 + 1) = N) (hN2 : N ≤ 1024) (hN0 : 0 < N) (hf : ∀ i, i < ct k0 → dd (1024 * k0 + i) < 32768) (hu : ct k0 ≤ 1024) : kMi (S := Unit) l yX4_spectrum wsX4_spectrum { frames := 1, cells := 0, slots := 0, locals := 31 } D [(cI, .int), (cT, .object RX1)] [(g 0, .inr (4, [.int (nI (lg)), .int (nI (N)), .int (nI (1)), .ref (g 1), .ref (g 2), .ref (g 3), .int (nI (len)), .int (nI (tk))])), (g 1, .inl (cI, 2048, .inl (nA (dd)))), (g 2, .inl (cI, 2, .inl (nA (ct)))), (g 3, .inl (cI, 2048, .inl (nA (pp))))] sz (fun _ => True) [.ref (g 0), .int (nI (k0)), .int (nI (kp)), .int (nI (i))] (fun r _ => r = nI (hrN (fun j => dd (1024 * k0 + j)) (pmW kp kk2 ^ i % pmN kp) (pmN kp) (ct k0) 0)) (fun _ => [(g 0, .inr (4, [.int (nI (lg)), .int (nI (N)), .int (nI (1)), .ref (g 1), .ref (g 2), .ref (g 3), .int (nI (len)), .int (nI (tk))])), (g 1, .inl (cI, 2048, .inl (nA (dd)))), (g 2, .inl (cI, 2, .inl (nA (ct)))), (g 3, .inl (cI, 2048, .inl (nA (pp))))]) (0) (0) := by
  refine kM_of (Qc := fun A => va_Qi (S := Unit) (fun r _ => r = nI (hrN (fun j => dd (1024 * k0 + j)) (pmW kp kk2 ^ i % pmN kp) (pmN kp) (ct k0) 0)) (kB D A (fun _ => [(g 0, .inr (4, [.int (nI (lg)), .int (nI (N)), .int (nI (1)), .ref (g 1), .ref (g 2), .ref (g 3), .int (nI (len)), .int (nI (tk))])), (g 1, .inl (cI, 2048, .inl (nA (dd)))), (g 2, .inl (cI, 2, .inl (nA (ct)))), (g 3, .inl (cI, 2048, .inl (nA (pp))))])) A) (cc := cX4_spectrum) (maxL := 11) (ret := (some .int)) (by decide +kernel) rfl (Nat.le_of_ble_eq_true rfl) ?_
  intro p e s m below meth c A ls hC0 hr hlk hin hP hK hD hA hS hE hAe hsz hl
  obtain ⟨hx, hb, hml, hown, hts⟩ := id hC0
  have hl : lv_has ls 11 [(0, .ref (g 0)), (1, .int (nI (k0))), (2, .int (nI (kp))), (3, .int (nI (i)))] := hl
  have p0 := pm_lo kp
  have q0 := pm_hi kp
  refine lv_aload_n hx hb dX4_spectrum_0 rfl (lv_at hl 0 rfl) ?_
  refine va_get (D := D) (ci := 4) (v := .int (nI (1))) (C := RX4) (T := TX4) (N := 8) hx hb hts inX4_X4_spectrum hown hK hP 0 rfl rfl 2 (by decide) (hts (.fieldLink RX4 26 "TransformProductModel" "isReady" "Z") (by decide +kernel)) (fun _ h9 => h9) rfl dX4_spectrum_1 ?_
  refine kr_eq0 (tgt := 35) hx hb dX4_spectrum_4 (by decide) (by omega) (fun hc => ?_) (fun hc => ?_)
  · exact absurd hc (by omega)
  · refine lv_iload_n hx hb dX4_spectrum_7 rfl (lv_at hl 1 rfl) ?_
    refine kc_i (wr := [(g 0, .inr (4, [.int (nI (lg)), .int (nI (N)), .int (nI (1)), .ref (g 1), .ref (g 2), .ref (g 3), .int (nI (len)), .int (nI (tk))])), (g 1, .inl (cI, 2048, .inl (nA (dd)))), (g 2, .inl (cI, 2, .inl (nA (ct)))), (g 3, .inl (cI, 2048, .inl (nA (pp))))]) (va_runS (As := [.int (nI (k0))]) (rest := []) hC0 (c_X4_isRow l D cI cT s.heap.size k0 hk0) (va_cwS 1 hts gX4_spectrum_X4_isRow rfl rfl rfl (by decide +kernel) ⟨Nat.le_of_ble_eq_true rfl, Nat.le_of_ble_eq_true rfl⟩) (kp_S kE_0 (fun _ _ _ => trivial) hK hP hD [] rfl (by decide)) rfl rfl hl.1 rfl (lv_room (Nat.le_of_ble_eq_true rfl)) dX4_spectrum_8 ⟨Nat.le_of_ble_eq_true rfl, Nat.le_of_ble_eq_true rfl⟩) hP hD hS hA [] [0, 1, 2, 3] rfl rfl (by decide) (by decide) (fun rr uu H locs hw hP hD hS => ?_)
    subst hw
    have hP : va_P D vwCl [(g 0, .inr (4, [.int (nI (lg)), .int (nI (N)), .int (nI (1)), .ref (g 1), .ref (g 2), .ref (g 3), .int (nI (len)), .int (nI (tk))])), (g 1, .inl (cI, 2048, .inl (nA (dd)))), (g 2, .inl (cI, 2, .inl (nA (ct)))), (g 3, .inl (cI, 2048, .inl (nA (pp))))] H := hP.sub [0, 1, 2, 3] rfl
    have hD : va_D A [(g 0, .inr (4, [.int (nI (lg)), .int (nI (N)), .int (nI (1)), .ref (g 1), .ref (g 2), .ref (g 3), .int (nI (len)), .int (nI (tk))])), (g 1, .inl (cI, 2048, .inl (nA (dd)))), (g 2, .inl (cI, 2, .inl (nA (ct)))), (g 3, .inl (cI, 2048, .inl (nA (pp))))] := hD.sub [0, 1, 2, 3] (by decide) rfl
    refine kr_eq0 (tgt := 35) hx hb dX4_spectrum_11 (by decide) (by omega) (fun hc => ?_) (fun hc => ?_)
    · exact absurd hc (by omega)
    · refine lv_iload_n hx hb dX4_spectrum_14 rfl (lv_at hl 2 rfl) ?_
      refine kr_lt0 (tgt := 35) hx hb dX4_spectrum_15 (by decide) (by omega) ?_
      refine lv_iload_n hx hb dX4_spectrum_18 rfl (lv_at hl 2 rfl) ?_
      refine lv_iconst (v := nI 2) hx hb dX4_spectrum_19 (by decide) ?_
      refine kr_gt (tgt := 35) hx hb dX4_spectrum_20 (by decide) (by omega) (by omega) (fun hc => ?_) (fun hc => ?_)
      · exact absurd hc (by omega)
      · refine lv_iload_n hx hb dX4_spectrum_23 rfl (lv_at hl 3 rfl) ?_
        refine kr_lt0 (tgt := 35) hx hb dX4_spectrum_24 (by decide) (by omega) ?_
        refine lv_iload_n hx hb dX4_spectrum_27 rfl (lv_at hl 3 rfl) ?_
        refine lv_aload_n hx hb dX4_spectrum_28 rfl (lv_at hl 0 rfl) ?_
        refine va_get (D := D) (ci := 4) (v := .int (nI (N))) (C := RX4) (T := TX4) (N := 8) hx hb hts inX4_X4_spectrum hown hK hP 0 rfl rfl 1 (by decide) (hts (.fieldLink RX4 23 "TransformProductModel" "n" "I") (by decide +kernel)) (fun _ h9 => h9) rfl dX4_spectrum_29 ?_
        refine kr_lt (tgt := 37) hx hb dX4_spectrum_32 (by decide) (by omega) (by omega) (fun hc => ?_) (fun hc => ?_)
        · refine lv_iload_n hx hb dX4_spectrum_37 rfl (lv_at hl 2 rfl) ?_
          refine kc_l (wr := [(g 0, .inr (4, [.int (nI (lg)), .int (nI (N)), .int (nI (1)), .ref (g 1), .ref (g 2), .ref (g 3), .int (nI (len)), .int (nI (tk))])), (g 1, .inl (cI, 2048, .inl (nA (dd)))), (g 2, .inl (cI, 2, .inl (nA (ct)))), (g 3, .inl (cI, 2048, .inl (nA (pp))))]) (va_runS (As := [.int (nI (kp))]) (rest := []) hC0 (c_X4_primeOf l D cI cT H.size kp hkp) (va_cwS 1 hts gX4_spectrum_X4_primeOf rfl rfl rfl (by decide +kernel) ⟨Nat.le_of_ble_eq_true rfl, Nat.le_of_ble_eq_true rfl⟩) (kp_S kE_0 (fun _ _ _ => trivial) hK hP hD [] rfl (by decide)) rfl rfl hl.1 rfl (lv_room (Nat.le_of_ble_eq_true rfl)) dX4_spectrum_38 ⟨Nat.le_of_ble_eq_true rfl, Nat.le_of_ble_eq_true rfl⟩) hP hD hS hA [] [0, 1, 2, 3] rfl rfl (by decide) (by decide) (fun rr uu H locs hw hP hD hS => ?_)
          subst hw
          have hP : va_P D vwCl [(g 0, .inr (4, [.int (nI (lg)), .int (nI (N)), .int (nI (1)), .ref (g 1), .ref (g 2), .ref (g 3), .int (nI (len)), .int (nI (tk))])), (g 1, .inl (cI, 2048, .inl (nA (dd)))), (g 2, .inl (cI, 2, .inl (nA (ct)))), (g 3, .inl (cI, 2048, .inl (nA (pp))))] H := hP.sub [0, 1, 2, 3] rfl
          have hD : va_D A [(g 0, .inr (4, [.int (nI (lg)), .int (nI (N)), .int (nI (1)), .ref (g 1), .ref (g 2), .ref (g 3), .int (nI (len)), .int (nI (tk))])), (g 1, .inl (cI, 2048, .inl (nA (dd)))), (g 2, .inl (cI, 2, .inl (nA (ct)))), (g 3, .inl (cI, 2048, .inl (nA (pp))))] := hD.sub [0, 1, 2, 3] (by decide) rfl
          have hq : (pmN kp - 1) / N ≤ pmN kp - 1 := Nat.div_le_self _ _
          refine lv_lstore (lv' := [(4, .long (lN (pmN kp))), (0, .ref (g 0)), (1, .int (nI (k0))), (2, .int (nI (kp))), (3, .int (nI (i)))]) hx hb dX4_spectrum_41 hl (by decide) rfl (fun ls hl => ?_)
          refine lv_ldc2 hx hb hown (hts (.constantLong RX4 69 (3)) (by decide +kernel)) dX4_spectrum_43 ?_
          refine kr_l (show (3 : Int64) = lN 3 by decide) ?_
          refine lv_lload hx hb dX4_spectrum_46 (lv_at hl 0 rfl) ?_
          refine lv_lconst (v := lN 1) hx hb dX4_spectrum_48 (by decide) ?_
          refine lv_lsub hx hb dX4_spectrum_49 ?_
          refine kr_l (lN_sub (by omega)) ?_
          refine lv_aload_n hx hb dX4_spectrum_50 rfl (lv_at hl 1 rfl) ?_
          refine va_get (D := D) (ci := 4) (v := .int (nI (N))) (C := RX4) (T := TX4) (N := 8) hx hb hts inX4_X4_spectrum hown hK hP 0 rfl rfl 1 (by decide) (hts (.fieldLink RX4 23 "TransformProductModel" "n" "I") (by decide +kernel)) (fun _ h9 => h9) rfl dX4_spectrum_51 ?_
          refine lv_i2l hx hb dX4_spectrum_54 (nI_l (by omega)) ?_
          refine lv_ldiv hx hb dX4_spectrum_55 (kn_lne (by omega) (by omega)) ?_
          refine kr_l (pk_lDiv (by omega) (by omega) (by omega)) ?_
          refine lv_lload hx hb dX4_spectrum_56 (lv_at hl 0 rfl) ?_
          refine kc_l (wr := [(g 0, .inr (4, [.int (nI (lg)), .int (nI (N)), .int (nI (1)), .ref (g 1), .ref (g 2), .ref (g 3), .int (nI (len)), .int (nI (tk))])), (g 1, .inl (cI, 2048, .inl (nA (dd)))), (g 2, .inl (cI, 2, .inl (nA (ct)))), (g 3, .inl (cI, 2048, .inl (nA (pp))))]) (va_runS (As := [.long (lN (3)), .long (lN (((pmN kp) - 1) / N)), .long (lN (pmN kp))]) (rest := []) hC0 (c_X4_power l D cI cT H.size 3 ((pmN kp - 1) / N) (pmN kp) (by omega) (by omega) (by omega) (by omega)) (va_cwS 3 hts gX4_spectrum_X4_power rfl rfl rfl (by decide +kernel) ⟨Nat.le_of_ble_eq_true rfl, Nat.le_of_ble_eq_true rfl⟩) (kp_S kE_0 (fun _ _ _ => trivial) hK hP hD [] rfl (by decide)) rfl rfl hl.1 rfl (lv_room (Nat.le_of_ble_eq_true rfl)) dX4_spectrum_58 ⟨Nat.le_of_ble_eq_true rfl, Nat.le_of_ble_eq_true rfl⟩) hP hD hS hA [] [0, 1, 2, 3] rfl rfl (by decide) (by decide) (fun rr uu H locs hw hP hD hS => ?_)
          subst hw
          have hP : va_P D vwCl [(g 0, .inr (4, [.int (nI (lg)), .int (nI (N)), .int (nI (1)), .ref (g 1), .ref (g 2), .ref (g 3), .int (nI (len)), .int (nI (tk))])), (g 1, .inl (cI, 2048, .inl (nA (dd)))), (g 2, .inl (cI, 2, .inl (nA (ct)))), (g 3, .inl (cI, 2048, .inl (nA (pp))))] H := hP.sub [0, 1, 2, 3] rfl
          have hD : va_D A [(g 0, .inr (4, [.int (nI (lg)), .int (nI (N)), .int (nI (1)), .ref (g 1), .ref (g 2), .ref (g 3), .int (nI (len)), .int (nI (tk))])), (g 1, .inl (cI, 2048, .inl (nA (dd)))), (g 2, .inl (cI, 2, .inl (nA (ct)))), (g 3, .inl (cI, 2048, .inl (nA (pp))))] := hD.sub [0, 1, 2, 3] (by decide) rfl
          refine kr_l (congrArg lN (show 3 ^ ((pmN kp - 1) / N) % pmN kp = pmW kp kk2 from (by unfold pmW; rw [hN]))) ?_
          have hwl := pmW_lt kp kk2
          refine lv_iload_n hx hb dX4_spectrum_61 rfl (lv_at hl 4 rfl) ?_
          refine lv_i2l hx hb dX4_spectrum_62 (nI_l (by omega)) ?_
          refine lv_lload hx hb dX4_spectrum_63 (lv_at hl 0 rfl) ?_
          refine kc_l (wr := [(g 0, .inr (4, [.int (nI (lg)), .int (nI (N)), .int (nI (1)), .ref (g 1), .ref (g 2), .ref (g 3), .int (nI (len)), .int (nI (tk))])), (g 1, .inl (cI, 2048, .inl (nA (dd)))), (g 2, .inl (cI, 2, .inl (nA (ct)))), (g 3, .inl (cI, 2048, .inl (nA (pp))))]) (va_runS (As := [.long (lN (pmW kp kk2)), .long (lN (i)), .long (lN (pmN kp))]) (rest := []) hC0 (c_X4_power l D cI cT H.size (pmW kp kk2) i (pmN kp) (by omega) (by omega) (by omega) (by omega)) (va_cwS 3 hts gX4_spectrum_X4_power rfl rfl rfl (by decide +kernel) ⟨Nat.le_of_ble_eq_true rfl, Nat.le_of_ble_eq_true rfl⟩) (kp_S kE_0 (fun _ _ _ => trivial) hK hP hD [] rfl (by decide)) rfl rfl hl.1 rfl (lv_room (Nat.le_of_ble_eq_true rfl)) dX4_spectrum_65 ⟨Nat.le_of_ble_eq_true rfl, Nat.le_of_ble_eq_true rfl⟩) hP hD hS hA [] [0, 1, 2, 3] rfl rfl (by decide) (by decide) (fun rr uu H locs hw hP hD hS => ?_)
          subst hw
          have hP : va_P D vwCl [(g 0, .inr (4, [.int (nI (lg)), .int (nI (N)), .int (nI (1)), .ref (g 1), .ref (g 2), .ref (g 3), .int (nI (len)), .int (nI (tk))])), (g 1, .inl (cI, 2048, .inl (nA (dd)))), (g 2, .inl (cI, 2, .inl (nA (ct)))), (g 3, .inl (cI, 2048, .inl (nA (pp))))] H := hP.sub [0, 1, 2, 3] rfl
          have hD : va_D A [(g 0, .inr (4, [.int (nI (lg)), .int (nI (N)), .int (nI (1)), .ref (g 1), .ref (g 2), .ref (g 3), .int (nI (len)), .int (nI (tk))])), (g 1, .inl (cI, 2048, .inl (nA (dd)))), (g 2, .inl (cI, 2, .inl (nA (ct)))), (g 3, .inl (cI, 2048, .inl (nA (pp))))] := hD.sub [0, 1, 2, 3] (by decide) rfl
          have hsp : pmW kp kk2 ^ i % pmN kp < pmN kp := Nat.mod_lt _ (by omega)
          refine lv_lstore (lv' := [(6, .long (lN (pmW kp kk2 ^ i % pmN kp))), (4, .long (lN (pmN kp))), (0, .ref (g 0)), (1, .int (nI (k0))), (2, .int (nI (kp))), (3, .int (nI (i)))]) hx hb dX4_spectrum_68 hl (by decide) rfl (fun ls hl => ?_)
          refine lv_lconst (v := lN 0) hx hb dX4_spectrum_70 (by decide) ?_
          refine lv_lstore (lv' := [(8, .long (lN (0))), (6, .long (lN (pmW kp kk2 ^ i % pmN kp))), (4, .long (lN (pmN kp))), (0, .ref (g 0)), (1, .int (nI (k0))), (2, .int (nI (kp))), (3, .int (nI (i)))]) hx hb dX4_spectrum_71 hl (by decide) rfl (fun ls hl => ?_)
          refine lv_aload_n hx hb dX4_spectrum_73 rfl (lv_at hl 3 rfl) ?_
          refine va_get (D := D) (ci := 4) (v := .ref (g 2)) (C := RX4) (T := TX4) (N := 8) hx hb hts inX4_X4_spectrum hown hK hP 0 rfl rfl 4 (by decide) (hts (.fieldLink RX4 13 "TransformProductModel" "counts" "[I") (by decide +kernel)) (fun _ h9 => h9) rfl dX4_spectrum_74 ?_
          refine lv_iload_n hx hb dX4_spectrum_77 rfl (lv_at hl 4 rfl) ?_
          refine kr_ld hx hb hK hP 2 0 rfl rfl (by omega) (by decide) dX4_spectrum_78 ?_
          refine lv_iconst (v := nI 1) hx hb dX4_spectrum_79 (by decide) ?_
          refine lv_isub hx hb dX4_spectrum_80 ?_
          refine lv_istore (lv' := [(10, .int (nI (ct k0) - nI 1)), (8, .long (lN (0))), (6, .long (lN (pmW kp kk2 ^ i % pmN kp))), (4, .long (lN (pmN kp))), (0, .ref (g 0)), (1, .int (nI (k0))), (2, .int (nI (kp))), (3, .int (nI (i)))]) hx hb dX4_spectrum_81 hl (by decide) rfl (fun ls hl => ?_)
          refine lp_msp g lg N 1 len tk dd ct pp k0 (pmW kp kk2 ^ i % pmN kp) (pmN kp) (hrN (fun j => dd (1024 * k0 + j)) (pmW kp kk2 ^ i % pmN kp) (pmN kp) (ct k0) 0) hC0 hK hk0 (by omega) hsp hf hu (fun x H locs ls hI hP hD hS hl => ?_) (ct k0) 0 H locs ls rfl (by omega) (Nat.le_refl _) hP hD hS (lv_sub hl [0, 1, 2, 3, 4, 5] rfl)
          refine lv_lload hx hb dX4_spectrum_119 (lv_at hl 1 rfl) ?_
          refine lv_l2i hx hb dX4_spectrum_121 (lN_i _) ?_
          exact kr_iret () hx hb hr hlk hP hD hS (by rw [hI]) dX4_spectrum_122
        · exact absurd hc (by omega)
set_option maxHeartbeats 4000000 in
set_option maxRecDepth 100000 in
theorem c_X4_spectrum_no (l : Launch) (D : va_G) (cI cT : ClassId) (sz : Nat) (g : Nat → Nat) (lg N rd len tk : Nat) (dd ct pp : Nat → Nat) (wh pn x : Int32) (hno : ¬ spOk N rd wh pn x) (hN2 : N ≤ 1024) (h3 : rd ≤ 1) : kMi (S := Unit) l yX4_spectrum wsX4_spectrum { frames := 1, cells := 0, slots := 0, locals := 31 } D [(cI, .int), (cT, .object RX1)] [(g 0, .inr (4, [.int (nI (lg)), .int (nI (N)), .int (nI (rd)), .ref (g 1), .ref (g 2), .ref (g 3), .int (nI (len)), .int (nI (tk))])), (g 1, .inl (cI, 2048, .inl (nA (dd)))), (g 2, .inl (cI, 2, .inl (nA (ct)))), (g 3, .inl (cI, 2048, .inl (nA (pp))))] sz (fun _ => True) [.ref (g 0), .int (wh), .int (pn), .int (x)] (fun r _ => r = (-1)) (fun _ => [(g 0, .inr (4, [.int (nI (lg)), .int (nI (N)), .int (nI (rd)), .ref (g 1), .ref (g 2), .ref (g 3), .int (nI (len)), .int (nI (tk))])), (g 1, .inl (cI, 2048, .inl (nA (dd)))), (g 2, .inl (cI, 2, .inl (nA (ct)))), (g 3, .inl (cI, 2048, .inl (nA (pp))))]) (0) (0) := by
  refine kM_of (Qc := fun A => va_Qi (S := Unit) (fun r _ => r = (-1)) (kB D A (fun _ => [(g 0, .inr (4, [.int (nI (lg)), .int (nI (N)), .int (nI (rd)), .ref (g 1), .ref (g 2), .ref (g 3), .int (nI (len)), .int (nI (tk))])), (g 1, .inl (cI, 2048, .inl (nA (dd)))), (g 2, .inl (cI, 2, .inl (nA (ct)))), (g 3, .inl (cI, 2048, .inl (nA (pp))))])) A) (cc := cX4_spectrum) (maxL := 11) (ret := (some .int)) (by decide +kernel) rfl (Nat.le_of_ble_eq_true rfl) ?_
  intro p e s m below meth c A ls hC0 hr hlk hin hP hK hD hA hS hE hAe hsz hl
  obtain ⟨hx, hb, hml, hown, hts⟩ := id hC0
  have hl : lv_has ls 11 [(0, .ref (g 0)), (1, .int (wh)), (2, .int (pn)), (3, .int (x))] := hl
  refine lv_aload_n hx hb dX4_spectrum_0 rfl (lv_at hl 0 rfl) ?_
  refine va_get (D := D) (ci := 4) (v := .int (nI (rd))) (C := RX4) (T := TX4) (N := 8) hx hb hts inX4_X4_spectrum hown hK hP 0 rfl rfl 2 (by decide) (hts (.fieldLink RX4 26 "TransformProductModel" "isReady" "Z") (by decide +kernel)) (fun _ h9 => h9) rfl dX4_spectrum_1 ?_
  refine kr_eq0 (tgt := 35) hx hb dX4_spectrum_4 (by decide) (by omega) (fun hc => ?_) (fun hc => ?_)
  · refine lv_iconst (v := (-1)) hx hb dX4_spectrum_35 (by decide) ?_
    exact kr_iret () hx hb hr hlk hP hD hS rfl dX4_spectrum_36
  · refine lv_iload_n hx hb dX4_spectrum_7 rfl (lv_at hl 1 rfl) ?_
    by_cases hw : wh = nI 0 ∨ wh = nI 1
    · have hw2 := hw
      obtain ⟨kw, hkw, rfl⟩ := wh_k hw
      refine kc_i (wr := [(g 0, .inr (4, [.int (nI (lg)), .int (nI (N)), .int (nI (rd)), .ref (g 1), .ref (g 2), .ref (g 3), .int (nI (len)), .int (nI (tk))])), (g 1, .inl (cI, 2048, .inl (nA (dd)))), (g 2, .inl (cI, 2, .inl (nA (ct)))), (g 3, .inl (cI, 2048, .inl (nA (pp))))]) (va_runS (As := [.int (nI (kw))]) (rest := []) hC0 (c_X4_isRow l D cI cT s.heap.size kw hkw) (va_cwS 1 hts gX4_spectrum_X4_isRow rfl rfl rfl (by decide +kernel) ⟨Nat.le_of_ble_eq_true rfl, Nat.le_of_ble_eq_true rfl⟩) (kp_S kE_0 (fun _ _ _ => trivial) hK hP hD [] rfl (by decide)) rfl rfl hl.1 rfl (lv_room (Nat.le_of_ble_eq_true rfl)) dX4_spectrum_8 ⟨Nat.le_of_ble_eq_true rfl, Nat.le_of_ble_eq_true rfl⟩) hP hD hS hA [] [0, 1, 2, 3] rfl rfl (by decide) (by decide) (fun rr uu H locs hw hP hD hS => ?_)
      subst hw
      have hP : va_P D vwCl [(g 0, .inr (4, [.int (nI (lg)), .int (nI (N)), .int (nI (rd)), .ref (g 1), .ref (g 2), .ref (g 3), .int (nI (len)), .int (nI (tk))])), (g 1, .inl (cI, 2048, .inl (nA (dd)))), (g 2, .inl (cI, 2, .inl (nA (ct)))), (g 3, .inl (cI, 2048, .inl (nA (pp))))] H := hP.sub [0, 1, 2, 3] rfl
      have hD : va_D A [(g 0, .inr (4, [.int (nI (lg)), .int (nI (N)), .int (nI (rd)), .ref (g 1), .ref (g 2), .ref (g 3), .int (nI (len)), .int (nI (tk))])), (g 1, .inl (cI, 2048, .inl (nA (dd)))), (g 2, .inl (cI, 2, .inl (nA (ct)))), (g 3, .inl (cI, 2048, .inl (nA (pp))))] := hD.sub [0, 1, 2, 3] (by decide) rfl
      refine kr_eq0 (tgt := 35) hx hb dX4_spectrum_11 (by decide) (by omega) (fun hc2 => ?_) (fun hc2 => ?_)
      · exact absurd hc2 (by decide)
      · refine lv_iload_n hx hb dX4_spectrum_14 rfl (lv_at hl 2 rfl) ?_
        refine lv_if_lt (tgt := 35) hx hb dX4_spectrum_15 (by decide) (fun hc3 => ?_) (fun hc3 => ?_)
        · refine lv_iconst (v := (-1)) hx hb dX4_spectrum_35 (by decide) ?_
          exact kr_iret () hx hb hr hlk hP hD hS rfl dX4_spectrum_36
        · obtain ⟨kp, hkp, rfl⟩ := nI_of hc3
          refine lv_iload_n hx hb dX4_spectrum_18 rfl (lv_at hl 2 rfl) ?_
          refine lv_iconst (v := nI 2) hx hb dX4_spectrum_19 (by decide) ?_
          refine kr_gt (tgt := 35) hx hb dX4_spectrum_20 (by decide) (by omega) (by omega) (fun hc4 => ?_) (fun hc4 => ?_)
          · refine lv_iconst (v := (-1)) hx hb dX4_spectrum_35 (by decide) ?_
            exact kr_iret () hx hb hr hlk hP hD hS rfl dX4_spectrum_36
          · refine lv_iload_n hx hb dX4_spectrum_23 rfl (lv_at hl 3 rfl) ?_
            refine lv_if_lt (tgt := 35) hx hb dX4_spectrum_24 (by decide) (fun hc5 => ?_) (fun hc5 => ?_)
            · refine lv_iconst (v := (-1)) hx hb dX4_spectrum_35 (by decide) ?_
              exact kr_iret () hx hb hr hlk hP hD hS rfl dX4_spectrum_36
            · obtain ⟨i, hi, rfl⟩ := nI_of hc5
              refine lv_iload_n hx hb dX4_spectrum_27 rfl (lv_at hl 3 rfl) ?_
              refine lv_aload_n hx hb dX4_spectrum_28 rfl (lv_at hl 0 rfl) ?_
              refine va_get (D := D) (ci := 4) (v := .int (nI (N))) (C := RX4) (T := TX4) (N := 8) hx hb hts inX4_X4_spectrum hown hK hP 0 rfl rfl 1 (by decide) (hts (.fieldLink RX4 23 "TransformProductModel" "n" "I") (by decide +kernel)) (fun _ h9 => h9) rfl dX4_spectrum_29 ?_
              refine kr_lt (tgt := 37) hx hb dX4_spectrum_32 (by decide) (by omega) (by omega) (fun hc6 => ?_) (fun hc6 => ?_)
              · exact absurd ⟨hc, hw2, ⟨kp, by omega, rfl⟩, ⟨i, hc6, rfl⟩⟩ hno
              · refine lv_iconst (v := (-1)) hx hb dX4_spectrum_35 (by decide) ?_
                exact kr_iret () hx hb hr hlk hP hD hS rfl dX4_spectrum_36
    · refine kc_i (wr := [(g 0, .inr (4, [.int (nI (lg)), .int (nI (N)), .int (nI (rd)), .ref (g 1), .ref (g 2), .ref (g 3), .int (nI (len)), .int (nI (tk))])), (g 1, .inl (cI, 2048, .inl (nA (dd)))), (g 2, .inl (cI, 2, .inl (nA (ct)))), (g 3, .inl (cI, 2048, .inl (nA (pp))))]) (va_runS (As := [.int (wh)]) (rest := []) hC0 (c_X4_isRow_no l D cI cT s.heap.size wh (fun h => hw (Or.inl h)) (fun h => hw (Or.inr h))) (va_cwS 1 hts gX4_spectrum_X4_isRow rfl rfl rfl (by decide +kernel) ⟨Nat.le_of_ble_eq_true rfl, Nat.le_of_ble_eq_true rfl⟩) (kp_S kE_0 (fun _ _ _ => trivial) hK hP hD [] rfl (by decide)) rfl rfl hl.1 rfl (lv_room (Nat.le_of_ble_eq_true rfl)) dX4_spectrum_8 ⟨Nat.le_of_ble_eq_true rfl, Nat.le_of_ble_eq_true rfl⟩) hP hD hS hA [] [0, 1, 2, 3] rfl rfl (by decide) (by decide) (fun rr uu H locs hw hP hD hS => ?_)
      subst hw
      have hP : va_P D vwCl [(g 0, .inr (4, [.int (nI (lg)), .int (nI (N)), .int (nI (rd)), .ref (g 1), .ref (g 2), .ref (g 3), .int (nI (len)), .int (nI (tk))])), (g 1, .inl (cI, 2048, .inl (nA (dd)))), (g 2, .inl (cI, 2, .inl (nA (ct)))), (g 3, .inl (cI, 2048, .inl (nA (pp))))] H := hP.sub [0, 1, 2, 3] rfl
      have hD : va_D A [(g 0, .inr (4, [.int (nI (lg)), .int (nI (N)), .int (nI (rd)), .ref (g 1), .ref (g 2), .ref (g 3), .int (nI (len)), .int (nI (tk))])), (g 1, .inl (cI, 2048, .inl (nA (dd)))), (g 2, .inl (cI, 2, .inl (nA (ct)))), (g 3, .inl (cI, 2048, .inl (nA (pp))))] := hD.sub [0, 1, 2, 3] (by decide) rfl
      refine kr_eq0 (tgt := 35) hx hb dX4_spectrum_11 (by decide) (by omega) (fun hc2 => ?_) (fun hc2 => ?_)
      · refine lv_iconst (v := (-1)) hx hb dX4_spectrum_35 (by decide) ?_
        exact kr_iret () hx hb hr hlk hP hD hS rfl dX4_spectrum_36
      · exact absurd rfl hc2
