/-! class Row, and what it calls of Arrays -/
theorem kn_p1 (n : Nat) : nI (n + 1) - nI 1 = nI n := nI_pred n
theorem kn_lne {b : Nat} (h0 : 0 < b) (hb : b < 2 ^ 63) : ¬ lN b = 0 := fun h => by
  have := (pk_lEQ hb (b := 0) (by decide)).mp h
  omega
/-- v at the k places from fr on -/
def flN (f : Nat → Nat) (fr v k : Nat) : Nat → Nat := fun j => if fr ≤ j ∧ j < fr + k then v else f j
theorem flN_0 (f : Nat → Nat) (fr v : Nat) : flN f fr v 0 = f := by
  funext j
  exact if_neg (by omega)
theorem flN_s (f : Nat → Nat) (fr v k : Nat) : va_up (flN f fr v k) (fr + k) v = flN f fr v (k + 1) := by
  funext j
  unfold va_up flN
  by_cases h : j = fr + k
  · rw [if_pos h, if_pos (by omega)]
  · rw [if_neg h]
    by_cases h2 : fr ≤ j ∧ j < fr + k
    · rw [if_pos h2, if_pos (by omega)]
    · rw [if_neg h2, if_neg (by omega)]
theorem inX2_X2_spreadInto : ∀ w ∈ wsX20, w ∈ wsX2_spreadInto := by decide +kernel
theorem inX2_X2_count : ∀ w ∈ wsX20, w ∈ wsX2_count := by decide +kernel
theorem inX2_X2_at : ∀ w ∈ wsX20, w ∈ wsX2_at := by decide +kernel
theorem inX2_X2_init : ∀ w ∈ wsX20, w ∈ wsX2_init := by decide +kernel
theorem inX2_X2_empty : ∀ w ∈ wsX20, w ∈ wsX2_empty := by decide +kernel
theorem inX2_X2_append : ∀ w ∈ wsX20, w ∈ wsX2_append := by decide +kernel
theorem inX2_X2_copyFrom : ∀ w ∈ wsX20, w ∈ wsX2_copyFrom := by decide +kernel
theorem inX2_X2_significant : ∀ w ∈ wsX20, w ∈ wsX2_significant := by decide +kernel
theorem inX2_X2_trim : ∀ w ∈ wsX20, w ∈ wsX2_trim := by decide +kernel
theorem inX2_X2_comparedTo : ∀ w ∈ wsX20, w ∈ wsX2_comparedTo := by decide +kernel
theorem inX2_X2_remainder : ∀ w ∈ wsX20, w ∈ wsX2_remainder := by decide +kernel
set_option maxHeartbeats 4000000 in
set_option maxRecDepth 100000 in
theorem c_J7_rangeCheck (l : Launch) (D : va_G) (cI cT : ClassId) (sz : Nat) (n fr tt : Nat) (h1 : fr ≤ tt) (h2 : tt ≤ n) (h3 : n < 2 ^ 31) : kMv (S := Unit) l yJ7_rangeCheck_23922 wsJ7_rangeCheck_23922 { frames := 0, cells := 0, slots := 0, locals := 0 } D [(cI, .int), (cT, .object RX1)] [] sz (fun _ => True) [.int (nI (n)), .int (nI (fr)), .int (nI (tt))] (fun _ => True) (fun _ => []) (0) (0) := by
  refine kM_of (Qc := fun A => va_Qv (S := Unit) (fun _ => True) (kB D A (fun _ => [])) A) (cc := cJ7_rangeCheck_23922) (maxL := 3) (ret := none) (by decide +kernel) rfl (Nat.le_of_ble_eq_true rfl) ?_
  intro p e s m below meth c A ls hC0 hr hlk hin hP hK hD hA hS hE hAe hsz hl
  obtain ⟨hx, hb, hml, hown, hts⟩ := id hC0
  have hl : lv_has ls 3 [(0, .int (nI (n))), (1, .int (nI (fr))), (2, .int (nI (tt)))] := hl
  refine lv_iload_n hx hb dJ7_rangeCheck_23922_0 rfl (lv_at hl 1 rfl) ?_
  refine lv_iload_n hx hb dJ7_rangeCheck_23922_1 rfl (lv_at hl 2 rfl) ?_
  refine kr_le (tgt := 46) hx hb dJ7_rangeCheck_23922_2 (by decide) (by omega) (by omega) (fun hc => ?_) (fun hc => ?_)
  · refine lv_iload_n hx hb dJ7_rangeCheck_23922_46 rfl (lv_at hl 1 rfl) ?_
    refine lv_if_ge (tgt := 59) hx hb dJ7_rangeCheck_23922_47 (by decide) (fun _ => ?_) (fun hc => absurd (nI_pos' (by omega)) hc)
    refine lv_iload_n hx hb dJ7_rangeCheck_23922_59 rfl (lv_at hl 2 rfl) ?_
    refine lv_iload_n hx hb dJ7_rangeCheck_23922_60 rfl (lv_at hl 0 rfl) ?_
    refine kr_le (tgt := 73) hx hb dJ7_rangeCheck_23922_61 (by decide) (by omega) (by omega) (fun hc => ?_) (fun hc => ?_)
    · exact kr_vret () hx hb hr hlk hP hD hS trivial dJ7_rangeCheck_23922_73
    · exact absurd hc (by omega)
  · exact absurd hc (by omega)
set_option maxHeartbeats 4000000 in
set_option maxRecDepth 100000 in
theorem lp_fill {p : Program} {l : Launch} {e : Env} {R : Room} {s : State} {m : MethodId} {args : Array Value} {below : List Frame} {meth : Method} {c : Code} {cells slots : Nat} {Q : State → Prop} {A : Nat → Prop} {H0 : Heap} {D : va_G} {cI cT : ClassId} (q n fr t v : Nat) (f : Nat → Nat) (hC0 : CallFix p m c cJ7_fill_fda19 5 s args wsJ7_fill_fda19 RJ7) (hK : va_K D vwCl [(cI, .int), (cT, .object RX1)] s) (hA : ∀ q, H0.size ≤ q → A q) (h1 : fr + t ≤ n) (h2 : n < 2 ^ 31)
    (kk : ∀ (j : Nat) (H : Heap) (locs : List Loc) (ls : Array Slot), j = t → va_P D vwCl [(q, .inl (cI, n, .inl (nA (flN f fr v j))))] H → va_D A [(q, .inl (cI, n, .inl (nA (flN f fr v j))))] → va_S A H0 H locs → lv_has ls 5 [(4, .int (nI (fr + j))), (0, .ref q), (1, .int (nI (fr))), (2, .int (nI (fr + t))), (3, .int (nI (v)))] → W p l e R s m args below meth c H locs cells slots Q (F0 m 27 ls [])) :
    ∀ (nn j : Nat) (H : Heap) (locs : List Loc) (ls : Array Slot), t - j < nn → j ≤ t → va_P D vwCl [(q, .inl (cI, n, .inl (nA (flN f fr v j))))] H → va_D A [(q, .inl (cI, n, .inl (nA (flN f fr v j))))] → va_S A H0 H locs → lv_has ls 5 [(4, .int (nI (fr + j))), (0, .ref q), (1, .int (nI (fr))), (2, .int (nI (fr + t))), (3, .int (nI (v)))] → W p l e R s m args below meth c H locs cells slots Q (F0 m 10 ls []) := by
  obtain ⟨hx, hb, hml, hown, hts⟩ := id hC0
  intro nn
  induction nn with
  | zero => intro _ _ _ _ h; exact absurd h (Nat.not_lt_zero _)
  | succ nn ih =>
    intro j H locs ls hn hj hP hD hS hl
    refine lv_iload hx hb dJ7_fill_fda19_10 (lv_at hl 0 rfl) ?_
    refine lv_iload_n hx hb dJ7_fill_fda19_12 rfl (lv_at hl 3 rfl) ?_
    refine kr_ge (tgt := 27) hx hb dJ7_fill_fda19_13 (by decide) (by omega) (by omega) (fun hc => ?_) (fun hc => ?_)
    · exact kk j H locs ls (by omega) hP hD hS hl
    · refine lv_aload_n hx hb dJ7_fill_fda19_16 rfl (lv_at hl 1 rfl) ?_
      refine lv_iload hx hb dJ7_fill_fda19_17 (lv_at hl 0 rfl) ?_
      refine lv_iload_n hx hb dJ7_fill_fda19_19 rfl (lv_at hl 4 rfl) ?_
      refine kr_st hx hb hK hP hD hS 0 0 rfl rfl (by omega) (by omega) dJ7_fill_fda19_20 (fun H locs hP hD hS => ?_)
      have hP : va_P D vwCl [(q, .inl (cI, n, .inl (nA (va_up (flN f fr v j) (fr + j) v))))] H := hP
      have hD : va_D A [(q, .inl (cI, n, .inl (nA (va_up (flN f fr v j) (fr + j) v))))] := hD
      rw [flN_s] at hP hD
      refine lv_iinc (v := nI ((fr + j) + 1)) (lv' := [(4, .int (nI ((fr + j) + 1))), (0, .ref q), (1, .int (nI (fr))), (2, .int (nI (fr + t))), (3, .int (nI (v)))]) hx hb dJ7_fill_fda19_21 hl (k := 0) rfl (by rw [show Int32.ofInt 1 = nI 1 by decide]; exact nI_add _ _) (by decide) rfl (fun ls hl => ?_)
      refine lv_goto (tgt := 10) hx hb dJ7_fill_fda19_24 (by decide) ?_
      exact ih (j + 1) H locs ls (by omega) (by omega) hP hD hS (lv_sub hl [0, 1, 2, 3, 4] rfl)
set_option maxHeartbeats 4000000 in
set_option maxRecDepth 100000 in
theorem c_J7_fill (l : Launch) (D : va_G) (cI cT : ClassId) (sz : Nat) (q n fr t v : Nat) (f : Nat → Nat) (h1 : fr + t ≤ n) (h2 : n < 2 ^ 31) : kMv (S := Unit) l yJ7_fill_fda19 wsJ7_fill_fda19 { frames := 1, cells := 0, slots := 0, locals := 22 } D [(cI, .int), (cT, .object RX1)] [(q, .inl (cI, n, .inl (nA (f))))] sz (fun _ => True) [.ref q, .int (nI (fr)), .int (nI (fr + t)), .int (nI (v))] (fun _ => True) (fun _ => [(q, .inl (cI, n, .inl (nA (flN f fr v t))))]) (0) (0) := by
  refine kM_of (Qc := fun A => va_Qv (S := Unit) (fun _ => True) (kB D A (fun _ => [(q, .inl (cI, n, .inl (nA (flN f fr v t))))])) A) (cc := cJ7_fill_fda19) (maxL := 5) (ret := none) (by decide +kernel) rfl (Nat.le_of_ble_eq_true rfl) ?_
  intro p e s m below meth c A ls hC0 hr hlk hin hP hK hD hA hS hE hAe hsz hl
  obtain ⟨hx, hb, hml, hown, hts⟩ := id hC0
  have hl : lv_has ls 5 [(0, .ref q), (1, .int (nI (fr))), (2, .int (nI (fr + t))), (3, .int (nI (v)))] := hl
  refine lv_aload_n hx hb dJ7_fill_fda19_0 rfl (lv_at hl 0 rfl) ?_
  refine va_alen (v := nI (n)) hx hb hK hP 0 0 rfl rfl rfl dJ7_fill_fda19_1 ?_
  refine lv_iload_n hx hb dJ7_fill_fda19_2 rfl (lv_at hl 1 rfl) ?_
  refine lv_iload_n hx hb dJ7_fill_fda19_3 rfl (lv_at hl 2 rfl) ?_
  refine kc_v (wr := [(q, .inl (cI, n, .inl (nA (f))))]) (va_runS (As := [.int (nI (n)), .int (nI (fr)), .int (nI (fr + t))]) (rest := []) hC0 (c_J7_rangeCheck l D cI cT s.heap.size n fr (fr + t) (by omega) (by omega) (by omega)) (va_cwS 3 hts gJ7_fill_fda19_J7_rangeCheck_23922 rfl rfl rfl (by decide +kernel) ⟨Nat.le_of_ble_eq_true rfl, Nat.le_of_ble_eq_true rfl⟩) (kp_S kE_0 (fun _ _ _ => trivial) hK hP hD [] rfl (by decide)) rfl rfl hl.1 rfl (lv_room (Nat.le_of_ble_eq_true rfl)) dJ7_fill_fda19_4 ⟨Nat.le_of_ble_eq_true rfl, Nat.le_of_ble_eq_true rfl⟩) hP hD hS hA [] [0] rfl rfl (by decide) (by decide) (fun uu H locs hw hP hD hS => ?_)
  have hP : va_P D vwCl [(q, .inl (cI, n, .inl (nA (f))))] H := hP.sub [0] rfl
  have hD : va_D A [(q, .inl (cI, n, .inl (nA (f))))] := hD.sub [0] (by decide) rfl
  refine lv_iload_n hx hb dJ7_fill_fda19_7 rfl (lv_at hl 1 rfl) ?_
  refine lv_istore (lv' := [(4, .int (nI (fr))), (0, .ref q), (1, .int (nI (fr))), (2, .int (nI (fr + t))), (3, .int (nI (v)))]) hx hb dJ7_fill_fda19_8 hl (by decide) rfl (fun ls hl => ?_)
  rw [show f = flN f fr v 0 from (flN_0 f fr v).symm] at hP hD
  refine lp_fill q n fr t v f hC0 hK hA h1 h2 (fun j H locs ls hj hP hD hS hl => ?_) (t + 1) 0 H locs ls (by omega) (by omega) hP hD hS (lv_sub hl [0, 1, 2, 3, 4] rfl)
  subst hj
  exact kr_vret () hx hb hr hlk hP hD hS trivial dJ7_fill_fda19_27
