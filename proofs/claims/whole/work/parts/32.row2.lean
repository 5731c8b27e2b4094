/-! class Row: comparedTo, remainder, spreadInto -/
set_option maxHeartbeats 4000000 in
set_option maxRecDepth 100000 in
theorem lp_cmp {p : Program} {l : Launch} {e : Env} {R : Room} {s : State} {m : MethodId} {args : Array Value} {below : List Frame} {meth : Method} {c : Code} {cells slots : Nat} {Q : State → Prop} {A : Nat → Prop} {H0 : Heap} {D : va_G} {cI cT : ClassId} (h q n u g r n2 u2 : Nat) (f f2 : Nat → Nat) (res : Nat) (hC0 : CallFix p m c cX2_comparedTo 5 s args wsX2_comparedTo RX2) (hK : va_K D vwCl [(cI, .int), (cT, .object RX1)] s)  (hf : ∀ i, i < u → f i < 2 ^ 31) (hf2 : ∀ i, i < u2 → f2 i < 2 ^ 31) (hu : u ≤ n) (hu2 : u2 ≤ n2) (hn : n < 2 ^ 31) (hn2 : n2 < 2 ^ 31)
    (kk : ∀ (pcx : Nat) (v : Int32) (H : Heap) (locs : List Loc) (ls : Array Slot), (pcx = 75 ∨ pcx = 83) → v = cvI res → va_P D vwCl [(h, .inr (2, [.ref q, .int (nI (u))])), (q, .inl (cI, n, .inl (nA (f)))), (g, .inr (2, [.ref r, .int (nI (u2))])), (r, .inl (cI, n2, .inl (nA (f2))))] H → va_D A [(h, .inr (2, [.ref q, .int (nI (u))])), (q, .inl (cI, n, .inl (nA (f)))), (g, .inr (2, [.ref r, .int (nI (u2))])), (r, .inl (cI, n2, .inl (nA (f2))))] → va_S A H0 H locs → W p l e R s m args below meth c H locs cells slots Q (F0 m pcx ls [.int v])) :
    ∀ (k : Nat)  (H : Heap) (locs : List Loc) (ls : Array Slot), cmpN f f2 k = res → k ≤ u → k ≤ u2 → va_P D vwCl [(h, .inr (2, [.ref q, .int (nI (u))])), (q, .inl (cI, n, .inl (nA (f)))), (g, .inr (2, [.ref r, .int (nI (u2))])), (r, .inl (cI, n2, .inl (nA (f2))))] H → va_D A [(h, .inr (2, [.ref q, .int (nI (u))])), (q, .inl (cI, n, .inl (nA (f)))), (g, .inr (2, [.ref r, .int (nI (u2))])), (r, .inl (cI, n2, .inl (nA (f2))))] → va_S A H0 H locs → lv_has ls 5 [(4, .int (nI k - nI 1)), (0, .ref h), (1, .ref g)] → W p l e R s m args below meth c H locs cells slots Q (F0 m 31 ls []) := by
  obtain ⟨hx, hb, hml, hown, hts⟩ := id hC0
  intro k
  induction k with
  | zero =>
    intro  H locs ls hI hk1 hk2 hP hD hS hl
    refine lv_iload hx hb dX2_comparedTo_31 (lv_at hl 0 rfl) ?_
    refine lv_if_lt (tgt := 82) hx hb dX2_comparedTo_33 (by decide) (fun _ => ?_) (fun hc => absurd (by decide) hc)
    refine lv_iconst (v := nI 0) hx hb dX2_comparedTo_82 (by decide) ?_
    exact kk 83 _ H locs ls (Or.inr rfl) (by rw [← hI]; rfl) hP hD hS
  | succ k ih =>
    intro  H locs ls hI hk1 hk2 hP hD hS hl
    rw [kn_p1] at hl
    have b1 : f k < 2 ^ 31 := hf k (by omega)
    have b2 : f2 k < 2 ^ 31 := hf2 k (by omega)
    refine lv_iload hx hb dX2_comparedTo_31 (lv_at hl 0 rfl) ?_
    refine kr_lt0 (tgt := 82) hx hb dX2_comparedTo_33 (by decide) (by omega) ?_
    refine lv_aload_n hx hb dX2_comparedTo_36 rfl (lv_at hl 1 rfl) ?_
    refine va_get (D := D) (ci := 2) (v := .ref q) (C := RX2) (T := TX2) (N := 2) hx hb hts inX2_X2_comparedTo hown hK hP 0 rfl rfl 0 (by decide) (hts (.fieldLink RX2 9 "TransformProduct$Row" "cells" "[I") (by decide +kernel)) (fun _ h9 => h9) rfl dX2_comparedTo_37 ?_
    refine lv_iload hx hb dX2_comparedTo_40 (lv_at hl 0 rfl) ?_
    refine kr_ld hx hb hK hP 1 0 rfl rfl (by omega) (by omega) dX2_comparedTo_42 ?_
    refine lv_aload_n hx hb dX2_comparedTo_43 rfl (lv_at hl 2 rfl) ?_
    refine va_get (D := D) (ci := 2) (v := .ref r) (C := RX2) (T := TX2) (N := 2) hx hb hts inX2_X2_comparedTo hown hK hP 2 rfl rfl 0 (by decide) (hts (.fieldLink RX2 9 "TransformProduct$Row" "cells" "[I") (by decide +kernel)) (fun _ h9 => h9) rfl dX2_comparedTo_44 ?_
    refine lv_iload hx hb dX2_comparedTo_47 (lv_at hl 0 rfl) ?_
    refine kr_ld hx hb hK hP 3 0 rfl rfl (by omega) (by omega) dX2_comparedTo_49 ?_
    refine kr_eq (tgt := 76) hx hb dX2_comparedTo_50 (by decide) b1 b2 (fun hc => ?_) (fun hc => ?_)
    · refine lv_iinc (v := nI k - nI 1) (lv' := [(4, .int (nI k - nI 1)), (0, .ref h), (1, .ref g)]) hx hb dX2_comparedTo_76 hl (k := 0) rfl (kn_m1 _) (by decide) rfl (fun ls hl => ?_)
      refine lv_goto (tgt := 31) hx hb dX2_comparedTo_79 (by decide) ?_
      exact ih H locs ls (by rw [← hI]; exact (if_pos hc).symm) (by omega) (by omega) hP hD hS (lv_sub hl [0, 1, 2] rfl)
    · refine lv_aload_n hx hb dX2_comparedTo_53 rfl (lv_at hl 1 rfl) ?_
      refine va_get (D := D) (ci := 2) (v := .ref q) (C := RX2) (T := TX2) (N := 2) hx hb hts inX2_X2_comparedTo hown hK hP 0 rfl rfl 0 (by decide) (hts (.fieldLink RX2 9 "TransformProduct$Row" "cells" "[I") (by decide +kernel)) (fun _ h9 => h9) rfl dX2_comparedTo_54 ?_
      refine lv_iload hx hb dX2_comparedTo_57 (lv_at hl 0 rfl) ?_
      refine kr_ld hx hb hK hP 1 0 rfl rfl (by omega) (by omega) dX2_comparedTo_59 ?_
      refine lv_aload_n hx hb dX2_comparedTo_60 rfl (lv_at hl 2 rfl) ?_
      refine va_get (D := D) (ci := 2) (v := .ref r) (C := RX2) (T := TX2) (N := 2) hx hb hts inX2_X2_comparedTo hown hK hP 2 rfl rfl 0 (by decide) (hts (.fieldLink RX2 9 "TransformProduct$Row" "cells" "[I") (by decide +kernel)) (fun _ h9 => h9) rfl dX2_comparedTo_61 ?_
      refine lv_iload hx hb dX2_comparedTo_64 (lv_at hl 0 rfl) ?_
      refine kr_ld hx hb hK hP 3 0 rfl rfl (by omega) (by omega) dX2_comparedTo_66 ?_
      refine kr_ge (tgt := 74) hx hb dX2_comparedTo_67 (by decide) b1 b2 (fun hd => ?_) (fun hd => ?_)
      · refine lv_iconst (v := nI 1) hx hb dX2_comparedTo_74 (by decide) ?_
        exact kk 75 _ H locs ls (Or.inl rfl) (by rw [← hI]; unfold cmpN; rw [if_neg hc, if_neg (by omega)]; rfl) hP hD hS
      · refine lv_iconst (v := (-1)) hx hb dX2_comparedTo_70 (by decide) ?_
        refine lv_goto (tgt := 75) hx hb dX2_comparedTo_71 (by decide) ?_
        exact kk 75 _ H locs ls (Or.inl rfl) (by rw [← hI]; unfold cmpN; rw [if_neg hc, if_pos (by omega)]; rfl) hP hD hS
set_option maxHeartbeats 4000000 in
set_option maxRecDepth 100000 in
theorem c_X2_comparedTo (l : Launch) (D : va_G) (cI cT : ClassId) (sz : Nat) (h q n u : Nat) (f : Nat → Nat) (g r n2 u2 : Nat) (f2 : Nat → Nat) (hf : ∀ i, i < u → f i < 2 ^ 31) (hu : u ≤ n) (hn : n < 2 ^ 31) (hf2 : ∀ i, i < u2 → f2 i < 2 ^ 31) (hu2 : u2 ≤ n2) (hn2 : n2 < 2 ^ 31) : kMi (S := Unit) l yX2_comparedTo wsX2_comparedTo { frames := 1, cells := 0, slots := 0, locals := 21 } D [(cI, .int), (cT, .object RX1)] [(h, .inr (2, [.ref q, .int (nI (u))])), (q, .inl (cI, n, .inl (nA (f)))), (g, .inr (2, [.ref r, .int (nI (u2))])), (r, .inl (cI, n2, .inl (nA (f2))))] sz (fun _ => True) [.ref h, .ref g] (fun r _ => r = cvI (if trN f u = trN f2 u2 then cmpN f f2 (trN f u) else if trN f u < trN f2 u2 then 2 else 1)) (fun _ => [(h, .inr (2, [.ref q, .int (nI (u))])), (q, .inl (cI, n, .inl (nA (f)))), (g, .inr (2, [.ref r, .int (nI (u2))])), (r, .inl (cI, n2, .inl (nA (f2))))]) (0) (0) := by
  refine kM_of (Qc := fun A => va_Qi (S := Unit) (fun r _ => r = cvI (if trN f u = trN f2 u2 then cmpN f f2 (trN f u) else if trN f u < trN f2 u2 then 2 else 1)) (kB D A (fun _ => [(h, .inr (2, [.ref q, .int (nI (u))])), (q, .inl (cI, n, .inl (nA (f)))), (g, .inr (2, [.ref r, .int (nI (u2))])), (r, .inl (cI, n2, .inl (nA (f2))))])) A) (cc := cX2_comparedTo) (maxL := 5) (ret := (some .int)) (by decide +kernel) rfl (Nat.le_of_ble_eq_true rfl) ?_
  intro p e s m below meth c A ls hC0 hr hlk hin hP hK hD hA hS hE hAe hsz hl
  obtain ⟨hx, hb, hml, hown, hts⟩ := id hC0
  have hl : lv_has ls 5 [(0, .ref h), (1, .ref g)] := hl
  refine lv_aload_n hx hb dX2_comparedTo_0 rfl (lv_at hl 0 rfl) ?_
  refine kc_i (wr := [(g, .inr (2, [.ref r, .int (nI (u2))])), (r, .inl (cI, n2, .inl (nA (f2))))]) (va_runV (As := []) (rest := []) hC0 (c_X2_significant l D cI cT s.heap.size h q n u f hf hu hn) (cwV 0 hts gX2_comparedTo_X2_significant rfl rfl rfl (by decide +kernel) ⟨Nat.le_of_ble_eq_true rfl, Nat.le_of_ble_eq_true rfl⟩) (kp_V (ci := 2) (k0 := 0) kE_0 (fun _ _ _ => trivial) hK hP hD [0, 1] rfl (by decide) rfl rfl) rfl rfl hl.1 rfl (lv_room (Nat.le_of_ble_eq_true rfl)) dX2_comparedTo_1 ⟨Nat.le_of_ble_eq_true rfl, Nat.le_of_ble_eq_true rfl⟩) hP hD hS hA [0, 1] [2, 3] rfl rfl (by decide) (by decide) (fun rr uu H locs hw hP hD hS => ?_)
  subst hw
  have hP : va_P D vwCl [(h, .inr (2, [.ref q, .int (nI (u))])), (q, .inl (cI, n, .inl (nA (f)))), (g, .inr (2, [.ref r, .int (nI (u2))])), (r, .inl (cI, n2, .inl (nA (f2))))] H := hP.sub [2, 3, 0, 1] rfl
  have hD : va_D A [(h, .inr (2, [.ref q, .int (nI (u))])), (q, .inl (cI, n, .inl (nA (f)))), (g, .inr (2, [.ref r, .int (nI (u2))])), (r, .inl (cI, n2, .inl (nA (f2))))] := hD.sub [2, 3, 0, 1] (by decide) rfl
  refine lv_istore_n (lv' := [(2, .int (nI (trN f u))), (0, .ref h), (1, .ref g)]) hx hb dX2_comparedTo_4 rfl hl (by decide) rfl (fun ls hl => ?_)
  refine lv_aload_n hx hb dX2_comparedTo_5 rfl (lv_at hl 2 rfl) ?_
  refine kc_i (wr := [(h, .inr (2, [.ref q, .int (nI (u))])), (q, .inl (cI, n, .inl (nA (f))))]) (va_runV (As := []) (rest := []) hC0 (c_X2_significant l D cI cT H.size g r n2 u2 f2 hf2 hu2 hn2) (cwV 0 hts gX2_comparedTo_X2_significant rfl rfl rfl (by decide +kernel) ⟨Nat.le_of_ble_eq_true rfl, Nat.le_of_ble_eq_true rfl⟩) (kp_V (ci := 2) (k0 := 0) kE_0 (fun _ _ _ => trivial) hK hP hD [2, 3] rfl (by decide) rfl rfl) rfl rfl hl.1 rfl (lv_room (Nat.le_of_ble_eq_true rfl)) dX2_comparedTo_6 ⟨Nat.le_of_ble_eq_true rfl, Nat.le_of_ble_eq_true rfl⟩) hP hD hS hA [2, 3] [0, 1] rfl rfl (by decide) (by decide) (fun rr uu H locs hw hP hD hS => ?_)
  subst hw
  have hP : va_P D vwCl [(h, .inr (2, [.ref q, .int (nI (u))])), (q, .inl (cI, n, .inl (nA (f)))), (g, .inr (2, [.ref r, .int (nI (u2))])), (r, .inl (cI, n2, .inl (nA (f2))))] H := hP.sub [0, 1, 2, 3] rfl
  have hD : va_D A [(h, .inr (2, [.ref q, .int (nI (u))])), (q, .inl (cI, n, .inl (nA (f)))), (g, .inr (2, [.ref r, .int (nI (u2))])), (r, .inl (cI, n2, .inl (nA (f2))))] := hD.sub [0, 1, 2, 3] (by decide) rfl
  have t1 := trN_le f u
  have t2 := trN_le f2 u2
  refine lv_istore_n (lv' := [(3, .int (nI (trN f2 u2))), (2, .int (nI (trN f u))), (0, .ref h), (1, .ref g)]) hx hb dX2_comparedTo_9 rfl hl (by decide) rfl (fun ls hl => ?_)
  refine lv_iload_n hx hb dX2_comparedTo_10 rfl (lv_at hl 1 rfl) ?_
  refine lv_iload_n hx hb dX2_comparedTo_11 rfl (lv_at hl 0 rfl) ?_
  refine kr_eq (tgt := 26) hx hb dX2_comparedTo_12 (by decide) (by omega) (by omega) (fun hc => ?_) (fun hc => ?_)
  · refine lv_iload_n hx hb dX2_comparedTo_26 rfl (lv_at hl 1 rfl) ?_
    refine lv_iconst (v := nI 1) hx hb dX2_comparedTo_27 (by decide) ?_
    refine lv_isub hx hb dX2_comparedTo_28 ?_
    refine lv_istore (lv' := [(4, .int (nI (trN f u) - nI 1)), (3, .int (nI (trN f2 u2))), (2, .int (nI (trN f u))), (0, .ref h), (1, .ref g)]) hx hb dX2_comparedTo_29 hl (by decide) rfl (fun ls hl => ?_)
    refine lp_cmp h q n u g r n2 u2 f f2 (cmpN f f2 (trN f u)) hC0 hK hf hf2 hu hu2 hn hn2 (fun pcx v H locs ls hp hv hP hD hS => ?_) (trN f u) H locs ls rfl (by omega) (by omega) hP hD hS (lv_sub hl [0, 3, 4] rfl)
    have hv : v = cvI (if trN f u = trN f2 u2 then cmpN f f2 (trN f u) else if trN f u < trN f2 u2 then 2 else 1) := by rw [if_pos hc]; exact hv
    rcases hp with rfl | rfl
    · exact kr_iret () hx hb hr hlk hP hD hS hv dX2_comparedTo_75
    · exact kr_iret () hx hb hr hlk hP hD hS hv dX2_comparedTo_83
  · refine lv_iload_n hx hb dX2_comparedTo_15 rfl (lv_at hl 1 rfl) ?_
    refine lv_iload_n hx hb dX2_comparedTo_16 rfl (lv_at hl 0 rfl) ?_
    refine kr_ge (tgt := 24) hx hb dX2_comparedTo_17 (by decide) (by omega) (by omega) (fun hd => ?_) (fun hd => ?_)
    · refine lv_iconst (v := nI 1) hx hb dX2_comparedTo_24 (by decide) ?_
      exact kr_iret () hx hb hr hlk hP hD hS (by rw [if_neg hc, if_neg (by omega)]; rfl) dX2_comparedTo_25
    · refine lv_iconst (v := (-1)) hx hb dX2_comparedTo_20 (by decide) ?_
      refine lv_goto (tgt := 25) hx hb dX2_comparedTo_21 (by decide) ?_
      exact kr_iret () hx hb hr hlk hP hD hS (by rw [if_neg hc, if_pos (by omega)]; rfl) dX2_comparedTo_25
set_option maxHeartbeats 4000000 in
set_option maxRecDepth 100000 in
theorem lp_rem {p : Program} {l : Launch} {e : Env} {R : Room} {s : State} {m : MethodId} {args : Array Value} {below : List Frame} {meth : Method} {c : Code} {cells slots : Nat} {Q : State → Prop} {A : Nat → Prop} {H0 : Heap} {D : va_G} {cI cT : ClassId} (h q n u md : Nat) (f : Nat → Nat) (res : Nat) (hC0 : CallFix p m c cX2_remainder 5 s args wsX2_remainder RX2) (hK : va_K D vwCl [(cI, .int), (cT, .object RX1)] s)  (hf : ∀ i, i < u → f i < 32768) (hu : u ≤ n) (hn : n < 2 ^ 31) (hm : 1 ≤ md) (hm2 : md ≤ 1000000000)
    (kk : ∀ (x : Nat) (H : Heap) (locs : List Loc) (ls : Array Slot), x = res → x < md → va_P D vwCl [(h, .inr (2, [.ref q, .int (nI (u))])), (q, .inl (cI, n, .inl (nA (f))))] H → va_D A [(h, .inr (2, [.ref q, .int (nI (u))])), (q, .inl (cI, n, .inl (nA (f))))] → va_S A H0 H locs → lv_has ls 5 [(4, .int (nI 0 - nI 1)), (2, .long (lN (x))), (0, .ref h), (1, .int (nI (md)))] → W p l e R s m args below meth c H locs cells slots Q (F0 m 39 ls [])) :
    ∀ (k : Nat) (x : Nat) (H : Heap) (locs : List Loc) (ls : Array Slot), hrN f 32768 md k x = res → x < md → k ≤ u → va_P D vwCl [(h, .inr (2, [.ref q, .int (nI (u))])), (q, .inl (cI, n, .inl (nA (f))))] H → va_D A [(h, .inr (2, [.ref q, .int (nI (u))])), (q, .inl (cI, n, .inl (nA (f))))] → va_S A H0 H locs → lv_has ls 5 [(4, .int (nI k - nI 1)), (2, .long (lN (x))), (0, .ref h), (1, .int (nI (md)))] → W p l e R s m args below meth c H locs cells slots Q (F0 m 10 ls []) := by
  obtain ⟨hx, hb, hml, hown, hts⟩ := id hC0
  intro k
  induction k with
  | zero =>
    intro x H locs ls hI hx0 hk hP hD hS hl
    refine lv_iload hx hb dX2_remainder_10 (lv_at hl 0 rfl) ?_
    refine lv_if_lt (tgt := 39) hx hb dX2_remainder_12 (by decide) (fun _ => ?_) (fun hc => absurd (by decide) hc)
    exact kk x H locs ls hI hx0 hP hD hS hl
  | succ k ih =>
    intro x H locs ls hI hx0 hk hP hD hS hl
    rw [kn_p1] at hl
    have b1 : f k < 32768 := hf k (by omega)
    refine lv_iload hx hb dX2_remainder_10 (lv_at hl 0 rfl) ?_
    refine kr_lt0 (tgt := 39) hx hb dX2_remainder_12 (by decide) (by omega) ?_
    refine lv_lload_n hx hb dX2_remainder_15 rfl (lv_at hl 1 rfl) ?_
    refine lv_ldc2 hx hb hown (hts (.constantLong RX2 36 (32768)) (by decide +kernel)) dX2_remainder_16 ?_
    refine kr_l (show (32768 : Int64) = lN 32768 by decide) ?_
    refine lv_lmul hx hb dX2_remainder_19 ?_
    refine kr_l (lN_mul _ _) ?_
    refine lv_aload_n hx hb dX2_remainder_20 rfl (lv_at hl 2 rfl) ?_
    refine va_get (D := D) (ci := 2) (v := .ref q) (C := RX2) (T := TX2) (N := 2) hx hb hts inX2_X2_remainder hown hK hP 0 rfl rfl 0 (by decide) (hts (.fieldLink RX2 9 "TransformProduct$Row" "cells" "[I") (by decide +kernel)) (fun _ h9 => h9) rfl dX2_remainder_21 ?_
    refine lv_iload hx hb dX2_remainder_24 (lv_at hl 0 rfl) ?_
    refine kr_ld hx hb hK hP 1 0 rfl rfl (by omega) (by omega) dX2_remainder_26 ?_
    refine lv_i2l hx hb dX2_remainder_27 (nI_l (by omega)) ?_
    refine lv_ladd hx hb dX2_remainder_28 ?_
    refine kr_l (lN_add _ _) ?_
    refine lv_iload_n hx hb dX2_remainder_29 rfl (lv_at hl 3 rfl) ?_
    refine lv_i2l hx hb dX2_remainder_30 (nI_l (by omega)) ?_
    refine lv_lrem hx hb dX2_remainder_31 (kn_lne (by omega) (by omega)) ?_
    refine kr_l (pk_lRem (by omega) (by omega) (by omega)) ?_
    refine lv_lstore_n (lv' := [(2, .long (lN (((x * 32768) + (f k)) % md))), (4, .int (nI (k))), (0, .ref h), (1, .int (nI (md)))]) hx hb dX2_remainder_32 rfl hl (by decide) rfl (fun ls hl => ?_)
    refine lv_iinc (v := nI k - nI 1) (lv' := [(4, .int (nI k - nI 1)), (2, .long (lN (((x * 32768) + (f k)) % md))), (0, .ref h), (1, .int (nI (md)))]) hx hb dX2_remainder_33 hl (k := 1) rfl (kn_m1 _) (by decide) rfl (fun ls hl => ?_)
    refine lv_goto (tgt := 10) hx hb dX2_remainder_36 (by decide) ?_
    exact ih ((x * 32768 + f k) % md) H locs ls hI (Nat.mod_lt _ (by omega)) (by omega) hP hD hS (lv_sub hl [0, 1, 2, 3] rfl)
set_option maxHeartbeats 4000000 in
set_option maxRecDepth 100000 in
theorem c_X2_remainder (l : Launch) (D : va_G) (cI cT : ClassId) (sz : Nat) (h q n u : Nat) (f : Nat → Nat) (md : Nat) (hf : ∀ i, i < u → f i < 32768) (hu : u ≤ n) (hn : n < 2 ^ 31) (hm : 1 ≤ md) (hm2 : md ≤ 1000000000) : kMi (S := Unit) l yX2_remainder wsX2_remainder { frames := 0, cells := 0, slots := 0, locals := 0 } D [(cI, .int), (cT, .object RX1)] [(h, .inr (2, [.ref q, .int (nI (u))])), (q, .inl (cI, n, .inl (nA (f))))] sz (fun _ => True) [.ref h, .int (nI (md))] (fun r _ => r = nI (hrN f 32768 md u 0)) (fun _ => [(h, .inr (2, [.ref q, .int (nI (u))])), (q, .inl (cI, n, .inl (nA (f))))]) (0) (0) := by
  refine kM_of (Qc := fun A => va_Qi (S := Unit) (fun r _ => r = nI (hrN f 32768 md u 0)) (kB D A (fun _ => [(h, .inr (2, [.ref q, .int (nI (u))])), (q, .inl (cI, n, .inl (nA (f))))])) A) (cc := cX2_remainder) (maxL := 5) (ret := (some .int)) (by decide +kernel) rfl (Nat.le_of_ble_eq_true rfl) ?_
  intro p e s m below meth c A ls hC0 hr hlk hin hP hK hD hA hS hE hAe hsz hl
  obtain ⟨hx, hb, hml, hown, hts⟩ := id hC0
  have hl : lv_has ls 5 [(0, .ref h), (1, .int (nI (md)))] := hl
  refine lv_lconst (v := lN 0) hx hb dX2_remainder_0 (by decide) ?_
  refine lv_lstore_n (lv' := [(2, .long (lN (0))), (0, .ref h), (1, .int (nI (md)))]) hx hb dX2_remainder_1 rfl hl (by decide) rfl (fun ls hl => ?_)
  refine lv_aload_n hx hb dX2_remainder_2 rfl (lv_at hl 1 rfl) ?_
  refine va_get (D := D) (ci := 2) (v := .int (nI (u))) (C := RX2) (T := TX2) (N := 2) hx hb hts inX2_X2_remainder hown hK hP 0 rfl rfl 1 (by decide) (hts (.fieldLink RX2 15 "TransformProduct$Row" "used" "I") (by decide +kernel)) (fun _ h9 => h9) rfl dX2_remainder_3 ?_
  refine lv_iconst (v := nI 1) hx hb dX2_remainder_6 (by decide) ?_
  refine lv_isub hx hb dX2_remainder_7 ?_
  refine lv_istore (lv' := [(4, .int (nI u - nI 1)), (2, .long (lN (0))), (0, .ref h), (1, .int (nI (md)))]) hx hb dX2_remainder_8 hl (by decide) rfl (fun ls hl => ?_)
  refine lp_rem h q n u md f (hrN f 32768 md u 0) hC0 hK hf hu hn hm hm2 (fun x H locs ls hI hx0 hP hD hS hl => ?_) u 0 s.heap [] ls rfl (by omega) (by omega) hP hD hS (lv_sub hl [0, 1, 2, 3] rfl)
  refine lv_lload_n hx hb dX2_remainder_39 rfl (lv_at hl 1 rfl) ?_
  refine lv_l2i hx hb dX2_remainder_40 (lN_i _) ?_
  exact kr_iret () hx hb hr hlk hP hD hS (by rw [hI]) dX2_remainder_41
set_option maxHeartbeats 4000000 in
set_option maxRecDepth 100000 in
theorem c_X2_spreadInto (l : Launch) (D : va_G) (cI cT : ClassId) (sz : Nat) (h q n u : Nat) (f : Nat → Nat) (tq N : Nat) (g : Nat → Nat) (hu : u ≤ n) (hn : n < 2 ^ 31) (huN : u ≤ N) (hN : N < 2 ^ 31) : kMv (S := Unit) l yX2_spreadInto wsX2_spreadInto { frames := 2, cells := 0, slots := 0, locals := 46 } D [(cI, .int), (cT, .object RX1)] [(h, .inr (2, [.ref q, .int (nI (u))])), (q, .inl (cI, n, .inl (nA (f)))), (tq, .inl (cI, N, .inl (nA (g))))] sz (fun _ => True) [.ref h, .ref tq] (fun _ => True) (fun _ => [(h, .inr (2, [.ref q, .int (nI (u))])), (q, .inl (cI, n, .inl (nA (f)))), (tq, .inl (cI, N, .inl (nA (flN (va_cpy f g 0 0 u) u 0 (N - u)))))]) (0) (0) := by
  refine kM_of (Qc := fun A => va_Qv (S := Unit) (fun _ => True) (kB D A (fun _ => [(h, .inr (2, [.ref q, .int (nI (u))])), (q, .inl (cI, n, .inl (nA (f)))), (tq, .inl (cI, N, .inl (nA (flN (va_cpy f g 0 0 u) u 0 (N - u)))))])) A) (cc := cX2_spreadInto) (maxL := 2) (ret := none) (by decide +kernel) rfl (Nat.le_of_ble_eq_true rfl) ?_
  intro p e s m below meth c A ls hC0 hr hlk hin hP hK hD hA hS hE hAe hsz hl
  obtain ⟨hx, hb, hml, hown, hts⟩ := id hC0
  have hl : lv_has ls 2 [(0, .ref h), (1, .ref tq)] := hl
  refine lv_aload_n hx hb dX2_spreadInto_0 rfl (lv_at hl 0 rfl) ?_
  refine va_get (D := D) (ci := 2) (v := .ref q) (C := RX2) (T := TX2) (N := 2) hx hb hts inX2_X2_spreadInto hown hK hP 0 rfl rfl 0 (by decide) (hts (.fieldLink RX2 9 "TransformProduct$Row" "cells" "[I") (by decide +kernel)) (fun _ h9 => h9) rfl dX2_spreadInto_1 ?_
  refine lv_iconst (v := nI 0) hx hb dX2_spreadInto_4 (by decide) ?_
  refine lv_aload_n hx hb dX2_spreadInto_5 rfl (lv_at hl 1 rfl) ?_
  refine lv_iconst (v := nI 0) hx hb dX2_spreadInto_6 (by decide) ?_
  refine lv_aload_n hx hb dX2_spreadInto_7 rfl (lv_at hl 0 rfl) ?_
  refine va_get (D := D) (ci := 2) (v := .int (nI (u))) (C := RX2) (T := TX2) (N := 2) hx hb hts inX2_X2_spreadInto hown hK hP 0 rfl rfl 1 (by decide) (hts (.fieldLink RX2 15 "TransformProduct$Row" "used" "I") (by decide +kernel)) (fun _ h9 => h9) rfl dX2_spreadInto_8 ?_
  refine kr_copy hx hb (hml.trans hl.1.symm) hown (hts (.methodLink RX2 26 arraycopyName) (by decide +kernel)) (hts (.native arraycopyName) (by decide +kernel)) (hts (.static arraycopyName) (by decide +kernel)) (hts (.initialized "java/lang/System") (by decide +kernel)) hK hP hD hS 1 2 0 0 rfl rfl rfl rfl (by omega) (by omega) (by omega) (by omega) (by omega) (Nat.le_of_ble_eq_true rfl) (Nat.le_of_ble_eq_true rfl) dX2_spreadInto_11 (fun H locs hP hD hS => ?_)
  have hP : va_P D vwCl [(h, .inr (2, [.ref q, .int (nI (u))])), (q, .inl (cI, n, .inl (nA (f)))), (tq, .inl (cI, N, .inl (nA (va_cpy f g 0 0 u))))] H := hP
  have hD : va_D A [(h, .inr (2, [.ref q, .int (nI (u))])), (q, .inl (cI, n, .inl (nA (f)))), (tq, .inl (cI, N, .inl (nA (va_cpy f g 0 0 u))))] := hD
  refine lv_aload_n hx hb dX2_spreadInto_14 rfl (lv_at hl 1 rfl) ?_
  refine lv_aload_n hx hb dX2_spreadInto_15 rfl (lv_at hl 0 rfl) ?_
  refine va_get (D := D) (ci := 2) (v := .int (nI (u))) (C := RX2) (T := TX2) (N := 2) hx hb hts inX2_X2_spreadInto hown hK hP 0 rfl rfl 1 (by decide) (hts (.fieldLink RX2 15 "TransformProduct$Row" "used" "I") (by decide +kernel)) (fun _ h9 => h9) rfl dX2_spreadInto_16 ?_
  refine lv_aload_n hx hb dX2_spreadInto_19 rfl (lv_at hl 1 rfl) ?_
  refine va_alen (v := nI (N)) hx hb hK hP 2 0 rfl rfl rfl dX2_spreadInto_20 ?_
  refine kr_i (congrArg nI (show N = u + (N - u) from (by omega))) ?_
  refine lv_iconst (v := nI 0) hx hb dX2_spreadInto_21 (by decide) ?_
  refine kc_v (wr := [(h, .inr (2, [.ref q, .int (nI (u))])), (q, .inl (cI, n, .inl (nA (f))))]) (va_runS (As := [.ref tq, .int (nI (u)), .int (nI (u + (N - u))), .int (nI (0))]) (rest := []) hC0 (c_J7_fill l D cI cT H.size tq N u (N - u) 0 (va_cpy f g 0 0 u) (by omega) hN) (va_cwS 4 hts gX2_spreadInto_J7_fill_fda19 rfl rfl rfl (by decide +kernel) ⟨Nat.le_of_ble_eq_true rfl, Nat.le_of_ble_eq_true rfl⟩) (kp_S kE_0 (fun _ _ _ => trivial) hK hP hD [2] rfl (by decide)) rfl rfl hl.1 rfl (lv_room (Nat.le_of_ble_eq_true rfl)) dX2_spreadInto_22 ⟨Nat.le_of_ble_eq_true rfl, Nat.le_of_ble_eq_true rfl⟩) hP hD hS hA [2] [0, 1] rfl rfl (by decide) (by decide) (fun uu H locs hw hP hD hS => ?_)
  have hP : va_P D vwCl [(h, .inr (2, [.ref q, .int (nI (u))])), (q, .inl (cI, n, .inl (nA (f)))), (tq, .inl (cI, N, .inl (nA (flN (va_cpy f g 0 0 u) u 0 (N - u)))))] H := hP.sub [0, 1, 2] rfl
  have hD : va_D A [(h, .inr (2, [.ref q, .int (nI (u))])), (q, .inl (cI, n, .inl (nA (f)))), (tq, .inl (cI, N, .inl (nA (flN (va_cpy f g 0 0 u) u 0 (N - u)))))] := hD.sub [0, 1, 2] (by decide) rfl
  exact kr_vret () hx hb hr hlk hP hD hS trivial dX2_spreadInto_25
