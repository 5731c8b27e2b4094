/-! class PrimeTransform: split and join, to and from the spectrum -/
set_option maxHeartbeats 4000000 in
set_option maxRecDepth 100000 in
theorem lp_split {p : Program} {l : Launch} {e : Env} {R : Room} {s : State} {m : MethodId} {args : Array Value} {below : List Frame} {meth : Method} {c : Code} {cells slots : Nat} {Q : State → Prop} {A : Nat → Prop} {H0 : Heap} {D : va_G} {cI cT : ClassId} (h r vv q pr lg N iv M sg st hf : Nat) (rt v : Nat → Nat) (hC0 : CallFix p m c cX1_splitBlock 12 s args wsX1_splitBlock RX1) (hK : va_K D vwCl [(cI, .int), (cT, .object RX1)] s) (hA : ∀ q, H0.size ≤ q → A q) (hp : pr < 2 ^ 30) (hp0 : 0 < pr) (hN2 : N ≤ 1024) (hM : N = 2 * M) (hsg : sg < 10) (hst : st + 2 * hf ≤ N) (hjr : ∀ j, j < hf → j * 2 ^ sg < M) (hrt : ∀ i, i < M → rt i < pr) (hv : ∀ i, i < N → v i < pr)
    (kk : ∀ (j : Nat) (H : Heap) (locs : List Loc) (ls : Array Slot), j = hf → va_P D vwCl [(h, .inr (1, [.int (nI (pr)), .int (nI (lg)), .int (nI (N)), .ref r, .ref vv, .long (lN (iv))])), (r, .inl (cI, M, .inl (nA (rt)))), (q, .inl (cI, N, .inl (nA (spL pr st hf sg rt v j))))] H → va_D A [(h, .inr (1, [.int (nI (pr)), .int (nI (lg)), .int (nI (N)), .ref r, .ref vv, .long (lN (iv))])), (r, .inl (cI, M, .inl (nA (rt)))), (q, .inl (cI, N, .inl (nA (spL pr st hf sg rt v j))))] → va_S A H0 H locs → lv_has ls 12 [(6, .int (nI (j))), (5, .int (nI (st))), (4, .int (nI (hf))), (0, .ref h), (1, .ref q), (3, .int (nI (sg)))] → W p l e R s m args below meth c H locs cells slots Q (F0 m 133 ls [])) :
    ∀ (nn j : Nat) (H : Heap) (locs : List Loc) (ls : Array Slot), hf - j < nn → j ≤ hf → va_P D vwCl [(h, .inr (1, [.int (nI (pr)), .int (nI (lg)), .int (nI (N)), .ref r, .ref vv, .long (lN (iv))])), (r, .inl (cI, M, .inl (nA (rt)))), (q, .inl (cI, N, .inl (nA (spL pr st hf sg rt v j))))] H → va_D A [(h, .inr (1, [.int (nI (pr)), .int (nI (lg)), .int (nI (N)), .ref r, .ref vv, .long (lN (iv))])), (r, .inl (cI, M, .inl (nA (rt)))), (q, .inl (cI, N, .inl (nA (spL pr st hf sg rt v j))))] → va_S A H0 H locs → lv_has ls 12 [(6, .int (nI (j))), (5, .int (nI (st))), (4, .int (nI (hf))), (0, .ref h), (1, .ref q), (3, .int (nI (sg)))] → W p l e R s m args below meth c H locs cells slots Q (F0 m 21 ls []) := by
  obtain ⟨hx, hb, hml, hown, hts⟩ := id hC0
  intro nn
  induction nn with
  | zero => intro _ _ _ _ h; exact absurd h (Nat.not_lt_zero _)
  | succ nn ih =>
    intro j H locs ls hn hj hP hD hS hl
    refine lv_iload hx hb dX1_splitBlock_21 (lv_at hl 0 rfl) ?_
    refine lv_iload hx hb dX1_splitBlock_23 (lv_at hl 2 rfl) ?_
    refine kr_ge (tgt := 133) hx hb dX1_splitBlock_25 (by decide) (by omega) (by omega) (fun hc => ?_) (fun hc => ?_)
    · exact kk j H locs ls (by omega) hP hD hS hl
    · have hj2 := hjr j hc
      have hvl := spL_lt (sg := sg) (rt := rt) hp0 hv hst j (by omega)
      have a1 := hvl (st + j) (by omega)
      have a2 := hvl (st + j + hf) (by omega)
      have a3 := hrt (j * 2 ^ sg) hj2
      have a4 : ((spL pr st hf sg rt v j) (st + j) + pr - (spL pr st hf sg rt v j) (st + j + hf)) * rt (j * 2 ^ sg) < 2 ^ 62 := kn_mm (p := 2 * pr) (by omega) (by omega) (by omega)
      refine lv_aload_n hx hb dX1_splitBlock_28 rfl (lv_at hl 4 rfl) ?_
      refine lv_iload hx hb dX1_splitBlock_29 (lv_at hl 1 rfl) ?_
      refine lv_iload hx hb dX1_splitBlock_31 (lv_at hl 0 rfl) ?_
      refine lv_iadd hx hb dX1_splitBlock_33 ?_
      refine kr_i (nI_add _ _) ?_
      refine kr_ld hx hb hK hP 2 0 rfl rfl (by omega) (by omega) dX1_splitBlock_34 ?_
      refine lv_istore (lv' := [(7, .int (nI ((spL pr st hf sg rt v j) (st + j)))), (6, .int (nI (j))), (5, .int (nI (st))), (4, .int (nI (hf))), (0, .ref h), (1, .ref q), (3, .int (nI (sg)))]) hx hb dX1_splitBlock_35 hl (by decide) rfl (fun ls hl => ?_)
      refine lv_aload_n hx hb dX1_splitBlock_37 rfl (lv_at hl 5 rfl) ?_
      refine lv_iload hx hb dX1_splitBlock_38 (lv_at hl 2 rfl) ?_
      refine lv_iload hx hb dX1_splitBlock_40 (lv_at hl 1 rfl) ?_
      refine lv_iadd hx hb dX1_splitBlock_42 ?_
      refine kr_i (nI_add _ _) ?_
      refine lv_iload hx hb dX1_splitBlock_43 (lv_at hl 3 rfl) ?_
      refine lv_iadd hx hb dX1_splitBlock_45 ?_
      refine kr_i (nI_add _ _) ?_
      refine kr_ld hx hb hK hP 2 0 rfl rfl (by omega) (by omega) dX1_splitBlock_46 ?_
      refine lv_istore (lv' := [(8, .int (nI ((spL pr st hf sg rt v j) ((st + j) + hf)))), (7, .int (nI ((spL pr st hf sg rt v j) (st + j)))), (6, .int (nI (j))), (5, .int (nI (st))), (4, .int (nI (hf))), (0, .ref h), (1, .ref q), (3, .int (nI (sg)))]) hx hb dX1_splitBlock_47 hl (by decide) rfl (fun ls hl => ?_)
      refine lv_iload hx hb dX1_splitBlock_49 (lv_at hl 1 rfl) ?_
      refine lv_iload hx hb dX1_splitBlock_51 (lv_at hl 0 rfl) ?_
      refine lv_iadd hx hb dX1_splitBlock_53 ?_
      refine kr_i (nI_add _ _) ?_
      refine lv_istore (lv' := [(9, .int (nI (((spL pr st hf sg rt v j) (st + j)) + ((spL pr st hf sg rt v j) ((st + j) + hf))))), (8, .int (nI ((spL pr st hf sg rt v j) ((st + j) + hf)))), (7, .int (nI ((spL pr st hf sg rt v j) (st + j)))), (6, .int (nI (j))), (5, .int (nI (st))), (4, .int (nI (hf))), (0, .ref h), (1, .ref q), (3, .int (nI (sg)))]) hx hb dX1_splitBlock_54 hl (by decide) rfl (fun ls hl => ?_)
      refine lv_aload_n hx hb dX1_splitBlock_56 rfl (lv_at hl 7 rfl) ?_
      refine lv_iload hx hb dX1_splitBlock_57 (lv_at hl 4 rfl) ?_
      refine lv_iload hx hb dX1_splitBlock_59 (lv_at hl 3 rfl) ?_
      refine lv_iadd hx hb dX1_splitBlock_61 ?_
      refine kr_i (nI_add _ _) ?_
      refine lv_iload hx hb dX1_splitBlock_62 (lv_at hl 0 rfl) ?_
      refine lv_aload_n hx hb dX1_splitBlock_64 rfl (lv_at hl 6 rfl) ?_
      refine va_get (D := D) (ci := 1) (v := .int (nI (pr))) (C := RX1) (T := TX1) (N := 6) hx hb hts inX1_X1_splitBlock hown hK hP 0 rfl rfl 0 (by decide) (hts (.fieldLink RX1 9 "TransformProduct$PrimeTransform" "prime" "I") (by decide +kernel)) (fun _ h9 => h9) rfl dX1_splitBlock_65 ?_
      refine kr_lt (tgt := 81) hx hb dX1_splitBlock_68 (by decide) (by omega) (by omega) (fun hd2 => ?_) (fun hd2 => ?_)
      · refine lv_iload hx hb dX1_splitBlock_81 (lv_at hl 0 rfl) ?_
        refine kr_i (congrArg nI (show ((spL pr st hf sg rt v j) (st + j)) + ((spL pr st hf sg rt v j) ((st + j) + hf)) = adP pr ((spL pr st hf sg rt v j) (st + j)) ((spL pr st hf sg rt v j) (st + j + hf)) from (if_pos (by omega)).symm)) ?_
        refine kr_st hx hb hK hP hD hS 2 0 rfl rfl (by omega) (by omega) dX1_splitBlock_83 (fun H locs hP hD hS => ?_)
        have hP : va_P D vwCl [(h, .inr (1, [.int (nI (pr)), .int (nI (lg)), .int (nI (N)), .ref r, .ref vv, .long (lN (iv))])), (r, .inl (cI, M, .inl (nA (rt)))), (q, .inl (cI, N, .inl (nA (va_up (spL pr st hf sg rt v j) (st + j) (adP pr ((spL pr st hf sg rt v j) (st + j)) ((spL pr st hf sg rt v j) (st + j + hf)))))))] H := hP
        have hD : va_D A [(h, .inr (1, [.int (nI (pr)), .int (nI (lg)), .int (nI (N)), .ref r, .ref vv, .long (lN (iv))])), (r, .inl (cI, M, .inl (nA (rt)))), (q, .inl (cI, N, .inl (nA (va_up (spL pr st hf sg rt v j) (st + j) (adP pr ((spL pr st hf sg rt v j) (st + j)) ((spL pr st hf sg rt v j) (st + j + hf)))))))] := hD
        refine lv_iload hx hb dX1_splitBlock_84 (lv_at hl 2 rfl) ?_
        refine lv_iload hx hb dX1_splitBlock_86 (lv_at hl 1 rfl) ?_
        refine lv_isub hx hb dX1_splitBlock_88 ?_
        refine lv_aload_n hx hb dX1_splitBlock_89 rfl (lv_at hl 6 rfl) ?_
        refine va_get (D := D) (ci := 1) (v := .int (nI (pr))) (C := RX1) (T := TX1) (N := 6) hx hb hts inX1_X1_splitBlock hown hK hP 0 rfl rfl 0 (by decide) (hts (.fieldLink RX1 9 "TransformProduct$PrimeTransform" "prime" "I") (by decide +kernel)) (fun _ h9 => h9) rfl dX1_splitBlock_90 ?_
        refine lv_iadd hx hb dX1_splitBlock_93 ?_
        refine kr_i (y := nI ((spL pr st hf sg rt v j) (st + j) + pr - (spL pr st hf sg rt v j) (st + j + hf))) (kn_dif (by omega)) ?_
        refine lv_i2l hx hb dX1_splitBlock_94 (nI_l (by omega)) ?_
        refine lv_lstore (lv' := [(10, .long (lN ((spL pr st hf sg rt v j) (st + j) + pr - (spL pr st hf sg rt v j) (st + j + hf)))), (9, .int (nI (((spL pr st hf sg rt v j) (st + j)) + ((spL pr st hf sg rt v j) ((st + j) + hf))))), (8, .int (nI ((spL pr st hf sg rt v j) ((st + j) + hf)))), (7, .int (nI ((spL pr st hf sg rt v j) (st + j)))), (6, .int (nI (j))), (5, .int (nI (st))), (4, .int (nI (hf))), (0, .ref h), (1, .ref q), (3, .int (nI (sg)))]) hx hb dX1_splitBlock_95 hl (by decide) rfl (fun ls hl => ?_)
        refine lv_aload_n hx hb dX1_splitBlock_97 rfl (lv_at hl 8 rfl) ?_
        refine lv_iload hx hb dX1_splitBlock_98 (lv_at hl 5 rfl) ?_
        refine lv_iload hx hb dX1_splitBlock_100 (lv_at hl 4 rfl) ?_
        refine lv_iadd hx hb dX1_splitBlock_102 ?_
        refine kr_i (nI_add _ _) ?_
        refine lv_iload hx hb dX1_splitBlock_103 (lv_at hl 6 rfl) ?_
        refine lv_iadd hx hb dX1_splitBlock_105 ?_
        refine kr_i (nI_add _ _) ?_
        refine lv_lload hx hb dX1_splitBlock_106 (lv_at hl 0 rfl) ?_
        refine lv_aload_n hx hb dX1_splitBlock_108 rfl (lv_at hl 7 rfl) ?_
        refine va_get (D := D) (ci := 1) (v := .ref r) (C := RX1) (T := TX1) (N := 6) hx hb hts inX1_X1_splitBlock hown hK hP 0 rfl rfl 3 (by decide) (hts (.fieldLink RX1 21 "TransformProduct$PrimeTransform" "roots" "[I") (by decide +kernel)) (fun _ h9 => h9) rfl dX1_splitBlock_109 ?_
        refine lv_iload hx hb dX1_splitBlock_112 (lv_at hl 4 rfl) ?_
        refine lv_iload_n hx hb dX1_splitBlock_114 rfl (lv_at hl 9 rfl) ?_
        refine lv_ishl hx hb dX1_splitBlock_115 ?_
        refine kr_i (kn_shl (by omega) (by omega)) ?_
        refine kr_ld hx hb hK hP 1 0 rfl rfl (by omega) (by omega) dX1_splitBlock_116 ?_
        refine lv_i2l hx hb dX1_splitBlock_117 (nI_l (by omega)) ?_
        refine lv_lmul hx hb dX1_splitBlock_118 ?_
        refine kr_l (lN_mul _ _) ?_
        refine lv_aload_n hx hb dX1_splitBlock_119 rfl (lv_at hl 7 rfl) ?_
        refine va_get (D := D) (ci := 1) (v := .int (nI (pr))) (C := RX1) (T := TX1) (N := 6) hx hb hts inX1_X1_splitBlock hown hK hP 0 rfl rfl 0 (by decide) (hts (.fieldLink RX1 9 "TransformProduct$PrimeTransform" "prime" "I") (by decide +kernel)) (fun _ h9 => h9) rfl dX1_splitBlock_120 ?_
        refine lv_i2l hx hb dX1_splitBlock_123 (nI_l (by omega)) ?_
        refine lv_lrem hx hb dX1_splitBlock_124 (kn_lne (by omega) (by omega)) ?_
        refine kr_l (pk_lRem (by omega) (by omega) (by omega)) ?_
        refine lv_l2i hx hb dX1_splitBlock_125 (lN_i _) ?_
        refine kr_st hx hb hK hP hD hS 2 0 rfl rfl (by omega) (by omega) dX1_splitBlock_126 (fun H locs hP hD hS => ?_)
        have hP : va_P D vwCl [(h, .inr (1, [.int (nI (pr)), .int (nI (lg)), .int (nI (N)), .ref r, .ref vv, .long (lN (iv))])), (r, .inl (cI, M, .inl (nA (rt)))), (q, .inl (cI, N, .inl (nA (va_up (va_up (spL pr st hf sg rt v j) (st + j) (adP pr ((spL pr st hf sg rt v j) (st + j)) ((spL pr st hf sg rt v j) (st + j + hf)))) ((st + j) + hf) ((((spL pr st hf sg rt v j) (st + j) + pr - (spL pr st hf sg rt v j) (st + j + hf)) * (rt (j * 2 ^ sg))) % pr)))))] H := hP
        have hD : va_D A [(h, .inr (1, [.int (nI (pr)), .int (nI (lg)), .int (nI (N)), .ref r, .ref vv, .long (lN (iv))])), (r, .inl (cI, M, .inl (nA (rt)))), (q, .inl (cI, N, .inl (nA (va_up (va_up (spL pr st hf sg rt v j) (st + j) (adP pr ((spL pr st hf sg rt v j) (st + j)) ((spL pr st hf sg rt v j) (st + j + hf)))) ((st + j) + hf) ((((spL pr st hf sg rt v j) (st + j) + pr - (spL pr st hf sg rt v j) (st + j + hf)) * (rt (j * 2 ^ sg))) % pr)))))] := hD
        refine lv_iinc (v := nI (j + 1)) (lv' := [(6, .int (nI (j + 1))), (10, .long (lN ((spL pr st hf sg rt v j) (st + j) + pr - (spL pr st hf sg rt v j) (st + j + hf)))), (9, .int (nI (((spL pr st hf sg rt v j) (st + j)) + ((spL pr st hf sg rt v j) ((st + j) + hf))))), (8, .int (nI ((spL pr st hf sg rt v j) ((st + j) + hf)))), (7, .int (nI ((spL pr st hf sg rt v j) (st + j)))), (5, .int (nI (st))), (4, .int (nI (hf))), (0, .ref h), (1, .ref q), (3, .int (nI (sg)))]) hx hb dX1_splitBlock_127 hl (k := 4) rfl (by rw [show Int32.ofInt 1 = nI 1 by decide]; exact nI_add _ _) (by decide) rfl (fun ls hl => ?_)
        refine lv_goto (tgt := 21) hx hb dX1_splitBlock_130 (by decide) ?_
        exact ih (j + 1) H locs ls (by omega) (by omega) hP hD hS (lv_sub hl [0, 5, 6, 7, 8, 9] rfl)
      · refine lv_iload hx hb dX1_splitBlock_71 (lv_at hl 0 rfl) ?_
        refine lv_aload_n hx hb dX1_splitBlock_73 rfl (lv_at hl 6 rfl) ?_
        refine va_get (D := D) (ci := 1) (v := .int (nI (pr))) (C := RX1) (T := TX1) (N := 6) hx hb hts inX1_X1_splitBlock hown hK hP 0 rfl rfl 0 (by decide) (hts (.fieldLink RX1 9 "TransformProduct$PrimeTransform" "prime" "I") (by decide +kernel)) (fun _ h9 => h9) rfl dX1_splitBlock_74 ?_
        refine lv_isub hx hb dX1_splitBlock_77 ?_
        refine kr_i (pk_sub (by omega)) ?_
        refine lv_goto (tgt := 83) hx hb dX1_splitBlock_78 (by decide) ?_
        refine kr_i (congrArg nI (show (((spL pr st hf sg rt v j) (st + j)) + ((spL pr st hf sg rt v j) ((st + j) + hf))) - pr = adP pr ((spL pr st hf sg rt v j) (st + j)) ((spL pr st hf sg rt v j) (st + j + hf)) from (if_neg (by omega)).symm)) ?_
        refine kr_st hx hb hK hP hD hS 2 0 rfl rfl (by omega) (by omega) dX1_splitBlock_83 (fun H locs hP hD hS => ?_)
        have hP : va_P D vwCl [(h, .inr (1, [.int (nI (pr)), .int (nI (lg)), .int (nI (N)), .ref r, .ref vv, .long (lN (iv))])), (r, .inl (cI, M, .inl (nA (rt)))), (q, .inl (cI, N, .inl (nA (va_up (spL pr st hf sg rt v j) (st + j) (adP pr ((spL pr st hf sg rt v j) (st + j)) ((spL pr st hf sg rt v j) (st + j + hf)))))))] H := hP
        have hD : va_D A [(h, .inr (1, [.int (nI (pr)), .int (nI (lg)), .int (nI (N)), .ref r, .ref vv, .long (lN (iv))])), (r, .inl (cI, M, .inl (nA (rt)))), (q, .inl (cI, N, .inl (nA (va_up (spL pr st hf sg rt v j) (st + j) (adP pr ((spL pr st hf sg rt v j) (st + j)) ((spL pr st hf sg rt v j) (st + j + hf)))))))] := hD
        refine lv_iload hx hb dX1_splitBlock_84 (lv_at hl 2 rfl) ?_
        refine lv_iload hx hb dX1_splitBlock_86 (lv_at hl 1 rfl) ?_
        refine lv_isub hx hb dX1_splitBlock_88 ?_
        refine lv_aload_n hx hb dX1_splitBlock_89 rfl (lv_at hl 6 rfl) ?_
        refine va_get (D := D) (ci := 1) (v := .int (nI (pr))) (C := RX1) (T := TX1) (N := 6) hx hb hts inX1_X1_splitBlock hown hK hP 0 rfl rfl 0 (by decide) (hts (.fieldLink RX1 9 "TransformProduct$PrimeTransform" "prime" "I") (by decide +kernel)) (fun _ h9 => h9) rfl dX1_splitBlock_90 ?_
        refine lv_iadd hx hb dX1_splitBlock_93 ?_
        refine kr_i (y := nI ((spL pr st hf sg rt v j) (st + j) + pr - (spL pr st hf sg rt v j) (st + j + hf))) (kn_dif (by omega)) ?_
        refine lv_i2l hx hb dX1_splitBlock_94 (nI_l (by omega)) ?_
        refine lv_lstore (lv' := [(10, .long (lN ((spL pr st hf sg rt v j) (st + j) + pr - (spL pr st hf sg rt v j) (st + j + hf)))), (9, .int (nI (((spL pr st hf sg rt v j) (st + j)) + ((spL pr st hf sg rt v j) ((st + j) + hf))))), (8, .int (nI ((spL pr st hf sg rt v j) ((st + j) + hf)))), (7, .int (nI ((spL pr st hf sg rt v j) (st + j)))), (6, .int (nI (j))), (5, .int (nI (st))), (4, .int (nI (hf))), (0, .ref h), (1, .ref q), (3, .int (nI (sg)))]) hx hb dX1_splitBlock_95 hl (by decide) rfl (fun ls hl => ?_)
        refine lv_aload_n hx hb dX1_splitBlock_97 rfl (lv_at hl 8 rfl) ?_
        refine lv_iload hx hb dX1_splitBlock_98 (lv_at hl 5 rfl) ?_
        refine lv_iload hx hb dX1_splitBlock_100 (lv_at hl 4 rfl) ?_
        refine lv_iadd hx hb dX1_splitBlock_102 ?_
        refine kr_i (nI_add _ _) ?_
        refine lv_iload hx hb dX1_splitBlock_103 (lv_at hl 6 rfl) ?_
        refine lv_iadd hx hb dX1_splitBlock_105 ?_
        refine kr_i (nI_add _ _) ?_
        refine lv_lload hx hb dX1_splitBlock_106 (lv_at hl 0 rfl) ?_
        refine lv_aload_n hx hb dX1_splitBlock_108 rfl (lv_at hl 7 rfl) ?_
        refine va_get (D := D) (ci := 1) (v := .ref r) (C := RX1) (T := TX1) (N := 6) hx hb hts inX1_X1_splitBlock hown hK hP 0 rfl rfl 3 (by decide) (hts (.fieldLink RX1 21 "TransformProduct$PrimeTransform" "roots" "[I") (by decide +kernel)) (fun _ h9 => h9) rfl dX1_splitBlock_109 ?_
        refine lv_iload hx hb dX1_splitBlock_112 (lv_at hl 4 rfl) ?_
        refine lv_iload_n hx hb dX1_splitBlock_114 rfl (lv_at hl 9 rfl) ?_
        refine lv_ishl hx hb dX1_splitBlock_115 ?_
        refine kr_i (kn_shl (by omega) (by omega)) ?_
        refine kr_ld hx hb hK hP 1 0 rfl rfl (by omega) (by omega) dX1_splitBlock_116 ?_
        refine lv_i2l hx hb dX1_splitBlock_117 (nI_l (by omega)) ?_
        refine lv_lmul hx hb dX1_splitBlock_118 ?_
        refine kr_l (lN_mul _ _) ?_
        refine lv_aload_n hx hb dX1_splitBlock_119 rfl (lv_at hl 7 rfl) ?_
        refine va_get (D := D) (ci := 1) (v := .int (nI (pr))) (C := RX1) (T := TX1) (N := 6) hx hb hts inX1_X1_splitBlock hown hK hP 0 rfl rfl 0 (by decide) (hts (.fieldLink RX1 9 "TransformProduct$PrimeTransform" "prime" "I") (by decide +kernel)) (fun _ h9 => h9) rfl dX1_splitBlock_120 ?_
        refine lv_i2l hx hb dX1_splitBlock_123 (nI_l (by omega)) ?_
        refine lv_lrem hx hb dX1_splitBlock_124 (kn_lne (by omega) (by omega)) ?_
        refine kr_l (pk_lRem (by omega) (by omega) (by omega)) ?_
        refine lv_l2i hx hb dX1_splitBlock_125 (lN_i _) ?_
        refine kr_st hx hb hK hP hD hS 2 0 rfl rfl (by omega) (by omega) dX1_splitBlock_126 (fun H locs hP hD hS => ?_)
        have hP : va_P D vwCl [(h, .inr (1, [.int (nI (pr)), .int (nI (lg)), .int (nI (N)), .ref r, .ref vv, .long (lN (iv))])), (r, .inl (cI, M, .inl (nA (rt)))), (q, .inl (cI, N, .inl (nA (va_up (va_up (spL pr st hf sg rt v j) (st + j) (adP pr ((spL pr st hf sg rt v j) (st + j)) ((spL pr st hf sg rt v j) (st + j + hf)))) ((st + j) + hf) ((((spL pr st hf sg rt v j) (st + j) + pr - (spL pr st hf sg rt v j) (st + j + hf)) * (rt (j * 2 ^ sg))) % pr)))))] H := hP
        have hD : va_D A [(h, .inr (1, [.int (nI (pr)), .int (nI (lg)), .int (nI (N)), .ref r, .ref vv, .long (lN (iv))])), (r, .inl (cI, M, .inl (nA (rt)))), (q, .inl (cI, N, .inl (nA (va_up (va_up (spL pr st hf sg rt v j) (st + j) (adP pr ((spL pr st hf sg rt v j) (st + j)) ((spL pr st hf sg rt v j) (st + j + hf)))) ((st + j) + hf) ((((spL pr st hf sg rt v j) (st + j) + pr - (spL pr st hf sg rt v j) (st + j + hf)) * (rt (j * 2 ^ sg))) % pr)))))] := hD
        refine lv_iinc (v := nI (j + 1)) (lv' := [(6, .int (nI (j + 1))), (10, .long (lN ((spL pr st hf sg rt v j) (st + j) + pr - (spL pr st hf sg rt v j) (st + j + hf)))), (9, .int (nI (((spL pr st hf sg rt v j) (st + j)) + ((spL pr st hf sg rt v j) ((st + j) + hf))))), (8, .int (nI ((spL pr st hf sg rt v j) ((st + j) + hf)))), (7, .int (nI ((spL pr st hf sg rt v j) (st + j)))), (5, .int (nI (st))), (4, .int (nI (hf))), (0, .ref h), (1, .ref q), (3, .int (nI (sg)))]) hx hb dX1_splitBlock_127 hl (k := 4) rfl (by rw [show Int32.ofInt 1 = nI 1 by decide]; exact nI_add _ _) (by decide) rfl (fun ls hl => ?_)
        refine lv_goto (tgt := 21) hx hb dX1_splitBlock_130 (by decide) ?_
        exact ih (j + 1) H locs ls (by omega) (by omega) hP hD hS (lv_sub hl [0, 5, 6, 7, 8, 9] rfl)
set_option maxHeartbeats 4000000 in
set_option maxRecDepth 100000 in
theorem c_X1_splitBlock (l : Launch) (D : va_G) (cI cT : ClassId) (sz : Nat) (h r vv q pr lg N iv M sg b : Nat) (rt v : Nat → Nat) (hp : pr < 2 ^ 30) (hp0 : 0 < pr) (hN2 : N ≤ 1024) (hM : N = 2 * M) (hsg : sg < 10) (hd : 2 ^ (sg + 1) ∣ N) (hb0 : b < 2 ^ sg) (hrt : ∀ i, i < M → rt i < pr) (hv : ∀ i, i < N → v i < pr) : kMv (S := Unit) l yX1_splitBlock wsX1_splitBlock { frames := 0, cells := 0, slots := 0, locals := 0 } D [(cI, .int), (cT, .object RX1)] [(h, .inr (1, [.int (nI (pr)), .int (nI (lg)), .int (nI (N)), .ref r, .ref vv, .long (lN (iv))])), (r, .inl (cI, M, .inl (nA (rt)))), (q, .inl (cI, N, .inl (nA (v))))] sz (fun _ => True) [.ref h, .ref q, .int (nI (b)), .int (nI (sg))] (fun _ => True) (fun _ => [(h, .inr (1, [.int (nI (pr)), .int (nI (lg)), .int (nI (N)), .ref r, .ref vv, .long (lN (iv))])), (r, .inl (cI, M, .inl (nA (rt)))), (q, .inl (cI, N, .inl (nA (spB pr N sg rt v b))))]) (0) (0) := by
  refine kM_of (Qc := fun A => va_Qv (S := Unit) (fun _ => True) (kB D A (fun _ => [(h, .inr (1, [.int (nI (pr)), .int (nI (lg)), .int (nI (N)), .ref r, .ref vv, .long (lN (iv))])), (r, .inl (cI, M, .inl (nA (rt)))), (q, .inl (cI, N, .inl (nA (spB pr N sg rt v b))))])) A) (cc := cX1_splitBlock) (maxL := 12) (ret := none) (by decide +kernel) rfl (Nat.le_of_ble_eq_true rfl) ?_
  intro p e s m below meth c A ls hC0 hr hlk hin hP hK hD hA hS hE hAe hsz hl
  obtain ⟨hx, hb, hml, hown, hts⟩ := id hC0
  have hl : lv_has ls 12 [(0, .ref h), (1, .ref q), (2, .int (nI (b))), (3, .int (nI (sg)))] := hl
  have hst := bk_le hd hb0
  have hd1 : N / 2 ^ (sg + 1) ≤ N := Nat.div_le_self _ _
  refine lv_aload_n hx hb dX1_splitBlock_0 rfl (lv_at hl 0 rfl) ?_
  refine va_get (D := D) (ci := 1) (v := .int (nI (N))) (C := RX1) (T := TX1) (N := 6) hx hb hts inX1_X1_splitBlock hown hK hP 0 rfl rfl 2 (by decide) (hts (.fieldLink RX1 18 "TransformProduct$PrimeTransform" "size" "I") (by decide +kernel)) (fun _ h9 => h9) rfl dX1_splitBlock_1 ?_
  refine lv_iload_n hx hb dX1_splitBlock_4 rfl (lv_at hl 3 rfl) ?_
  refine lv_iconst (v := nI 1) hx hb dX1_splitBlock_5 (by decide) ?_
  refine lv_iadd hx hb dX1_splitBlock_6 ?_
  refine kr_i (nI_add _ _) ?_
  refine lv_ishr hx hb dX1_splitBlock_7 ?_
  refine kr_i (kn_shr (by omega) (by omega)) ?_
  refine lv_istore (lv' := [(4, .int (nI (N / 2 ^ (sg + 1)))), (0, .ref h), (1, .ref q), (2, .int (nI (b))), (3, .int (nI (sg)))]) hx hb dX1_splitBlock_8 hl (by decide) rfl (fun ls hl => ?_)
  refine lv_iconst (v := nI 2) hx hb dX1_splitBlock_10 (by decide) ?_
  refine lv_iload hx hb dX1_splitBlock_11 (lv_at hl 0 rfl) ?_
  refine lv_imul hx hb dX1_splitBlock_13 ?_
  refine kr_i (pk_mul _ _) ?_
  refine lv_iload_n hx hb dX1_splitBlock_14 rfl (lv_at hl 3 rfl) ?_
  refine lv_imul hx hb dX1_splitBlock_15 ?_
  refine kr_i (pk_mul _ _) ?_
  refine lv_istore (lv' := [(5, .int (nI ((2 * (N / 2 ^ (sg + 1))) * b))), (4, .int (nI (N / 2 ^ (sg + 1)))), (0, .ref h), (1, .ref q), (2, .int (nI (b))), (3, .int (nI (sg)))]) hx hb dX1_splitBlock_16 hl (by decide) rfl (fun ls hl => ?_)
  refine lv_iconst (v := nI 0) hx hb dX1_splitBlock_18 (by decide) ?_
  refine lv_istore (lv' := [(6, .int (nI (0))), (5, .int (nI ((2 * (N / 2 ^ (sg + 1))) * b))), (4, .int (nI (N / 2 ^ (sg + 1)))), (0, .ref h), (1, .ref q), (2, .int (nI (b))), (3, .int (nI (sg)))]) hx hb dX1_splitBlock_19 hl (by decide) rfl (fun ls hl => ?_)
  refine lp_split h r vv q pr lg N iv M sg (2 * (N / 2 ^ (sg + 1)) * b) (N / 2 ^ (sg + 1)) rt v hC0 hK hA hp hp0 hN2 hM hsg hst (fun j hj => bk_rt hd hM hj) hrt hv (fun j H locs ls hj hP hD hS hl => ?_) (N / 2 ^ (sg + 1) + 1) 0 s.heap [] ls (by omega) (by omega) hP hD hS (lv_sub hl [0, 1, 2, 3, 4, 6] rfl)
  rw [hj] at hP hD
  exact kr_vret () hx hb hr hlk hP hD hS trivial dX1_splitBlock_133
set_option maxHeartbeats 4000000 in
set_option maxRecDepth 100000 in
theorem lp_join {p : Program} {l : Launch} {e : Env} {R : Room} {s : State} {m : MethodId} {args : Array Value} {below : List Frame} {meth : Method} {c : Code} {cells slots : Nat} {Q : State → Prop} {A : Nat → Prop} {H0 : Heap} {D : va_G} {cI cT : ClassId} (h r vv q pr lg N iv M sg st hf : Nat) (rt v : Nat → Nat) (hC0 : CallFix p m c cX1_joinBlock 11 s args wsX1_joinBlock RX1) (hK : va_K D vwCl [(cI, .int), (cT, .object RX1)] s) (hA : ∀ q, H0.size ≤ q → A q) (hp : pr < 2 ^ 30) (hp0 : 0 < pr) (hN2 : N ≤ 1024) (hM : N = 2 * M) (hsg : sg < 10) (hst : st + 2 * hf ≤ N) (hjr : ∀ j, j < hf → j * 2 ^ sg < M) (hrt : ∀ i, i < M → rt i < pr) (hv : ∀ i, i < N → v i < pr)
    (kk : ∀ (j : Nat) (H : Heap) (locs : List Loc) (ls : Array Slot), j = hf → va_P D vwCl [(h, .inr (1, [.int (nI (pr)), .int (nI (lg)), .int (nI (N)), .ref r, .ref vv, .long (lN (iv))])), (r, .inl (cI, M, .inl (nA (rt)))), (q, .inl (cI, N, .inl (nA (jnL pr st hf sg rt v j))))] H → va_D A [(h, .inr (1, [.int (nI (pr)), .int (nI (lg)), .int (nI (N)), .ref r, .ref vv, .long (lN (iv))])), (r, .inl (cI, M, .inl (nA (rt)))), (q, .inl (cI, N, .inl (nA (jnL pr st hf sg rt v j))))] → va_S A H0 H locs → lv_has ls 11 [(6, .int (nI (j))), (5, .int (nI (st))), (4, .int (nI (hf))), (0, .ref h), (1, .ref q), (3, .int (nI (sg)))] → W p l e R s m args below meth c H locs cells slots Q (F0 m 143 ls [])) :
    ∀ (nn j : Nat) (H : Heap) (locs : List Loc) (ls : Array Slot), hf - j < nn → j ≤ hf → va_P D vwCl [(h, .inr (1, [.int (nI (pr)), .int (nI (lg)), .int (nI (N)), .ref r, .ref vv, .long (lN (iv))])), (r, .inl (cI, M, .inl (nA (rt)))), (q, .inl (cI, N, .inl (nA (jnL pr st hf sg rt v j))))] H → va_D A [(h, .inr (1, [.int (nI (pr)), .int (nI (lg)), .int (nI (N)), .ref r, .ref vv, .long (lN (iv))])), (r, .inl (cI, M, .inl (nA (rt)))), (q, .inl (cI, N, .inl (nA (jnL pr st hf sg rt v j))))] → va_S A H0 H locs → lv_has ls 11 [(6, .int (nI (j))), (5, .int (nI (st))), (4, .int (nI (hf))), (0, .ref h), (1, .ref q), (3, .int (nI (sg)))] → W p l e R s m args below meth c H locs cells slots Q (F0 m 21 ls []) := by
  obtain ⟨hx, hb, hml, hown, hts⟩ := id hC0
  intro nn
  induction nn with
  | zero => intro _ _ _ _ h; exact absurd h (Nat.not_lt_zero _)
  | succ nn ih =>
    intro j H locs ls hn hj hP hD hS hl
    refine lv_iload hx hb dX1_joinBlock_21 (lv_at hl 0 rfl) ?_
    refine lv_iload hx hb dX1_joinBlock_23 (lv_at hl 2 rfl) ?_
    refine kr_ge (tgt := 143) hx hb dX1_joinBlock_25 (by decide) (by omega) (by omega) (fun hc => ?_) (fun hc => ?_)
    · exact kk j H locs ls (by omega) hP hD hS hl
    · have hj2 := hjr j hc
      have hvl := jnL_lt (sg := sg) (rt := rt) hp0 hv hst j (by omega)
      have a1 := hvl (st + j) (by omega)
      have a2 := hvl (st + j + hf) (by omega)
      have a3 := hrt (j * 2 ^ sg) hj2
      have a4 : (jnL pr st hf sg rt v j) (st + j + hf) * rt (j * 2 ^ sg) < 2 ^ 62 := kn_mm a2 a3 (by omega)
      have a5 : (jnL pr st hf sg rt v j) (st + j + hf) * rt (j * 2 ^ sg) % pr < pr := Nat.mod_lt _ hp0
      refine lv_aload_n hx hb dX1_joinBlock_28 rfl (lv_at hl 4 rfl) ?_
      refine lv_iload hx hb dX1_joinBlock_29 (lv_at hl 1 rfl) ?_
      refine lv_iload hx hb dX1_joinBlock_31 (lv_at hl 0 rfl) ?_
      refine lv_iadd hx hb dX1_joinBlock_33 ?_
      refine kr_i (nI_add _ _) ?_
      refine kr_ld hx hb hK hP 2 0 rfl rfl (by omega) (by omega) dX1_joinBlock_34 ?_
      refine lv_istore (lv' := [(7, .int (nI ((jnL pr st hf sg rt v j) (st + j)))), (6, .int (nI (j))), (5, .int (nI (st))), (4, .int (nI (hf))), (0, .ref h), (1, .ref q), (3, .int (nI (sg)))]) hx hb dX1_joinBlock_35 hl (by decide) rfl (fun ls hl => ?_)
      refine lv_aload_n hx hb dX1_joinBlock_37 rfl (lv_at hl 5 rfl) ?_
      refine lv_iload hx hb dX1_joinBlock_38 (lv_at hl 2 rfl) ?_
      refine lv_iload hx hb dX1_joinBlock_40 (lv_at hl 1 rfl) ?_
      refine lv_iadd hx hb dX1_joinBlock_42 ?_
      refine kr_i (nI_add _ _) ?_
      refine lv_iload hx hb dX1_joinBlock_43 (lv_at hl 3 rfl) ?_
      refine lv_iadd hx hb dX1_joinBlock_45 ?_
      refine kr_i (nI_add _ _) ?_
      refine kr_ld hx hb hK hP 2 0 rfl rfl (by omega) (by omega) dX1_joinBlock_46 ?_
      refine lv_i2l hx hb dX1_joinBlock_47 (nI_l (by omega)) ?_
      refine lv_aload_n hx hb dX1_joinBlock_48 rfl (lv_at hl 4 rfl) ?_
      refine va_get (D := D) (ci := 1) (v := .ref r) (C := RX1) (T := TX1) (N := 6) hx hb hts inX1_X1_joinBlock hown hK hP 0 rfl rfl 3 (by decide) (hts (.fieldLink RX1 21 "TransformProduct$PrimeTransform" "roots" "[I") (by decide +kernel)) (fun _ h9 => h9) rfl dX1_joinBlock_49 ?_
      refine lv_iload hx hb dX1_joinBlock_52 (lv_at hl 1 rfl) ?_
      refine lv_iload_n hx hb dX1_joinBlock_54 rfl (lv_at hl 6 rfl) ?_
      refine lv_ishl hx hb dX1_joinBlock_55 ?_
      refine kr_i (kn_shl (by omega) (by omega)) ?_
      refine kr_ld hx hb hK hP 1 0 rfl rfl (by omega) (by omega) dX1_joinBlock_56 ?_
      refine lv_i2l hx hb dX1_joinBlock_57 (nI_l (by omega)) ?_
      refine lv_lmul hx hb dX1_joinBlock_58 ?_
      refine kr_l (lN_mul _ _) ?_
      refine lv_aload_n hx hb dX1_joinBlock_59 rfl (lv_at hl 4 rfl) ?_
      refine va_get (D := D) (ci := 1) (v := .int (nI (pr))) (C := RX1) (T := TX1) (N := 6) hx hb hts inX1_X1_joinBlock hown hK hP 0 rfl rfl 0 (by decide) (hts (.fieldLink RX1 9 "TransformProduct$PrimeTransform" "prime" "I") (by decide +kernel)) (fun _ h9 => h9) rfl dX1_joinBlock_60 ?_
      refine lv_i2l hx hb dX1_joinBlock_63 (nI_l (by omega)) ?_
      refine lv_lrem hx hb dX1_joinBlock_64 (kn_lne (by omega) (by omega)) ?_
      refine kr_l (pk_lRem (by omega) (by omega) (by omega)) ?_
      refine lv_l2i hx hb dX1_joinBlock_65 (lN_i _) ?_
      refine lv_istore (lv' := [(8, .int (nI ((((jnL pr st hf sg rt v j) ((st + j) + hf)) * (rt (j * 2 ^ sg))) % pr))), (7, .int (nI ((jnL pr st hf sg rt v j) (st + j)))), (6, .int (nI (j))), (5, .int (nI (st))), (4, .int (nI (hf))), (0, .ref h), (1, .ref q), (3, .int (nI (sg)))]) hx hb dX1_joinBlock_66 hl (by decide) rfl (fun ls hl => ?_)
      refine lv_iload hx hb dX1_joinBlock_68 (lv_at hl 1 rfl) ?_
      refine lv_iload hx hb dX1_joinBlock_70 (lv_at hl 0 rfl) ?_
      refine lv_iadd hx hb dX1_joinBlock_72 ?_
      refine kr_i (nI_add _ _) ?_
      refine lv_istore (lv' := [(9, .int (nI (((jnL pr st hf sg rt v j) (st + j)) + ((((jnL pr st hf sg rt v j) ((st + j) + hf)) * (rt (j * 2 ^ sg))) % pr)))), (8, .int (nI ((((jnL pr st hf sg rt v j) ((st + j) + hf)) * (rt (j * 2 ^ sg))) % pr))), (7, .int (nI ((jnL pr st hf sg rt v j) (st + j)))), (6, .int (nI (j))), (5, .int (nI (st))), (4, .int (nI (hf))), (0, .ref h), (1, .ref q), (3, .int (nI (sg)))]) hx hb dX1_joinBlock_73 hl (by decide) rfl (fun ls hl => ?_)
      refine lv_aload_n hx hb dX1_joinBlock_75 rfl (lv_at hl 7 rfl) ?_
      refine lv_iload hx hb dX1_joinBlock_76 (lv_at hl 4 rfl) ?_
      refine lv_iload hx hb dX1_joinBlock_78 (lv_at hl 3 rfl) ?_
      refine lv_iadd hx hb dX1_joinBlock_80 ?_
      refine kr_i (nI_add _ _) ?_
      refine lv_iload hx hb dX1_joinBlock_81 (lv_at hl 0 rfl) ?_
      refine lv_aload_n hx hb dX1_joinBlock_83 rfl (lv_at hl 6 rfl) ?_
      refine va_get (D := D) (ci := 1) (v := .int (nI (pr))) (C := RX1) (T := TX1) (N := 6) hx hb hts inX1_X1_joinBlock hown hK hP 0 rfl rfl 0 (by decide) (hts (.fieldLink RX1 9 "TransformProduct$PrimeTransform" "prime" "I") (by decide +kernel)) (fun _ h9 => h9) rfl dX1_joinBlock_84 ?_
      refine kr_lt (tgt := 100) hx hb dX1_joinBlock_87 (by decide) (by omega) (by omega) (fun hd2 => ?_) (fun hd2 => ?_)
      · refine lv_iload hx hb dX1_joinBlock_100 (lv_at hl 0 rfl) ?_
        refine kr_i (congrArg nI (show ((jnL pr st hf sg rt v j) (st + j)) + ((((jnL pr st hf sg rt v j) ((st + j) + hf)) * (rt (j * 2 ^ sg))) % pr) = adP pr ((jnL pr st hf sg rt v j) (st + j)) ((jnL pr st hf sg rt v j) (st + j + hf) * rt (j * 2 ^ sg) % pr) from (if_pos (by omega)).symm)) ?_
        refine kr_st hx hb hK hP hD hS 2 0 rfl rfl (by omega) (by omega) dX1_joinBlock_102 (fun H locs hP hD hS => ?_)
        have hP : va_P D vwCl [(h, .inr (1, [.int (nI (pr)), .int (nI (lg)), .int (nI (N)), .ref r, .ref vv, .long (lN (iv))])), (r, .inl (cI, M, .inl (nA (rt)))), (q, .inl (cI, N, .inl (nA (va_up (jnL pr st hf sg rt v j) (st + j) (adP pr ((jnL pr st hf sg rt v j) (st + j)) ((jnL pr st hf sg rt v j) (st + j + hf) * rt (j * 2 ^ sg) % pr))))))] H := hP
        have hD : va_D A [(h, .inr (1, [.int (nI (pr)), .int (nI (lg)), .int (nI (N)), .ref r, .ref vv, .long (lN (iv))])), (r, .inl (cI, M, .inl (nA (rt)))), (q, .inl (cI, N, .inl (nA (va_up (jnL pr st hf sg rt v j) (st + j) (adP pr ((jnL pr st hf sg rt v j) (st + j)) ((jnL pr st hf sg rt v j) (st + j + hf) * rt (j * 2 ^ sg) % pr))))))] := hD
        refine lv_iload hx hb dX1_joinBlock_103 (lv_at hl 2 rfl) ?_
        refine lv_iload hx hb dX1_joinBlock_105 (lv_at hl 1 rfl) ?_
        refine lv_isub hx hb dX1_joinBlock_107 ?_
        refine lv_istore (lv' := [(10, .int (nI ((jnL pr st hf sg rt v j) (st + j)) - nI ((((jnL pr st hf sg rt v j) ((st + j) + hf)) * (rt (j * 2 ^ sg))) % pr))), (9, .int (nI (((jnL pr st hf sg rt v j) (st + j)) + ((((jnL pr st hf sg rt v j) ((st + j) + hf)) * (rt (j * 2 ^ sg))) % pr)))), (8, .int (nI ((((jnL pr st hf sg rt v j) ((st + j) + hf)) * (rt (j * 2 ^ sg))) % pr))), (7, .int (nI ((jnL pr st hf sg rt v j) (st + j)))), (6, .int (nI (j))), (5, .int (nI (st))), (4, .int (nI (hf))), (0, .ref h), (1, .ref q), (3, .int (nI (sg)))]) hx hb dX1_joinBlock_108 hl (by decide) rfl (fun ls hl => ?_)
        refine lv_aload_n hx hb dX1_joinBlock_110 rfl (lv_at hl 8 rfl) ?_
        refine lv_iload hx hb dX1_joinBlock_111 (lv_at hl 5 rfl) ?_
        refine lv_iload hx hb dX1_joinBlock_113 (lv_at hl 4 rfl) ?_
        refine lv_iadd hx hb dX1_joinBlock_115 ?_
        refine kr_i (nI_add _ _) ?_
        refine lv_iload hx hb dX1_joinBlock_116 (lv_at hl 6 rfl) ?_
        refine lv_iadd hx hb dX1_joinBlock_118 ?_
        refine kr_i (nI_add _ _) ?_
        refine lv_iload hx hb dX1_joinBlock_119 (lv_at hl 0 rfl) ?_
        refine lv_if_ge (tgt := 134) hx hb dX1_joinBlock_121 (by decide) (fun hg => ?_) (fun hg => ?_)
        · have hge : (jnL pr st hf sg rt v j) (st + j + hf) * rt (j * 2 ^ sg) % pr ≤ (jnL pr st hf sg rt v j) (st + j) := Nat.not_lt.mp fun z => absurd hg (Int32.not_le.mpr ((kn_lt0 (by omega) (by omega)).mpr z))
          refine lv_iload hx hb dX1_joinBlock_134 (lv_at hl 0 rfl) ?_
          refine kr_i (y := nI (sbP pr ((jnL pr st hf sg rt v j) (st + j)) ((jnL pr st hf sg rt v j) (st + j + hf) * rt (j * 2 ^ sg) % pr))) (by rw [pk_sub hge]; exact congrArg nI (if_pos hge).symm) ?_
          refine kr_st hx hb hK hP hD hS 2 0 rfl rfl (by omega) (by omega) dX1_joinBlock_136 (fun H locs hP hD hS => ?_)
          have hP : va_P D vwCl [(h, .inr (1, [.int (nI (pr)), .int (nI (lg)), .int (nI (N)), .ref r, .ref vv, .long (lN (iv))])), (r, .inl (cI, M, .inl (nA (rt)))), (q, .inl (cI, N, .inl (nA (va_up (va_up (jnL pr st hf sg rt v j) (st + j) (adP pr ((jnL pr st hf sg rt v j) (st + j)) ((jnL pr st hf sg rt v j) (st + j + hf) * rt (j * 2 ^ sg) % pr))) ((st + j) + hf) (sbP pr ((jnL pr st hf sg rt v j) (st + j)) ((jnL pr st hf sg rt v j) (st + j + hf) * rt (j * 2 ^ sg) % pr))))))] H := hP
          have hD : va_D A [(h, .inr (1, [.int (nI (pr)), .int (nI (lg)), .int (nI (N)), .ref r, .ref vv, .long (lN (iv))])), (r, .inl (cI, M, .inl (nA (rt)))), (q, .inl (cI, N, .inl (nA (va_up (va_up (jnL pr st hf sg rt v j) (st + j) (adP pr ((jnL pr st hf sg rt v j) (st + j)) ((jnL pr st hf sg rt v j) (st + j + hf) * rt (j * 2 ^ sg) % pr))) ((st + j) + hf) (sbP pr ((jnL pr st hf sg rt v j) (st + j)) ((jnL pr st hf sg rt v j) (st + j + hf) * rt (j * 2 ^ sg) % pr))))))] := hD
          refine lv_iinc (v := nI (j + 1)) (lv' := [(6, .int (nI (j + 1))), (10, .int (nI ((jnL pr st hf sg rt v j) (st + j)) - nI ((((jnL pr st hf sg rt v j) ((st + j) + hf)) * (rt (j * 2 ^ sg))) % pr))), (9, .int (nI (((jnL pr st hf sg rt v j) (st + j)) + ((((jnL pr st hf sg rt v j) ((st + j) + hf)) * (rt (j * 2 ^ sg))) % pr)))), (8, .int (nI ((((jnL pr st hf sg rt v j) ((st + j) + hf)) * (rt (j * 2 ^ sg))) % pr))), (7, .int (nI ((jnL pr st hf sg rt v j) (st + j)))), (5, .int (nI (st))), (4, .int (nI (hf))), (0, .ref h), (1, .ref q), (3, .int (nI (sg)))]) hx hb dX1_joinBlock_137 hl (k := 4) rfl (by rw [show Int32.ofInt 1 = nI 1 by decide]; exact nI_add _ _) (by decide) rfl (fun ls hl => ?_)
          refine lv_goto (tgt := 21) hx hb dX1_joinBlock_140 (by decide) ?_
          exact ih (j + 1) H locs ls (by omega) (by omega) hP hD hS (lv_sub hl [0, 5, 6, 7, 8, 9] rfl)
        · have hlt : (jnL pr st hf sg rt v j) (st + j) < (jnL pr st hf sg rt v j) (st + j + hf) * rt (j * 2 ^ sg) % pr := (kn_lt0 (by omega) (by omega)).mp (Int32.not_le.mp hg)
          refine lv_iload hx hb dX1_joinBlock_124 (lv_at hl 0 rfl) ?_
          refine lv_aload_n hx hb dX1_joinBlock_126 rfl (lv_at hl 7 rfl) ?_
          refine va_get (D := D) (ci := 1) (v := .int (nI (pr))) (C := RX1) (T := TX1) (N := 6) hx hb hts inX1_X1_joinBlock hown hK hP 0 rfl rfl 0 (by decide) (hts (.fieldLink RX1 9 "TransformProduct$PrimeTransform" "prime" "I") (by decide +kernel)) (fun _ h9 => h9) rfl dX1_joinBlock_127 ?_
          refine lv_iadd hx hb dX1_joinBlock_130 ?_
          refine kr_i (y := nI (sbP pr ((jnL pr st hf sg rt v j) (st + j)) ((jnL pr st hf sg rt v j) (st + j + hf) * rt (j * 2 ^ sg) % pr))) (by rw [kn_dif (by omega)]; exact congrArg nI (if_neg (by omega)).symm) ?_
          refine lv_goto (tgt := 136) hx hb dX1_joinBlock_131 (by decide) ?_
          refine kr_st hx hb hK hP hD hS 2 0 rfl rfl (by omega) (by omega) dX1_joinBlock_136 (fun H locs hP hD hS => ?_)
          have hP : va_P D vwCl [(h, .inr (1, [.int (nI (pr)), .int (nI (lg)), .int (nI (N)), .ref r, .ref vv, .long (lN (iv))])), (r, .inl (cI, M, .inl (nA (rt)))), (q, .inl (cI, N, .inl (nA (va_up (va_up (jnL pr st hf sg rt v j) (st + j) (adP pr ((jnL pr st hf sg rt v j) (st + j)) ((jnL pr st hf sg rt v j) (st + j + hf) * rt (j * 2 ^ sg) % pr))) ((st + j) + hf) (sbP pr ((jnL pr st hf sg rt v j) (st + j)) ((jnL pr st hf sg rt v j) (st + j + hf) * rt (j * 2 ^ sg) % pr))))))] H := hP
          have hD : va_D A [(h, .inr (1, [.int (nI (pr)), .int (nI (lg)), .int (nI (N)), .ref r, .ref vv, .long (lN (iv))])), (r, .inl (cI, M, .inl (nA (rt)))), (q, .inl (cI, N, .inl (nA (va_up (va_up (jnL pr st hf sg rt v j) (st + j) (adP pr ((jnL pr st hf sg rt v j) (st + j)) ((jnL pr st hf sg rt v j) (st + j + hf) * rt (j * 2 ^ sg) % pr))) ((st + j) + hf) (sbP pr ((jnL pr st hf sg rt v j) (st + j)) ((jnL pr st hf sg rt v j) (st + j + hf) * rt (j * 2 ^ sg) % pr))))))] := hD
          refine lv_iinc (v := nI (j + 1)) (lv' := [(6, .int (nI (j + 1))), (10, .int (nI ((jnL pr st hf sg rt v j) (st + j)) - nI ((((jnL pr st hf sg rt v j) ((st + j) + hf)) * (rt (j * 2 ^ sg))) % pr))), (9, .int (nI (((jnL pr st hf sg rt v j) (st + j)) + ((((jnL pr st hf sg rt v j) ((st + j) + hf)) * (rt (j * 2 ^ sg))) % pr)))), (8, .int (nI ((((jnL pr st hf sg rt v j) ((st + j) + hf)) * (rt (j * 2 ^ sg))) % pr))), (7, .int (nI ((jnL pr st hf sg rt v j) (st + j)))), (5, .int (nI (st))), (4, .int (nI (hf))), (0, .ref h), (1, .ref q), (3, .int (nI (sg)))]) hx hb dX1_joinBlock_137 hl (k := 4) rfl (by rw [show Int32.ofInt 1 = nI 1 by decide]; exact nI_add _ _) (by decide) rfl (fun ls hl => ?_)
          refine lv_goto (tgt := 21) hx hb dX1_joinBlock_140 (by decide) ?_
          exact ih (j + 1) H locs ls (by omega) (by omega) hP hD hS (lv_sub hl [0, 5, 6, 7, 8, 9] rfl)
      · refine lv_iload hx hb dX1_joinBlock_90 (lv_at hl 0 rfl) ?_
        refine lv_aload_n hx hb dX1_joinBlock_92 rfl (lv_at hl 6 rfl) ?_
        refine va_get (D := D) (ci := 1) (v := .int (nI (pr))) (C := RX1) (T := TX1) (N := 6) hx hb hts inX1_X1_joinBlock hown hK hP 0 rfl rfl 0 (by decide) (hts (.fieldLink RX1 9 "TransformProduct$PrimeTransform" "prime" "I") (by decide +kernel)) (fun _ h9 => h9) rfl dX1_joinBlock_93 ?_
        refine lv_isub hx hb dX1_joinBlock_96 ?_
        refine kr_i (pk_sub (by omega)) ?_
        refine lv_goto (tgt := 102) hx hb dX1_joinBlock_97 (by decide) ?_
        refine kr_i (congrArg nI (show (((jnL pr st hf sg rt v j) (st + j)) + ((((jnL pr st hf sg rt v j) ((st + j) + hf)) * (rt (j * 2 ^ sg))) % pr)) - pr = adP pr ((jnL pr st hf sg rt v j) (st + j)) ((jnL pr st hf sg rt v j) (st + j + hf) * rt (j * 2 ^ sg) % pr) from (if_neg (by omega)).symm)) ?_
        refine kr_st hx hb hK hP hD hS 2 0 rfl rfl (by omega) (by omega) dX1_joinBlock_102 (fun H locs hP hD hS => ?_)
        have hP : va_P D vwCl [(h, .inr (1, [.int (nI (pr)), .int (nI (lg)), .int (nI (N)), .ref r, .ref vv, .long (lN (iv))])), (r, .inl (cI, M, .inl (nA (rt)))), (q, .inl (cI, N, .inl (nA (va_up (jnL pr st hf sg rt v j) (st + j) (adP pr ((jnL pr st hf sg rt v j) (st + j)) ((jnL pr st hf sg rt v j) (st + j + hf) * rt (j * 2 ^ sg) % pr))))))] H := hP
        have hD : va_D A [(h, .inr (1, [.int (nI (pr)), .int (nI (lg)), .int (nI (N)), .ref r, .ref vv, .long (lN (iv))])), (r, .inl (cI, M, .inl (nA (rt)))), (q, .inl (cI, N, .inl (nA (va_up (jnL pr st hf sg rt v j) (st + j) (adP pr ((jnL pr st hf sg rt v j) (st + j)) ((jnL pr st hf sg rt v j) (st + j + hf) * rt (j * 2 ^ sg) % pr))))))] := hD
        refine lv_iload hx hb dX1_joinBlock_103 (lv_at hl 2 rfl) ?_
        refine lv_iload hx hb dX1_joinBlock_105 (lv_at hl 1 rfl) ?_
        refine lv_isub hx hb dX1_joinBlock_107 ?_
        refine lv_istore (lv' := [(10, .int (nI ((jnL pr st hf sg rt v j) (st + j)) - nI ((((jnL pr st hf sg rt v j) ((st + j) + hf)) * (rt (j * 2 ^ sg))) % pr))), (9, .int (nI (((jnL pr st hf sg rt v j) (st + j)) + ((((jnL pr st hf sg rt v j) ((st + j) + hf)) * (rt (j * 2 ^ sg))) % pr)))), (8, .int (nI ((((jnL pr st hf sg rt v j) ((st + j) + hf)) * (rt (j * 2 ^ sg))) % pr))), (7, .int (nI ((jnL pr st hf sg rt v j) (st + j)))), (6, .int (nI (j))), (5, .int (nI (st))), (4, .int (nI (hf))), (0, .ref h), (1, .ref q), (3, .int (nI (sg)))]) hx hb dX1_joinBlock_108 hl (by decide) rfl (fun ls hl => ?_)
        refine lv_aload_n hx hb dX1_joinBlock_110 rfl (lv_at hl 8 rfl) ?_
        refine lv_iload hx hb dX1_joinBlock_111 (lv_at hl 5 rfl) ?_
        refine lv_iload hx hb dX1_joinBlock_113 (lv_at hl 4 rfl) ?_
        refine lv_iadd hx hb dX1_joinBlock_115 ?_
        refine kr_i (nI_add _ _) ?_
        refine lv_iload hx hb dX1_joinBlock_116 (lv_at hl 6 rfl) ?_
        refine lv_iadd hx hb dX1_joinBlock_118 ?_
        refine kr_i (nI_add _ _) ?_
        refine lv_iload hx hb dX1_joinBlock_119 (lv_at hl 0 rfl) ?_
        refine lv_if_ge (tgt := 134) hx hb dX1_joinBlock_121 (by decide) (fun hg => ?_) (fun hg => ?_)
        · have hge : (jnL pr st hf sg rt v j) (st + j + hf) * rt (j * 2 ^ sg) % pr ≤ (jnL pr st hf sg rt v j) (st + j) := Nat.not_lt.mp fun z => absurd hg (Int32.not_le.mpr ((kn_lt0 (by omega) (by omega)).mpr z))
          refine lv_iload hx hb dX1_joinBlock_134 (lv_at hl 0 rfl) ?_
          refine kr_i (y := nI (sbP pr ((jnL pr st hf sg rt v j) (st + j)) ((jnL pr st hf sg rt v j) (st + j + hf) * rt (j * 2 ^ sg) % pr))) (by rw [pk_sub hge]; exact congrArg nI (if_pos hge).symm) ?_
          refine kr_st hx hb hK hP hD hS 2 0 rfl rfl (by omega) (by omega) dX1_joinBlock_136 (fun H locs hP hD hS => ?_)
          have hP : va_P D vwCl [(h, .inr (1, [.int (nI (pr)), .int (nI (lg)), .int (nI (N)), .ref r, .ref vv, .long (lN (iv))])), (r, .inl (cI, M, .inl (nA (rt)))), (q, .inl (cI, N, .inl (nA (va_up (va_up (jnL pr st hf sg rt v j) (st + j) (adP pr ((jnL pr st hf sg rt v j) (st + j)) ((jnL pr st hf sg rt v j) (st + j + hf) * rt (j * 2 ^ sg) % pr))) ((st + j) + hf) (sbP pr ((jnL pr st hf sg rt v j) (st + j)) ((jnL pr st hf sg rt v j) (st + j + hf) * rt (j * 2 ^ sg) % pr))))))] H := hP
          have hD : va_D A [(h, .inr (1, [.int (nI (pr)), .int (nI (lg)), .int (nI (N)), .ref r, .ref vv, .long (lN (iv))])), (r, .inl (cI, M, .inl (nA (rt)))), (q, .inl (cI, N, .inl (nA (va_up (va_up (jnL pr st hf sg rt v j) (st + j) (adP pr ((jnL pr st hf sg rt v j) (st + j)) ((jnL pr st hf sg rt v j) (st + j + hf) * rt (j * 2 ^ sg) % pr))) ((st + j) + hf) (sbP pr ((jnL pr st hf sg rt v j) (st + j)) ((jnL pr st hf sg rt v j) (st + j + hf) * rt (j * 2 ^ sg) % pr))))))] := hD
          refine lv_iinc (v := nI (j + 1)) (lv' := [(6, .int (nI (j + 1))), (10, .int (nI ((jnL pr st hf sg rt v j) (st + j)) - nI ((((jnL pr st hf sg rt v j) ((st + j) + hf)) * (rt (j * 2 ^ sg))) % pr))), (9, .int (nI (((jnL pr st hf sg rt v j) (st + j)) + ((((jnL pr st hf sg rt v j) ((st + j) + hf)) * (rt (j * 2 ^ sg))) % pr)))), (8, .int (nI ((((jnL pr st hf sg rt v j) ((st + j) + hf)) * (rt (j * 2 ^ sg))) % pr))), (7, .int (nI ((jnL pr st hf sg rt v j) (st + j)))), (5, .int (nI (st))), (4, .int (nI (hf))), (0, .ref h), (1, .ref q), (3, .int (nI (sg)))]) hx hb dX1_joinBlock_137 hl (k := 4) rfl (by rw [show Int32.ofInt 1 = nI 1 by decide]; exact nI_add _ _) (by decide) rfl (fun ls hl => ?_)
          refine lv_goto (tgt := 21) hx hb dX1_joinBlock_140 (by decide) ?_
          exact ih (j + 1) H locs ls (by omega) (by omega) hP hD hS (lv_sub hl [0, 5, 6, 7, 8, 9] rfl)
        · have hlt : (jnL pr st hf sg rt v j) (st + j) < (jnL pr st hf sg rt v j) (st + j + hf) * rt (j * 2 ^ sg) % pr := (kn_lt0 (by omega) (by omega)).mp (Int32.not_le.mp hg)
          refine lv_iload hx hb dX1_joinBlock_124 (lv_at hl 0 rfl) ?_
          refine lv_aload_n hx hb dX1_joinBlock_126 rfl (lv_at hl 7 rfl) ?_
          refine va_get (D := D) (ci := 1) (v := .int (nI (pr))) (C := RX1) (T := TX1) (N := 6) hx hb hts inX1_X1_joinBlock hown hK hP 0 rfl rfl 0 (by decide) (hts (.fieldLink RX1 9 "TransformProduct$PrimeTransform" "prime" "I") (by decide +kernel)) (fun _ h9 => h9) rfl dX1_joinBlock_127 ?_
          refine lv_iadd hx hb dX1_joinBlock_130 ?_
          refine kr_i (y := nI (sbP pr ((jnL pr st hf sg rt v j) (st + j)) ((jnL pr st hf sg rt v j) (st + j + hf) * rt (j * 2 ^ sg) % pr))) (by rw [kn_dif (by omega)]; exact congrArg nI (if_neg (by omega)).symm) ?_
          refine lv_goto (tgt := 136) hx hb dX1_joinBlock_131 (by decide) ?_
          refine kr_st hx hb hK hP hD hS 2 0 rfl rfl (by omega) (by omega) dX1_joinBlock_136 (fun H locs hP hD hS => ?_)
          have hP : va_P D vwCl [(h, .inr (1, [.int (nI (pr)), .int (nI (lg)), .int (nI (N)), .ref r, .ref vv, .long (lN (iv))])), (r, .inl (cI, M, .inl (nA (rt)))), (q, .inl (cI, N, .inl (nA (va_up (va_up (jnL pr st hf sg rt v j) (st + j) (adP pr ((jnL pr st hf sg rt v j) (st + j)) ((jnL pr st hf sg rt v j) (st + j + hf) * rt (j * 2 ^ sg) % pr))) ((st + j) + hf) (sbP pr ((jnL pr st hf sg rt v j) (st + j)) ((jnL pr st hf sg rt v j) (st + j + hf) * rt (j * 2 ^ sg) % pr))))))] H := hP
          have hD : va_D A [(h, .inr (1, [.int (nI (pr)), .int (nI (lg)), .int (nI (N)), .ref r, .ref vv, .long (lN (iv))])), (r, .inl (cI, M, .inl (nA (rt)))), (q, .inl (cI, N, .inl (nA (va_up (va_up (jnL pr st hf sg rt v j) (st + j) (adP pr ((jnL pr st hf sg rt v j) (st + j)) ((jnL pr st hf sg rt v j) (st + j + hf) * rt (j * 2 ^ sg) % pr))) ((st + j) + hf) (sbP pr ((jnL pr st hf sg rt v j) (st + j)) ((jnL pr st hf sg rt v j) (st + j + hf) * rt (j * 2 ^ sg) % pr))))))] := hD
          refine lv_iinc (v := nI (j + 1)) (lv' := [(6, .int (nI (j + 1))), (10, .int (nI ((jnL pr st hf sg rt v j) (st + j)) - nI ((((jnL pr st hf sg rt v j) ((st + j) + hf)) * (rt (j * 2 ^ sg))) % pr))), (9, .int (nI (((jnL pr st hf sg rt v j) (st + j)) + ((((jnL pr st hf sg rt v j) ((st + j) + hf)) * (rt (j * 2 ^ sg))) % pr)))), (8, .int (nI ((((jnL pr st hf sg rt v j) ((st + j) + hf)) * (rt (j * 2 ^ sg))) % pr))), (7, .int (nI ((jnL pr st hf sg rt v j) (st + j)))), (5, .int (nI (st))), (4, .int (nI (hf))), (0, .ref h), (1, .ref q), (3, .int (nI (sg)))]) hx hb dX1_joinBlock_137 hl (k := 4) rfl (by rw [show Int32.ofInt 1 = nI 1 by decide]; exact nI_add _ _) (by decide) rfl (fun ls hl => ?_)
          refine lv_goto (tgt := 21) hx hb dX1_joinBlock_140 (by decide) ?_
          exact ih (j + 1) H locs ls (by omega) (by omega) hP hD hS (lv_sub hl [0, 5, 6, 7, 8, 9] rfl)
set_option maxHeartbeats 4000000 in
set_option maxRecDepth 100000 in
theorem c_X1_joinBlock (l : Launch) (D : va_G) (cI cT : ClassId) (sz : Nat) (h r vv q pr lg N iv M sg b : Nat) (rt v : Nat → Nat) (hp : pr < 2 ^ 30) (hp0 : 0 < pr) (hN2 : N ≤ 1024) (hM : N = 2 * M) (hsg : sg < 10) (hd : 2 ^ (sg + 1) ∣ N) (hb0 : b < 2 ^ sg) (hrt : ∀ i, i < M → rt i < pr) (hv : ∀ i, i < N → v i < pr) : kMv (S := Unit) l yX1_joinBlock wsX1_joinBlock { frames := 0, cells := 0, slots := 0, locals := 0 } D [(cI, .int), (cT, .object RX1)] [(h, .inr (1, [.int (nI (pr)), .int (nI (lg)), .int (nI (N)), .ref r, .ref vv, .long (lN (iv))])), (r, .inl (cI, M, .inl (nA (rt)))), (q, .inl (cI, N, .inl (nA (v))))] sz (fun _ => True) [.ref h, .ref q, .int (nI (b)), .int (nI (sg))] (fun _ => True) (fun _ => [(h, .inr (1, [.int (nI (pr)), .int (nI (lg)), .int (nI (N)), .ref r, .ref vv, .long (lN (iv))])), (r, .inl (cI, M, .inl (nA (rt)))), (q, .inl (cI, N, .inl (nA (jnB pr N sg rt v b))))]) (0) (0) := by
  refine kM_of (Qc := fun A => va_Qv (S := Unit) (fun _ => True) (kB D A (fun _ => [(h, .inr (1, [.int (nI (pr)), .int (nI (lg)), .int (nI (N)), .ref r, .ref vv, .long (lN (iv))])), (r, .inl (cI, M, .inl (nA (rt)))), (q, .inl (cI, N, .inl (nA (jnB pr N sg rt v b))))])) A) (cc := cX1_joinBlock) (maxL := 11) (ret := none) (by decide +kernel) rfl (Nat.le_of_ble_eq_true rfl) ?_
  intro p e s m below meth c A ls hC0 hr hlk hin hP hK hD hA hS hE hAe hsz hl
  obtain ⟨hx, hb, hml, hown, hts⟩ := id hC0
  have hl : lv_has ls 11 [(0, .ref h), (1, .ref q), (2, .int (nI (b))), (3, .int (nI (sg)))] := hl
  have hst := bk_le hd hb0
  have hd1 : N / 2 ^ (sg + 1) ≤ N := Nat.div_le_self _ _
  refine lv_aload_n hx hb dX1_joinBlock_0 rfl (lv_at hl 0 rfl) ?_
  refine va_get (D := D) (ci := 1) (v := .int (nI (N))) (C := RX1) (T := TX1) (N := 6) hx hb hts inX1_X1_joinBlock hown hK hP 0 rfl rfl 2 (by decide) (hts (.fieldLink RX1 18 "TransformProduct$PrimeTransform" "size" "I") (by decide +kernel)) (fun _ h9 => h9) rfl dX1_joinBlock_1 ?_
  refine lv_iload_n hx hb dX1_joinBlock_4 rfl (lv_at hl 3 rfl) ?_
  refine lv_iconst (v := nI 1) hx hb dX1_joinBlock_5 (by decide) ?_
  refine lv_iadd hx hb dX1_joinBlock_6 ?_
  refine kr_i (nI_add _ _) ?_
  refine lv_ishr hx hb dX1_joinBlock_7 ?_
  refine kr_i (kn_shr (by omega) (by omega)) ?_
  refine lv_istore (lv' := [(4, .int (nI (N / 2 ^ (sg + 1)))), (0, .ref h), (1, .ref q), (2, .int (nI (b))), (3, .int (nI (sg)))]) hx hb dX1_joinBlock_8 hl (by decide) rfl (fun ls hl => ?_)
  refine lv_iconst (v := nI 2) hx hb dX1_joinBlock_10 (by decide) ?_
  refine lv_iload hx hb dX1_joinBlock_11 (lv_at hl 0 rfl) ?_
  refine lv_imul hx hb dX1_joinBlock_13 ?_
  refine kr_i (pk_mul _ _) ?_
  refine lv_iload_n hx hb dX1_joinBlock_14 rfl (lv_at hl 3 rfl) ?_
  refine lv_imul hx hb dX1_joinBlock_15 ?_
  refine kr_i (pk_mul _ _) ?_
  refine lv_istore (lv' := [(5, .int (nI ((2 * (N / 2 ^ (sg + 1))) * b))), (4, .int (nI (N / 2 ^ (sg + 1)))), (0, .ref h), (1, .ref q), (2, .int (nI (b))), (3, .int (nI (sg)))]) hx hb dX1_joinBlock_16 hl (by decide) rfl (fun ls hl => ?_)
  refine lv_iconst (v := nI 0) hx hb dX1_joinBlock_18 (by decide) ?_
  refine lv_istore (lv' := [(6, .int (nI (0))), (5, .int (nI ((2 * (N / 2 ^ (sg + 1))) * b))), (4, .int (nI (N / 2 ^ (sg + 1)))), (0, .ref h), (1, .ref q), (2, .int (nI (b))), (3, .int (nI (sg)))]) hx hb dX1_joinBlock_19 hl (by decide) rfl (fun ls hl => ?_)
  refine lp_join h r vv q pr lg N iv M sg (2 * (N / 2 ^ (sg + 1)) * b) (N / 2 ^ (sg + 1)) rt v hC0 hK hA hp hp0 hN2 hM hsg hst (fun j hj => bk_rt hd hM hj) hrt hv (fun j H locs ls hj hP hD hS hl => ?_) (N / 2 ^ (sg + 1) + 1) 0 s.heap [] ls (by omega) (by omega) hP hD hS (lv_sub hl [0, 1, 2, 3, 4, 6] rfl)
  rw [hj] at hP hD
  exact kr_vret () hx hb hr hlk hP hD hS trivial dX1_joinBlock_143
