/-! class PrimeTransform: to and from the spectrum, convolutions -/
theorem spT_ltN {p lg N : Nat} {rt v : Nat → Nat} (hN : 2 ^ lg = N) (hp : 0 < p) (hv : ∀ i, i < N → v i < p) (s : Nat) (hs : s ≤ lg) : ∀ i, i < N → spT p N rt v s i < p := by
  subst hN
  exact spT_lt hp hv s hs
theorem jnS_ltN {p lg N sg : Nat} {rt v : Nat → Nat} (hN : 2 ^ lg = N) (hp : 0 < p) (hv : ∀ i, i < N → v i < p) (hs : sg < lg) (b : Nat) (hb : b ≤ 2 ^ sg) : ∀ i, i < N → jnS p N sg rt v b i < p := by
  subst hN
  exact jnS_lt hp hv (sg_dv hs) b hb
theorem spS_ltN {p lg N sg : Nat} {rt v : Nat → Nat} (hN : 2 ^ lg = N) (hp : 0 < p) (hv : ∀ i, i < N → v i < p) (hs : sg < lg) (b : Nat) (hb : b ≤ 2 ^ sg) : ∀ i, i < N → spS p N sg rt v b i < p := by
  subst hN
  exact spS_lt hp hv (sg_dv hs) b hb
theorem sg_dvN {lg N sg : Nat} (hN : 2 ^ lg = N) (h : sg < lg) : 2 ^ (sg + 1) ∣ N := by
  subst hN
  exact sg_dv h
theorem sg_leN {lg N sg : Nat} (hN : 2 ^ lg = N) (h : sg ≤ lg) : 2 ^ sg ≤ N := by
  subst hN
  exact Nat.pow_le_pow_right (by decide) h
/-- a row laid out over N places, zeros behind it -/
def spr (f : Nat → Nat) (u N : Nat) (g : Nat → Nat) : Nat → Nat := flN (va_cpy f g 0 0 u) u 0 (N - u)
theorem spr_at {f g : Nat → Nat} {u N i : Nat} (hi : i < N) (hu : u ≤ N) : spr f u N g i = padN f u i := by
  unfold spr flN padN
  by_cases h : i < u
  · rw [if_neg (by omega), if_pos h]
    unfold va_cpy
    rw [if_pos (by omega)]
    congr 1
    omega
  · rw [if_pos (by omega), if_neg h]
theorem spr_lt {f g : Nat → Nat} {u N p : Nat} (hu : u ≤ N) (hp : 32768 ≤ p) (hf : ∀ i, i < u → f i < 32768) : ∀ i, i < N → spr f u N g i < p := by
  intro i hi
  rw [spr_at hi hu]
  unfold padN
  split
  · have := hf i (by assumption)
    omega
  · omega
theorem meF_lt {p N : Nat} {v o : Nat → Nat} (hp : 0 < p) : ∀ i, i < N → meF p N v o i < p := by
  intro i hi
  unfold meF
  rw [if_pos hi]
  exact Nat.mod_lt _ hp
set_option maxHeartbeats 4000000 in
set_option maxRecDepth 100000 in
theorem lp_tsI {p : Program} {l : Launch} {e : Env} {s : State} {m : MethodId} {args : Array Value} {below : List Frame} {meth : Method} {c : Code} {Q : State → Prop} {A : Nat → Prop} {H0 : Heap} {D : va_G} {cI cT : ClassId} (h r vv q pr lg N iv M sg : Nat) (rt v : Nat → Nat) (hC0 : CallFix p m c cX1_toSpectrum 4 s args wsX1_toSpectrum RX1) (hK : va_K D vwCl [(cI, .int), (cT, .object RX1)] s) (hA : ∀ q, H0.size ≤ q → A q) (hp : pr < 2 ^ 30) (hp0 : 0 < pr) (hN2 : N ≤ 1024) (hM : N = 2 * M) (hN : 2 ^ lg = N) (hlg : lg ≤ 10) (hrt : ∀ i, i < M → rt i < pr) (hv : ∀ i, i < N → v i < pr) (hsg : sg < lg)
    (kk : ∀ (b : Nat) (H : Heap) (locs : List Loc) (ls : Array Slot), b = 2 ^ sg → va_P D vwCl [(h, .inr (1, [.int (nI (pr)), .int (nI (lg)), .int (nI (N)), .ref r, .ref vv, .long (lN (iv))])), (r, .inl (cI, M, .inl (nA (rt)))), (q, .inl (cI, N, .inl (nA (spS pr N sg rt v b))))] H → va_D A [(h, .inr (1, [.int (nI (pr)), .int (nI (lg)), .int (nI (N)), .ref r, .ref vv, .long (lN (iv))])), (r, .inl (cI, M, .inl (nA (rt)))), (q, .inl (cI, N, .inl (nA (spS pr N sg rt v b))))] → va_S A H0 H locs → lv_has ls 4 [(3, .int (nI (b))), (2, .int (nI (sg))), (0, .ref h), (1, .ref q)] → W p l e { frames := 1, cells := 0, slots := 0, locals := 31 } s m args below meth c H locs 0 0 Q (F0 m 32 ls [])) :
    ∀ (nn b : Nat) (H : Heap) (locs : List Loc) (ls : Array Slot), 2 ^ sg - b < nn → b ≤ 2 ^ sg → va_P D vwCl [(h, .inr (1, [.int (nI (pr)), .int (nI (lg)), .int (nI (N)), .ref r, .ref vv, .long (lN (iv))])), (r, .inl (cI, M, .inl (nA (rt)))), (q, .inl (cI, N, .inl (nA (spS pr N sg rt v b))))] H → va_D A [(h, .inr (1, [.int (nI (pr)), .int (nI (lg)), .int (nI (N)), .ref r, .ref vv, .long (lN (iv))])), (r, .inl (cI, M, .inl (nA (rt)))), (q, .inl (cI, N, .inl (nA (spS pr N sg rt v b))))] → va_S A H0 H locs → lv_has ls 4 [(3, .int (nI (b))), (2, .int (nI (sg))), (0, .ref h), (1, .ref q)] → W p l e { frames := 1, cells := 0, slots := 0, locals := 31 } s m args below meth c H locs 0 0 Q (F0 m 12 ls []) := by
  obtain ⟨hx, hb, hml, hown, hts⟩ := id hC0
  intro nn
  induction nn with
  | zero => intro _ _ _ _ h; exact absurd h (Nat.not_lt_zero _)
  | succ nn ih =>
    intro b H locs ls hn hj hP hD hS hl
    have hs2 := sg_leN hN (show sg ≤ lg by omega)
    refine lv_iload_n hx hb dX1_toSpectrum_12 rfl (lv_at hl 0 rfl) ?_
    refine lv_iconst (v := nI 1) hx hb dX1_toSpectrum_13 (by decide) ?_
    refine lv_iload_n hx hb dX1_toSpectrum_14 rfl (lv_at hl 1 rfl) ?_
    refine lv_ishl hx hb dX1_toSpectrum_15 ?_
    refine kr_i (kn_shl (by omega) (by omega)) ?_
    refine kr_i (congrArg nI (show 1 * 2 ^ sg = 2 ^ sg from Nat.one_mul _)) ?_
    refine kr_ge (tgt := 32) hx hb dX1_toSpectrum_16 (by decide) (by omega) (by omega) (fun hc => ?_) (fun hc => ?_)
    · exact kk b H locs ls (by omega) hP hD hS hl
    · refine lv_aload_n hx hb dX1_toSpectrum_19 rfl (lv_at hl 2 rfl) ?_
      refine lv_aload_n hx hb dX1_toSpectrum_20 rfl (lv_at hl 3 rfl) ?_
      refine lv_iload_n hx hb dX1_toSpectrum_21 rfl (lv_at hl 0 rfl) ?_
      refine lv_iload_n hx hb dX1_toSpectrum_22 rfl (lv_at hl 1 rfl) ?_
      refine kc_v (wr := []) (va_runV (As := [.ref q, .int (nI (b)), .int (nI (sg))]) (rest := []) hC0 (c_X1_splitBlock l D cI cT H.size h r vv q pr lg N iv M sg b rt (spS pr N sg rt v b) hp hp0 hN2 hM (by omega) (sg_dvN hN hsg) hc hrt (spS_ltN hN hp0 hv hsg b (by omega))) (cwV 3 hts gX1_toSpectrum_X1_splitBlock rfl rfl rfl (by decide +kernel) ⟨Nat.le_of_ble_eq_true rfl, Nat.le_of_ble_eq_true rfl⟩) (kp_V (ci := 1) (k0 := 0) kE_0 (fun _ _ _ => trivial) hK hP hD [0, 1, 2] rfl (by decide) rfl rfl) rfl rfl hl.1 rfl (lv_room (Nat.le_of_ble_eq_true rfl)) dX1_toSpectrum_23 ⟨Nat.le_of_ble_eq_true rfl, Nat.le_of_ble_eq_true rfl⟩) hP hD hS hA [0, 1, 2] [] rfl rfl (by decide) (by decide) (fun uu H locs hw hP hD hS => ?_)
      have hP : va_P D vwCl [(h, .inr (1, [.int (nI (pr)), .int (nI (lg)), .int (nI (N)), .ref r, .ref vv, .long (lN (iv))])), (r, .inl (cI, M, .inl (nA (rt)))), (q, .inl (cI, N, .inl (nA (spS pr N sg rt v (b + 1)))))] H := hP.sub [0, 1, 2] rfl
      have hD : va_D A [(h, .inr (1, [.int (nI (pr)), .int (nI (lg)), .int (nI (N)), .ref r, .ref vv, .long (lN (iv))])), (r, .inl (cI, M, .inl (nA (rt)))), (q, .inl (cI, N, .inl (nA (spS pr N sg rt v (b + 1)))))] := hD.sub [0, 1, 2] (by decide) rfl
      refine lv_iinc (v := nI (b + 1)) (lv' := [(3, .int (nI (b + 1))), (2, .int (nI (sg))), (0, .ref h), (1, .ref q)]) hx hb dX1_toSpectrum_26 hl (k := 0) rfl (by rw [show Int32.ofInt 1 = nI 1 by decide]; exact nI_add _ _) (by decide) rfl (fun ls hl => ?_)
      refine lv_goto (tgt := 12) hx hb dX1_toSpectrum_29 (by decide) ?_
      exact ih (b + 1) H locs ls (by omega) (by omega) hP hD hS (lv_sub hl [0, 1, 2, 3] rfl)
set_option maxHeartbeats 4000000 in
set_option maxRecDepth 100000 in
theorem lp_tsO {p : Program} {l : Launch} {e : Env} {s : State} {m : MethodId} {args : Array Value} {below : List Frame} {meth : Method} {c : Code} {Q : State → Prop} {A : Nat → Prop} {H0 : Heap} {D : va_G} {cI cT : ClassId} (h r vv q pr lg N iv M : Nat) (rt v : Nat → Nat) (hC0 : CallFix p m c cX1_toSpectrum 4 s args wsX1_toSpectrum RX1) (hK : va_K D vwCl [(cI, .int), (cT, .object RX1)] s) (hA : ∀ q, H0.size ≤ q → A q) (hp : pr < 2 ^ 30) (hp0 : 0 < pr) (hN2 : N ≤ 1024) (hM : N = 2 * M) (hN : 2 ^ lg = N) (hlg : lg ≤ 10) (hrt : ∀ i, i < M → rt i < pr) (hv : ∀ i, i < N → v i < pr)
    (kk : ∀ (sg : Nat) (H : Heap) (locs : List Loc) (ls : Array Slot), sg = lg → va_P D vwCl [(h, .inr (1, [.int (nI (pr)), .int (nI (lg)), .int (nI (N)), .ref r, .ref vv, .long (lN (iv))])), (r, .inl (cI, M, .inl (nA (rt)))), (q, .inl (cI, N, .inl (nA (spT pr N rt v sg))))] H → va_D A [(h, .inr (1, [.int (nI (pr)), .int (nI (lg)), .int (nI (N)), .ref r, .ref vv, .long (lN (iv))])), (r, .inl (cI, M, .inl (nA (rt)))), (q, .inl (cI, N, .inl (nA (spT pr N rt v sg))))] → va_S A H0 H locs → lv_has ls 4 [(2, .int (nI (sg))), (0, .ref h), (1, .ref q)] → W p l e { frames := 1, cells := 0, slots := 0, locals := 31 } s m args below meth c H locs 0 0 Q (F0 m 38 ls [])) :
    ∀ (nn sg : Nat) (H : Heap) (locs : List Loc) (ls : Array Slot), lg - sg < nn → sg ≤ lg → va_P D vwCl [(h, .inr (1, [.int (nI (pr)), .int (nI (lg)), .int (nI (N)), .ref r, .ref vv, .long (lN (iv))])), (r, .inl (cI, M, .inl (nA (rt)))), (q, .inl (cI, N, .inl (nA (spT pr N rt v sg))))] H → va_D A [(h, .inr (1, [.int (nI (pr)), .int (nI (lg)), .int (nI (N)), .ref r, .ref vv, .long (lN (iv))])), (r, .inl (cI, M, .inl (nA (rt)))), (q, .inl (cI, N, .inl (nA (spT pr N rt v sg))))] → va_S A H0 H locs → lv_has ls 4 [(2, .int (nI (sg))), (0, .ref h), (1, .ref q)] → W p l e { frames := 1, cells := 0, slots := 0, locals := 31 } s m args below meth c H locs 0 0 Q (F0 m 2 ls []) := by
  obtain ⟨hx, hb, hml, hown, hts⟩ := id hC0
  intro nn
  induction nn with
  | zero => intro _ _ _ _ h; exact absurd h (Nat.not_lt_zero _)
  | succ nn ih =>
    intro sg H locs ls hn hj hP hD hS hl
    refine lv_iload_n hx hb dX1_toSpectrum_2 rfl (lv_at hl 0 rfl) ?_
    refine lv_aload_n hx hb dX1_toSpectrum_3 rfl (lv_at hl 1 rfl) ?_
    refine va_get (D := D) (ci := 1) (v := .int (nI (lg))) (C := RX1) (T := TX1) (N := 6) hx hb hts inX1_X1_toSpectrum hown hK hP 0 rfl rfl 1 (by decide) (hts (.fieldLink RX1 15 "TransformProduct$PrimeTransform" "log" "I") (by decide +kernel)) (fun _ h9 => h9) rfl dX1_toSpectrum_4 ?_
    refine kr_ge (tgt := 38) hx hb dX1_toSpectrum_7 (by decide) (by omega) (by omega) (fun hc => ?_) (fun hc => ?_)
    · exact kk sg H locs ls (by omega) hP hD hS hl
    · refine lv_iconst (v := nI 0) hx hb dX1_toSpectrum_10 (by decide) ?_
      refine lv_istore_n (lv' := [(3, .int (nI (0))), (2, .int (nI (sg))), (0, .ref h), (1, .ref q)]) hx hb dX1_toSpectrum_11 rfl hl (by decide) rfl (fun ls hl => ?_)
      refine lp_tsI h r vv q pr lg N iv M sg rt (spT pr N rt v sg) hC0 hK hA hp hp0 hN2 hM hN hlg hrt (spT_ltN hN hp0 hv sg (by omega)) hc (fun b H locs ls hb2 hP hD hS hl => ?_) (2 ^ sg + 1) 0 H locs ls (by rw [Nat.sub_zero]; exact Nat.lt_succ_self _) (Nat.zero_le _) hP hD hS (lv_sub hl [0, 1, 2, 3] rfl)
      rw [hb2] at hP hD
      refine lv_iinc (v := nI (sg + 1)) (lv' := [(2, .int (nI (sg + 1))), (3, .int (nI (b))), (0, .ref h), (1, .ref q)]) hx hb dX1_toSpectrum_32 hl (k := 1) rfl (by rw [show Int32.ofInt 1 = nI 1 by decide]; exact nI_add _ _) (by decide) rfl (fun ls hl => ?_)
      refine lv_goto (tgt := 2) hx hb dX1_toSpectrum_35 (by decide) ?_
      exact ih (sg + 1) H locs ls (by omega) (by omega) hP hD hS (lv_sub hl [0, 2, 3] rfl)
set_option maxHeartbeats 4000000 in
set_option maxRecDepth 100000 in
theorem c_X1_toSpectrum (l : Launch) (D : va_G) (cI cT : ClassId) (sz : Nat) (h r vv q pr lg N iv M : Nat) (rt v : Nat → Nat) (hp : pr < 2 ^ 30) (hp0 : 0 < pr) (hN2 : N ≤ 1024) (hM : N = 2 * M) (hN : 2 ^ lg = N) (hlg : lg ≤ 10) (hrt : ∀ i, i < M → rt i < pr) (hv : ∀ i, i < N → v i < pr) : kMv (S := Unit) l yX1_toSpectrum wsX1_toSpectrum { frames := 1, cells := 0, slots := 0, locals := 31 } D [(cI, .int), (cT, .object RX1)] [(h, .inr (1, [.int (nI (pr)), .int (nI (lg)), .int (nI (N)), .ref r, .ref vv, .long (lN (iv))])), (r, .inl (cI, M, .inl (nA (rt)))), (q, .inl (cI, N, .inl (nA (v))))] sz (fun _ => True) [.ref h, .ref q] (fun _ => True) (fun _ => [(h, .inr (1, [.int (nI (pr)), .int (nI (lg)), .int (nI (N)), .ref r, .ref vv, .long (lN (iv))])), (r, .inl (cI, M, .inl (nA (rt)))), (q, .inl (cI, N, .inl (nA (spT pr N rt v lg))))]) (0) (0) := by
  refine kM_of (Qc := fun A => va_Qv (S := Unit) (fun _ => True) (kB D A (fun _ => [(h, .inr (1, [.int (nI (pr)), .int (nI (lg)), .int (nI (N)), .ref r, .ref vv, .long (lN (iv))])), (r, .inl (cI, M, .inl (nA (rt)))), (q, .inl (cI, N, .inl (nA (spT pr N rt v lg))))])) A) (cc := cX1_toSpectrum) (maxL := 4) (ret := none) (by decide +kernel) rfl (Nat.le_of_ble_eq_true rfl) ?_
  intro p e s m below meth c A ls hC0 hr hlk hin hP hK hD hA hS hE hAe hsz hl
  obtain ⟨hx, hb, hml, hown, hts⟩ := id hC0
  have hl : lv_has ls 4 [(0, .ref h), (1, .ref q)] := hl
  refine lv_iconst (v := nI 0) hx hb dX1_toSpectrum_0 (by decide) ?_
  refine lv_istore_n (lv' := [(2, .int (nI (0))), (0, .ref h), (1, .ref q)]) hx hb dX1_toSpectrum_1 rfl hl (by decide) rfl (fun ls hl => ?_)
  refine lp_tsO h r vv q pr lg N iv M rt v hC0 hK hA hp hp0 hN2 hM hN hlg hrt hv (fun sg H locs ls hj hP hD hS hl => ?_) (lg + 1) 0 s.heap [] ls (by omega) (by omega) hP hD hS (lv_sub hl [0, 1, 2] rfl)
  rw [hj] at hP hD
  exact kr_vret () hx hb hr hlk hP hD hS trivial dX1_toSpectrum_38
set_option maxHeartbeats 4000000 in
set_option maxRecDepth 100000 in
theorem lp_fsI {p : Program} {l : Launch} {e : Env} {s : State} {m : MethodId} {args : Array Value} {below : List Frame} {meth : Method} {c : Code} {Q : State → Prop} {A : Nat → Prop} {H0 : Heap} {D : va_G} {cI cT : ClassId} (h r vv q pr lg N iv M sg : Nat) (rt v : Nat → Nat) (hC0 : CallFix p m c cX1_fromSpectrum 4 s args wsX1_fromSpectrum RX1) (hK : va_K D vwCl [(cI, .int), (cT, .object RX1)] s) (hA : ∀ q, H0.size ≤ q → A q) (hp : pr < 2 ^ 30) (hp0 : 0 < pr) (hN2 : N ≤ 1024) (hM : N = 2 * M) (hN : 2 ^ lg = N) (hlg : lg ≤ 10) (hrt : ∀ i, i < M → rt i < pr) (hv : ∀ i, i < N → v i < pr) (hsg : sg < lg)
    (kk : ∀ (b : Nat) (H : Heap) (locs : List Loc) (ls : Array Slot), b = 2 ^ sg → va_P D vwCl [(h, .inr (1, [.int (nI (pr)), .int (nI (lg)), .int (nI (N)), .ref r, .ref vv, .long (lN (iv))])), (r, .inl (cI, M, .inl (nA (rt)))), (q, .inl (cI, N, .inl (nA (jnS pr N sg rt v b))))] H → va_D A [(h, .inr (1, [.int (nI (pr)), .int (nI (lg)), .int (nI (N)), .ref r, .ref vv, .long (lN (iv))])), (r, .inl (cI, M, .inl (nA (rt)))), (q, .inl (cI, N, .inl (nA (jnS pr N sg rt v b))))] → va_S A H0 H locs → lv_has ls 4 [(3, .int (nI (b))), (2, .int (nI (sg))), (0, .ref h), (1, .ref q)] → W p l e { frames := 1, cells := 0, slots := 0, locals := 30 } s m args below meth c H locs 0 0 Q (F0 m 33 ls [])) :
    ∀ (nn b : Nat) (H : Heap) (locs : List Loc) (ls : Array Slot), 2 ^ sg - b < nn → b ≤ 2 ^ sg → va_P D vwCl [(h, .inr (1, [.int (nI (pr)), .int (nI (lg)), .int (nI (N)), .ref r, .ref vv, .long (lN (iv))])), (r, .inl (cI, M, .inl (nA (rt)))), (q, .inl (cI, N, .inl (nA (jnS pr N sg rt v b))))] H → va_D A [(h, .inr (1, [.int (nI (pr)), .int (nI (lg)), .int (nI (N)), .ref r, .ref vv, .long (lN (iv))])), (r, .inl (cI, M, .inl (nA (rt)))), (q, .inl (cI, N, .inl (nA (jnS pr N sg rt v b))))] → va_S A H0 H locs → lv_has ls 4 [(3, .int (nI (b))), (2, .int (nI (sg))), (0, .ref h), (1, .ref q)] → W p l e { frames := 1, cells := 0, slots := 0, locals := 30 } s m args below meth c H locs 0 0 Q (F0 m 13 ls []) := by
  obtain ⟨hx, hb, hml, hown, hts⟩ := id hC0
  intro nn
  induction nn with
  | zero => intro _ _ _ _ h; exact absurd h (Nat.not_lt_zero _)
  | succ nn ih =>
    intro b H locs ls hn hj hP hD hS hl
    have hs2 := sg_leN hN (show sg ≤ lg by omega)
    refine lv_iload_n hx hb dX1_fromSpectrum_13 rfl (lv_at hl 0 rfl) ?_
    refine lv_iconst (v := nI 1) hx hb dX1_fromSpectrum_14 (by decide) ?_
    refine lv_iload_n hx hb dX1_fromSpectrum_15 rfl (lv_at hl 1 rfl) ?_
    refine lv_ishl hx hb dX1_fromSpectrum_16 ?_
    refine kr_i (kn_shl (by omega) (by omega)) ?_
    refine kr_i (congrArg nI (show 1 * 2 ^ sg = 2 ^ sg from Nat.one_mul _)) ?_
    refine kr_ge (tgt := 33) hx hb dX1_fromSpectrum_17 (by decide) (by omega) (by omega) (fun hc => ?_) (fun hc => ?_)
    · exact kk b H locs ls (by omega) hP hD hS hl
    · refine lv_aload_n hx hb dX1_fromSpectrum_20 rfl (lv_at hl 2 rfl) ?_
      refine lv_aload_n hx hb dX1_fromSpectrum_21 rfl (lv_at hl 3 rfl) ?_
      refine lv_iload_n hx hb dX1_fromSpectrum_22 rfl (lv_at hl 0 rfl) ?_
      refine lv_iload_n hx hb dX1_fromSpectrum_23 rfl (lv_at hl 1 rfl) ?_
      refine kc_v (wr := []) (va_runV (As := [.ref q, .int (nI (b)), .int (nI (sg))]) (rest := []) hC0 (c_X1_joinBlock l D cI cT H.size h r vv q pr lg N iv M sg b rt (jnS pr N sg rt v b) hp hp0 hN2 hM (by omega) (sg_dvN hN hsg) hc hrt (jnS_ltN hN hp0 hv hsg b (by omega))) (cwV 3 hts gX1_fromSpectrum_X1_joinBlock rfl rfl rfl (by decide +kernel) ⟨Nat.le_of_ble_eq_true rfl, Nat.le_of_ble_eq_true rfl⟩) (kp_V (ci := 1) (k0 := 0) kE_0 (fun _ _ _ => trivial) hK hP hD [0, 1, 2] rfl (by decide) rfl rfl) rfl rfl hl.1 rfl (lv_room (Nat.le_of_ble_eq_true rfl)) dX1_fromSpectrum_24 ⟨Nat.le_of_ble_eq_true rfl, Nat.le_of_ble_eq_true rfl⟩) hP hD hS hA [0, 1, 2] [] rfl rfl (by decide) (by decide) (fun uu H locs hw hP hD hS => ?_)
      have hP : va_P D vwCl [(h, .inr (1, [.int (nI (pr)), .int (nI (lg)), .int (nI (N)), .ref r, .ref vv, .long (lN (iv))])), (r, .inl (cI, M, .inl (nA (rt)))), (q, .inl (cI, N, .inl (nA (jnS pr N sg rt v (b + 1)))))] H := hP.sub [0, 1, 2] rfl
      have hD : va_D A [(h, .inr (1, [.int (nI (pr)), .int (nI (lg)), .int (nI (N)), .ref r, .ref vv, .long (lN (iv))])), (r, .inl (cI, M, .inl (nA (rt)))), (q, .inl (cI, N, .inl (nA (jnS pr N sg rt v (b + 1)))))] := hD.sub [0, 1, 2] (by decide) rfl
      refine lv_iinc (v := nI (b + 1)) (lv' := [(3, .int (nI (b + 1))), (2, .int (nI (sg))), (0, .ref h), (1, .ref q)]) hx hb dX1_fromSpectrum_27 hl (k := 0) rfl (by rw [show Int32.ofInt 1 = nI 1 by decide]; exact nI_add _ _) (by decide) rfl (fun ls hl => ?_)
      refine lv_goto (tgt := 13) hx hb dX1_fromSpectrum_30 (by decide) ?_
      exact ih (b + 1) H locs ls (by omega) (by omega) hP hD hS (lv_sub hl [0, 1, 2, 3] rfl)
set_option maxHeartbeats 4000000 in
set_option maxRecDepth 100000 in
theorem lp_fsO {p : Program} {l : Launch} {e : Env} {s : State} {m : MethodId} {args : Array Value} {below : List Frame} {meth : Method} {c : Code} {Q : State → Prop} {A : Nat → Prop} {H0 : Heap} {D : va_G} {cI cT : ClassId} (h r vv q pr lg N iv M : Nat) (rt : Nat → Nat) (res : Nat → Nat) (hC0 : CallFix p m c cX1_fromSpectrum 4 s args wsX1_fromSpectrum RX1) (hK : va_K D vwCl [(cI, .int), (cT, .object RX1)] s) (hA : ∀ q, H0.size ≤ q → A q) (hp : pr < 2 ^ 30) (hp0 : 0 < pr) (hN2 : N ≤ 1024) (hM : N = 2 * M) (hN : 2 ^ lg = N) (hlg : lg ≤ 10) (hrt : ∀ i, i < M → rt i < pr)
    (kk : ∀ (v : Nat → Nat) (H : Heap) (locs : List Loc) (ls : Array Slot), v = res → va_P D vwCl [(h, .inr (1, [.int (nI (pr)), .int (nI (lg)), .int (nI (N)), .ref r, .ref vv, .long (lN (iv))])), (r, .inl (cI, M, .inl (nA (rt)))), (q, .inl (cI, N, .inl (nA (v))))] H → va_D A [(h, .inr (1, [.int (nI (pr)), .int (nI (lg)), .int (nI (N)), .ref r, .ref vv, .long (lN (iv))])), (r, .inl (cI, M, .inl (nA (rt)))), (q, .inl (cI, N, .inl (nA (v))))] → va_S A H0 H locs → lv_has ls 4 [(2, .int (nI 0 - nI 1)), (0, .ref h), (1, .ref q)] → W p l e { frames := 1, cells := 0, slots := 0, locals := 30 } s m args below meth c H locs 0 0 Q (F0 m 39 ls [])) :
    ∀ (k : Nat) (v : Nat → Nat) (H : Heap) (locs : List Loc) (ls : Array Slot), jnT pr N rt k v = res → k ≤ lg → (∀ i, i < N → v i < pr) → va_P D vwCl [(h, .inr (1, [.int (nI (pr)), .int (nI (lg)), .int (nI (N)), .ref r, .ref vv, .long (lN (iv))])), (r, .inl (cI, M, .inl (nA (rt)))), (q, .inl (cI, N, .inl (nA (v))))] H → va_D A [(h, .inr (1, [.int (nI (pr)), .int (nI (lg)), .int (nI (N)), .ref r, .ref vv, .long (lN (iv))])), (r, .inl (cI, M, .inl (nA (rt)))), (q, .inl (cI, N, .inl (nA (v))))] → va_S A H0 H locs → lv_has ls 4 [(2, .int (nI k - nI 1)), (0, .ref h), (1, .ref q)] → W p l e { frames := 1, cells := 0, slots := 0, locals := 30 } s m args below meth c H locs 0 0 Q (F0 m 7 ls []) := by
  obtain ⟨hx, hb, hml, hown, hts⟩ := id hC0
  intro k
  induction k with
  | zero =>
    intro v H locs ls hI hk hv hP hD hS hl
    refine lv_iload_n hx hb dX1_fromSpectrum_7 rfl (lv_at hl 0 rfl) ?_
    refine lv_if_lt (tgt := 39) hx hb dX1_fromSpectrum_8 (by decide) (fun _ => ?_) (fun hc => absurd (by decide) hc)
    exact kk v H locs ls hI hP hD hS hl
  | succ k ih =>
    intro v H locs ls hI hk hv hP hD hS hl
    rw [kn_p1] at hl
    refine lv_iload_n hx hb dX1_fromSpectrum_7 rfl (lv_at hl 0 rfl) ?_
    refine kr_lt0 (tgt := 39) hx hb dX1_fromSpectrum_8 (by decide) (by omega) ?_
    refine lv_iconst (v := nI 0) hx hb dX1_fromSpectrum_11 (by decide) ?_
    refine lv_istore_n (lv' := [(3, .int (nI (0))), (2, .int (nI (k))), (0, .ref h), (1, .ref q)]) hx hb dX1_fromSpectrum_12 rfl hl (by decide) rfl (fun ls hl => ?_)
    refine lp_fsI h r vv q pr lg N iv M k rt v hC0 hK hA hp hp0 hN2 hM hN hlg hrt hv (by omega) (fun b H locs ls hb2 hP hD hS hl => ?_) (2 ^ k + 1) 0 H locs ls (by rw [Nat.sub_zero]; exact Nat.lt_succ_self _) (Nat.zero_le _) hP hD hS (lv_sub hl [0, 1, 2, 3] rfl)
    rw [hb2] at hP hD
    refine lv_iinc (v := nI k - nI 1) (lv' := [(2, .int (nI k - nI 1)), (3, .int (nI (b))), (0, .ref h), (1, .ref q)]) hx hb dX1_fromSpectrum_33 hl (k := 1) rfl (kn_m1 _) (by decide) rfl (fun ls hl => ?_)
    refine lv_goto (tgt := 7) hx hb dX1_fromSpectrum_36 (by decide) ?_
    exact ih (jnS pr N k rt v (2 ^ k)) H locs ls hI (by omega) (jnS_ltN hN hp0 hv (by omega) _ (Nat.le_refl _)) hP hD hS (lv_sub hl [0, 2, 3] rfl)
set_option maxHeartbeats 4000000 in
set_option maxRecDepth 100000 in
theorem c_X1_fromSpectrum (l : Launch) (D : va_G) (cI cT : ClassId) (sz : Nat) (h r vv q pr lg N iv M : Nat) (rt v : Nat → Nat) (hp : pr < 2 ^ 30) (hp0 : 0 < pr) (hN2 : N ≤ 1024) (hM : N = 2 * M) (hN : 2 ^ lg = N) (hlg : lg ≤ 10) (hrt : ∀ i, i < M → rt i < pr) (hv : ∀ i, i < N → v i < pr) : kMv (S := Unit) l yX1_fromSpectrum wsX1_fromSpectrum { frames := 1, cells := 0, slots := 0, locals := 30 } D [(cI, .int), (cT, .object RX1)] [(h, .inr (1, [.int (nI (pr)), .int (nI (lg)), .int (nI (N)), .ref r, .ref vv, .long (lN (iv))])), (r, .inl (cI, M, .inl (nA (rt)))), (q, .inl (cI, N, .inl (nA (v))))] sz (fun _ => True) [.ref h, .ref q] (fun _ => True) (fun _ => [(h, .inr (1, [.int (nI (pr)), .int (nI (lg)), .int (nI (N)), .ref r, .ref vv, .long (lN (iv))])), (r, .inl (cI, M, .inl (nA (rt)))), (q, .inl (cI, N, .inl (nA (jnT pr N rt lg v))))]) (0) (0) := by
  refine kM_of (Qc := fun A => va_Qv (S := Unit) (fun _ => True) (kB D A (fun _ => [(h, .inr (1, [.int (nI (pr)), .int (nI (lg)), .int (nI (N)), .ref r, .ref vv, .long (lN (iv))])), (r, .inl (cI, M, .inl (nA (rt)))), (q, .inl (cI, N, .inl (nA (jnT pr N rt lg v))))])) A) (cc := cX1_fromSpectrum) (maxL := 4) (ret := none) (by decide +kernel) rfl (Nat.le_of_ble_eq_true rfl) ?_
  intro p e s m below meth c A ls hC0 hr hlk hin hP hK hD hA hS hE hAe hsz hl
  obtain ⟨hx, hb, hml, hown, hts⟩ := id hC0
  have hl : lv_has ls 4 [(0, .ref h), (1, .ref q)] := hl
  refine lv_aload_n hx hb dX1_fromSpectrum_0 rfl (lv_at hl 0 rfl) ?_
  refine va_get (D := D) (ci := 1) (v := .int (nI (lg))) (C := RX1) (T := TX1) (N := 6) hx hb hts inX1_X1_fromSpectrum hown hK hP 0 rfl rfl 1 (by decide) (hts (.fieldLink RX1 15 "TransformProduct$PrimeTransform" "log" "I") (by decide +kernel)) (fun _ h9 => h9) rfl dX1_fromSpectrum_1 ?_
  refine lv_iconst (v := nI 1) hx hb dX1_fromSpectrum_4 (by decide) ?_
  refine lv_isub hx hb dX1_fromSpectrum_5 ?_
  refine lv_istore_n (lv' := [(2, .int (nI lg - nI 1)), (0, .ref h), (1, .ref q)]) hx hb dX1_fromSpectrum_6 rfl hl (by decide) rfl (fun ls hl => ?_)
  refine lp_fsO h r vv q pr lg N iv M rt (jnT pr N rt lg v) hC0 hK hA hp hp0 hN2 hM hN hlg hrt (fun v2 H locs ls hI hP hD hS hl => ?_) lg v s.heap [] ls rfl (Nat.le_refl _) hv hP hD hS (lv_sub hl [0, 1, 2] rfl)
  rw [hI] at hP hD
  exact kr_vret () hx hb hr hlk hP hD hS trivial dX1_fromSpectrum_39
