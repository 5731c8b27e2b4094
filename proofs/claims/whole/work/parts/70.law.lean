/-! the law: the state that both sides share -/
section KSC
variable {p : Program} {l : Launch} {e : Env} {R : Room} {s : State} {m : MethodId} {args : Array Value} {below : List Frame} {meth : Method} {c : Code} {H : Heap} {locs : List Loc} {cells slots : Nat} {Q : State → Prop}
variable {cc : ByteArray} {pc : Nat} {ls : Array Slot} {rest : List Value} {A : Nat → Prop} {H0 : Heap}
theorem kr_sld (hexec : p.tables.exec = Jvm.exec) (hb : c.code = cc) {b L : Nat} {xs : Nat → Int32} (hX : va_X b L xs s H0) (hbl : b < H0.size) (hbA : ¬ A b) (hS : va_S A H0 H locs) {k : Nat} (hk : k < L) (hL : L < 2 ^ 31) (hdg : decode cc pc = .ok (.iaload, 1))
    (kk : W p l e R s m args below meth c H locs cells slots Q (F0 m (pc + 1) ls (.int (xs k) :: rest))) : W p l e R s m args below meth c H locs cells slots Q (F0 m pc ls (.int (nI k) :: .ref b :: rest)) := by
  refine va_sld hexec hb hX hbl hbA hS (vp_in_nI hk hL) hdg ?_
  rw [nI_clamp (by omega)]
  exact kk
theorem kr_slen (hexec : p.tables.exec = Jvm.exec) (hb : c.code = cc) {b L : Nat} {xs : Nat → Int32} (hX : va_X b L xs s H0) (hbl : b < H0.size) (hbA : ¬ A b) (hS : va_S A H0 H locs) (hdg : decode cc pc = .ok (.arraylength, 1))
    (kk : W p l e R s m args below meth c H locs cells slots Q (F0 m (pc + 1) ls (.int (nI L) :: rest))) : W p l e R s m args below meth c H locs cells slots Q (F0 m pc ls (.ref b :: rest)) := va_slen hexec hb hX hbl hbA hS hdg kk
end KSC
/-- what the class and the reference have in common: rows, counts, product, readiness -/
def lwI (k N M na nb np rd j1 : Nat) (fa fb fp : Nat → Nat) (rt : Nat → Nat → Nat) (iv dd ct pp : Nat → Nat) : Prop :=
  rd ≤ 1 ∧ (rd = 1 → (∀ i, i < 3 → ∀ j, j < M → rt i j = pmW i k ^ j % pmN i) ∧ (∀ i, i < 3 → iv i = N ^ (pmN i - 2) % pmN i) ∧ j1 = pmN 0 ^ (pmN 1 - 2) % pmN 1) ∧ ct 0 = na ∧ ct 1 = nb ∧ na ≤ N ∧ nb ≤ N ∧ np ≤ N ∧
  (∀ i, i < na → fa i = dd i ∧ dd i < 32768) ∧ (∀ i, i < nb → fb i = dd (1024 + i) ∧ dd (1024 + i) < 32768) ∧ ∀ i, i < np → fp i = pp i ∧ pp i < 32768
theorem fl_in {f : Nat → Nat} {fr v c i : Nat} (h : fr ≤ i ∧ i < fr + c) : flN f fr v c i = v := if_pos h
theorem fl_out {f : Nat → Nat} {fr v c i : Nat} (h : ¬ (fr ≤ i ∧ i < fr + c)) : flN f fr v c i = f i := if_neg h
theorem lwI_A {k N M na nb np rd j1 : Nat} {fa fb fp : Nat → Nat} {rt : Nat → Nat → Nat} {iv dd ct pp : Nat → Nat} (hI : lwI k N M na nb np rd j1 fa fb fp rt iv dd ct pp) (hN : N ≤ 1024) {v c0 : Nat} (hv : v < 32768) (hc : na + c0 ≤ N) : lwI k N M (na + c0) nb np rd j1 (flN fa na v c0) fb fp rt iv (flN dd (1024 * 0 + ct 0) v c0) (va_up ct 0 (ct 0 + c0)) pp := by
  obtain ⟨r1, r2, e0, e1, n1, n2, n3, dA, dB, dP⟩ := hI
  refine ⟨r1, r2, by rw [va_up_self, e0], by rw [va_up_ne _ _ (by decide), e1], hc, n2, n3, fun i hi => ?_, fun i hi => ?_, dP⟩
  · rw [e0, Nat.mul_zero, Nat.zero_add]
    by_cases h : i < na
    · rw [fl_out (by omega), fl_out (by omega)]
      exact dA i h
    · rw [fl_in (by omega), fl_in (by omega)]
      exact ⟨rfl, hv⟩
  · rw [e0, Nat.mul_zero, Nat.zero_add, fl_out (by omega)]
    exact dB i hi
theorem lwI_B {k N M na nb np rd j1 : Nat} {fa fb fp : Nat → Nat} {rt : Nat → Nat → Nat} {iv dd ct pp : Nat → Nat} (hI : lwI k N M na nb np rd j1 fa fb fp rt iv dd ct pp) (hN : N ≤ 1024) {v c0 : Nat} (hv : v < 32768) (hc : nb + c0 ≤ N) : lwI k N M na (nb + c0) np rd j1 fa (flN fb nb v c0) fp rt iv (flN dd (1024 * 1 + ct 1) v c0) (va_up ct 1 (ct 1 + c0)) pp := by
  obtain ⟨r1, r2, e0, e1, n1, n2, n3, dA, dB, dP⟩ := hI
  refine ⟨r1, r2, by rw [va_up_ne _ _ (by decide), e0], by rw [va_up_self, e1], n1, hc, n3, fun i hi => ?_, fun i hi => ?_, dP⟩
  · rw [e1, Nat.mul_one, fl_out (by omega)]
    exact dA i hi
  · rw [e1, Nat.mul_one]
    by_cases h : i < nb
    · rw [fl_out (by omega), fl_out (by omega)]
      exact dB i h
    · rw [fl_in (by omega), fl_in (by omega)]
      exact ⟨rfl, hv⟩
theorem lwI_clear {k N M na nb np rd j1 : Nat} {fa fb fp : Nat → Nat} {rt : Nat → Nat → Nat} {iv dd ct pp : Nat → Nat} (hI : lwI k N M na nb np rd j1 fa fb fp rt iv dd ct pp) : lwI k N M 0 0 0 rd j1 fa fb fp rt iv dd (va_up (va_up ct 0 0) 1 0) pp := by
  obtain ⟨r1, r2, -⟩ := hI
  exact ⟨r1, r2, rfl, rfl, Nat.zero_le _, Nat.zero_le _, Nat.zero_le _, fun i h => absurd h (Nat.not_lt_zero _), fun i h => absurd h (Nat.not_lt_zero _), fun i h => absurd h (Nat.not_lt_zero _)⟩
/-- a product on both sides -/
theorem lw_dig {a b fp : Nat → Nat} {na nb : Nat} {dd P : Nat → Nat} {o : Nat} (ha : ∀ i, i < na → a i = dd i ∧ dd i < 32768) (hb : ∀ i, i < nb → b i = dd (o + i) ∧ dd (o + i) < 32768) (hP : ∀ x, x < na + nb → P x = 0) : ∀ x, x < na + nb → pcF (cvN a na b nb) fp (na + nb) x = byO dd o nb P na x ∧ byO dd o nb P na x < 32768 := by
  intro x hx
  have e := byO_dig hP (fun q hq => (ha q hq).2) (fun q hq => (hb q hq).2) hx
  rw [e]
  refine ⟨?_, Nat.mod_lt _ (by decide)⟩
  rw [pcF_dig hx, cv_prod, dgV_eq (fun i hi => (ha i hi).1), dgV_eq (fun i hi => (hb i hi).1)]
theorem lwI_mul {k N M na nb np rd j1 : Nat} {fa fb fp : Nat → Nat} {rt : Nat → Nat → Nat} {iv dd ct pp : Nat → Nat} (hI : lwI k N M na nb np rd j1 fa fb fp rt iv dd ct pp) (hd : na + nb ≤ N) :
    trN (byO dd (1024 * 1) (ct 1) (flN pp 0 0 (ct 0 + ct 1)) (ct 0)) (ct 0 + ct 1) = trN (pcF (cvN fa na fb nb) fp (na + nb)) (na + nb) ∧
    lwI k N M na nb (trN (pcF (cvN fa na fb nb) fp (na + nb)) (na + nb)) rd j1 fa fb (pcF (cvN fa na fb nb) fp (na + nb)) rt iv dd ct (byO dd (1024 * 1) (ct 1) (flN pp 0 0 (ct 0 + ct 1)) (ct 0)) := by
  obtain ⟨r1, r2, e0, e1, n1, n2, n3, dA, dB, dP⟩ := hI
  have h := lw_dig (fp := fp) (P := flN pp 0 0 (na + nb)) (o := 1024 * 1) dA dB (fun x hx => fl0_z hx)
  have ht := trN_le (pcF (cvN fa na fb nb) fp (na + nb)) (na + nb)
  rw [e0, e1]
  exact ⟨trN_eq fun i hi => ((h i hi).1).symm, r1, r2, e0, e1, n1, n2, by omega, dA, dB, fun i hi => h i (by omega)⟩
theorem lwI_sqr {k N M na nb np rd j1 : Nat} {fa fb fp : Nat → Nat} {rt : Nat → Nat → Nat} {iv dd ct pp : Nat → Nat} (hI : lwI k N M na nb np rd j1 fa fb fp rt iv dd ct pp) (hd : na + na ≤ N) :
    trN (byO dd (1024 * 0) (ct 0) (flN pp 0 0 (ct 0 + ct 0)) (ct 0)) (ct 0 + ct 0) = trN (pcF (cvN fa na fa na) fp (na + na)) (na + na) ∧
    lwI k N M na nb (trN (pcF (cvN fa na fa na) fp (na + na)) (na + na)) rd j1 fa fb (pcF (cvN fa na fa na) fp (na + na)) rt iv dd ct (byO dd (1024 * 0) (ct 0) (flN pp 0 0 (ct 0 + ct 0)) (ct 0)) := by
  obtain ⟨r1, r2, e0, e1, n1, n2, n3, dA, dB, dP⟩ := hI
  have h := lw_dig (b := fa) (fp := fp) (P := flN pp 0 0 (na + na)) (o := 1024 * 0) dA (fun i hi => by rw [Nat.mul_zero, Nat.zero_add]; exact dA i hi) (fun x hx => fl0_z hx)
  have ht := trN_le (pcF (cvN fa na fa na) fp (na + na)) (na + na)
  rw [e0]
  exact ⟨trN_eq fun i hi => ((h i hi).1).symm, r1, r2, e0, e1, n1, n2, by omega, dA, dB, fun i hi => h i (by omega)⟩
/-- take on both sides -/
theorem lwI_take {k N M na nb np rd j1 : Nat} {fa fb fp : Nat → Nat} {rt : Nat → Nat → Nat} {iv dd ct pp f : Nat → Nat} {n o : Nat} (hI : lwI k N M na nb np rd j1 fa fb fp rt iv dd ct pp) (hn : n ≤ N) (hd : ∀ i, i < n → f i = dd (o + i) ∧ dd (o + i) < 32768) :
    trN (va_cpy dd pp o 0 n) n = trN (va_cpy f fp 0 0 n) n ∧ lwI k N M na nb (trN (va_cpy f fp 0 0 n) n) rd j1 fa fb (va_cpy f fp 0 0 n) rt iv dd ct (va_cpy dd pp o 0 n) := by
  obtain ⟨r1, r2, e0, e1, n1, n2, n3, dA, dB, dP⟩ := hI
  have h : ∀ i, i < n → va_cpy f fp 0 0 n i = va_cpy dd pp o 0 n i ∧ va_cpy dd pp o 0 n i < 32768 := fun i hi => by
    rw [cpy_at hi, cpy_k hi]
    exact hd i hi
  have ht := trN_le (va_cpy f fp 0 0 n) n
  exact ⟨trN_eq fun i hi => ((h i hi).1).symm, r1, r2, e0, e1, n1, n2, by omega, dA, dB, fun i hi => h i (by omega)⟩
theorem lwI_giveA {k N M na nb np rd j1 : Nat} {fa fb fp : Nat → Nat} {rt : Nat → Nat → Nat} {iv dd ct pp : Nat → Nat} (hI : lwI k N M na nb np rd j1 fa fb fp rt iv dd ct pp) (hN : N ≤ 1024) : lwI k N M np nb np rd j1 (va_cpy fp fa 0 0 np) fb fp rt iv (va_cpy pp dd 0 (1024 * 0) np) (va_up ct 0 np) pp := by
  obtain ⟨r1, r2, e0, e1, n1, n2, n3, dA, dB, dP⟩ := hI
  refine ⟨r1, r2, va_up_self _ _ _, by rw [va_up_ne _ _ (by decide), e1], n3, n2, n3, fun i hi => ?_, fun i hi => ?_, dP⟩
  · rw [cpy_at hi]
    have := cpy_d (f := pp) (g := dd) (dp := 1024 * 0) hi
    rw [Nat.mul_zero, Nat.zero_add] at this
    rw [Nat.mul_zero, this]
    exact dP i hi
  · rw [cpy_src (by omega)]
    exact dB i hi
theorem lwI_giveB {k N M na nb np rd j1 : Nat} {fa fb fp : Nat → Nat} {rt : Nat → Nat → Nat} {iv dd ct pp : Nat → Nat} (hI : lwI k N M na nb np rd j1 fa fb fp rt iv dd ct pp) (hN : N ≤ 1024) : lwI k N M na np np rd j1 fa (va_cpy fp fb 0 0 np) fp rt iv (va_cpy pp dd 0 (1024 * 1) np) (va_up ct 1 np) pp := by
  obtain ⟨r1, r2, e0, e1, n1, n2, n3, dA, dB, dP⟩ := hI
  refine ⟨r1, r2, by rw [va_up_ne _ _ (by decide), e0], va_up_self _ _ _, n1, n3, n3, fun i hi => ?_, fun i hi => ?_, dP⟩
  · rw [cpy_src (by omega)]
    exact dA i hi
  · rw [cpy_at hi]
    have := cpy_d (f := pp) (g := dd) (dp := 1024 * 1) hi
    rw [Nat.mul_one] at this
    rw [Nat.mul_one, this]
    exact dP i hi
/-- compare on both sides -/
theorem lw_cmpE {k N M na nb np rd j1 : Nat} {fa fb fp : Nat → Nat} {rt : Nat → Nat → Nat} {iv dd ct pp : Nat → Nat} (hI : lwI k N M na nb np rd j1 fa fb fp rt iv dd ct pp) : cmpN (padN (fun j => dd (1024 * 0 + j)) (ct 0)) (padN (fun j => dd (1024 * 1 + j)) (ct 1)) N = if trN fa na = trN fb nb then cmpN fa fb (trN fa na) else if trN fa na < trN fb nb then 2 else 1 := by
  obtain ⟨r1, r2, e0, e1, n1, n2, n3, dA, dB, dP⟩ := hI
  rw [← cmpN_len n1 n2, e0, e1]
  refine cmpN_eq fun i hi => ⟨?_, ?_⟩
  · unfold padN
    split
    · show dd (1024 * 0 + i) = fa i
      rw [Nat.mul_zero, Nat.zero_add, (dA i (by assumption)).1]
    · rfl
  · unfold padN
    split
    · show dd (1024 * 1 + i) = fb i
      rw [Nat.mul_one, (dB i (by assumption)).1]
    · rfl
/-- init on the class's side -/
theorem lwI_init {k N M na nb np j1 k1 : Nat} {fa fb fp : Nat → Nat} {rt rt2 : Nat → Nat → Nat} {iv iv2 dd ct pp : Nat → Nat} (hI : lwI k N M na nb np 0 j1 fa fb fp rt iv dd ct pp) (hN : 2 ^ (k + 1) = N) (hrt : ∀ i, i < 3 → rt2 i = rtF (3 ^ ((pmN i - 1) / N) % pmN i) (pmN i) M (rt i)) (hiv : ∀ i, i < 3 → iv2 i = N ^ (pmN i - 2) % pmN i) (hk1 : k1 = pmN 0 ^ (pmN 1 - 2) % pmN 1) : lwI k N M na nb np 1 k1 fa fb fp rt2 iv2 dd ct pp := by
  obtain ⟨r1, r2, rest⟩ := hI
  refine ⟨Nat.le_refl _, fun _ => ⟨fun i hi j hj => ?_, hiv, hk1⟩, rest⟩
  rw [hrt i hi, rtF_at hj]
  unfold pmW
  rw [hN]
/-- the loop's test -/
theorem lw_gt {L i : Nat} (hL : L < 2 ^ 31) (hi : i < 2 ^ 31) : nI L - nI 4 < nI i ↔ L < i + 4 := by
  rw [Int32.lt_iff_toInt_lt, kn_ti hL (by decide), nI_toInt hi]
  omega
 
/-- what stands behind a case of the switch: the loop goes on with the new state -/
def lwK (p : Program) (l : Launch) (e : Env) (s : State) (m : MethodId) (below : List Frame) (meth : Method) (c : Code) (Q : State → Prop) (A : Nat → Prop) (D : va_G) (cI cT : ClassId) (q g : Nat → Nat) (lg N M tb k b i : Nat) : Prop :=
  ∀ (na nb np rd lb j1 j2 : Nat) (fa fb fp sc : Nat → Nat) (rt vl : Nat → Nat → Nat) (iv dd ct pp : Nat → Nat) (H : Heap) (locs : List Loc) (ls : Array Slot), lwI k N M na nb np rd j1 fa fb fp rt iv dd ct pp → va_P D vwCl [(q 0, .inr (3, [.int (nI (N)), .int (nI (tb)), .ref (q 1), .ref (q 3), .ref (q 5), .ref (q 7), .ref (q 17), .ref (q 18), .int (nI (rd)), .int (nI (lb))])), (q 1, .inr (2, [.ref (q 2), .int (nI (na))])), (q 2, .inl (cI, N, .inl (nA (fa)))), (q 3, .inr (2, [.ref (q 4), .int (nI (nb))])), (q 4, .inl (cI, N, .inl (nA (fb)))), (q 5, .inr (2, [.ref (q 6), .int (nI (np))])), (q 6, .inl (cI, N, .inl (nA (fp)))), (q 7, .inl (cT, 3, .inr (.inr (.inr (.inr (va_up (va_up (va_up (fun _ => none) 0 (some (q 8))) 1 (some (q 11))) 2 (some (q 14)))))))), (q 8, .inr (1, [.int (nI (pmN 0)), .int (nI (lg)), .int (nI (N)), .ref (q 9), .ref (q 10), .long (lN (iv 0))])), (q 9, .inl (cI, M, .inl (nA (rt 0)))), (q 10, .inl (cI, N, .inl (nA (vl 0)))), (q 11, .inr (1, [.int (nI (pmN 1)), .int (nI (lg)), .int (nI (N)), .ref (q 12), .ref (q 13), .long (lN (iv 1))])), (q 12, .inl (cI, M, .inl (nA (rt 1)))), (q 13, .inl (cI, N, .inl (nA (vl 1)))), (q 14, .inr (1, [.int (nI (pmN 2)), .int (nI (lg)), .int (nI (N)), .ref (q 15), .ref (q 16), .long (lN (iv 2))])), (q 15, .inl (cI, M, .inl (nA (rt 2)))), (q 16, .inl (cI, N, .inl (nA (vl 2)))), (q 17, .inr (0, [.long (lN (j1)), .long (lN (j2))])), (q 18, .inl (cI, N, .inl (nA (sc)))), (g 0, .inr (4, [.int (nI (lg)), .int (nI (N)), .int (nI (rd)), .ref (g 1), .ref (g 2), .ref (g 3), .int (nI (np)), .int (nI (lb))])), (g 1, .inl (cI, 2048, .inl (nA (dd)))), (g 2, .inl (cI, 2, .inl (nA (ct)))), (g 3, .inl (cI, 2048, .inl (nA (pp))))] H → va_D A [(q 0, .inr (3, [.int (nI (N)), .int (nI (tb)), .ref (q 1), .ref (q 3), .ref (q 5), .ref (q 7), .ref (q 17), .ref (q 18), .int (nI (rd)), .int (nI (lb))])), (q 1, .inr (2, [.ref (q 2), .int (nI (na))])), (q 2, .inl (cI, N, .inl (nA (fa)))), (q 3, .inr (2, [.ref (q 4), .int (nI (nb))])), (q 4, .inl (cI, N, .inl (nA (fb)))), (q 5, .inr (2, [.ref (q 6), .int (nI (np))])), (q 6, .inl (cI, N, .inl (nA (fp)))), (q 7, .inl (cT, 3, .inr (.inr (.inr (.inr (va_up (va_up (va_up (fun _ => none) 0 (some (q 8))) 1 (some (q 11))) 2 (some (q 14)))))))), (q 8, .inr (1, [.int (nI (pmN 0)), .int (nI (lg)), .int (nI (N)), .ref (q 9), .ref (q 10), .long (lN (iv 0))])), (q 9, .inl (cI, M, .inl (nA (rt 0)))), (q 10, .inl (cI, N, .inl (nA (vl 0)))), (q 11, .inr (1, [.int (nI (pmN 1)), .int (nI (lg)), .int (nI (N)), .ref (q 12), .ref (q 13), .long (lN (iv 1))])), (q 12, .inl (cI, M, .inl (nA (rt 1)))), (q 13, .inl (cI, N, .inl (nA (vl 1)))), (q 14, .inr (1, [.int (nI (pmN 2)), .int (nI (lg)), .int (nI (N)), .ref (q 15), .ref (q 16), .long (lN (iv 2))])), (q 15, .inl (cI, M, .inl (nA (rt 2)))), (q 16, .inl (cI, N, .inl (nA (vl 2)))), (q 17, .inr (0, [.long (lN (j1)), .long (lN (j2))])), (q 18, .inl (cI, N, .inl (nA (sc)))), (g 0, .inr (4, [.int (nI (lg)), .int (nI (N)), .int (nI (rd)), .ref (g 1), .ref (g 2), .ref (g 3), .int (nI (np)), .int (nI (lb))])), (g 1, .inl (cI, 2048, .inl (nA (dd)))), (g 2, .inl (cI, 2, .inl (nA (ct)))), (g 3, .inl (cI, 2048, .inl (nA (pp))))] → va_S A s.heap H locs → lv_has ls 4 [(3, .int (nI (i))), (0, .ref b), (1, .ref (q 0)), (2, .ref (g 0))] → W p l e room_1 s m #[Value.ref b] below meth c H locs 100 20000 Q (F0 m 429 ls [])
theorem inX0_L_law : ∀ w ∈ wsX00, w ∈ wsL_law := inlX0
theorem inX1_L_law : ∀ w ∈ wsX10, w ∈ wsL_law := inlX1
theorem inX2_L_law : ∀ w ∈ wsX20, w ∈ wsL_law := inlX2
theorem inX3_L_law : ∀ w ∈ wsX30, w ∈ wsL_law := inlX3
theorem inX4_L_law : ∀ w ∈ wsX40, w ∈ wsL_law := inlX4
def sc0 (L : Nat) (xs : Nat → Int32) : Int32 := if 0 < L then xs 0 else 0
theorem kE_sc {b L sz : Nat} {xs : Nat → Int32} : kE (fun U => va_X b L xs U U.heap ∧ b < sz) := by
  intro U V hvm hh h
  refine ⟨?_, h.2⟩
  rw [← hh]
  exact h.1.moved (by rw [hvm]; exact Vm.Alike.refl _)
set_option maxHeartbeats 4000000 in
set_option maxRecDepth 100000 in
theorem c_L_cell (l : Launch) (D : va_G) (cI cT : ClassId) (sz : Nat) (b L : Nat) (xs : Nat → Int32) (hL : L ≤ 2049) : kMi (S := Unit) l yL_cell wsL_cell { frames := 0, cells := 0, slots := 0, locals := 0 } D [(cI, .int), (cT, .object RX1)] [] sz (fun U => va_X b L xs U U.heap ∧ b < sz) [.ref b, .int (nI (0))] (fun r _ => r = sc0 L xs) (fun _ => []) (0) (0) := by
  refine kM_of (Qc := fun A => va_Qi (S := Unit) (fun r _ => r = sc0 L xs) (kB D A (fun _ => [])) A) (cc := cL_cell) (maxL := 2) (ret := (some .int)) (by decide +kernel) rfl (Nat.le_of_ble_eq_true rfl) ?_
  intro p e s m below meth c A ls hC0 hr hlk hin hP hK hD hA hS hE hAe hsz hl
  obtain ⟨hx, hb, hml, hown, hts⟩ := id hC0
  have hl : lv_has ls 2 [(0, .ref b), (1, .int (nI (0)))] := hl
  obtain ⟨hX, hbl⟩ := hE
  rw [← hsz] at hbl
  have hbA : ¬ A b := by rw [hAe]; intro h; rcases h with ⟨k, e, h⟩ | h; (simp at h); omega
  refine lv_iload_n hx hb dL_cell_0 rfl (lv_at hl 1 rfl) ?_
  refine lv_aload_n hx hb dL_cell_1 rfl (lv_at hl 0 rfl) ?_
  refine kr_slen hx hb hX hbl hbA hS dL_cell_2 ?_
  refine kr_ge (tgt := 12) hx hb dL_cell_3 (by decide) (by omega) (by omega) (fun hc => ?_) (fun hc => ?_)
  · refine lv_iconst (v := nI 0) hx hb dL_cell_12 (by decide) ?_
    exact kr_iret () hx hb hr hlk hP hD hS (by unfold sc0; rw [if_neg (by omega)]; rfl) dL_cell_13
  · refine lv_aload_n hx hb dL_cell_6 rfl (lv_at hl 0 rfl) ?_
    refine lv_iload_n hx hb dL_cell_7 rfl (lv_at hl 1 rfl) ?_
    refine kr_sld (k := 0) hx hb hX hbl hbA hS (by omega) (by omega) dL_cell_8 ?_
    refine lv_goto (tgt := 13) hx hb dL_cell_9 (by decide) ?_
    exact kr_iret () hx hb hr hlk hP hD hS (by unfold sc0; rw [if_pos hc]) dL_cell_13
set_option maxHeartbeats 4000000 in
set_option maxRecDepth 100000 in
theorem c_X3_init_w (l : Launch) (D : va_G) (cI cT : ClassId) (sz : Nat) (q : Nat → Nat) (lg N M tb na nb np rd lb j1 j2 : Nat) (fa fb fp sc : Nat → Nat) (rt vl : Nat → Nat → Nat) (iv : Nat → Nat) (tp : Nat) (hM : N = 2 * M) (hM0 : 0 < M) (hN2 : N ≤ 1024) {rt2 : Nat → Nat → Nat} {iv2 : Nat → Nat} {k1 k2 : Nat} (h1 : ∀ i, rt2 i = rtF (3 ^ ((pmN i - 1) / N) % pmN i) (pmN i) M (rt i)) (h2 : ∀ i, iv2 i = N ^ (pmN i - 2) % pmN i) (h3 : k1 = pmN 0 ^ (pmN 1 - 2) % pmN 1) (h4 : k2 = (pmN 0 * pmN 1) ^ (pmN 2 - 2) % pmN 2) : kMi (S := Unit) l yX3_init_ wsX3_init_ { frames := 3, cells := 0, slots := 0, locals := 78 } D [(cI, .int), (cT, .object RX1)] [(q 0, .inr (3, [.int (nI (N)), .int (nI (tb)), .ref (q 1), .ref (q 3), .ref (q 5), .ref (q 7), .ref (q 17), .ref (q 18), .int (nI (0)), .int (nI (lb))])), (q 7, .inl (cT, 3, .inr (.inr (.inr (.inr (va_up (va_up (va_up (fun _ => none) 0 (some (q 8))) 1 (some (q 11))) 2 (some (q 14)))))))), (q 8, .inr (1, [.int (nI (pmN 0)), .int (nI (lg)), .int (nI (N)), .ref (q 9), .ref (q 10), .long (lN (iv 0))])), (q 9, .inl (cI, M, .inl (nA (rt 0)))), (q 11, .inr (1, [.int (nI (pmN 1)), .int (nI (lg)), .int (nI (N)), .ref (q 12), .ref (q 13), .long (lN (iv 1))])), (q 12, .inl (cI, M, .inl (nA (rt 1)))), (q 14, .inr (1, [.int (nI (pmN 2)), .int (nI (lg)), .int (nI (N)), .ref (q 15), .ref (q 16), .long (lN (iv 2))])), (q 15, .inl (cI, M, .inl (nA (rt 2)))), (q 17, .inr (0, [.long (lN (j1)), .long (lN (j2))]))] sz (kX tp (va_A [(q 0, .inr (3, [.int (nI (N)), .int (nI (tb)), .ref (q 1), .ref (q 3), .ref (q 5), .ref (q 7), .ref (q 17), .ref (q 18), .int (nI (0)), .int (nI (lb))])), (q 7, .inl (cT, 3, .inr (.inr (.inr (.inr (va_up (va_up (va_up (fun _ => none) 0 (some (q 8))) 1 (some (q 11))) 2 (some (q 14)))))))), (q 8, .inr (1, [.int (nI (pmN 0)), .int (nI (lg)), .int (nI (N)), .ref (q 9), .ref (q 10), .long (lN (iv 0))])), (q 9, .inl (cI, M, .inl (nA (rt 0)))), (q 11, .inr (1, [.int (nI (pmN 1)), .int (nI (lg)), .int (nI (N)), .ref (q 12), .ref (q 13), .long (lN (iv 1))])), (q 12, .inl (cI, M, .inl (nA (rt 1)))), (q 14, .inr (1, [.int (nI (pmN 2)), .int (nI (lg)), .int (nI (N)), .ref (q 15), .ref (q 16), .long (lN (iv 2))])), (q 15, .inl (cI, M, .inl (nA (rt 2)))), (q 17, .inr (0, [.long (lN (j1)), .long (lN (j2))]))] sz)) [.ref (q 0)] (fun r _ => r = nI 1) (fun _ => [(q 0, .inr (3, [.int (nI (N)), .int (nI (tb)), .ref (q 1), .ref (q 3), .ref (q 5), .ref (q 7), .ref (q 17), .ref (q 18), .int (nI (1)), .int (nI (lb))])), (q 7, .inl (cT, 3, .inr (.inr (.inr (.inr (va_up (va_up (va_up (fun _ => none) 0 (some (q 8))) 1 (some (q 11))) 2 (some (q 14)))))))), (q 8, .inr (1, [.int (nI (pmN 0)), .int (nI (lg)), .int (nI (N)), .ref (q 9), .ref (q 10), .long (lN (iv2 0))])), (q 9, .inl (cI, M, .inl (nA (rt2 0)))), (q 11, .inr (1, [.int (nI (pmN 1)), .int (nI (lg)), .int (nI (N)), .ref (q 12), .ref (q 13), .long (lN (iv2 1))])), (q 12, .inl (cI, M, .inl (nA (rt2 1)))), (q 14, .inr (1, [.int (nI (pmN 2)), .int (nI (lg)), .int (nI (N)), .ref (q 15), .ref (q 16), .long (lN (iv2 2))])), (q 15, .inl (cI, M, .inl (nA (rt2 2)))), (q 17, .inr (0, [.long (lN (k1)), .long (lN (k2))]))]) (0) (0) := by
  rw [h1 0, h1 1, h1 2, h2 0, h2 1, h2 2, h3, h4]
  exact c_X3_init_ l D cI cT sz q lg N M tb na nb np rd lb j1 j2 fa fb fp sc rt vl iv tp hM hM0 hN2
