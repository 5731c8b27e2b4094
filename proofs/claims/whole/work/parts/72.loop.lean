/-! THE CLAIM OUT OF ONE WALK OF THE LAW'S BODY. Your part is whole_start (and what it stands on); all else here is the same for every law, but numbers. -/
def R_law : String := "TransformProductLaw"
def lw_P (b : Addr) (xs : List Int32) (args : Array Value) (s : State) : Prop := args = #[.ref b] ∧ s.IntsAt b xs ∧ xs.length ≤ 2049 ∧ (Jvm.Cond.and given_1 narrow_1).before args s = true
def lw_Q (_ : Array Value) (s : State) (o : Outcome) (t : State) : Prop := o = .returned (some (.int 1)) ∧ Framed s o t [] 600000 7302249
def lw_Z (below : List Frame) (a : Array Value) (s : State) : State → Prop := fun t => ∃ o, t.status = .running ∧ Ended t below o ∧ lw_Q a s o t
/-- the law's own end, with 1 on the stack, nothing written that was there before, its room as the claim has it -/
theorem lw_ret {p : Program} {l : Launch} {e : Env} {s : State} {m : MethodId} {below : List Frame} {meth : Method} {c : Code} {b : Nat} (hx : p.tables.exec = Jvm.exec) (hb : c.code = code) (hr : meth.sig.returnType = ret) (hlocks : meth.locks = false) {pc : Nat} {H : Heap} {ls : Array Slot} (hdg : decode code pc = .ok (.ireturn, 1)) : W p l e room_1 s m #[Value.ref b] below meth c H [] 600000 7302249 (lw_Z below #[Value.ref b] s) (F0 m pc ls [.int 1]) := by
  intro T hT X
  obtain ⟨fs, hret, hrun, hended, hW, hframe⟩ := X.leave (v := some (.int 1)) (hlocks := hlocks) (fun h => by rw [hr] at h; cases h)
  have hmeth' : T.vm.method? m = some meth := X.method'
  refine ⟨T.setFrames fs, ?_, .returned (some (.int 1)), hrun, hended, rfl, ⟨_, rfl⟩, hW, hframe⟩
  jvm_step X.here [X.here.top, hx, hb, hdg, hmeth', hr, ret, narrow_b1]
  (try refine ⟨rfl, ?_⟩); (try refine ⟨rfl, ?_⟩)
  first | (intro acts; rw [hret _ acts rfl rfl rfl]) | rw [hret _ _ rfl rfl rfl]
  exact Steps.refl _
/-- what holds at the law's entry: the machine, the code, the tables' words (any of lw_tbl by 'hts w (by decide +kernel)'), the script of L ints xs at the cell b, what the Statement gives of the start (any of its parts by flat_of_before) -/
def lw_At (p : Program) (s : State) (m : MethodId) (meth : Method) (c : Code) (b L : Nat) (xs : Nat → Int32) : Prop :=
  p.tables.exec = Jvm.exec ∧ c.code = code ∧ meth.sig.returnType = ret ∧ c.maxLocals = 4 ∧ s.vm.findClass R_law = some m.cls ∧ (∀ w ∈ lw_tbl, w.before #[Value.ref b] s = true) ∧ va_X b L xs s s.heap ∧ b < s.heap.size ∧ meth.locks = false ∧ (Jvm.Cond.and given_1 narrow_1).before #[Value.ref b] s = true
set_option maxHeartbeats 4000000 in
set_option maxRecDepth 100000 in
/-- the law's loop -/
theorem lw_loop {p : Program} {l : Launch} {e : Env} {s : State} {m : MethodId} {below : List Frame} {meth : Method} {c : Code} {A : Nat → Prop} {D : va_G} {cI cT : ClassId} (q g : Nat → Nat) (lg N M tb k tp b L : Nat) (xs : Nat → Int32) (hC0 : CallFix p m c cL_law 4 s #[Value.ref b] wsL_law RL) (hr : meth.sig.returnType = ret) (hlk : meth.locks = false) (hK : va_K D vwCl [(cI, .int), (cT, .object RX1)] s) (hA : ∀ q, s.heap.size ≤ q → A q) (hAh : ∀ q, A q → s.heap.size ≤ q) (hE : kX tp A s) (hX : va_X b L xs s s.heap) (hbl : b < s.heap.size) (hbA : ¬ A b) (hN : 2 ^ (k + 1) = N) (hM : 2 ^ k = M) (hk : k < 10) (hlg : lg = k + 1) (htb : tb = M * lg) (hL : L ≤ 2049) :
    ∀ (nn i : Nat) (na nb np rd lb j1 j2 : Nat) (fa fb fp sc : Nat → Nat) (rt vl : Nat → Nat → Nat) (iv dd ct pp : Nat → Nat) (H : Heap) (locs : List Loc) (ls : Array Slot), L + 4 - i < nn → i ≤ L + 4 → lwI k N M na nb np rd j1 fa fb fp rt iv dd ct pp → va_P D vwCl [(q 0, .inr (3, [.int (nI (N)), .int (nI (tb)), .ref (q 1), .ref (q 3), .ref (q 5), .ref (q 7), .ref (q 17), .ref (q 18), .int (nI (rd)), .int (nI (lb))])), (q 1, .inr (2, [.ref (q 2), .int (nI (na))])), (q 2, .inl (cI, N, .inl (nA (fa)))), (q 3, .inr (2, [.ref (q 4), .int (nI (nb))])), (q 4, .inl (cI, N, .inl (nA (fb)))), (q 5, .inr (2, [.ref (q 6), .int (nI (np))])), (q 6, .inl (cI, N, .inl (nA (fp)))), (q 7, .inl (cT, 3, .inr (.inr (.inr (.inr (va_up (va_up (va_up (fun _ => none) 0 (some (q 8))) 1 (some (q 11))) 2 (some (q 14)))))))), (q 8, .inr (1, [.int (nI (pmN 0)), .int (nI (lg)), .int (nI (N)), .ref (q 9), .ref (q 10), .long (lN (iv 0))])), (q 9, .inl (cI, M, .inl (nA (rt 0)))), (q 10, .inl (cI, N, .inl (nA (vl 0)))), (q 11, .inr (1, [.int (nI (pmN 1)), .int (nI (lg)), .int (nI (N)), .ref (q 12), .ref (q 13), .long (lN (iv 1))])), (q 12, .inl (cI, M, .inl (nA (rt 1)))), (q 13, .inl (cI, N, .inl (nA (vl 1)))), (q 14, .inr (1, [.int (nI (pmN 2)), .int (nI (lg)), .int (nI (N)), .ref (q 15), .ref (q 16), .long (lN (iv 2))])), (q 15, .inl (cI, M, .inl (nA (rt 2)))), (q 16, .inl (cI, N, .inl (nA (vl 2)))), (q 17, .inr (0, [.long (lN (j1)), .long (lN (j2))])), (q 18, .inl (cI, N, .inl (nA (sc)))), (g 0, .inr (4, [.int (nI (lg)), .int (nI (N)), .int (nI (rd)), .ref (g 1), .ref (g 2), .ref (g 3), .int (nI (np)), .int (nI (lb))])), (g 1, .inl (cI, 2048, .inl (nA (dd)))), (g 2, .inl (cI, 2, .inl (nA (ct)))), (g 3, .inl (cI, 2048, .inl (nA (pp))))] H → va_D A [(q 0, .inr (3, [.int (nI (N)), .int (nI (tb)), .ref (q 1), .ref (q 3), .ref (q 5), .ref (q 7), .ref (q 17), .ref (q 18), .int (nI (rd)), .int (nI (lb))])), (q 1, .inr (2, [.ref (q 2), .int (nI (na))])), (q 2, .inl (cI, N, .inl (nA (fa)))), (q 3, .inr (2, [.ref (q 4), .int (nI (nb))])), (q 4, .inl (cI, N, .inl (nA (fb)))), (q 5, .inr (2, [.ref (q 6), .int (nI (np))])), (q 6, .inl (cI, N, .inl (nA (fp)))), (q 7, .inl (cT, 3, .inr (.inr (.inr (.inr (va_up (va_up (va_up (fun _ => none) 0 (some (q 8))) 1 (some (q 11))) 2 (some (q 14)))))))), (q 8, .inr (1, [.int (nI (pmN 0)), .int (nI (lg)), .int (nI (N)), .ref (q 9), .ref (q 10), .long (lN (iv 0))])), (q 9, .inl (cI, M, .inl (nA (rt 0)))), (q 10, .inl (cI, N, .inl (nA (vl 0)))), (q 11, .inr (1, [.int (nI (pmN 1)), .int (nI (lg)), .int (nI (N)), .ref (q 12), .ref (q 13), .long (lN (iv 1))])), (q 12, .inl (cI, M, .inl (nA (rt 1)))), (q 13, .inl (cI, N, .inl (nA (vl 1)))), (q 14, .inr (1, [.int (nI (pmN 2)), .int (nI (lg)), .int (nI (N)), .ref (q 15), .ref (q 16), .long (lN (iv 2))])), (q 15, .inl (cI, M, .inl (nA (rt 2)))), (q 16, .inl (cI, N, .inl (nA (vl 2)))), (q 17, .inr (0, [.long (lN (j1)), .long (lN (j2))])), (q 18, .inl (cI, N, .inl (nA (sc)))), (g 0, .inr (4, [.int (nI (lg)), .int (nI (N)), .int (nI (rd)), .ref (g 1), .ref (g 2), .ref (g 3), .int (nI (np)), .int (nI (lb))])), (g 1, .inl (cI, 2048, .inl (nA (dd)))), (g 2, .inl (cI, 2, .inl (nA (ct)))), (g 3, .inl (cI, 2048, .inl (nA (pp))))] → va_S A s.heap H locs → lv_has ls 4 [(3, .int (nI (i))), (0, .ref b), (1, .ref (q 0)), (2, .ref (g 0))] → W p l e room_1 s m #[Value.ref b] below meth c H locs 100 20000 (lw_Z below #[Value.ref b] s) (F0 m 28 ls []) := by
  obtain ⟨hx, hb, hml, hown, hts⟩ := id hC0
  intro nn
  induction nn with
  | zero => intro i na nb np rd lb j1 j2 fa fb fp sc rt vl iv dd ct pp H locs ls h; exact absurd h (Nat.not_lt_zero _)
  | succ nn ih =>
    intro i na nb np rd lb j1 j2 fa fb fp sc rt vl iv dd ct pp H locs ls hn hj hI hP hD hS hl
    refine lv_iload_n hx hb dL_law_28 rfl (lv_at hl 0 rfl) ?_
    refine lv_aload_n hx hb dL_law_29 rfl (lv_at hl 1 rfl) ?_
    refine kr_slen hx hb hX hbl hbA hS dL_law_30 ?_
    refine lv_iconst (v := nI 4) hx hb dL_law_31 (by decide) ?_
    refine lv_isub hx hb dL_law_32 ?_
    refine lv_icmp_gt (tgt := 435) hx hb dL_law_33 (by decide) (fun hc => ?_) (fun hc => ?_)
    · refine lv_iconst (v := 1) hx hb dL_law_435 (by decide) ?_
      refine va_forget (fun q hq => hAh _ (hS.2.2 q hq)) ?_
      refine W.widen (k := 600000) (n := 7302249) (by omega) (by omega) ?_
      exact lw_ret hx hb hr hlk dL_law_436
    · have hle : i + 4 ≤ L := Nat.le_of_not_lt fun h => hc ((lw_gt (by omega) (by omega)).mpr h)
      refine lv_aload_n hx hb dL_law_36 rfl (lv_at hl 1 rfl) ?_
      refine lv_iload_n hx hb dL_law_37 rfl (lv_at hl 0 rfl) ?_
      refine kr_sld (k := i) hx hb hX hbl hbA hS (by omega) (by omega) dL_law_38 ?_
      refine lv_bipush (v := nI 15) hx hb dL_law_39 (by decide) ?_
      refine lv_iand hx hb dL_law_41 ?_
      obtain ⟨v, hv, hve⟩ := pk_andE (xs i) (m := nI 15) 4 (by decide)
      refine kr_i hve ?_
      have kk : lwK p l e s m below meth c (lw_Z below #[Value.ref b] s) A D cI cT q g lg N M tb k b i := by
        intro na nb np rd lb j1 j2 fa fb fp sc rt vl iv dd ct pp H locs ls hI hP hD hS hl
        refine lv_iinc (v := nI (i + 4)) (lv' := [(3, .int (nI (i + 4))), (0, .ref b), (1, .ref (q 0)), (2, .ref (g 0))]) hx hb dL_law_429 hl (k := 0) rfl (by rw [show Int32.ofInt 4 = nI 4 by decide]; exact nI_add _ _) (by decide) rfl (fun ls hl => ?_)
        refine lv_goto (tgt := 28) hx hb dL_law_432 (by decide) ?_
        exact ih (i + 4) na nb np rd lb j1 j2 fa fb fp sc rt vl iv dd ct pp H locs ls (by omega) (by omega) hI hP hD hS hl
      rcases (show v = 0 ∨ v = 1 ∨ v = 2 ∨ v = 3 ∨ v = 4 ∨ v = 5 ∨ v = 6 ∨ v = 7 ∨ v = 8 ∨ v = 9 ∨ v = 10 ∨ v = 11 ∨ v = 12 ∨ v = 13 ∨ v = 14 ∨ v = 15 by omega) with rfl | rfl | rfl | rfl | rfl | rfl | rfl | rfl | rfl | rfl | rfl | rfl | rfl | rfl | rfl | rfl
      · refine lv_tableIn (off := 74) (tgt := 116) hx hb dL_law_42 (by decide) (by decide) (by decide) (by decide) ?_
        exact lc_0 q g lg N M tb k tp b L xs i hC0 hK hA hE hX hbl hbA hN hM hk hlg htb hL hle na nb np rd lb j1 j2 fa fb fp sc rt vl iv dd ct pp hI kk hP hD hS hl
      · refine lv_tableIn (off := 87) (tgt := 129) hx hb dL_law_42 (by decide) (by decide) (by decide) (by decide) ?_
        exact lc_1 q g lg N M tb k tp b L xs i hC0 hK hA hE hX hbl hbA hN hM hk hlg htb hL hle na nb np rd lb j1 j2 fa fb fp sc rt vl iv dd ct pp hI kk hP hD hS hl
      · refine lv_tableIn (off := 98) (tgt := 140) hx hb dL_law_42 (by decide) (by decide) (by decide) (by decide) ?_
        exact lc_2 q g lg N M tb k tp b L xs i hC0 hK hA hE hX hbl hbA hN hM hk hlg htb hL hle na nb np rd lb j1 j2 fa fb fp sc rt vl iv dd ct pp hI kk hP hD hS hl
      · refine lv_tableIn (off := 121) (tgt := 163) hx hb dL_law_42 (by decide) (by decide) (by decide) (by decide) ?_
        exact lc_3 q g lg N M tb k tp b L xs i hC0 hK hA hE hX hbl hbA hN hM hk hlg htb hL hle na nb np rd lb j1 j2 fa fb fp sc rt vl iv dd ct pp hI kk hP hD hS hl
      · refine lv_tableIn (off := 144) (tgt := 186) hx hb dL_law_42 (by decide) (by decide) (by decide) (by decide) ?_
        exact lc_4 q g lg N M tb k tp b L xs i hC0 hK hA hE hX hbl hbA hN hM hk hlg htb hL hle na nb np rd lb j1 j2 fa fb fp sc rt vl iv dd ct pp hI kk hP hD hS hl
      · refine lv_tableIn (off := 187) (tgt := 229) hx hb dL_law_42 (by decide) (by decide) (by decide) (by decide) ?_
        exact lc_5 q g lg N M tb k tp b L xs i hC0 hK hA hE hX hbl hbA hN hM hk hlg htb hL hle na nb np rd lb j1 j2 fa fb fp sc rt vl iv dd ct pp hI kk hP hD hS hl
      · refine lv_tableIn (off := 200) (tgt := 242) hx hb dL_law_42 (by decide) (by decide) (by decide) (by decide) ?_
        exact lc_6 q g lg N M tb k tp b L xs i hC0 hK hA hE hX hbl hbA hN hM hk hlg htb hL hle na nb np rd lb j1 j2 fa fb fp sc rt vl iv dd ct pp hI kk hP hD hS hl
      · refine lv_tableIn (off := 213) (tgt := 255) hx hb dL_law_42 (by decide) (by decide) (by decide) (by decide) ?_
        exact lc_7 q g lg N M tb k tp b L xs i hC0 hK hA hE hX hbl hbA hN hM hk hlg htb hL hle na nb np rd lb j1 j2 fa fb fp sc rt vl iv dd ct pp hI kk hP hD hS hl
      · refine lv_tableIn (off := 226) (tgt := 268) hx hb dL_law_42 (by decide) (by decide) (by decide) (by decide) ?_
        exact lc_8 q g lg N M tb k tp b L xs i hC0 hK hA hE hX hbl hbA hN hM hk hlg htb hL hle na nb np rd lb j1 j2 fa fb fp sc rt vl iv dd ct pp hI kk hP hD hS hl
      · refine lv_tableIn (off := 249) (tgt := 291) hx hb dL_law_42 (by decide) (by decide) (by decide) (by decide) ?_
        exact lc_9 q g lg N M tb k tp b L xs i hC0 hK hA hE hX hbl hbA hN hM hk hlg htb hL hle na nb np rd lb j1 j2 fa fb fp sc rt vl iv dd ct pp hI kk hP hD hS hl
      · refine lv_tableIn (off := 262) (tgt := 304) hx hb dL_law_42 (by decide) (by decide) (by decide) (by decide) ?_
        exact lc_10 q g lg N M tb k tp b L xs i hC0 hK hA hE hX hbl hbA hN hM hk hlg htb hL hle na nb np rd lb j1 j2 fa fb fp sc rt vl iv dd ct pp hI kk hP hD hS hl
      · refine lv_tableIn (off := 305) (tgt := 347) hx hb dL_law_42 (by decide) (by decide) (by decide) (by decide) ?_
        exact lc_11 q g lg N M tb k tp b L xs i hC0 hK hA hE hX hbl hbA hN hM hk hlg htb hL hle na nb np rd lb j1 j2 fa fb fp sc rt vl iv dd ct pp hI kk hP hD hS hl
      · refine lv_tableIn (off := 328) (tgt := 370) hx hb dL_law_42 (by decide) (by decide) (by decide) (by decide) ?_
        exact lc_12 q g lg N M tb k tp b L xs i hC0 hK hA hE hX hbl hbA hN hM hk hlg htb hL hle na nb np rd lb j1 j2 fa fb fp sc rt vl iv dd ct pp hI kk hP hD hS hl
      · refine lv_tableIn (off := 351) (tgt := 393) hx hb dL_law_42 (by decide) (by decide) (by decide) (by decide) ?_
        exact lc_13 q g lg N M tb k tp b L xs i hC0 hK hA hE hX hbl hbA hN hM hk hlg htb hL hle na nb np rd lb j1 j2 fa fb fp sc rt vl iv dd ct pp hI kk hP hD hS hl
      · refine lv_tableIn (off := 364) (tgt := 406) hx hb dL_law_42 (by decide) (by decide) (by decide) (by decide) ?_
        exact lc_14 q g lg N M tb k tp b L xs i hC0 hK hA hE hX hbl hbA hN hM hk hlg htb hL hle na nb np rd lb j1 j2 fa fb fp sc rt vl iv dd ct pp hI kk hP hD hS hl
      · refine lv_tableOut (tgt := 429) hx hb dL_law_42 (by decide) (by decide) ?_
        exact kk na nb np rd lb j1 j2 fa fb fp sc rt vl iv dd ct pp H locs ls hI hP hD hS hl
