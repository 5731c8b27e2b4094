/-! class Row -/
theorem nA_z (cA : ClassId) (n : Nat) : vp_cell cA (n, .inl (nA (fun _ => 0))) = arrV cA n (fun _ => defaultValue .int) := by
  rw [vp_cell_i]
  exact congrArg (arrV cA n) (funext fun j => by show Value.int (nI 0) = .int 0; rw [nI_0])
section KCP
variable {p : Program} {l : Launch} {e : Env} {R : Room} {s : State} {m : MethodId} {args : Array Value} {below : List Frame} {meth : Method} {c : Code} {H : Heap} {locs : List Loc} {cells slots : Nat} {Q : State → Prop}
variable {cc : ByteArray} {pc : Nat} {ls : Array Slot} {rest : List Value} {D : va_G} {A : Nat → Prop} {a : Nat} {tys : List (ClassId × FieldType)} {ws : va_W} {H0 : Heap}
/-- arraycopy of ints in Nat's words -/
theorem kr_copy (hexec : p.tables.exec = Jvm.exec) (hb : c.code = cc) (hml : c.maxLocals = ls.size) {own : String} {index : Nat} (hown : s.vm.findClass own = some m.cls) (hlink : (Cond.methodLink own index arraycopyName).before args s = true) (hnat : (Cond.native arraycopyName).before args s = true) (hstat : (Cond.static arraycopyName).before args s = true) (hini : (Cond.initialized "java/lang/System").before args s = true)
    (hK : va_K D vwCl tys s) (hP : va_P D vwCl ws H) (hD : va_D A ws) (hS : va_S A H0 H locs) (q0 q1 t0 t1 : Nat) {a0 : Nat} {c0 c1 : ClassId} {n0 n1 : Nat} {f g : Nat → Nat} (ha0 : ws[q0]? = some (a0, .inl (c0, n0, .inl (nA f)))) (ha1 : ws[q1]? = some (a, .inl (c1, n1, .inl (nA g)))) (ht0 : tys[t0]? = some (c0, .int)) (ht1 : tys[t1]? = some (c1, .int))
    {sp dp n : Nat} (h1 : sp < 2 ^ 31) (h2 : dp < 2 ^ 31) (h3 : n < 2 ^ 31) (h4 : sp + n ≤ n0) (h5 : dp + n ≤ n1)
    (hframes : 1 ≤ R.frames) (hlocals : (rest.map fun v => v.category).sum + (nativeFrameWords "java/lang/System" "arraycopy" 5 + 11) ≤ R.locals) (hdg : decode cc pc = .ok (.invokestatic index, 3))
    (kk : ∀ (H1 : Heap) (locs1 : List Loc), va_P D vwCl (ws.set q1 (a, .inl (c1, n1, .inl (nA (va_cpy f g sp dp n))))) H1 → va_D A (ws.set q1 (a, .inl (c1, n1, .inl (nA (va_cpy f g sp dp n))))) → va_S A H0 H1 locs1 → W p l e R s m args below meth c H1 locs1 cells slots Q (F0 m (pc + 3) ls rest)) : W p l e R s m args below meth c H locs cells slots Q (F0 m pc ls (.int (nI n) :: .int (nI dp) :: .ref a :: .int (nI sp) :: .ref a0 :: rest)) := by
  refine va_copyi hexec hb hml hown hlink hnat hstat hini hK hP hD hS q0 q1 t0 t1 ha0 ha1 ht0 ht1 rfl (nI_pos h1) (nI_pos h2) (nI_pos h3) (by rw [nI_clamp h1, nI_clamp h3]; exact h4) (by rw [nI_clamp h2, nI_clamp h3]; exact h5) (fun i _ => rfl) hframes hlocals hdg (fun H1 locs1 g1 g2 g3 => ?_)
  rw [nI_clamp h1, nI_clamp h2, nI_clamp h3, nA_cpy] at g1 g2
  exact kk H1 locs1 g1 g2 g3
/-- a new array of ints in Nat's words -/
theorem kr_newa (hexec : p.tables.exec = Jvm.exec) (hb : c.code = cc) (harr : (Cond.arrayClass .int).before args s = true) {cI : ClassId} (hK : va_K D vwCl ((cI, .int) :: tys) s) (hP : va_P D vwCl ws H) (hD : va_D A ws) (hS : va_S A H0 H locs) (hA : ∀ q, H0.size ≤ q → A q)
    {n : Nat} (hn : n ≤ 4096) (hcells : cells + 1 ≤ R.cells) (hslots : slots + n ≤ R.slots) (hdg : decode cc pc = .ok (.newarray .int, 2))
    (kk : ∀ (q : Nat) (H1 : Heap), va_P D vwCl (ws ++ [(q, .inl (cI, n, .inl (nA (fun _ => 0))))]) H1 → va_D A (ws ++ [(q, .inl (cI, n, .inl (nA (fun _ => 0))))]) → va_S A H0 H1 locs →
      W p l e R s m args below meth c H1 locs (cells + 1) (slots + n) Q (F0 m (pc + 2) ls (.ref q :: rest))) : W p l e R s m args below meth c H locs cells slots Q (F0 m pc ls (.int (nI n) :: rest)) := by
  have hb4 : n * componentBytes .int ≤ 536870912 := by
    have e : componentBytes .int = 4 := rfl
    rw [e]
    omega
  refine va_newa (atype := .int) (ty := .int) (N' := n) (a0 := (n, .inl (nA (fun _ => 0)))) hexec hb harr rfl hK hP hD hS hA (fun cA => nA_z cA n) (nI_pos (by omega)) (nI_clamp (by omega)) hb4 hcells hslots hdg (fun q cA H1 hK1 hP1 hD1 hS1 => ?_)
  have h1 := (hK1.2 (tys.length + 1) (cA, .int) (by simp)).2
  have h2 := (hK.2 0 (cI, .int) rfl).2
  have hcA : cA = cI := Option.some.inj (h1.symm.trans h2)
  rw [hcA] at hP1 hD1
  exact kk q H1 hP1 hD1 hS1
end KCP
/-- a digit so many times, and room for it -/
def apOk (n u : Nat) (x t : Int32) : Prop := ∃ v k : Nat, x = nI v ∧ v < 32768 ∧ t = nI k ∧ u + k ≤ n
/-- 0, 1, 2 as 0, 1, -1 -/
def cvI (k : Nat) : Int32 := if k = 0 then nI 0 else if k = 1 then nI 1 else (-1)
set_option maxHeartbeats 4000000 in
set_option maxRecDepth 100000 in
theorem c_X2_init (l : Launch) (D : va_G) (cI cT : ClassId) (sz : Nat) (h n : Nat) (hn : n ≤ 4096) : kMv (S := Nat) l yX2_init wsX2_init { frames := 1, cells := 1, slots := n, locals := 20 } D [(cI, .int), (cT, .object RX1)] [(h, .inr (2, [.null, .int (nI (0))]))] sz (fun _ => True) [.ref h, .int (nI (n))] (fun _ => True) (fun q => [(h, .inr (2, [.ref q, .int (nI (0))])), (q, .inl (cI, n, .inl (nA (fun _ => 0))))]) (1) (n) := by
  refine kM_of (Qc := fun A => va_Qv (S := Nat) (fun _ => True) (kB D A (fun q => [(h, .inr (2, [.ref q, .int (nI (0))])), (q, .inl (cI, n, .inl (nA (fun _ => 0))))])) A) (cc := cX2_init) (maxL := 2) (ret := none) (by decide +kernel) rfl (Nat.le_of_ble_eq_true rfl) ?_
  intro p e s m below meth c A ls hC0 hr hlk hin hP hK hD hA hS hE hAe hsz hl
  obtain ⟨hx, hb, hml, hown, hts⟩ := id hC0
  have hl : lv_has ls 2 [(0, .ref h), (1, .int (nI (n)))] := hl
  refine lv_aload_n hx hb dX2_init_0 rfl (lv_at hl 0 rfl) ?_
  refine W.objInit hx hb hown (hts (.methodLink RX2 3 objectInit) (by decide +kernel)) (hts (.instanceMethod objectInit) (by decide +kernel)) (hts _ (List.mem_of_getElem? (i := 3) rfl)) rfl (by rw [hml]; exact hl.1) rfl dX2_init_1 (Nat.le_of_ble_eq_true rfl) (Nat.le_of_ble_eq_true rfl) ?_
  refine W.eq (g2 := F0 m 4 ls []) rfl ?_
  refine lv_aload_n hx hb dX2_init_4 rfl (lv_at hl 0 rfl) ?_
  refine lv_iload_n hx hb dX2_init_5 rfl (lv_at hl 1 rfl) ?_
  refine kr_newa hx hb (hts (.arrayClass .int) (by decide +kernel)) hK hP hD hS hA (by omega) (by show _ ≤ 1; omega) (by show _ ≤ n; omega) dX2_init_6 (fun q H hP hD hS => ?_)
  have hP : va_P D vwCl [(h, .inr (2, [.null, .int (nI (0))])), (q, .inl (cI, n, .inl (nA (fun _ => 0))))] H := hP
  have hD : va_D A [(h, .inr (2, [.null, .int (nI (0))])), (q, .inl (cI, n, .inl (nA (fun _ => 0))))] := hD
  refine W.widen (k := 1) (n := n) (by omega) (by omega) ?_
  refine va_putF (D := D) (ci := 2) (v := .ref q) (ty := .array .int) (C := RX2) (T := TX2) (N := 2) hx hb hts inX2_X2_init tyX2 tyX2_ok nmX2 hown hK hP hD hS 0 rfl rfl 0 (by decide) (hts (.fieldLink RX2 9 "TransformProduct$Row" "cells" "[I") (by decide +kernel)) (fun _ h9 => h9) rfl hin rfl (by decide +kernel) rfl rfl (Nat.le_of_ble_eq_true rfl) dX2_init_8 (fun H locs hP hD hS => ?_)
  have hP : va_P D vwCl [(h, .inr (2, [.ref q, .int (nI (0))])), (q, .inl (cI, n, .inl (nA (fun _ => 0))))] H := hP
  have hD : va_D A [(h, .inr (2, [.ref q, .int (nI (0))])), (q, .inl (cI, n, .inl (nA (fun _ => 0))))] := hD
  refine lv_aload_n hx hb dX2_init_11 rfl (lv_at hl 0 rfl) ?_
  refine lv_iconst (v := nI 0) hx hb dX2_init_12 (by decide) ?_
  refine va_put (D := D) (ci := 2) (v := .int (nI (0))) (ty := .int) (C := RX2) (T := TX2) (N := 2) hx hb hts inX2_X2_init tyX2 tyX2_ok nmX2 hown hK hP hD hS 0 rfl rfl 1 (by decide) (hts (.fieldLink RX2 15 "TransformProduct$Row" "used" "I") (by decide +kernel)) (fun _ h9 => h9) rfl (by decide +kernel) rfl rfl (Nat.le_of_ble_eq_true rfl) dX2_init_13 (fun H locs hP hD hS => ?_)
  have hP : va_P D vwCl [(h, .inr (2, [.ref q, .int (nI (0))])), (q, .inl (cI, n, .inl (nA (fun _ => 0))))] H := hP
  have hD : va_D A [(h, .inr (2, [.ref q, .int (nI (0))])), (q, .inl (cI, n, .inl (nA (fun _ => 0))))] := hD
  exact kr_vret q hx hb hr hlk hP hD hS trivial dX2_init_16
set_option maxHeartbeats 4000000 in
set_option maxRecDepth 100000 in
theorem c_X2_count (l : Launch) (D : va_G) (cI cT : ClassId) (sz : Nat) (h q n u : Nat) (f : Nat → Nat) : kMi (S := Unit) l yX2_count wsX2_count { frames := 0, cells := 0, slots := 0, locals := 0 } D [(cI, .int), (cT, .object RX1)] [(h, .inr (2, [.ref q, .int (nI (u))])), (q, .inl (cI, n, .inl (nA (f))))] sz (fun _ => True) [.ref h] (fun r _ => r = nI u) (fun _ => [(h, .inr (2, [.ref q, .int (nI (u))])), (q, .inl (cI, n, .inl (nA (f))))]) (0) (0) := by
  refine kM_of (Qc := fun A => va_Qi (S := Unit) (fun r _ => r = nI u) (kB D A (fun _ => [(h, .inr (2, [.ref q, .int (nI (u))])), (q, .inl (cI, n, .inl (nA (f))))])) A) (cc := cX2_count) (maxL := 1) (ret := (some .int)) (by decide +kernel) rfl (Nat.le_of_ble_eq_true rfl) ?_
  intro p e s m below meth c A ls hC0 hr hlk hin hP hK hD hA hS hE hAe hsz hl
  obtain ⟨hx, hb, hml, hown, hts⟩ := id hC0
  have hl : lv_has ls 1 [(0, .ref h)] := hl
  refine lv_aload_n hx hb dX2_count_0 rfl (lv_at hl 0 rfl) ?_
  refine va_get (D := D) (ci := 2) (v := .int (nI (u))) (C := RX2) (T := TX2) (N := 2) hx hb hts inX2_X2_count hown hK hP 0 rfl rfl 1 (by decide) (hts (.fieldLink RX2 15 "TransformProduct$Row" "used" "I") (by decide +kernel)) (fun _ h9 => h9) rfl dX2_count_1 ?_
  exact kr_iret () hx hb hr hlk hP hD hS rfl dX2_count_4
set_option maxHeartbeats 4000000 in
set_option maxRecDepth 100000 in
theorem c_X2_at (l : Launch) (D : va_G) (cI cT : ClassId) (sz : Nat) (h q n u : Nat) (f : Nat → Nat) (i : Nat) (hi : i < n) (hn : n < 2 ^ 31) : kMi (S := Unit) l yX2_at wsX2_at { frames := 0, cells := 0, slots := 0, locals := 0 } D [(cI, .int), (cT, .object RX1)] [(h, .inr (2, [.ref q, .int (nI (u))])), (q, .inl (cI, n, .inl (nA (f))))] sz (fun _ => True) [.ref h, .int (nI (i))] (fun r _ => r = nI (f i)) (fun _ => [(h, .inr (2, [.ref q, .int (nI (u))])), (q, .inl (cI, n, .inl (nA (f))))]) (0) (0) := by
  refine kM_of (Qc := fun A => va_Qi (S := Unit) (fun r _ => r = nI (f i)) (kB D A (fun _ => [(h, .inr (2, [.ref q, .int (nI (u))])), (q, .inl (cI, n, .inl (nA (f))))])) A) (cc := cX2_at) (maxL := 2) (ret := (some .int)) (by decide +kernel) rfl (Nat.le_of_ble_eq_true rfl) ?_
  intro p e s m below meth c A ls hC0 hr hlk hin hP hK hD hA hS hE hAe hsz hl
  obtain ⟨hx, hb, hml, hown, hts⟩ := id hC0
  have hl : lv_has ls 2 [(0, .ref h), (1, .int (nI (i)))] := hl
  refine lv_aload_n hx hb dX2_at_0 rfl (lv_at hl 0 rfl) ?_
  refine va_get (D := D) (ci := 2) (v := .ref q) (C := RX2) (T := TX2) (N := 2) hx hb hts inX2_X2_at hown hK hP 0 rfl rfl 0 (by decide) (hts (.fieldLink RX2 9 "TransformProduct$Row" "cells" "[I") (by decide +kernel)) (fun _ h9 => h9) rfl dX2_at_1 ?_
  refine lv_iload_n hx hb dX2_at_4 rfl (lv_at hl 1 rfl) ?_
  refine kr_ld hx hb hK hP 1 0 rfl rfl (by omega) (by omega) dX2_at_5 ?_
  exact kr_iret () hx hb hr hlk hP hD hS rfl dX2_at_6
set_option maxHeartbeats 4000000 in
set_option maxRecDepth 100000 in
theorem c_X2_empty (l : Launch) (D : va_G) (cI cT : ClassId) (sz : Nat) (h q n u : Nat) (f : Nat → Nat) : kMv (S := Unit) l yX2_empty wsX2_empty { frames := 0, cells := 0, slots := 0, locals := 0 } D [(cI, .int), (cT, .object RX1)] [(h, .inr (2, [.ref q, .int (nI (u))])), (q, .inl (cI, n, .inl (nA (f))))] sz (fun _ => True) [.ref h] (fun _ => True) (fun _ => [(h, .inr (2, [.ref q, .int (nI (0))])), (q, .inl (cI, n, .inl (nA (f))))]) (0) (0) := by
  refine kM_of (Qc := fun A => va_Qv (S := Unit) (fun _ => True) (kB D A (fun _ => [(h, .inr (2, [.ref q, .int (nI (0))])), (q, .inl (cI, n, .inl (nA (f))))])) A) (cc := cX2_empty) (maxL := 1) (ret := none) (by decide +kernel) rfl (Nat.le_of_ble_eq_true rfl) ?_
  intro p e s m below meth c A ls hC0 hr hlk hin hP hK hD hA hS hE hAe hsz hl
  obtain ⟨hx, hb, hml, hown, hts⟩ := id hC0
  have hl : lv_has ls 1 [(0, .ref h)] := hl
  refine lv_aload_n hx hb dX2_empty_0 rfl (lv_at hl 0 rfl) ?_
  refine lv_iconst (v := nI 0) hx hb dX2_empty_1 (by decide) ?_
  refine va_put (D := D) (ci := 2) (v := .int (nI (0))) (ty := .int) (C := RX2) (T := TX2) (N := 2) hx hb hts inX2_X2_empty tyX2 tyX2_ok nmX2 hown hK hP hD hS 0 rfl rfl 1 (by decide) (hts (.fieldLink RX2 15 "TransformProduct$Row" "used" "I") (by decide +kernel)) (fun _ h9 => h9) rfl (by decide +kernel) rfl rfl (Nat.le_of_ble_eq_true rfl) dX2_empty_2 (fun H locs hP hD hS => ?_)
  have hP : va_P D vwCl [(h, .inr (2, [.ref q, .int (nI (0))])), (q, .inl (cI, n, .inl (nA (f))))] H := hP
  have hD : va_D A [(h, .inr (2, [.ref q, .int (nI (0))])), (q, .inl (cI, n, .inl (nA (f))))] := hD
  exact kr_vret () hx hb hr hlk hP hD hS trivial dX2_empty_5
set_option maxHeartbeats 4000000 in
set_option maxRecDepth 100000 in
theorem c_X2_append (l : Launch) (D : va_G) (cI cT : ClassId) (sz : Nat) (h q n u : Nat) (f : Nat → Nat) (v k : Nat) (hv : v < 32768) (hk : u + k ≤ n) (hn : n < 2 ^ 31) : kMi (S := Unit) l yX2_append wsX2_append { frames := 2, cells := 0, slots := 0, locals := 46 } D [(cI, .int), (cT, .object RX1)] [(h, .inr (2, [.ref q, .int (nI (u))])), (q, .inl (cI, n, .inl (nA (f))))] sz (fun _ => True) [.ref h, .int (nI (v)), .int (nI (k))] (fun r _ => r = nI 1) (fun _ => [(h, .inr (2, [.ref q, .int (nI (u + k))])), (q, .inl (cI, n, .inl (nA (flN f u v k))))]) (0) (0) := by
  refine kM_of (Qc := fun A => va_Qi (S := Unit) (fun r _ => r = nI 1) (kB D A (fun _ => [(h, .inr (2, [.ref q, .int (nI (u + k))])), (q, .inl (cI, n, .inl (nA (flN f u v k))))])) A) (cc := cX2_append) (maxL := 3) (ret := (some .boolean)) (by decide +kernel) rfl (Nat.le_of_ble_eq_true rfl) ?_
  intro p e s m below meth c A ls hC0 hr hlk hin hP hK hD hA hS hE hAe hsz hl
  obtain ⟨hx, hb, hml, hown, hts⟩ := id hC0
  have hl : lv_has ls 3 [(0, .ref h), (1, .int (nI (v))), (2, .int (nI (k)))] := hl
  refine lv_iload_n hx hb dX2_append_0 rfl (lv_at hl 1 rfl) ?_
  refine kr_lt0 (tgt := 28) hx hb dX2_append_1 (by decide) (by omega) ?_
  refine lv_iload_n hx hb dX2_append_4 rfl (lv_at hl 1 rfl) ?_
  refine lv_ldc hx hb hown (hts (.constant RX2 19 (32768)) (by decide +kernel)) dX2_append_5 ?_
  refine kr_i (show (32768 : Int32) = nI 32768 by decide) ?_
  refine kr_ge (tgt := 28) hx hb dX2_append_7 (by decide) (by omega) (by omega) (fun hc => ?_) (fun hc => ?_)
  · exact absurd hc (by omega)
  · refine lv_iload_n hx hb dX2_append_10 rfl (lv_at hl 2 rfl) ?_
    refine kr_lt0 (tgt := 28) hx hb dX2_append_11 (by decide) (by omega) ?_
    refine lv_iload_n hx hb dX2_append_14 rfl (lv_at hl 2 rfl) ?_
    refine lv_aload_n hx hb dX2_append_15 rfl (lv_at hl 0 rfl) ?_
    refine va_get (D := D) (ci := 2) (v := .ref q) (C := RX2) (T := TX2) (N := 2) hx hb hts inX2_X2_append hown hK hP 0 rfl rfl 0 (by decide) (hts (.fieldLink RX2 9 "TransformProduct$Row" "cells" "[I") (by decide +kernel)) (fun _ h9 => h9) rfl dX2_append_16 ?_
    refine va_alen (v := nI (n)) hx hb hK hP 1 0 rfl rfl rfl dX2_append_19 ?_
    refine lv_aload_n hx hb dX2_append_20 rfl (lv_at hl 0 rfl) ?_
    refine va_get (D := D) (ci := 2) (v := .int (nI (u))) (C := RX2) (T := TX2) (N := 2) hx hb hts inX2_X2_append hown hK hP 0 rfl rfl 1 (by decide) (hts (.fieldLink RX2 15 "TransformProduct$Row" "used" "I") (by decide +kernel)) (fun _ h9 => h9) rfl dX2_append_21 ?_
    refine lv_isub hx hb dX2_append_24 ?_
    refine kr_i (pk_sub (by omega)) ?_
    refine kr_le (tgt := 30) hx hb dX2_append_25 (by decide) (by omega) (by omega) (fun hc => ?_) (fun hc => ?_)
    · refine lv_aload_n hx hb dX2_append_30 rfl (lv_at hl 0 rfl) ?_
      refine va_get (D := D) (ci := 2) (v := .ref q) (C := RX2) (T := TX2) (N := 2) hx hb hts inX2_X2_append hown hK hP 0 rfl rfl 0 (by decide) (hts (.fieldLink RX2 9 "TransformProduct$Row" "cells" "[I") (by decide +kernel)) (fun _ h9 => h9) rfl dX2_append_31 ?_
      refine lv_aload_n hx hb dX2_append_34 rfl (lv_at hl 0 rfl) ?_
      refine va_get (D := D) (ci := 2) (v := .int (nI (u))) (C := RX2) (T := TX2) (N := 2) hx hb hts inX2_X2_append hown hK hP 0 rfl rfl 1 (by decide) (hts (.fieldLink RX2 15 "TransformProduct$Row" "used" "I") (by decide +kernel)) (fun _ h9 => h9) rfl dX2_append_35 ?_
      refine lv_aload_n hx hb dX2_append_38 rfl (lv_at hl 0 rfl) ?_
      refine va_get (D := D) (ci := 2) (v := .int (nI (u))) (C := RX2) (T := TX2) (N := 2) hx hb hts inX2_X2_append hown hK hP 0 rfl rfl 1 (by decide) (hts (.fieldLink RX2 15 "TransformProduct$Row" "used" "I") (by decide +kernel)) (fun _ h9 => h9) rfl dX2_append_39 ?_
      refine lv_iload_n hx hb dX2_append_42 rfl (lv_at hl 2 rfl) ?_
      refine lv_iadd hx hb dX2_append_43 ?_
      refine kr_i (nI_add _ _) ?_
      refine lv_iload_n hx hb dX2_append_44 rfl (lv_at hl 1 rfl) ?_
      refine kc_v (wr := [(h, .inr (2, [.ref q, .int (nI (u))]))]) (va_runS (As := [.ref q, .int (nI (u)), .int (nI (u + k)), .int (nI (v))]) (rest := []) hC0 (c_J7_fill l D cI cT s.heap.size q n u k v f (by omega) hn) (va_cwS 4 hts gX2_append_J7_fill_fda19 rfl rfl rfl (by decide +kernel) ⟨Nat.le_of_ble_eq_true rfl, Nat.le_of_ble_eq_true rfl⟩) (kp_S kE_0 (fun _ _ _ => trivial) hK hP hD [1] rfl (by decide)) rfl rfl hl.1 rfl (lv_room (Nat.le_of_ble_eq_true rfl)) dX2_append_45 ⟨Nat.le_of_ble_eq_true rfl, Nat.le_of_ble_eq_true rfl⟩) hP hD hS hA [1] [0] rfl rfl (by decide) (by decide) (fun uu H locs hw hP hD hS => ?_)
      have hP : va_P D vwCl [(h, .inr (2, [.ref q, .int (nI (u))])), (q, .inl (cI, n, .inl (nA (flN f u v k))))] H := hP.sub [0, 1] rfl
      have hD : va_D A [(h, .inr (2, [.ref q, .int (nI (u))])), (q, .inl (cI, n, .inl (nA (flN f u v k))))] := hD.sub [0, 1] (by decide) rfl
      refine lv_aload_n hx hb dX2_append_48 rfl (lv_at hl 0 rfl) ?_
      refine lv_dup hx hb dX2_append_49 rfl ?_
      refine va_get (D := D) (ci := 2) (v := .int (nI (u))) (C := RX2) (T := TX2) (N := 2) hx hb hts inX2_X2_append hown hK hP 0 rfl rfl 1 (by decide) (hts (.fieldLink RX2 15 "TransformProduct$Row" "used" "I") (by decide +kernel)) (fun _ h9 => h9) rfl dX2_append_50 ?_
      refine lv_iload_n hx hb dX2_append_53 rfl (lv_at hl 2 rfl) ?_
      refine lv_iadd hx hb dX2_append_54 ?_
      refine kr_i (nI_add _ _) ?_
      refine va_put (D := D) (ci := 2) (v := .int (nI (u + k))) (ty := .int) (C := RX2) (T := TX2) (N := 2) hx hb hts inX2_X2_append tyX2 tyX2_ok nmX2 hown hK hP hD hS 0 rfl rfl 1 (by decide) (hts (.fieldLink RX2 15 "TransformProduct$Row" "used" "I") (by decide +kernel)) (fun _ h9 => h9) rfl (by decide +kernel) rfl rfl (Nat.le_of_ble_eq_true rfl) dX2_append_55 (fun H locs hP hD hS => ?_)
      have hP : va_P D vwCl [(h, .inr (2, [.ref q, .int (nI (u + k))])), (q, .inl (cI, n, .inl (nA (flN f u v k))))] H := hP
      have hD : va_D A [(h, .inr (2, [.ref q, .int (nI (u + k))])), (q, .inl (cI, n, .inl (nA (flN f u v k))))] := hD
      refine lv_iconst (v := nI 1) hx hb dX2_append_58 (by decide) ?_
      exact kr_zret () hx hb hr hlk rfl hP hD hS rfl dX2_append_59
    · exact absurd hc (by omega)
set_option maxHeartbeats 4000000 in
set_option maxRecDepth 100000 in
theorem c_X2_append_no (l : Launch) (D : va_G) (cI cT : ClassId) (sz : Nat) (h q n u : Nat) (f : Nat → Nat) (x tm : Int32) (hu : u ≤ n) (hno : ¬ apOk n u x tm) (hn : n < 2 ^ 31) : kMi (S := Unit) l yX2_append wsX2_append { frames := 2, cells := 0, slots := 0, locals := 46 } D [(cI, .int), (cT, .object RX1)] [(h, .inr (2, [.ref q, .int (nI (u))])), (q, .inl (cI, n, .inl (nA (f))))] sz (fun _ => True) [.ref h, .int (x), .int (tm)] (fun r _ => r = nI 0) (fun _ => [(h, .inr (2, [.ref q, .int (nI (u))])), (q, .inl (cI, n, .inl (nA (f))))]) (0) (0) := by
  refine kM_of (Qc := fun A => va_Qi (S := Unit) (fun r _ => r = nI 0) (kB D A (fun _ => [(h, .inr (2, [.ref q, .int (nI (u))])), (q, .inl (cI, n, .inl (nA (f))))])) A) (cc := cX2_append) (maxL := 3) (ret := (some .boolean)) (by decide +kernel) rfl (Nat.le_of_ble_eq_true rfl) ?_
  intro p e s m below meth c A ls hC0 hr hlk hin hP hK hD hA hS hE hAe hsz hl
  obtain ⟨hx, hb, hml, hown, hts⟩ := id hC0
  have hl : lv_has ls 3 [(0, .ref h), (1, .int (x)), (2, .int (tm))] := hl
  refine lv_iload_n hx hb dX2_append_0 rfl (lv_at hl 1 rfl) ?_
  refine lv_if_lt (tgt := 28) hx hb dX2_append_1 (by decide) (fun hc => ?_) (fun hc => ?_)
  · refine lv_iconst (v := nI 0) hx hb dX2_append_28 (by decide) ?_
    exact kr_zret () hx hb hr hlk rfl hP hD hS rfl dX2_append_29
  · obtain ⟨v, hv, rfl⟩ := nI_of hc
    refine lv_iload_n hx hb dX2_append_4 rfl (lv_at hl 1 rfl) ?_
    refine lv_ldc hx hb hown (hts (.constant RX2 19 (32768)) (by decide +kernel)) dX2_append_5 ?_
    refine kr_i (show (32768 : Int32) = nI 32768 by decide) ?_
    refine kr_ge (tgt := 28) hx hb dX2_append_7 (by decide) (by omega) (by omega) (fun hc2 => ?_) (fun hc2 => ?_)
    · refine lv_iconst (v := nI 0) hx hb dX2_append_28 (by decide) ?_
      exact kr_zret () hx hb hr hlk rfl hP hD hS rfl dX2_append_29
    · refine lv_iload_n hx hb dX2_append_10 rfl (lv_at hl 2 rfl) ?_
      refine lv_if_lt (tgt := 28) hx hb dX2_append_11 (by decide) (fun hc => ?_) (fun hc => ?_)
      · refine lv_iconst (v := nI 0) hx hb dX2_append_28 (by decide) ?_
        exact kr_zret () hx hb hr hlk rfl hP hD hS rfl dX2_append_29
      · obtain ⟨k, hk, rfl⟩ := nI_of hc
        refine lv_iload_n hx hb dX2_append_14 rfl (lv_at hl 2 rfl) ?_
        refine lv_aload_n hx hb dX2_append_15 rfl (lv_at hl 0 rfl) ?_
        refine va_get (D := D) (ci := 2) (v := .ref q) (C := RX2) (T := TX2) (N := 2) hx hb hts inX2_X2_append hown hK hP 0 rfl rfl 0 (by decide) (hts (.fieldLink RX2 9 "TransformProduct$Row" "cells" "[I") (by decide +kernel)) (fun _ h9 => h9) rfl dX2_append_16 ?_
        refine va_alen (v := nI (n)) hx hb hK hP 1 0 rfl rfl rfl dX2_append_19 ?_
        refine lv_aload_n hx hb dX2_append_20 rfl (lv_at hl 0 rfl) ?_
        refine va_get (D := D) (ci := 2) (v := .int (nI (u))) (C := RX2) (T := TX2) (N := 2) hx hb hts inX2_X2_append hown hK hP 0 rfl rfl 1 (by decide) (hts (.fieldLink RX2 15 "TransformProduct$Row" "used" "I") (by decide +kernel)) (fun _ h9 => h9) rfl dX2_append_21 ?_
        refine lv_isub hx hb dX2_append_24 ?_
        refine kr_i (pk_sub (by omega)) ?_
        refine kr_le (tgt := 30) hx hb dX2_append_25 (by decide) (by omega) (by omega) (fun hc => ?_) (fun hc => ?_)
        · exact absurd ⟨v, k, rfl, hc2, rfl, by omega⟩ hno
        · refine lv_iconst (v := nI 0) hx hb dX2_append_28 (by decide) ?_
          exact kr_zret () hx hb hr hlk rfl hP hD hS rfl dX2_append_29
set_option maxHeartbeats 4000000 in
set_option maxRecDepth 100000 in
theorem c_X2_copyFrom (l : Launch) (D : va_G) (cI cT : ClassId) (sz : Nat) (h q n u : Nat) (f : Nat → Nat) (g r n2 u2 : Nat) (f2 : Nat → Nat) (h1 : u2 ≤ n) (h2 : u2 ≤ n2) (h3 : n < 2 ^ 31) : kMv (S := Unit) l yX2_copyFrom wsX2_copyFrom { frames := 1, cells := 0, slots := 0, locals := 40 } D [(cI, .int), (cT, .object RX1)] [(h, .inr (2, [.ref q, .int (nI (u))])), (q, .inl (cI, n, .inl (nA (f)))), (g, .inr (2, [.ref r, .int (nI (u2))])), (r, .inl (cI, n2, .inl (nA (f2))))] sz (fun _ => True) [.ref h, .ref g] (fun _ => True) (fun _ => [(h, .inr (2, [.ref q, .int (nI (u2))])), (q, .inl (cI, n, .inl (nA (va_cpy f2 f 0 0 u2)))), (g, .inr (2, [.ref r, .int (nI (u2))])), (r, .inl (cI, n2, .inl (nA (f2))))]) (0) (0) := by
  refine kM_of (Qc := fun A => va_Qv (S := Unit) (fun _ => True) (kB D A (fun _ => [(h, .inr (2, [.ref q, .int (nI (u2))])), (q, .inl (cI, n, .inl (nA (va_cpy f2 f 0 0 u2)))), (g, .inr (2, [.ref r, .int (nI (u2))])), (r, .inl (cI, n2, .inl (nA (f2))))])) A) (cc := cX2_copyFrom) (maxL := 2) (ret := none) (by decide +kernel) rfl (Nat.le_of_ble_eq_true rfl) ?_
  intro p e s m below meth c A ls hC0 hr hlk hin hP hK hD hA hS hE hAe hsz hl
  obtain ⟨hx, hb, hml, hown, hts⟩ := id hC0
  have hl : lv_has ls 2 [(0, .ref h), (1, .ref g)] := hl
  refine lv_aload_n hx hb dX2_copyFrom_0 rfl (lv_at hl 1 rfl) ?_
  refine va_get (D := D) (ci := 2) (v := .ref r) (C := RX2) (T := TX2) (N := 2) hx hb hts inX2_X2_copyFrom hown hK hP 2 rfl rfl 0 (by decide) (hts (.fieldLink RX2 9 "TransformProduct$Row" "cells" "[I") (by decide +kernel)) (fun _ h9 => h9) rfl dX2_copyFrom_1 ?_
  refine lv_iconst (v := nI 0) hx hb dX2_copyFrom_4 (by decide) ?_
  refine lv_aload_n hx hb dX2_copyFrom_5 rfl (lv_at hl 0 rfl) ?_
  refine va_get (D := D) (ci := 2) (v := .ref q) (C := RX2) (T := TX2) (N := 2) hx hb hts inX2_X2_copyFrom hown hK hP 0 rfl rfl 0 (by decide) (hts (.fieldLink RX2 9 "TransformProduct$Row" "cells" "[I") (by decide +kernel)) (fun _ h9 => h9) rfl dX2_copyFrom_6 ?_
  refine lv_iconst (v := nI 0) hx hb dX2_copyFrom_9 (by decide) ?_
  refine lv_aload_n hx hb dX2_copyFrom_10 rfl (lv_at hl 1 rfl) ?_
  refine va_get (D := D) (ci := 2) (v := .int (nI (u2))) (C := RX2) (T := TX2) (N := 2) hx hb hts inX2_X2_copyFrom hown hK hP 2 rfl rfl 1 (by decide) (hts (.fieldLink RX2 15 "TransformProduct$Row" "used" "I") (by decide +kernel)) (fun _ h9 => h9) rfl dX2_copyFrom_11 ?_
  refine kr_copy hx hb (hml.trans hl.1.symm) hown (hts (.methodLink RX2 26 arraycopyName) (by decide +kernel)) (hts (.native arraycopyName) (by decide +kernel)) (hts (.static arraycopyName) (by decide +kernel)) (hts (.initialized "java/lang/System") (by decide +kernel)) hK hP hD hS 3 1 0 0 rfl rfl rfl rfl (by omega) (by omega) (by omega) (by omega) (by omega) (Nat.le_of_ble_eq_true rfl) (Nat.le_of_ble_eq_true rfl) dX2_copyFrom_14 (fun H locs hP hD hS => ?_)
  have hP : va_P D vwCl [(h, .inr (2, [.ref q, .int (nI (u))])), (q, .inl (cI, n, .inl (nA (va_cpy f2 f 0 0 u2)))), (g, .inr (2, [.ref r, .int (nI (u2))])), (r, .inl (cI, n2, .inl (nA (f2))))] H := hP
  have hD : va_D A [(h, .inr (2, [.ref q, .int (nI (u))])), (q, .inl (cI, n, .inl (nA (va_cpy f2 f 0 0 u2)))), (g, .inr (2, [.ref r, .int (nI (u2))])), (r, .inl (cI, n2, .inl (nA (f2))))] := hD
  refine lv_aload_n hx hb dX2_copyFrom_17 rfl (lv_at hl 0 rfl) ?_
  refine lv_aload_n hx hb dX2_copyFrom_18 rfl (lv_at hl 1 rfl) ?_
  refine va_get (D := D) (ci := 2) (v := .int (nI (u2))) (C := RX2) (T := TX2) (N := 2) hx hb hts inX2_X2_copyFrom hown hK hP 2 rfl rfl 1 (by decide) (hts (.fieldLink RX2 15 "TransformProduct$Row" "used" "I") (by decide +kernel)) (fun _ h9 => h9) rfl dX2_copyFrom_19 ?_
  refine va_put (D := D) (ci := 2) (v := .int (nI (u2))) (ty := .int) (C := RX2) (T := TX2) (N := 2) hx hb hts inX2_X2_copyFrom tyX2 tyX2_ok nmX2 hown hK hP hD hS 0 rfl rfl 1 (by decide) (hts (.fieldLink RX2 15 "TransformProduct$Row" "used" "I") (by decide +kernel)) (fun _ h9 => h9) rfl (by decide +kernel) rfl rfl (Nat.le_of_ble_eq_true rfl) dX2_copyFrom_22 (fun H locs hP hD hS => ?_)
  have hP : va_P D vwCl [(h, .inr (2, [.ref q, .int (nI (u2))])), (q, .inl (cI, n, .inl (nA (va_cpy f2 f 0 0 u2)))), (g, .inr (2, [.ref r, .int (nI (u2))])), (r, .inl (cI, n2, .inl (nA (f2))))] H := hP
  have hD : va_D A [(h, .inr (2, [.ref q, .int (nI (u2))])), (q, .inl (cI, n, .inl (nA (va_cpy f2 f 0 0 u2)))), (g, .inr (2, [.ref r, .int (nI (u2))])), (r, .inl (cI, n2, .inl (nA (f2))))] := hD
  exact kr_vret () hx hb hr hlk hP hD hS trivial dX2_copyFrom_25
set_option maxHeartbeats 4000000 in
set_option maxRecDepth 100000 in
theorem lp_sig {p : Program} {l : Launch} {e : Env} {R : Room} {s : State} {m : MethodId} {args : Array Value} {below : List Frame} {meth : Method} {c : Code} {cells slots : Nat} {Q : State → Prop} {A : Nat → Prop} {H0 : Heap} {D : va_G} {cI cT : ClassId} (h q n u : Nat) (f : Nat → Nat) (hf : ∀ i, i < u → f i < 2 ^ 31) (hu : u ≤ n) (hn : n < 2 ^ 31) (r : Nat) (hC0 : CallFix p m c cX2_significant 2 s args wsX2_significant RX2) (hK : va_K D vwCl [(cI, .int), (cT, .object RX1)] s)
    (k1 : ∀ (j : Nat) (H : Heap) (locs : List Loc) (ls : Array Slot), r = j + 1 → va_P D vwCl [(h, .inr (2, [.ref q, .int (nI (u))])), (q, .inl (cI, n, .inl (nA (f))))] H → va_D A [(h, .inr (2, [.ref q, .int (nI (u))])), (q, .inl (cI, n, .inl (nA (f))))] → va_S A H0 H locs → lv_has ls 2 [(1, .int (nI (j + 1))), (0, .ref h)] → W p l e R s m args below meth c H locs cells slots Q (F0 m 20 ls []))
    (k0 : ∀ (H : Heap) (locs : List Loc) (ls : Array Slot), r = 0 → va_P D vwCl [(h, .inr (2, [.ref q, .int (nI (u))])), (q, .inl (cI, n, .inl (nA (f))))] H → va_D A [(h, .inr (2, [.ref q, .int (nI (u))])), (q, .inl (cI, n, .inl (nA (f))))] → va_S A H0 H locs → lv_has ls 2 [(1, .int (nI (0))), (0, .ref h)] → W p l e R s m args below meth c H locs cells slots Q (F0 m 28 ls [])) :
    ∀ (k : Nat) (H : Heap) (locs : List Loc) (ls : Array Slot), trN f k = r → k ≤ u → va_P D vwCl [(h, .inr (2, [.ref q, .int (nI (u))])), (q, .inl (cI, n, .inl (nA (f))))] H → va_D A [(h, .inr (2, [.ref q, .int (nI (u))])), (q, .inl (cI, n, .inl (nA (f))))] → va_S A H0 H locs → lv_has ls 2 [(1, .int (nI (k))), (0, .ref h)] → W p l e R s m args below meth c H locs cells slots Q (F0 m 5 ls []) := by
  obtain ⟨hx, hb, hml, hown, hts⟩ := id hC0
  intro k
  induction k with
  | zero =>
    intro H locs ls hk hkn hP hD hS hl
    refine lv_iload_n hx hb dX2_significant_5 rfl (lv_at hl 0 rfl) ?_
    refine kr_le0 (tgt := 28) hx hb dX2_significant_6 (by decide) (by omega) (fun hc => ?_) (fun hc => ?_)
    · exact k0 H locs ls hk.symm hP hD hS hl
    · exact absurd hc (by omega)
  | succ k ih =>
    intro H locs ls hk hkn hP hD hS hl
    have hfb : f k < 2 ^ 31 := hf k (by omega)
    refine lv_iload_n hx hb dX2_significant_5 rfl (lv_at hl 0 rfl) ?_
    refine kr_le0 (tgt := 28) hx hb dX2_significant_6 (by decide) (by omega) (fun hc => ?_) (fun hc => ?_)
    · exact absurd hc (by omega)
    · refine lv_aload_n hx hb dX2_significant_9 rfl (lv_at hl 1 rfl) ?_
      refine va_get (D := D) (ci := 2) (v := .ref q) (C := RX2) (T := TX2) (N := 2) hx hb hts inX2_X2_significant hown hK hP 0 rfl rfl 0 (by decide) (hts (.fieldLink RX2 9 "TransformProduct$Row" "cells" "[I") (by decide +kernel)) (fun _ h9 => h9) rfl dX2_significant_10 ?_
      refine lv_iload_n hx hb dX2_significant_13 rfl (lv_at hl 0 rfl) ?_
      refine lv_iconst (v := nI 1) hx hb dX2_significant_14 (by decide) ?_
      refine lv_isub hx hb dX2_significant_15 ?_
      refine kr_i (pk_sub (by omega)) ?_
      refine kr_i (congrArg nI (show (k + 1) - 1 = k from Nat.add_sub_cancel k 1)) ?_
      refine kr_ld hx hb hK hP 1 0 rfl rfl (by omega) (by omega) dX2_significant_16 ?_
      refine kr_eq0 (tgt := 22) hx hb dX2_significant_17 (by decide) hfb (fun hc => ?_) (fun hc => ?_)
      · refine lv_iinc (v := nI (k)) (lv' := [(1, .int (nI (k))), (0, .ref h)]) hx hb dX2_significant_22 hl (k := 0) rfl (by rw [kn_m1]; exact nI_pred k) (by decide) rfl (fun ls hl => ?_)
        refine lv_goto (tgt := 5) hx hb dX2_significant_25 (by decide) ?_
        exact ih H locs ls (by rw [← hk, trN_z hc]) (by omega) hP hD hS hl
      · exact k1 k H locs ls (by rw [← hk, trN_n hc]) hP hD hS hl
set_option maxHeartbeats 4000000 in
set_option maxRecDepth 100000 in
theorem c_X2_significant (l : Launch) (D : va_G) (cI cT : ClassId) (sz : Nat) (h q n u : Nat) (f : Nat → Nat) (hf : ∀ i, i < u → f i < 2 ^ 31) (hu : u ≤ n) (hn : n < 2 ^ 31) : kMi (S := Unit) l yX2_significant wsX2_significant { frames := 0, cells := 0, slots := 0, locals := 0 } D [(cI, .int), (cT, .object RX1)] [(h, .inr (2, [.ref q, .int (nI (u))])), (q, .inl (cI, n, .inl (nA (f))))] sz (fun _ => True) [.ref h] (fun r _ => r = nI (trN f u)) (fun _ => [(h, .inr (2, [.ref q, .int (nI (u))])), (q, .inl (cI, n, .inl (nA (f))))]) (0) (0) := by
  refine kM_of (Qc := fun A => va_Qi (S := Unit) (fun r _ => r = nI (trN f u)) (kB D A (fun _ => [(h, .inr (2, [.ref q, .int (nI (u))])), (q, .inl (cI, n, .inl (nA (f))))])) A) (cc := cX2_significant) (maxL := 2) (ret := (some .int)) (by decide +kernel) rfl (Nat.le_of_ble_eq_true rfl) ?_
  intro p e s m below meth c A ls hC0 hr hlk hin hP hK hD hA hS hE hAe hsz hl
  obtain ⟨hx, hb, hml, hown, hts⟩ := id hC0
  have hl : lv_has ls 2 [(0, .ref h)] := hl
  refine lv_aload_n hx hb dX2_significant_0 rfl (lv_at hl 0 rfl) ?_
  refine va_get (D := D) (ci := 2) (v := .int (nI (u))) (C := RX2) (T := TX2) (N := 2) hx hb hts inX2_X2_significant hown hK hP 0 rfl rfl 1 (by decide) (hts (.fieldLink RX2 15 "TransformProduct$Row" "used" "I") (by decide +kernel)) (fun _ h9 => h9) rfl dX2_significant_1 ?_
  refine lv_istore_n (lv' := [(1, .int (nI (u))), (0, .ref h)]) hx hb dX2_significant_4 rfl hl (by decide) rfl (fun ls hl => ?_)
  refine lp_sig h q n u f hf hu hn (trN f u) hC0 hK (fun j H locs ls hj hP hD hS hl => ?_) (fun H locs ls hj hP hD hS hl => ?_) u s.heap [] ls rfl (Nat.le_refl _) hP hD hS (lv_sub hl [0, 1] rfl)
  · refine lv_iload_n hx hb dX2_significant_20 rfl (lv_at hl 0 rfl) ?_
    exact kr_iret () hx hb hr hlk hP hD hS (by rw [hj]) dX2_significant_21
  · refine lv_iconst (v := nI 0) hx hb dX2_significant_28 (by decide) ?_
    exact kr_iret () hx hb hr hlk hP hD hS (by rw [hj]) dX2_significant_29
set_option maxHeartbeats 4000000 in
set_option maxRecDepth 100000 in
theorem c_X2_trim (l : Launch) (D : va_G) (cI cT : ClassId) (sz : Nat) (h q n u : Nat) (f : Nat → Nat) (hf : ∀ i, i < u → f i < 2 ^ 31) (hu : u ≤ n) (hn : n < 2 ^ 31) : kMv (S := Unit) l yX2_trim wsX2_trim { frames := 1, cells := 0, slots := 0, locals := 21 } D [(cI, .int), (cT, .object RX1)] [(h, .inr (2, [.ref q, .int (nI (u))])), (q, .inl (cI, n, .inl (nA (f))))] sz (fun _ => True) [.ref h] (fun _ => True) (fun _ => [(h, .inr (2, [.ref q, .int (nI (trN f u))])), (q, .inl (cI, n, .inl (nA (f))))]) (0) (0) := by
  refine kM_of (Qc := fun A => va_Qv (S := Unit) (fun _ => True) (kB D A (fun _ => [(h, .inr (2, [.ref q, .int (nI (trN f u))])), (q, .inl (cI, n, .inl (nA (f))))])) A) (cc := cX2_trim) (maxL := 1) (ret := none) (by decide +kernel) rfl (Nat.le_of_ble_eq_true rfl) ?_
  intro p e s m below meth c A ls hC0 hr hlk hin hP hK hD hA hS hE hAe hsz hl
  obtain ⟨hx, hb, hml, hown, hts⟩ := id hC0
  have hl : lv_has ls 1 [(0, .ref h)] := hl
  refine lv_aload_n hx hb dX2_trim_0 rfl (lv_at hl 0 rfl) ?_
  refine lv_aload_n hx hb dX2_trim_1 rfl (lv_at hl 0 rfl) ?_
  refine kc_i (wr := []) (va_runV (As := []) (rest := [.ref h]) hC0 (c_X2_significant l D cI cT s.heap.size h q n u f hf hu hn) (cwV 0 hts gX2_trim_X2_significant rfl rfl rfl (by decide +kernel) ⟨Nat.le_of_ble_eq_true rfl, Nat.le_of_ble_eq_true rfl⟩) (kp_V (ci := 2) (k0 := 0) kE_0 (fun _ _ _ => trivial) hK hP hD [0, 1] rfl (by decide) rfl rfl) rfl rfl hl.1 rfl (lv_room (Nat.le_of_ble_eq_true rfl)) dX2_trim_2 ⟨Nat.le_of_ble_eq_true rfl, Nat.le_of_ble_eq_true rfl⟩) hP hD hS hA [0, 1] [] rfl rfl (by decide) (by decide) (fun rr uu H locs hw hP hD hS => ?_)
  subst hw
  have hP : va_P D vwCl [(h, .inr (2, [.ref q, .int (nI (u))])), (q, .inl (cI, n, .inl (nA (f))))] H := hP.sub [0, 1] rfl
  have hD : va_D A [(h, .inr (2, [.ref q, .int (nI (u))])), (q, .inl (cI, n, .inl (nA (f))))] := hD.sub [0, 1] (by decide) rfl
  refine va_put (D := D) (ci := 2) (v := .int (nI (trN f u))) (ty := .int) (C := RX2) (T := TX2) (N := 2) hx hb hts inX2_X2_trim tyX2 tyX2_ok nmX2 hown hK hP hD hS 0 rfl rfl 1 (by decide) (hts (.fieldLink RX2 15 "TransformProduct$Row" "used" "I") (by decide +kernel)) (fun _ h9 => h9) rfl (by decide +kernel) rfl rfl (Nat.le_of_ble_eq_true rfl) dX2_trim_5 (fun H locs hP hD hS => ?_)
  have hP : va_P D vwCl [(h, .inr (2, [.ref q, .int (nI (trN f u))])), (q, .inl (cI, n, .inl (nA (f))))] H := hP
  have hD : va_D A [(h, .inr (2, [.ref q, .int (nI (trN f u))])), (q, .inl (cI, n, .inl (nA (f))))] := hD
  exact kr_vret () hx hb hr hlk hP hD hS trivial dX2_trim_8
