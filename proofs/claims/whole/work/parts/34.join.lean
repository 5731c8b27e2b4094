/-! the primes as the class holds them; class Joiner -/
def pmN (k : Nat) : Nat := if k = 0 then 998244353 else if k = 1 then 167772161 else 469762049
def pmF (k : Nat) : Value := .int (nI (pmN k))
theorem pm_at {k : Nat} (hk : k < 3) : pmF (nI k).toNatClampNeg = .int (nI (pmN k)) := by rw [nI_clamp (by omega)]; rfl
theorem pm_lo (k : Nat) : 100000000 < pmN k := by unfold pmN; split <;> (try split) <;> decide
theorem pm_hi (k : Nat) : pmN k < 1000000000 := by unfold pmN; split <;> (try split) <;> decide
/-- the table of primes, which nobody writes -/
def pmE (tp : Nat) (A : Nat → Prop) (U : State) : Prop := va_Z "TransformProduct" "PRIMES" "[I" (.ref tp) A U U.heap ∧ va_T .int tp 3 pmF A U U.heap
def kX (tp : Nat) (A : Nat → Prop) (U : State) : Prop := pmE tp A U ∧ va_Nw (.fieldLinkNest RX0 16 "TransformProduct" "PRIMES" "[I" "TransformProduct") U ∧ va_Nw (.methodLinkNest RX0 22 yX3_inverse "TransformProduct") U ∧ va_Nw (.methodLinkNest RX1 34 yX3_power "TransformProduct") U ∧ va_Nw (.methodLinkNest RX1 38 yX3_inverse "TransformProduct") U
theorem kE_X (tp : Nat) (A : Nat → Prop) : kE (kX tp A) := by
  intro U V hvm hh h
  obtain ⟨⟨h1, h2⟩, h3, h4, h5, h6⟩ := h
  have al : U.vm.Alike V.vm := by rw [hvm]; exact Vm.Alike.refl _
  refine ⟨⟨?_, ?_⟩, va_Nw.same rfl hvm h3, va_Nw.same rfl hvm h4, va_Nw.same rfl hvm h5, va_Nw.same rfl hvm h6⟩
  · rw [← hh]; exact h1.moved al
  · rw [← hh]; exact h2.moved al
theorem kX_go {tp : Nat} {A B : Nat → Prop} {s : State} {H : Heap} {locs : List Loc} (h : kX tp A s) (hS : va_S A s.heap H locs) (hBA : ∀ q, B q → A q) : ∀ U : State, U.heap = H → s.WarmedH U.vm → kX tp B U := by
  intro U hU hW
  obtain ⟨⟨h1, h2⟩, h3, h4, h5, h6⟩ := h
  refine ⟨⟨?_, ?_⟩, va_Nw.warmF hW h3, va_Nw.warmM hW h4, va_Nw.warmM hW h5, va_Nw.warmM hW h6⟩
  · rw [hU]
    exact ((h1.kept (H1 := H) (fun a g1 g2 => hS.2.1 a g1 g2)).moved hW.alike).narrow hBA
  · rw [hU]
    exact ((h2.kept (H1 := H) (fun a g1 g2 => hS.2.1 a g1 g2)).moved hW.alike).narrow hBA
theorem kl_sub {a b : Nat} (ha : a < 2 ^ 62) (hb : b < 2 ^ 62) : (lN a - lN b).toInt = (a : Int) - b := by
  rw [Jvm.Kit.i64_sub (by rw [pk_lT (by omega), pk_lT (by omega)]; omega) (by rw [pk_lT (by omega), pk_lT (by omega)]; omega), pk_lT (by omega), pk_lT (by omega)]
/-- what the first two primes give -/
theorem jn_1 {c p0 p1 j1 : Nat} (h0 : 0 < p0) (h1 : 1 < p1) (hj : p0 * j1 % p1 = 1) (hc : c < p0 * p1) : ((((c % p1 : Nat) : Int) - (c % p0 : Nat)) % (p1 : Int)).toNat * j1 % p1 = c / p0 := by
  have hq : c / p0 < p1 := Nat.div_lt_of_lt_mul hc
  have a1 := Int.emod_nonneg (((c % p1 : Nat) : Int) - (c % p0 : Nat)) (show (p1 : Int) ≠ 0 by omega)
  refine cgr_unN ?_ (Nat.mod_lt _ (by omega)) hq
  refine cgr_tr (cgr_mdN _ _) ?_
  rw [Int.natCast_mul, Int.toNat_of_nonneg a1]
  have e1 : cgr p1 ((((c % p1 : Nat) : Int) - (c % p0 : Nat)) % (p1 : Int)) ((p0 : Int) * (c / p0 : Nat)) := by
    refine cgr_tr (cgr_md _ _) (cgr_tr (cgr_sb (cgr_mdN p1 c) (cgr_rf _ _)) (cgr_eq ?_))
    have := Nat.mod_add_div c p0
    have h2 : ((c % p0 + p0 * (c / p0) : Nat) : Int) = (c : Int) := by rw [this]
    rw [Int.natCast_add, Int.natCast_mul] at h2
    omega
  have e2 : cgr p1 ((p0 : Int) * (j1 : Int)) 1 := by
    have := cgr_sy (cgr_mdN p1 (p0 * j1))
    rw [hj, Int.natCast_mul] at this
    exact this
  refine cgr_tr (cgr_ml e1 (cgr_rf _ _)) ?_
  have e3 := cgr_ml e2 (cgr_rf (p1 : Int) ((c / p0 : Nat) : Int))
  rw [Int.one_mul] at e3
  refine cgr_tr (cgr_eq ?_) e3
  grind
theorem jn_2 {c p2 : Nat} (h : 1 < p2) : ((((c % p2 : Nat) : Int) - (c : Nat)) % (p2 : Int)).toNat = 0 := by
  have a1 := Int.emod_nonneg (((c % p2 : Nat) : Int) - (c : Nat)) (show (p2 : Int) ≠ 0 by omega)
  have a2 := Int.emod_lt_of_pos (((c % p2 : Nat) : Int) - (c : Nat)) (show (0 : Int) < p2 by omega)
  have e : (((c % p2 : Nat) : Int) - (c : Nat)) % (p2 : Int) = 0 := by
    refine cgr_un (p := (p2 : Int)) (cgr_tr (cgr_md _ _) ?_) a1 a2 (by omega) (by omega)
    refine cgr_tr (cgr_sb (cgr_mdN p2 c) (cgr_rf _ _)) (cgr_eq (by omega))
  omega
theorem inX0_X0_init : ∀ w ∈ wsX00, w ∈ wsX0_init := by decide +kernel
theorem inX0_X0_prepare : ∀ w ∈ wsX00, w ∈ wsX0_prepare := by decide +kernel
theorem inX0_X0_join : ∀ w ∈ wsX00, w ∈ wsX0_join := by decide +kernel
set_option maxHeartbeats 4000000 in
set_option maxRecDepth 100000 in
theorem c_X0_init (l : Launch) (D : va_G) (cI cT : ClassId) (sz : Nat) (h : Nat) : kMv (S := Unit) l yX0_init wsX0_init { frames := 1, cells := 0, slots := 0, locals := 20 } D [(cI, .int), (cT, .object RX1)] [(h, .inr (0, [.long (lN (0)), .long (lN (0))]))] sz (fun _ => True) [.ref h] (fun _ => True) (fun _ => [(h, .inr (0, [.long (lN (0)), .long (lN (0))]))]) (0) (0) := by
  refine kM_of (Qc := fun A => va_Qv (S := Unit) (fun _ => True) (kB D A (fun _ => [(h, .inr (0, [.long (lN (0)), .long (lN (0))]))])) A) (cc := cX0_init) (maxL := 1) (ret := none) (by decide +kernel) rfl (Nat.le_of_ble_eq_true rfl) ?_
  intro p e s m below meth c A ls hC0 hr hlk hin hP hK hD hA hS hE hAe hsz hl
  obtain ⟨hx, hb, hml, hown, hts⟩ := id hC0
  have hl : lv_has ls 1 [(0, .ref h)] := hl
  refine lv_aload_n hx hb dX0_init_0 rfl (lv_at hl 0 rfl) ?_
  refine W.objInit hx hb hown (hts (.methodLink RX0 1 objectInit) (by decide +kernel)) (hts (.instanceMethod objectInit) (by decide +kernel)) (hts _ (List.mem_of_getElem? (i := 3) rfl)) rfl (by rw [hml]; exact hl.1) rfl dX0_init_1 (Nat.le_of_ble_eq_true rfl) (Nat.le_of_ble_eq_true rfl) ?_
  refine W.eq (g2 := F0 m 4 ls []) rfl ?_
  refine lv_aload_n hx hb dX0_init_4 rfl (lv_at hl 0 rfl) ?_
  refine lv_lconst (v := lN 0) hx hb dX0_init_5 (by decide) ?_
  refine va_put (D := D) (ci := 0) (v := .long (lN (0))) (ty := .long) (C := RX0) (T := TX0) (N := 2) hx hb hts inX0_X0_init tyX0 tyX0_ok nmX0 hown hK hP hD hS 0 rfl rfl 0 (by decide) (hts (.fieldLink RX0 7 "TransformProduct$Joiner" "firstInverse" "J") (by decide +kernel)) (fun _ h9 => h9) rfl (by decide +kernel) rfl rfl (Nat.le_of_ble_eq_true rfl) dX0_init_6 (fun H locs hP hD hS => ?_)
  have hP : va_P D vwCl [(h, .inr (0, [.long (lN (0)), .long (lN (0))]))] H := hP
  have hD : va_D A [(h, .inr (0, [.long (lN (0)), .long (lN (0))]))] := hD
  refine lv_aload_n hx hb dX0_init_9 rfl (lv_at hl 0 rfl) ?_
  refine lv_lconst (v := lN 0) hx hb dX0_init_10 (by decide) ?_
  refine va_put (D := D) (ci := 0) (v := .long (lN (0))) (ty := .long) (C := RX0) (T := TX0) (N := 2) hx hb hts inX0_X0_init tyX0 tyX0_ok nmX0 hown hK hP hD hS 0 rfl rfl 1 (by decide) (hts (.fieldLink RX0 13 "TransformProduct$Joiner" "bothInverse" "J") (by decide +kernel)) (fun _ h9 => h9) rfl (by decide +kernel) rfl rfl (Nat.le_of_ble_eq_true rfl) dX0_init_11 (fun H locs hP hD hS => ?_)
  have hP : va_P D vwCl [(h, .inr (0, [.long (lN (0)), .long (lN (0))]))] H := hP
  have hD : va_D A [(h, .inr (0, [.long (lN (0)), .long (lN (0))]))] := hD
  exact kr_vret () hx hb hr hlk hP hD hS trivial dX0_init_14
set_option maxHeartbeats 4000000 in
set_option maxRecDepth 100000 in
theorem c_X0_prepare (l : Launch) (D : va_G) (cI cT : ClassId) (sz : Nat) (tp h j1 j2 : Nat) : kMv (S := Unit) l yX0_prepare wsX0_prepare { frames := 2, cells := 0, slots := 0, locals := 53 } D [(cI, .int), (cT, .object RX1)] [(h, .inr (0, [.long (lN (j1)), .long (lN (j2))]))] sz (kX tp (va_A [(h, .inr (0, [.long (lN (j1)), .long (lN (j2))]))] sz)) [.ref h] (fun _ => True) (fun _ => [(h, .inr (0, [.long (lN (pmN 0 ^ (pmN 1 - 2) % pmN 1)), .long (lN ((pmN 0 * pmN 1) ^ (pmN 2 - 2) % pmN 2))]))]) (0) (0) := by
  refine kM_of (Qc := fun A => va_Qv (S := Unit) (fun _ => True) (kB D A (fun _ => [(h, .inr (0, [.long (lN (pmN 0 ^ (pmN 1 - 2) % pmN 1)), .long (lN ((pmN 0 * pmN 1) ^ (pmN 2 - 2) % pmN 2))]))])) A) (cc := cX0_prepare) (maxL := 1) (ret := none) (by decide +kernel) rfl (Nat.le_of_ble_eq_true rfl) ?_
  intro p e s m below meth c A ls hC0 hr hlk hin hP hK hD hA hS hE hAe hsz hl
  obtain ⟨hx, hb, hml, hown, hts⟩ := id hC0
  have hl : lv_has ls 1 [(0, .ref h)] := hl
  have p0 := pm_lo 0
  have q0 := pm_hi 0
  have p1 := pm_lo 1
  have q1 := pm_hi 1
  have p2 := pm_lo 2
  have q2 := pm_hi 2
  rw [← hsz, ← hAe] at hE
  have q01 : pmN 0 * pmN 1 < 2 ^ 62 := kn_mm (p := 1000000000) q0 q1 (by decide)
  refine lv_aload_n hx hb dX0_prepare_0 rfl (lv_at hl 0 rfl) ?_
  refine va_getsN hx hb hE.1.1 hS hown (va_Nw.use rfl hE.2.1) (fun _ h9 => h9) dX0_prepare_1 ?_
  refine lv_iconst (v := nI 0) hx hb dX0_prepare_4 (by decide) ?_
  refine va_ti (v := .int (nI (pmN 0))) hx hb hE.1.2 hS (vp_in_nI (by decide) (by decide)) (pm_at (by decide)) dX0_prepare_5 ?_
  refine lv_i2l hx hb dX0_prepare_6 (nI_l (by omega)) ?_
  refine va_getsN hx hb hE.1.1 hS hown (va_Nw.use rfl hE.2.1) (fun _ h9 => h9) dX0_prepare_7 ?_
  refine lv_iconst (v := nI 1) hx hb dX0_prepare_10 (by decide) ?_
  refine va_ti (v := .int (nI (pmN 1))) hx hb hE.1.2 hS (vp_in_nI (by decide) (by decide)) (pm_at (by decide)) dX0_prepare_11 ?_
  refine lv_i2l hx hb dX0_prepare_12 (nI_l (by omega)) ?_
  refine kc_l (wr := [(h, .inr (0, [.long (lN (j1)), .long (lN (j2))]))]) (va_runSN (As := [.long (lN (pmN 0)), .long (lN (pmN 1))]) (rest := [.ref h]) hC0 (c_X3_inverse l D cI cT s.heap.size (pmN 0) (pmN 1) (by omega) (by omega) (by omega)) ⟨va_cnB 2 hts gX0_prepare_X3_inverse_n22 rfl rfl rfl hE.2.2.1 (hts (.initialized RX3) (by decide +kernel)) (by decide +kernel) ⟨Nat.le_of_ble_eq_true rfl, Nat.le_of_ble_eq_true rfl⟩, hts (.static yX3_inverse) (by decide +kernel), trivial⟩ (kp_S kE_0 (fun _ _ _ => trivial) hK hP hD [] rfl (by decide)) rfl rfl hl.1 rfl (lv_room (Nat.le_of_ble_eq_true rfl)) dX0_prepare_13 ⟨Nat.le_of_ble_eq_true rfl, Nat.le_of_ble_eq_true rfl⟩) hP hD hS hA [] [0] rfl rfl (by decide) (by decide) (fun rr uu H locs hw hP hD hS => ?_)
  subst hw
  have hP : va_P D vwCl [(h, .inr (0, [.long (lN (j1)), .long (lN (j2))]))] H := hP.sub [0] rfl
  have hD : va_D A [(h, .inr (0, [.long (lN (j1)), .long (lN (j2))]))] := hD.sub [0] (by decide) rfl
  refine va_put (D := D) (ci := 0) (v := .long (lN (pmN 0 ^ (pmN 1 - 2) % pmN 1))) (ty := .long) (C := RX0) (T := TX0) (N := 2) hx hb hts inX0_X0_prepare tyX0 tyX0_ok nmX0 hown hK hP hD hS 0 rfl rfl 0 (by decide) (hts (.fieldLink RX0 7 "TransformProduct$Joiner" "firstInverse" "J") (by decide +kernel)) (fun _ h9 => h9) rfl (by decide +kernel) rfl rfl (Nat.le_of_ble_eq_true rfl) dX0_prepare_16 (fun H locs hP hD hS => ?_)
  have hP : va_P D vwCl [(h, .inr (0, [.long (lN (pmN 0 ^ (pmN 1 - 2) % pmN 1)), .long (lN (j2))]))] H := hP
  have hD : va_D A [(h, .inr (0, [.long (lN (pmN 0 ^ (pmN 1 - 2) % pmN 1)), .long (lN (j2))]))] := hD
  refine lv_aload_n hx hb dX0_prepare_19 rfl (lv_at hl 0 rfl) ?_
  refine va_getsN hx hb hE.1.1 hS hown (va_Nw.use rfl hE.2.1) (fun _ h9 => h9) dX0_prepare_20 ?_
  refine lv_iconst (v := nI 0) hx hb dX0_prepare_23 (by decide) ?_
  refine va_ti (v := .int (nI (pmN 0))) hx hb hE.1.2 hS (vp_in_nI (by decide) (by decide)) (pm_at (by decide)) dX0_prepare_24 ?_
  refine lv_i2l hx hb dX0_prepare_25 (nI_l (by omega)) ?_
  refine va_getsN hx hb hE.1.1 hS hown (va_Nw.use rfl hE.2.1) (fun _ h9 => h9) dX0_prepare_26 ?_
  refine lv_iconst (v := nI 1) hx hb dX0_prepare_29 (by decide) ?_
  refine va_ti (v := .int (nI (pmN 1))) hx hb hE.1.2 hS (vp_in_nI (by decide) (by decide)) (pm_at (by decide)) dX0_prepare_30 ?_
  refine lv_i2l hx hb dX0_prepare_31 (nI_l (by omega)) ?_
  refine lv_lmul hx hb dX0_prepare_32 ?_
  refine kr_l (lN_mul _ _) ?_
  refine va_getsN hx hb hE.1.1 hS hown (va_Nw.use rfl hE.2.1) (fun _ h9 => h9) dX0_prepare_33 ?_
  refine lv_iconst (v := nI 2) hx hb dX0_prepare_36 (by decide) ?_
  refine va_ti (v := .int (nI (pmN 2))) hx hb hE.1.2 hS (vp_in_nI (by decide) (by decide)) (pm_at (by decide)) dX0_prepare_37 ?_
  refine lv_i2l hx hb dX0_prepare_38 (nI_l (by omega)) ?_
  refine kc_l (wr := [(h, .inr (0, [.long (lN (pmN 0 ^ (pmN 1 - 2) % pmN 1)), .long (lN (j2))]))]) (va_runSN (As := [.long (lN ((pmN 0) * (pmN 1))), .long (lN (pmN 2))]) (rest := [.ref h]) hC0 (c_X3_inverse l D cI cT H.size (pmN 0 * pmN 1) (pmN 2) (by omega) (by omega) (by omega)) ⟨va_cnB 2 hts gX0_prepare_X3_inverse_n22 rfl rfl rfl hE.2.2.1 (hts (.initialized RX3) (by decide +kernel)) (by decide +kernel) ⟨Nat.le_of_ble_eq_true rfl, Nat.le_of_ble_eq_true rfl⟩, hts (.static yX3_inverse) (by decide +kernel), trivial⟩ (kp_S kE_0 (fun _ _ _ => trivial) hK hP hD [] rfl (by decide)) rfl rfl hl.1 rfl (lv_room (Nat.le_of_ble_eq_true rfl)) dX0_prepare_39 ⟨Nat.le_of_ble_eq_true rfl, Nat.le_of_ble_eq_true rfl⟩) hP hD hS hA [] [0] rfl rfl (by decide) (by decide) (fun rr uu H locs hw hP hD hS => ?_)
  subst hw
  have hP : va_P D vwCl [(h, .inr (0, [.long (lN (pmN 0 ^ (pmN 1 - 2) % pmN 1)), .long (lN (j2))]))] H := hP.sub [0] rfl
  have hD : va_D A [(h, .inr (0, [.long (lN (pmN 0 ^ (pmN 1 - 2) % pmN 1)), .long (lN (j2))]))] := hD.sub [0] (by decide) rfl
  refine va_put (D := D) (ci := 0) (v := .long (lN ((pmN 0 * pmN 1) ^ (pmN 2 - 2) % pmN 2))) (ty := .long) (C := RX0) (T := TX0) (N := 2) hx hb hts inX0_X0_prepare tyX0 tyX0_ok nmX0 hown hK hP hD hS 0 rfl rfl 1 (by decide) (hts (.fieldLink RX0 13 "TransformProduct$Joiner" "bothInverse" "J") (by decide +kernel)) (fun _ h9 => h9) rfl (by decide +kernel) rfl rfl (Nat.le_of_ble_eq_true rfl) dX0_prepare_42 (fun H locs hP hD hS => ?_)
  have hP : va_P D vwCl [(h, .inr (0, [.long (lN (pmN 0 ^ (pmN 1 - 2) % pmN 1)), .long (lN ((pmN 0 * pmN 1) ^ (pmN 2 - 2) % pmN 2))]))] H := hP
  have hD : va_D A [(h, .inr (0, [.long (lN (pmN 0 ^ (pmN 1 - 2) % pmN 1)), .long (lN ((pmN 0 * pmN 1) ^ (pmN 2 - 2) % pmN 2))]))] := hD
  exact kr_vret () hx hb hr hlk hP hD hS trivial dX0_prepare_45
set_option maxHeartbeats 4000000 in
set_option maxRecDepth 100000 in
theorem c_X0_join (l : Launch) (D : va_G) (cI cT : ClassId) (sz : Nat) (tp h j1 j2 c : Nat) (hc : c < 2 ^ 41) (hj1 : j1 < pmN 1) (hj : pmN 0 * j1 % pmN 1 = 1) : kMl (S := Unit) l yX0_join wsX0_join { frames := 1, cells := 0, slots := 0, locals := 25 } D [(cI, .int), (cT, .object RX1)] [(h, .inr (0, [.long (lN (j1)), .long (lN (j2))]))] sz (kX tp (va_A [(h, .inr (0, [.long (lN (j1)), .long (lN (j2))]))] sz)) [.ref h, .long (lN (c % pmN 0)), .long (lN (c % pmN 1)), .long (lN (c % pmN 2))] (fun r _ => r = lN c) (fun _ => [(h, .inr (0, [.long (lN (j1)), .long (lN (j2))]))]) (0) (0) := by
  refine kM_of (Qc := fun A => va_Ql (S := Unit) (fun r _ => r = lN c) (kB D A (fun _ => [(h, .inr (0, [.long (lN (j1)), .long (lN (j2))]))])) A) (cc := cX0_join) (maxL := 13) (ret := (some .long)) (by decide +kernel) rfl (Nat.le_of_ble_eq_true rfl) ?_
  intro p e s m below meth cd A ls hC0 hr hlk hin hP hK hD hA hS hE hAe hsz hl
  obtain ⟨hx, hb, hml, hown, hts⟩ := id hC0
  have hl : lv_has ls 13 [(0, .ref h), (1, .long (lN (c % pmN 0))), (3, .long (lN (c % pmN 1))), (5, .long (lN (c % pmN 2)))] := hl
  have p0 := pm_lo 0
  have q0 := pm_hi 0
  have p1 := pm_lo 1
  have q1 := pm_hi 1
  have p2 := pm_lo 2
  have q2 := pm_hi 2
  rw [← hsz, ← hAe] at hE
  have m0 : c % pmN 0 < pmN 0 := Nat.mod_lt _ (by omega)
  have m1 : c % pmN 1 < pmN 1 := Nat.mod_lt _ (by omega)
  have m2 : c % pmN 2 < pmN 2 := Nat.mod_lt _ (by omega)
  have hD1 : ((((c % pmN 1 : Nat) : Int) - (c % pmN 0 : Nat)) % (pmN 1 : Int)).toNat < pmN 1 := by have a2 := Int.emod_lt_of_pos (((c % pmN 1 : Nat) : Int) - (c % pmN 0 : Nat)) (show (0 : Int) < pmN 1 by omega); omega
  have hb1 : ((((c % pmN 1 : Nat) : Int) - (c % pmN 0 : Nat)) % (pmN 1 : Int)).toNat * j1 < 2 ^ 62 := kn_mm hD1 hj1 (by omega)
  have hc2 : c < pmN 0 * pmN 1 := Nat.lt_of_lt_of_le (show c < 100000000 * 100000000 by omega) (Nat.mul_le_mul (by omega) (by omega))
  refine va_getsN hx hb hE.1.1 hS hown (va_Nw.use rfl hE.2.1) (fun _ h9 => h9) dX0_join_0 ?_
  refine lv_iconst (v := nI 0) hx hb dX0_join_3 (by decide) ?_
  refine va_ti (v := .int (nI (pmN 0))) hx hb hE.1.2 hS (vp_in_nI (by decide) (by decide)) (pm_at (by decide)) dX0_join_4 ?_
  refine lv_i2l hx hb dX0_join_5 (nI_l (by omega)) ?_
  refine va_getsN hx hb hE.1.1 hS hown (va_Nw.use rfl hE.2.1) (fun _ h9 => h9) dX0_join_6 ?_
  refine lv_iconst (v := nI 1) hx hb dX0_join_9 (by decide) ?_
  refine va_ti (v := .int (nI (pmN 1))) hx hb hE.1.2 hS (vp_in_nI (by decide) (by decide)) (pm_at (by decide)) dX0_join_10 ?_
  refine lv_i2l hx hb dX0_join_11 (nI_l (by omega)) ?_
  refine lv_lmul hx hb dX0_join_12 ?_
  refine kr_l (lN_mul _ _) ?_
  refine lv_lstore (lv' := [(7, .long (lN ((pmN 0) * (pmN 1)))), (0, .ref h), (1, .long (lN (c % pmN 0))), (3, .long (lN (c % pmN 1))), (5, .long (lN (c % pmN 2)))]) hx hb dX0_join_13 hl (by decide) rfl (fun ls hl => ?_)
  refine lv_lload_n hx hb dX0_join_15 rfl (lv_at hl 2 rfl) ?_
  refine va_getsN hx hb hE.1.1 hS hown (va_Nw.use rfl hE.2.1) (fun _ h9 => h9) dX0_join_16 ?_
  refine lv_iconst (v := nI 0) hx hb dX0_join_19 (by decide) ?_
  refine va_ti (v := .int (nI (pmN 0))) hx hb hE.1.2 hS (vp_in_nI (by decide) (by decide)) (pm_at (by decide)) dX0_join_20 ?_
  refine lv_i2l hx hb dX0_join_21 (nI_l (by omega)) ?_
  refine lv_lload_n hx hb dX0_join_22 rfl (lv_at hl 3 rfl) ?_
  refine lv_lload_n hx hb dX0_join_23 rfl (lv_at hl 2 rfl) ?_
  refine lv_lsub hx hb dX0_join_24 ?_
  refine va_getsN hx hb hE.1.1 hS hown (va_Nw.use rfl hE.2.1) (fun _ h9 => h9) dX0_join_25 ?_
  refine lv_iconst (v := nI 1) hx hb dX0_join_28 (by decide) ?_
  refine va_ti (v := .int (nI (pmN 1))) hx hb hE.1.2 hS (vp_in_nI (by decide) (by decide)) (pm_at (by decide)) dX0_join_29 ?_
  refine lv_i2l hx hb dX0_join_30 (nI_l (by omega)) ?_
  refine kc_l (wr := [(h, .inr (0, [.long (lN (j1)), .long (lN (j2))]))]) (va_runS (As := [.long (lN (c % pmN 1) - lN (c % pmN 0)), .long (lN (pmN 1))]) (rest := [.long (lN (pmN 0)), .long (lN (c % pmN 0))]) hC0 (c_J9_floorMod l D cI cT s.heap.size (lN (c % pmN 1) - lN (c % pmN 0)) _ (pmN 1) (kl_sub (by omega) (by omega)) (by omega) (by omega)) (va_cwS 2 hts gX0_join_J9_floorMod_f86c9 rfl rfl rfl (by decide +kernel) ⟨Nat.le_of_ble_eq_true rfl, Nat.le_of_ble_eq_true rfl⟩) (kp_S kE_0 (fun _ _ _ => trivial) hK hP hD [] rfl (by decide)) rfl rfl hl.1 rfl (lv_room (Nat.le_of_ble_eq_true rfl)) dX0_join_31 ⟨Nat.le_of_ble_eq_true rfl, Nat.le_of_ble_eq_true rfl⟩) hP hD hS hA [] [0] rfl rfl (by decide) (by decide) (fun rr uu H locs hw hP hD hS => ?_)
  subst hw
  have hP : va_P D vwCl [(h, .inr (0, [.long (lN (j1)), .long (lN (j2))]))] H := hP.sub [0] rfl
  have hD : va_D A [(h, .inr (0, [.long (lN (j1)), .long (lN (j2))]))] := hD.sub [0] (by decide) rfl
  refine lv_aload_n hx hb dX0_join_34 rfl (lv_at hl 1 rfl) ?_
  refine va_get (D := D) (ci := 0) (v := .long (lN (j1))) (C := RX0) (T := TX0) (N := 2) hx hb hts inX0_X0_join hown hK hP 0 rfl rfl 0 (by decide) (hts (.fieldLink RX0 7 "TransformProduct$Joiner" "firstInverse" "J") (by decide +kernel)) (fun _ h9 => h9) rfl dX0_join_35 ?_
  refine lv_lmul hx hb dX0_join_38 ?_
  refine kr_l (lN_mul _ _) ?_
  refine va_getsN hx hb hE.1.1 hS hown (va_Nw.use rfl hE.2.1) (fun _ h9 => h9) dX0_join_39 ?_
  refine lv_iconst (v := nI 1) hx hb dX0_join_42 (by decide) ?_
  refine va_ti (v := .int (nI (pmN 1))) hx hb hE.1.2 hS (vp_in_nI (by decide) (by decide)) (pm_at (by decide)) dX0_join_43 ?_
  refine lv_i2l hx hb dX0_join_44 (nI_l (by omega)) ?_
  refine lv_lrem hx hb dX0_join_45 (kn_lne (by omega) (by omega)) ?_
  refine kr_l (pk_lRem (by omega) (by omega) (by omega)) ?_
  refine kr_l (congrArg lN (show ((((((c % pmN 1 : Nat) : Int) - (c % pmN 0 : Nat)) % (pmN 1 : Int)).toNat) * j1) % (pmN 1) = c / pmN 0 from jn_1 (by omega) (by omega) hj hc2)) ?_
  refine lv_lmul hx hb dX0_join_46 ?_
  refine kr_l (lN_mul _ _) ?_
  refine lv_ladd hx hb dX0_join_47 ?_
  refine kr_l (lN_add _ _) ?_
  refine kr_l (congrArg lN (show (c % pmN 0) + ((pmN 0) * (c / pmN 0)) = c from Nat.mod_add_div c (pmN 0))) ?_
  refine lv_lstore (lv' := [(9, .long (lN (c))), (7, .long (lN ((pmN 0) * (pmN 1)))), (0, .ref h), (1, .long (lN (c % pmN 0))), (3, .long (lN (c % pmN 1))), (5, .long (lN (c % pmN 2)))]) hx hb dX0_join_48 hl (by decide) rfl (fun ls hl => ?_)
  refine lv_lload hx hb dX0_join_50 (lv_at hl 5 rfl) ?_
  refine lv_lload hx hb dX0_join_52 (lv_at hl 0 rfl) ?_
  refine lv_lsub hx hb dX0_join_54 ?_
  refine va_getsN hx hb hE.1.1 hS hown (va_Nw.use rfl hE.2.1) (fun _ h9 => h9) dX0_join_55 ?_
  refine lv_iconst (v := nI 2) hx hb dX0_join_58 (by decide) ?_
  refine va_ti (v := .int (nI (pmN 2))) hx hb hE.1.2 hS (vp_in_nI (by decide) (by decide)) (pm_at (by decide)) dX0_join_59 ?_
  refine lv_i2l hx hb dX0_join_60 (nI_l (by omega)) ?_
  refine kc_l (wr := [(h, .inr (0, [.long (lN (j1)), .long (lN (j2))]))]) (va_runS (As := [.long (lN (c % pmN 2) - lN c), .long (lN (pmN 2))]) (rest := []) hC0 (c_J9_floorMod l D cI cT H.size (lN (c % pmN 2) - lN c) _ (pmN 2) (kl_sub (by omega) (by omega)) (by omega) (by omega)) (va_cwS 2 hts gX0_join_J9_floorMod_f86c9 rfl rfl rfl (by decide +kernel) ⟨Nat.le_of_ble_eq_true rfl, Nat.le_of_ble_eq_true rfl⟩) (kp_S kE_0 (fun _ _ _ => trivial) hK hP hD [] rfl (by decide)) rfl rfl hl.1 rfl (lv_room (Nat.le_of_ble_eq_true rfl)) dX0_join_61 ⟨Nat.le_of_ble_eq_true rfl, Nat.le_of_ble_eq_true rfl⟩) hP hD hS hA [] [0] rfl rfl (by decide) (by decide) (fun rr uu H locs hw hP hD hS => ?_)
  subst hw
  have hP : va_P D vwCl [(h, .inr (0, [.long (lN (j1)), .long (lN (j2))]))] H := hP.sub [0] rfl
  have hD : va_D A [(h, .inr (0, [.long (lN (j1)), .long (lN (j2))]))] := hD.sub [0] (by decide) rfl
  refine kr_l (congrArg lN (show ((((c % pmN 2 : Nat) : Int) - (c : Nat)) % (pmN 2 : Int)).toNat = 0 from jn_2 (by omega))) ?_
  refine lv_aload_n hx hb dX0_join_64 rfl (lv_at hl 2 rfl) ?_
  refine va_get (D := D) (ci := 0) (v := .long (lN (j2))) (C := RX0) (T := TX0) (N := 2) hx hb hts inX0_X0_join hown hK hP 0 rfl rfl 1 (by decide) (hts (.fieldLink RX0 13 "TransformProduct$Joiner" "bothInverse" "J") (by decide +kernel)) (fun _ h9 => h9) rfl dX0_join_65 ?_
  refine lv_lmul hx hb dX0_join_68 ?_
  refine kr_l (lN_mul _ _) ?_
  refine va_getsN hx hb hE.1.1 hS hown (va_Nw.use rfl hE.2.1) (fun _ h9 => h9) dX0_join_69 ?_
  refine lv_iconst (v := nI 2) hx hb dX0_join_72 (by decide) ?_
  refine va_ti (v := .int (nI (pmN 2))) hx hb hE.1.2 hS (vp_in_nI (by decide) (by decide)) (pm_at (by decide)) dX0_join_73 ?_
  refine lv_i2l hx hb dX0_join_74 (nI_l (by omega)) ?_
  refine lv_lrem hx hb dX0_join_75 (kn_lne (by omega) (by omega)) ?_
  refine kr_l (pk_lRem (by omega) (by omega) (by omega)) ?_
  refine kr_l (congrArg lN (show (0 * j2) % (pmN 2) = 0 from by rw [Nat.zero_mul, Nat.zero_mod])) ?_
  refine lv_lstore (lv' := [(11, .long (lN (0))), (9, .long (lN (c))), (7, .long (lN ((pmN 0) * (pmN 1)))), (0, .ref h), (1, .long (lN (c % pmN 0))), (3, .long (lN (c % pmN 1))), (5, .long (lN (c % pmN 2)))]) hx hb dX0_join_76 hl (by decide) rfl (fun ls hl => ?_)
  refine lv_lload hx hb dX0_join_78 (lv_at hl 1 rfl) ?_
  refine lv_lload hx hb dX0_join_80 (lv_at hl 2 rfl) ?_
  refine lv_lload hx hb dX0_join_82 (lv_at hl 0 rfl) ?_
  refine lv_lmul hx hb dX0_join_84 ?_
  refine kr_l (lN_mul _ _) ?_
  refine lv_ladd hx hb dX0_join_85 ?_
  refine kr_l (lN_add _ _) ?_
  exact kr_lret () hx hb hr hlk hP hD hS (by rw [Nat.mul_zero, Nat.add_zero]) dX0_join_86
