/-! powers by a modulus; floorMod -/
/-- as Met.ofW, for a class of which some other method is a native one -/
theorem kMet_ofF {l : Launch} {y : MethodName} {ws ws' : List Cond} {rm : Room} {Pc : Array Value → State → Prop} {Qc : Array Value → State → Outcome → State → Prop} {mc ms : Nat} {free : Addr → Prop} {cc : ByteArray} {maxL : Nat} {ret : Option FieldType}
    (hy : plainFor y = true) (hw : ws = Cond.code y cc maxL ret :: ws')
    (body : ∀ p e s m args below meth c s₁, BodyLoose p l y (headSpec ws rm) cc maxL ret e s m args below meth c s₁ → c.maxLocals = maxL → Pc args s →
      W p l e (headSpec ws rm).room s m args below meth c s.heap [] 0 0 (MQ below Qc args s mc ms free) (entryFrame m args maxL)) : Met l y ws rm Pc Qc mc ms free := by
  refine MetFree.of_bodySF (code := cc) (maxLocals := maxL) (ret := ret) hy ?_ ?_
  · intro args s m h hn
    obtain ⟨meth, c, h1, h2, h3, h4, h5, h6, -, -⟩ := Cond.code_spec hn (atoms_spec (ws := ws) h _ (by rw [hw]; exact List.mem_cons_self))
    exact ⟨meth, c, h1, h2, h3, h4, h5, h6⟩
  · intro p e s m args below meth c s₁ B hml hP _
    have hh0 : s₁.heap = s.heap := by rw [B.state]; rfl
    obtain ⟨t, a1, o, b1, b2, b3⟩ := body p e s m args below meth c s₁ B hml hP s₁ hh0 (Stand.of_body B)
    exact ⟨t, o, a1, b1, b2, ⟨b3.1, b3.2⟩⟩
theorem kM_ofF {y : MethodName} {l : Launch} {Wd Wd' : List Cond} {rm : Room} {D : va_G} {tys : List (ClassId × FieldType)} {ws : va_W} {sz : Nat} {E : State → Prop} {av : List Value} {Qc : (Nat → Prop) → Array Value → State → Outcome → State → Prop} {mc ms : Nat} {cc : ByteArray} {maxL : Nat} {ret : Option FieldType}
    (hy : plainFor y = true) (hw : Wd = Cond.code y cc maxL ret :: Wd') (hlen : (lg_sl av).length ≤ maxL)
    (body : ∀ (p : Program) (e : Env) (s : State) (m : MethodId) (below : List Frame) (meth : Method) (c : Code) (A : Nat → Prop) (ls : Array Slot), CallFix p m c cc maxL s av.toArray Wd y.cls → meth.sig.returnType = ret → meth.locks = false → meth.name = y.name → va_P D vwCl ws s.heap → va_K D vwCl tys s → va_D A ws → (∀ q, s.heap.size ≤ q → A q) → va_S A s.heap s.heap [] → E s → A = va_A ws s.heap.size → s.heap.size = sz → lv_has ls maxL (lv_args 0 av) →
      W p l e rm s m av.toArray below meth c s.heap [] 0 0 (MQ below (Qc A) av.toArray s mc ms A) (F0 m 0 ls [])) : Met l y Wd rm (kPc D tys ws sz E av) (Qc (va_A ws sz)) mc ms (va_A ws sz) := by
  refine kMet_ofF (cc := cc) (maxL := maxL) (ret := ret) hy hw ?_
  intro p e s m args below meth c s₁ B hml hv
  obtain ⟨rfl, hsz, hP, hK, hD0, hE⟩ := hv
  have hts := atoms_spec (ws := Wd) B.pre
  have hown : s.vm.findClass y.cls = some m.cls := findClass_of_methodNamed B.named
  subst hsz
  have hD := hD0.self (sz := s.heap.size)
  have hl := lv_entry av (n := maxL) hlen
  rw [lg_entry_eq]
  exact body p e s m below meth c _ _ ⟨B.exec, B.bytes, hml, hown, hts⟩ B.returns B.notSynchronized (name_of_methodNamed B.named B.method).1 hP hK hD (fun q h => Or.inr h) va_S.rf hE rfl rfl hl
theorem kn_mm {a b p : Nat} (ha : a < p) (hb : b < p) (hp : p < 2 ^ 31) : a * b < 2 ^ 62 := by
  have h1 : a * b ≤ 2 ^ 31 * 2 ^ 31 := Nat.mul_le_mul (by omega) (by omega)
  have h2 : a * b ≤ (2 ^ 31 - 1) * (2 ^ 31 - 1) := Nat.mul_le_mul (by omega) (by omega)
  have h3 : (2 ^ 31 - 1) * (2 ^ 31 - 1) < 2 ^ 62 := by decide
  omega
def pwA (b ex pr j : Nat) : Nat := b ^ (ex % 2 ^ j) % pr
def pwF (b pr j : Nat) : Nat := b ^ 2 ^ j % pr
theorem pwF_s (b pr j : Nat) : pwF b pr j * pwF b pr j % pr = pwF b pr (j + 1) := by
  unfold pwF
  rw [← Nat.mul_mod, ← Nat.pow_add, Nat.pow_succ]
  congr 2
  omega
theorem pwA_1 {b ex pr j : Nat} (h : ex / 2 ^ j % 2 = 1) : pwA b ex pr j * pwF b pr j % pr = pwA b ex pr (j + 1) := by
  unfold pwA pwF
  rw [← Nat.mul_mod, ← Nat.pow_add, Nat.mod_pow_succ, h, Nat.mul_one]
theorem pwA_0 {b ex pr j : Nat} (h : ¬ ex / 2 ^ j % 2 = 1) : pwA b ex pr j = pwA b ex pr (j + 1) := by
  unfold pwA
  rw [Nat.mod_pow_succ, show ex / 2 ^ j % 2 = 0 by omega, Nat.mul_zero, Nat.add_zero]
theorem pwA_end {b ex pr : Nat} (h : ex < 2 ^ 31) : pwA b ex pr 31 = b ^ ex % pr := by
  unfold pwA
  rw [Nat.mod_eq_of_lt h]
theorem pwA_b {b ex pr : Nat} (h : 1 < pr) : 1 = pwA b ex pr 0 := by
  unfold pwA
  rw [Nat.pow_zero, Nat.mod_one, Nat.pow_zero, Nat.mod_eq_of_lt h]
theorem pwF_b {b pr : Nat} : b % pr = pwF b pr 0 := by
  unfold pwF
  rw [Nat.pow_zero, Nat.pow_one]
theorem pwA_lt {b ex pr j : Nat} (h : 1 < pr) : pwA b ex pr j < pr := Nat.mod_lt _ (by omega)
theorem pwF_lt {b pr j : Nat} (h : 1 < pr) : pwF b pr j < pr := Nat.mod_lt _ (by omega)
theorem kl_eq {a b : Nat} (ha : a < 2 ^ 63) (hb : b < 2 ^ 63) : lg_cmp (lN a) (lN b) = 0 ↔ a = b := (lg_cmp_eq _ _).trans (pk_lEQ ha hb)
theorem kl_le {a b : Nat} (ha : a < 2 ^ 63) (hb : b < 2 ^ 63) : lg_cmp (lN a) (lN b) ≤ 0 ↔ a ≤ b := (lg_cmp_le _ _).trans (pk_lLE ha hb)
theorem kl_xs (x : Int64) {P : Nat} (hP : P < 2 ^ 63) : 0 ≤ x ^^^ lN P ↔ 0 ≤ x.toInt := by
  have h1 : (x ^^^ lN P).toBitVec.msb = x.toBitVec.msb := by
    have h2 : (lN P).toBitVec.msb = false := by
      have h3 := pk_lT hP
      rw [BitVec.msb_eq_toInt]
      have h4 : (lN P).toBitVec.toInt = (P : Int) := h3
      rw [h4]
      simp
    rw [Int64.toBitVec_xor, BitVec.msb_xor, h2]
    simp
  rw [BitVec.msb_eq_toInt, BitVec.msb_eq_toInt] at h1
  have h5 : ((x ^^^ lN P).toInt < 0) ↔ (x.toInt < 0) := by
    have := decide_eq_decide.mp h1
    exact this
  rw [Int64.le_iff_toInt_le, Int64.toInt_zero]
  omega
theorem kz_tm {X : Int} {P : Nat} (hP : 0 < P) (h : 0 ≤ X) : X.tmod P = ((X % P).toNat : Int) := by
  rw [Int.tmod_eq_emod_of_nonneg h]
  have := Int.emod_nonneg X (show (P : Int) ≠ 0 by omega)
  omega
theorem kz_cg (X : Int) (P : Int) : cgr P (X.tmod P) X := ⟨-(X.tdiv P), by have := Int.tmod_add_mul_tdiv X P; rw [Int.mul_neg]; omega⟩
theorem kz_neg {X : Int} {P : Nat} (hP : 0 < P) (h : X < 0) (hz : X.tmod P ≠ 0) : X.tmod P + P = ((X % P).toNat : Int) := by
  have h1 : X.tmod P ≤ 0 ∧ -(P : Int) < X.tmod P := by
    have e : X.tmod P = -((-X).tmod P) := by rw [Int.neg_tmod]; omega
    rw [e, Int.tmod_eq_emod_of_nonneg (by omega)]
    have a1 := Int.emod_nonneg (-X) (show (P : Int) ≠ 0 by omega)
    have a2 := Int.emod_lt_of_pos (-X) (show (0 : Int) < P by omega)
    omega
  have a1 := Int.emod_nonneg X (show (P : Int) ≠ 0 by omega)
  have a2 := Int.emod_lt_of_pos X (show (0 : Int) < P by omega)
  have e : X.tmod P + P = X % P := by
    refine cgr_un (p := (P : Int)) ?_ (by omega) (by omega) a1 a2
    refine cgr_tr ?_ (cgr_sy (cgr_md _ _))
    obtain ⟨k, hk⟩ := kz_cg X P
    exact ⟨k + 1, by rw [Int.mul_add]; omega⟩
  omega
theorem kz_zero {X : Int} {P : Nat} (hP : 0 < P) (hz : X.tmod P = 0) : (X % P).toNat = 0 := by
  have a1 := Int.emod_nonneg X (show (P : Int) ≠ 0 by omega)
  have a2 := Int.emod_lt_of_pos X (show (0 : Int) < P by omega)
  have e : (0 : Int) = X % P := by
    refine cgr_un (p := (P : Int)) ?_ (by omega) (by omega) a1 a2
    refine cgr_tr ?_ (cgr_sy (cgr_md _ _))
    have := kz_cg X P
    rwa [hz] at this
  omega
set_option maxHeartbeats 4000000 in
set_option maxRecDepth 100000 in
theorem lp_power {p : Program} {l : Launch} {e : Env} {R : Room} {s : State} {m : MethodId} {args : Array Value} {below : List Frame} {meth : Method} {c : Code} {cells slots : Nat} {Q : State → Prop} {A : Nat → Prop} {H0 : Heap} {D : va_G} {cI cT : ClassId} (b ex pr : Nat) (hC0 : CallFix p m c cX3_power 11 s args wsX3_power RX3) (hK : va_K D vwCl [(cI, .int), (cT, .object RX1)] s) (hA : ∀ q, H0.size ≤ q → A q) (h1 : 1 < pr) (h2 : pr < 2 ^ 31) (h3 : ex < 2 ^ 31)
    (kk : ∀ (j : Nat) (H : Heap) (locs : List Loc) (ls : Array Slot), j = 31 → va_P D vwCl [] H → va_D A [] → va_S A H0 H locs → lv_has ls 11 [(10, .int (nI (j))), (8, .long (lN (pwF b pr j))), (6, .long (lN (pwA b ex pr j))), (0, .long (lN (b))), (2, .long (lN (ex))), (4, .long (lN (pr)))] → W p l e R s m args below meth c H locs cells slots Q (F0 m 56 ls [])) :
    ∀ (nn j : Nat) (H : Heap) (locs : List Loc) (ls : Array Slot), 31 - j < nn → j ≤ 31 → va_P D vwCl [] H → va_D A [] → va_S A H0 H locs → lv_has ls 11 [(10, .int (nI (j))), (8, .long (lN (pwF b pr j))), (6, .long (lN (pwA b ex pr j))), (0, .long (lN (b))), (2, .long (lN (ex))), (4, .long (lN (pr)))] → W p l e R s m args below meth c H locs cells slots Q (F0 m 12 ls []) := by
  obtain ⟨hx, hb, hml, hown, hts⟩ := id hC0
  intro nn
  induction nn with
  | zero => intro _ _ _ _ h; exact absurd h (Nat.not_lt_zero _)
  | succ nn ih =>
    intro j H locs ls hn hj hP hD hS hl
    refine lv_iload hx hb dX3_power_12 (lv_at hl 0 rfl) ?_
    refine lv_bipush (v := nI 31) hx hb dX3_power_14 (by decide) ?_
    refine kr_ge (tgt := 56) hx hb dX3_power_16 (by decide) (by omega) (by omega) (fun hc => ?_) (fun hc => ?_)
    · exact kk j H locs ls (by omega) hP hD hS hl
    · have a1 : pwA b ex pr j < pr := pwA_lt h1
      have a2 : pwF b pr j < pr := pwF_lt h1
      have a3 : pwA b ex pr j * pwF b pr j < 2 ^ 62 := kn_mm a1 a2 h2
      have a4 : pwF b pr j * pwF b pr j < 2 ^ 62 := kn_mm a2 a2 h2
      have a5 : ex / 2 ^ j ≤ ex := Nat.div_le_self _ _
      refine lv_lload_n hx hb dX3_power_19 rfl (lv_at hl 4 rfl) ?_
      refine lv_iload hx hb dX3_power_20 (lv_at hl 0 rfl) ?_
      refine lv_lshr hx hb dX3_power_22 rfl ?_
      refine kr_l (kn_lshr (by omega) (by omega)) ?_
      refine lv_lconst (v := lN 1) hx hb dX3_power_23 (by decide) ?_
      refine lv_land hx hb dX3_power_24 ?_
      refine kr_l (y := lN (ex / 2 ^ j % 2)) (wb_a1 (by omega)) ?_
      refine lv_lconst (v := lN 1) hx hb dX3_power_25 (by decide) ?_
      refine W.lcmp hx hb dX3_power_26 ?_
      refine lv_if_ne (tgt := 40) hx hb dX3_power_27 (by decide) (fun hc2 => ?_) (fun hc2 => ?_)
      · have hb0 : ¬ ex / 2 ^ j % 2 = 1 := fun z => hc2 ((kl_eq (by omega) (by decide)).mpr z)
        rw [pwA_0 hb0] at hl
        refine lv_lload hx hb dX3_power_40 (lv_at hl 1 rfl) ?_
        refine lv_lload hx hb dX3_power_42 (lv_at hl 1 rfl) ?_
        refine lv_lmul hx hb dX3_power_44 ?_
        refine kr_l (lN_mul _ _) ?_
        refine lv_lload hx hb dX3_power_45 (lv_at hl 5 rfl) ?_
        refine lv_lrem hx hb dX3_power_47 (kn_lne (by omega) (by omega)) ?_
        refine kr_l (pk_lRem (by omega) (by omega) (by omega)) ?_
        refine kr_l (congrArg lN (show ((pwF b pr j) * (pwF b pr j)) % pr = pwF b pr (j + 1) from pwF_s b pr j)) ?_
        refine lv_lstore (lv' := [(8, .long (lN (pwF b pr (j + 1)))), (10, .int (nI (j))), (6, .long (lN (pwA b ex pr (j + 1)))), (0, .long (lN (b))), (2, .long (lN (ex))), (4, .long (lN (pr)))]) hx hb dX3_power_48 hl (by decide) rfl (fun ls hl => ?_)
        refine lv_iinc (v := nI (j + 1)) (lv' := [(10, .int (nI (j + 1))), (8, .long (lN (pwF b pr (j + 1)))), (6, .long (lN (pwA b ex pr (j + 1)))), (0, .long (lN (b))), (2, .long (lN (ex))), (4, .long (lN (pr)))]) hx hb dX3_power_50 hl (k := 1) rfl (by rw [show Int32.ofInt 1 = nI 1 by decide]; exact nI_add _ _) (by decide) rfl (fun ls hl => ?_)
        refine lv_goto (tgt := 12) hx hb dX3_power_53 (by decide) ?_
        exact ih (j + 1) H locs ls (by omega) (by omega) hP hD hS (lv_sub hl [0, 1, 2, 3, 4, 5] rfl)
      · have hb1 : ex / 2 ^ j % 2 = 1 := (kl_eq (by omega) (by decide)).mp hc2
        refine lv_lload hx hb dX3_power_30 (lv_at hl 2 rfl) ?_
        refine lv_lload hx hb dX3_power_32 (lv_at hl 1 rfl) ?_
        refine lv_lmul hx hb dX3_power_34 ?_
        refine kr_l (lN_mul _ _) ?_
        refine lv_lload hx hb dX3_power_35 (lv_at hl 5 rfl) ?_
        refine lv_lrem hx hb dX3_power_37 (kn_lne (by omega) (by omega)) ?_
        refine kr_l (pk_lRem (by omega) (by omega) (by omega)) ?_
        refine kr_l (congrArg lN (show ((pwA b ex pr j) * (pwF b pr j)) % pr = pwA b ex pr (j + 1) from pwA_1 hb1)) ?_
        refine lv_lstore (lv' := [(6, .long (lN (pwA b ex pr (j + 1)))), (10, .int (nI (j))), (8, .long (lN (pwF b pr j))), (0, .long (lN (b))), (2, .long (lN (ex))), (4, .long (lN (pr)))]) hx hb dX3_power_38 hl (by decide) rfl (fun ls hl => ?_)
        refine lv_lload hx hb dX3_power_40 (lv_at hl 2 rfl) ?_
        refine lv_lload hx hb dX3_power_42 (lv_at hl 2 rfl) ?_
        refine lv_lmul hx hb dX3_power_44 ?_
        refine kr_l (lN_mul _ _) ?_
        refine lv_lload hx hb dX3_power_45 (lv_at hl 5 rfl) ?_
        refine lv_lrem hx hb dX3_power_47 (kn_lne (by omega) (by omega)) ?_
        refine kr_l (pk_lRem (by omega) (by omega) (by omega)) ?_
        refine kr_l (congrArg lN (show ((pwF b pr j) * (pwF b pr j)) % pr = pwF b pr (j + 1) from pwF_s b pr j)) ?_
        refine lv_lstore (lv' := [(8, .long (lN (pwF b pr (j + 1)))), (6, .long (lN (pwA b ex pr (j + 1)))), (10, .int (nI (j))), (0, .long (lN (b))), (2, .long (lN (ex))), (4, .long (lN (pr)))]) hx hb dX3_power_48 hl (by decide) rfl (fun ls hl => ?_)
        refine lv_iinc (v := nI (j + 1)) (lv' := [(10, .int (nI (j + 1))), (8, .long (lN (pwF b pr (j + 1)))), (6, .long (lN (pwA b ex pr (j + 1)))), (0, .long (lN (b))), (2, .long (lN (ex))), (4, .long (lN (pr)))]) hx hb dX3_power_50 hl (k := 2) rfl (by rw [show Int32.ofInt 1 = nI 1 by decide]; exact nI_add _ _) (by decide) rfl (fun ls hl => ?_)
        refine lv_goto (tgt := 12) hx hb dX3_power_53 (by decide) ?_
        exact ih (j + 1) H locs ls (by omega) (by omega) hP hD hS (lv_sub hl [0, 1, 2, 3, 4, 5] rfl)
set_option maxHeartbeats 4000000 in
set_option maxRecDepth 100000 in
theorem c_X3_power (l : Launch) (D : va_G) (cI cT : ClassId) (sz : Nat) (b ex pr : Nat) (h1 : 1 < pr) (h2 : pr < 2 ^ 31) (h3 : ex < 2 ^ 31) (h4 : b < 2 ^ 63) : kMl (S := Unit) l yX3_power wsX3_power { frames := 0, cells := 0, slots := 0, locals := 0 } D [(cI, .int), (cT, .object RX1)] [] sz (fun _ => True) [.long (lN (b)), .long (lN (ex)), .long (lN (pr))] (fun r _ => r = lN (b ^ ex % pr)) (fun _ => []) (0) (0) := by
  refine kM_of (Qc := fun A => va_Ql (S := Unit) (fun r _ => r = lN (b ^ ex % pr)) (kB D A (fun _ => [])) A) (cc := cX3_power) (maxL := 11) (ret := (some .long)) (by decide +kernel) rfl (Nat.le_of_ble_eq_true rfl) ?_
  intro p e s m below meth c A ls hC0 hr hlk hin hP hK hD hA hS hE hAe hsz hl
  obtain ⟨hx, hb, hml, hown, hts⟩ := id hC0
  have hl : lv_has ls 11 [(0, .long (lN (b))), (2, .long (lN (ex))), (4, .long (lN (pr)))] := hl
  refine lv_lconst (v := lN 1) hx hb dX3_power_0 (by decide) ?_
  refine kr_l (congrArg lN (show 1 = pwA b ex pr 0 from pwA_b h1)) ?_
  refine lv_lstore (lv' := [(6, .long (lN (pwA b ex pr 0))), (0, .long (lN (b))), (2, .long (lN (ex))), (4, .long (lN (pr)))]) hx hb dX3_power_1 hl (by decide) rfl (fun ls hl => ?_)
  refine lv_lload_n hx hb dX3_power_3 rfl (lv_at hl 1 rfl) ?_
  refine lv_lload hx hb dX3_power_4 (lv_at hl 3 rfl) ?_
  refine lv_lrem hx hb dX3_power_6 (kn_lne (by omega) (by omega)) ?_
  refine kr_l (pk_lRem (by omega) (by omega) (by omega)) ?_
  refine kr_l (congrArg lN (show b % pr = pwF b pr 0 from pwF_b)) ?_
  refine lv_lstore (lv' := [(8, .long (lN (pwF b pr 0))), (6, .long (lN (pwA b ex pr 0))), (0, .long (lN (b))), (2, .long (lN (ex))), (4, .long (lN (pr)))]) hx hb dX3_power_7 hl (by decide) rfl (fun ls hl => ?_)
  refine lv_iconst (v := nI 0) hx hb dX3_power_9 (by decide) ?_
  refine lv_istore (lv' := [(10, .int (nI (0))), (8, .long (lN (pwF b pr 0))), (6, .long (lN (pwA b ex pr 0))), (0, .long (lN (b))), (2, .long (lN (ex))), (4, .long (lN (pr)))]) hx hb dX3_power_10 hl (by decide) rfl (fun ls hl => ?_)
  refine lp_power b ex pr hC0 hK hA h1 h2 h3 (fun j H locs ls hj hP hD hS hl => ?_) 32 0 s.heap [] ls (by omega) (by omega) hP hD hS (lv_sub hl [0, 1, 2, 3, 4, 5] rfl)
  subst hj
  refine lv_lload hx hb dX3_power_56 (lv_at hl 2 rfl) ?_
  exact kr_lret () hx hb hr hlk hP hD hS (by rw [pwA_end h3]) dX3_power_58
set_option maxHeartbeats 4000000 in
set_option maxRecDepth 100000 in
theorem c_X3_inverse (l : Launch) (D : va_G) (cI cT : ClassId) (sz : Nat) (x pr : Nat) (h1 : 2 < pr) (h2 : pr < 2 ^ 31) (h4 : x < 2 ^ 63) : kMl (S := Unit) l yX3_inverse wsX3_inverse { frames := 1, cells := 0, slots := 0, locals := 30 } D [(cI, .int), (cT, .object RX1)] [] sz (fun _ => True) [.long (lN (x)), .long (lN (pr))] (fun r _ => r = lN (x ^ (pr - 2) % pr)) (fun _ => []) (0) (0) := by
  refine kM_of (Qc := fun A => va_Ql (S := Unit) (fun r _ => r = lN (x ^ (pr - 2) % pr)) (kB D A (fun _ => [])) A) (cc := cX3_inverse) (maxL := 4) (ret := (some .long)) (by decide +kernel) rfl (Nat.le_of_ble_eq_true rfl) ?_
  intro p e s m below meth c A ls hC0 hr hlk hin hP hK hD hA hS hE hAe hsz hl
  obtain ⟨hx, hb, hml, hown, hts⟩ := id hC0
  have hl : lv_has ls 4 [(0, .long (lN (x))), (2, .long (lN (pr)))] := hl
  refine lv_lload_n hx hb dX3_inverse_0 rfl (lv_at hl 0 rfl) ?_
  refine lv_lload_n hx hb dX3_inverse_1 rfl (lv_at hl 1 rfl) ?_
  refine lv_ldc2 hx hb hown (hts (.constantLong RX3 126 (2)) (by decide +kernel)) dX3_inverse_2 ?_
  refine kr_l (show (2 : Int64) = lN 2 by decide) ?_
  refine lv_lsub hx hb dX3_inverse_5 ?_
  refine kr_l (lN_sub (by omega)) ?_
  refine lv_lload_n hx hb dX3_inverse_6 rfl (lv_at hl 1 rfl) ?_
  refine kc_l (wr := []) (va_runS (As := [.long (lN (x)), .long (lN (pr - 2)), .long (lN (pr))]) (rest := []) hC0 (c_X3_power l D cI cT s.heap.size x (pr - 2) pr (by omega) h2 (by omega) h4) (va_cwS 3 hts gX3_inverse_X3_power rfl rfl rfl (by decide +kernel) ⟨Nat.le_of_ble_eq_true rfl, Nat.le_of_ble_eq_true rfl⟩) (kp_S kE_0 (fun _ _ _ => trivial) hK hP hD [] rfl (by decide)) rfl rfl hl.1 rfl (lv_room (Nat.le_of_ble_eq_true rfl)) dX3_inverse_7 ⟨Nat.le_of_ble_eq_true rfl, Nat.le_of_ble_eq_true rfl⟩) hP hD hS hA [] [] rfl rfl (by decide) (by decide) (fun rr uu H locs hw hP hD hS => ?_)
  subst hw
  have hP : va_P D vwCl [] H := hP.sub [] rfl
  have hD : va_D A [] := hD.sub [] (by decide) rfl
  exact kr_lret () hx hb hr hlk hP hD hS rfl dX3_inverse_10
set_option maxHeartbeats 4000000 in
set_option maxRecDepth 100000 in
theorem c_J9_floorMod (l : Launch) (D : va_G) (cI cT : ClassId) (sz : Nat) (x : Int64) (X : Int) (P : Nat) (hX : x.toInt = X) (hP0 : 0 < P) (hP1 : P < 2 ^ 31) : kMl (S := Unit) l yJ9_floorMod_f86c9 wsJ9_floorMod_f86c9 { frames := 0, cells := 0, slots := 0, locals := 0 } D [(cI, .int), (cT, .object RX1)] [] sz (fun _ => True) [.long (x), .long (lN (P))] (fun r _ => r = lN (X % (P : Int)).toNat) (fun _ => []) (0) (0) := by
  refine kM_ofF (Qc := fun A => va_Ql (S := Unit) (fun r _ => r = lN (X % (P : Int)).toNat) (kB D A (fun _ => [])) A) (cc := cJ9_floorMod_f86c9) (maxL := 6) (ret := (some .long)) (by decide +kernel) rfl (Nat.le_of_ble_eq_true rfl) ?_
  intro p e s m below meth c A ls hC0 hr hlk hin hP hK hD hA hS hE hAe hsz hl
  obtain ⟨hx, hb, hml, hown, hts⟩ := id hC0
  have hl : lv_has ls 6 [(0, .long (x)), (2, .long (lN (P)))] := hl
  have hlt : (X % (P : Int)).toNat < 2 ^ 63 := by have a2 := Int.emod_lt_of_pos X (show (0 : Int) < P by omega); omega
  refine lv_lload_n hx hb dJ9_floorMod_f86c9_0 rfl (lv_at hl 0 rfl) ?_
  refine lv_lload_n hx hb dJ9_floorMod_f86c9_1 rfl (lv_at hl 1 rfl) ?_
  refine lv_lrem hx hb dJ9_floorMod_f86c9_2 (kn_lne (by omega) (by omega)) ?_
  refine lv_topl (fun md hmd => ?_)
  have hmt : md.toInt = X.tmod P := by rw [hmd]; exact kl_rem hX (by omega)
  refine lv_lstore (lv' := [(4, .long (md)), (0, .long (x)), (2, .long (lN (P)))]) hx hb dJ9_floorMod_f86c9_3 hl (by decide) rfl (fun ls hl => ?_)
  refine lv_lload_n hx hb dJ9_floorMod_f86c9_5 rfl (lv_at hl 1 rfl) ?_
  refine lv_lload_n hx hb dJ9_floorMod_f86c9_6 rfl (lv_at hl 2 rfl) ?_
  refine lv_lxor hx hb dJ9_floorMod_f86c9_7 ?_
  refine lv_lconst (v := lN 0) hx hb dJ9_floorMod_f86c9_8 (by decide) ?_
  refine W.lcmp hx hb dJ9_floorMod_f86c9_9 ?_
  refine lv_if_ge (tgt := 25) hx hb dJ9_floorMod_f86c9_10 (by decide) (fun hc => ?_) (fun hc => ?_)
  · have h0 : 0 ≤ X := by rw [← hX]; exact (kl_xs x (by omega)).mp ((lg_cmp_ge _ _).mp hc)
    refine lv_lload hx hb dJ9_floorMod_f86c9_25 (lv_at hl 0 rfl) ?_
    exact kr_lret () hx hb hr hlk hP hD hS (kl_of (by rw [hmt]; exact kz_tm hP0 h0) hlt) dJ9_floorMod_f86c9_27
  · have h0 : X < 0 := Int.not_le.mp (fun z => hc ((lg_cmp_ge _ _).mpr ((kl_xs x (show P < 2 ^ 63 by omega)).mpr (by rw [hX]; exact z))))
    refine lv_lload hx hb dJ9_floorMod_f86c9_13 (lv_at hl 0 rfl) ?_
    refine lv_lconst (v := lN 0) hx hb dJ9_floorMod_f86c9_15 (by decide) ?_
    refine W.lcmp hx hb dJ9_floorMod_f86c9_16 ?_
    refine lv_if_eq (tgt := 25) hx hb dJ9_floorMod_f86c9_17 (by decide) (fun hz => ?_) (fun hz => ?_)
    · have hz0 : md = lN 0 := (lg_cmp_eq _ _).mp hz
      have ht0 : X.tmod P = 0 := by rw [← hmt, hz0]; rfl
      refine lv_lload hx hb dJ9_floorMod_f86c9_25 (lv_at hl 0 rfl) ?_
      exact kr_lret () hx hb hr hlk hP hD hS (by rw [kz_zero hP0 ht0]; exact hz0) dJ9_floorMod_f86c9_27
    · have ht0 : X.tmod P ≠ 0 := fun q => hz ((lg_cmp_eq _ _).mpr (kl_of (n := 0) (by rw [hmt, q]; rfl) (by decide)))
      have hs := kz_neg hP0 h0 ht0
      refine lv_lload hx hb dJ9_floorMod_f86c9_20 (lv_at hl 0 rfl) ?_
      refine lv_lload_n hx hb dJ9_floorMod_f86c9_22 rfl (lv_at hl 2 rfl) ?_
      refine lv_ladd hx hb dJ9_floorMod_f86c9_23 ?_
      exact kr_lret () hx hb hr hlk hP hD hS (kl_of (by rw [Jvm.Kit.i64_add (by rw [hmt, pk_lT (by omega)]; omega) (by rw [hmt, pk_lT (by omega)]; omega), hmt, pk_lT (by omega)]; exact hs) hlt) dJ9_floorMod_f86c9_24
