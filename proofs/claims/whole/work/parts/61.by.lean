/-! the reference: products by hand -/
/-- row i of the product, j digits done: the cells and the carry -/
def byQ (dd : Nat → Nat) (o i : Nat) (P : Nat → Nat) : Nat → (Nat → Nat) × Nat
  | 0 => (P, 0)
  | j + 1 => (va_up (byQ dd o i P j).1 (i + j) ((dd i * dd (o + j) + (byQ dd o i P j).1 (i + j) + (byQ dd o i P j).2) % 32768), (dd i * dd (o + j) + (byQ dd o i P j).1 (i + j) + (byQ dd o i P j).2) / 32768)
def byO (dd : Nat → Nat) (o nk : Nat) (P : Nat → Nat) : Nat → Nat → Nat
  | 0 => P
  | i + 1 => if nk = 0 then (byQ dd o i (byO dd o nk P i) nk).1 else va_up (byQ dd o i (byO dd o nk P i) nk).1 (i + nk) (byQ dd o i (byO dd o nk P i) nk).2
theorem by_s {a b x c : Nat} (ha : a < 32768) (hb : b < 32768) (hx : x < 32768) (hc : c < 32768) : a * b + x + c < 2 ^ 30 := by
  have h1 : a * b ≤ 32767 * 32767 := Nat.mul_le_mul (by omega) (by omega)
  omega
theorem byQ_lt {dd : Nat → Nat} {o i L : Nat} {P : Nat → Nat} (ha : dd i < 32768) (hP : ∀ x, x < L → P x < 32768) : ∀ j, (∀ q, q < j → dd (o + q) < 32768) → i + j ≤ L → (∀ x, x < L → (byQ dd o i P j).1 x < 32768) ∧ (byQ dd o i P j).2 < 32768
  | 0, _, _ => ⟨hP, by show 0 < 32768; omega⟩
  | j + 1, hb, hL => by
    obtain ⟨h1, h2⟩ := byQ_lt ha hP j (fun q hq => hb q (by omega)) (by omega)
    have h3 := by_s ha (hb j (by omega)) (h1 (i + j) (by omega)) h2
    refine ⟨fun x hx => ?_, ?_⟩
    · show va_up (byQ dd o i P j).1 (i + j) _ x < 32768
      unfold va_up
      split
      · exact Nat.mod_lt _ (by decide)
      · exact h1 x hx
    · show (dd i * dd (o + j) + (byQ dd o i P j).1 (i + j) + (byQ dd o i P j).2) / 32768 < 32768
      omega
/-- a row's value with one cell changed -/
theorem dgV_up (P : Nat → Nat) (k v : Nat) : ∀ n, k < n → dgV (va_up P k v) n + P k * 32768 ^ k = dgV P n + v * 32768 ^ k
  | 0, h => by omega
  | n + 1, h => by
    rw [dgV_s, dgV_s]
    by_cases hk : k = n
    · subst hk
      have e : dgV (va_up P k v) k = dgV P k := dgV_eq fun i hi => va_up_ne _ _ (by omega)
      rw [e, va_up_self]
      omega
    · have ih := dgV_up P k v n (by omega)
      rw [va_up_ne P v (show n ≠ k by omega)]
      omega
theorem byQ_val {dd : Nat → Nat} {o i L : Nat} {P : Nat → Nat} : ∀ j, i + j ≤ L → dgV (byQ dd o i P j).1 L + (byQ dd o i P j).2 * 32768 ^ (i + j) = dgV P L + dd i * 32768 ^ i * dgV (fun q => dd (o + q)) j
  | 0, _ => by
    show dgV P L + 0 * _ = dgV P L + _ * 0
    omega
  | j + 1, hL => by
    have ih := byQ_val (dd := dd) (o := o) (i := i) (P := P) (L := L) j (by omega)
    have hu := dgV_up (byQ dd o i P j).1 (i + j) ((dd i * dd (o + j) + (byQ dd o i P j).1 (i + j) + (byQ dd o i P j).2) % 32768) L (by omega)
    show dgV (va_up (byQ dd o i P j).1 (i + j) _) L + ((dd i * dd (o + j) + (byQ dd o i P j).1 (i + j) + (byQ dd o i P j).2) / 32768) * 32768 ^ (i + j + 1) = _
    generalize (byQ dd o i P j).1 (i + j) = y at hu ⊢
    generalize (byQ dd o i P j).2 = z at ih hu ⊢
    rw [dgV_s]
    generalize hs : dd i * dd (o + j) + y + z = s at hu ⊢
    have e1 : s / 32768 * 32768 ^ (i + j + 1) + s % 32768 * 32768 ^ (i + j) = s * 32768 ^ (i + j) := by
      rw [Nat.pow_succ, Nat.mul_comm (32768 ^ (i + j)) 32768, ← Nat.mul_assoc, ← Nat.add_mul]
      congr 1
      omega
    have e2 : s * 32768 ^ (i + j) = dd i * dd (o + j) * 32768 ^ (i + j) + y * 32768 ^ (i + j) + z * 32768 ^ (i + j) := by rw [← hs, Nat.add_mul, Nat.add_mul]
    have e3 : dd i * 32768 ^ i * (dgV (fun q => dd (o + q)) j + dd (o + j) * 32768 ^ j) = dd i * 32768 ^ i * dgV (fun q => dd (o + q)) j + dd i * dd (o + j) * 32768 ^ (i + j) := by
      rw [Nat.mul_add, Nat.pow_add]
      congr 1
      grind
    rw [e3]
    omega
theorem byO_ok {dd : Nat → Nat} {o nk L : Nat} {P : Nat → Nat} (hP : ∀ x, x < L → P x = 0) (hb : ∀ q, q < nk → dd (o + q) < 32768) : ∀ i, (∀ q, q < i → dd q < 32768) → i + nk ≤ L → (∀ x, x < L → byO dd o nk P i x < 32768) ∧ (∀ x, i + nk ≤ x → x < L → byO dd o nk P i x = 0) ∧ dgV (byO dd o nk P i) L = dgV dd i * dgV (fun q => dd (o + q)) nk
  | 0, _, _ => by
    refine ⟨fun x hx => ?_, fun x _ hx => hP x hx, ?_⟩
    · show P x < 32768
      rw [hP x hx]
      decide
    · show dgV P L = 0 * _
      rw [Nat.zero_mul]
      exact smN_z fun x hx => by rw [hP x hx, Nat.zero_mul]
  | i + 1, ha, hL => by
    obtain ⟨h1, h2, h3⟩ := byO_ok hP hb i (fun q hq => ha q (by omega)) (by omega)
    obtain ⟨q1, q2⟩ := byQ_lt (o := o) (ha i (by omega)) h1 nk hb (by omega)
    have hv := byQ_val (dd := dd) (o := o) (i := i) (P := byO dd o nk P i) (L := L) nk (by omega)
    have hz : ∀ j, j ≤ nk → ∀ x, i + nk ≤ x → x < L → (byQ dd o i (byO dd o nk P i) j).1 x = 0 := by
      intro j
      induction j with
      | zero => exact fun _ x hx hx2 => h2 x (by omega) hx2
      | succ j ih =>
        intro hj x hx hx2
        show va_up (byQ dd o i (byO dd o nk P i) j).1 (i + j) _ x = 0
        rw [va_up_ne _ _ (by omega)]
        exact ih (by omega) x hx hx2
    by_cases hnk : nk = 0
    · have e : byO dd o nk P (i + 1) = (byQ dd o i (byO dd o nk P i) nk).1 := if_pos hnk
      rw [e]
      refine ⟨q1, fun x hx hx2 => hz nk (Nat.le_refl _) x (by omega) hx2, ?_⟩
      subst hnk
      rw [show dgV (fun q => dd (o + q)) 0 = 0 from rfl, Nat.mul_zero]
      rw [show dgV (fun q => dd (o + q)) 0 = 0 from rfl, Nat.mul_zero] at h3
      exact h3
    · have e : byO dd o nk P (i + 1) = va_up (byQ dd o i (byO dd o nk P i) nk).1 (i + nk) (byQ dd o i (byO dd o nk P i) nk).2 := if_neg hnk
      rw [e]
      refine ⟨fun x hx => ?_, fun x hx hx2 => ?_, ?_⟩
      · unfold va_up
        split
        · exact q2
        · exact q1 x hx
      · rw [va_up_ne _ _ (by omega)]
        exact hz nk (Nat.le_refl _) x (by omega) hx2
      · have hu := dgV_up (byQ dd o i (byO dd o nk P i) nk).1 (i + nk) (byQ dd o i (byO dd o nk P i) nk).2 L (by omega)
        rw [hz nk (Nat.le_refl _) (i + nk) (Nat.le_refl _) (by omega), Nat.zero_mul, Nat.add_zero] at hu
        rw [hu, hv, h3, dgV_s, Nat.add_mul]
/-- the digits that the hand leaves are the product's -/
theorem byO_dig {dd : Nat → Nat} {o na nk : Nat} {P : Nat → Nat} (hP : ∀ x, x < na + nk → P x = 0) (ha : ∀ q, q < na → dd q < 32768) (hb : ∀ q, q < nk → dd (o + q) < 32768) {x : Nat} (hx : x < na + nk) : byO dd o nk P na x = dgV dd na * dgV (fun q => dd (o + q)) nk / 32768 ^ x % 32768 := by
  obtain ⟨h1, h2, h3⟩ := byO_ok hP hb na ha (Nat.le_refl _)
  rw [← h3, dgV_at h1 hx]
theorem fl0_z {pp : Nat → Nat} {n x : Nat} (h : x < n) : flN pp 0 0 n x = 0 := if_pos (by omega)
set_option maxHeartbeats 4000000 in
set_option maxRecDepth 100000 in
theorem lp_byZ {p : Program} {l : Launch} {e : Env} {R : Room} {s : State} {m : MethodId} {args : Array Value} {below : List Frame} {meth : Method} {c : Code} {cells slots : Nat} {Q : State → Prop} {A : Nat → Prop} {H0 : Heap} {D : va_G} {cI cT : ClassId} (g : Nat → Nat) (lg N rd tk k tm : Nat) (dd ct : Nat → Nat) (pp : Nat → Nat) (hC0 : CallFix p m c cX4_by 9 s args wsX4_by RX4) (hK : va_K D vwCl [(cI, .int), (cT, .object RX1)] s) (hA : ∀ q, H0.size ≤ q → A q) (hk : k ≤ 1) (hL : ct 0 + ct k ≤ 1024) (ha : ∀ q, q < ct 0 → dd q < 32768) (hbb : ∀ q, q < ct k → dd (1024 * k + q) < 32768)
    (kk : ∀ (j : Nat) (H : Heap) (locs : List Loc) (ls : Array Slot), j = ct 0 + ct k → va_P D vwCl [(g 0, .inr (4, [.int (nI (lg)), .int (nI (N)), .int (nI (rd)), .ref (g 1), .ref (g 2), .ref (g 3), .int (nI (ct 0 + ct k)), .int (nI (tk))])), (g 1, .inl (cI, 2048, .inl (nA (dd)))), (g 2, .inl (cI, 2, .inl (nA (ct)))), (g 3, .inl (cI, 2048, .inl (nA (flN pp 0 0 j))))] H → va_D A [(g 0, .inr (4, [.int (nI (lg)), .int (nI (N)), .int (nI (rd)), .ref (g 1), .ref (g 2), .ref (g 3), .int (nI (ct 0 + ct k)), .int (nI (tk))])), (g 1, .inl (cI, 2048, .inl (nA (dd)))), (g 2, .inl (cI, 2, .inl (nA (ct)))), (g 3, .inl (cI, 2048, .inl (nA (flN pp 0 0 j))))] → va_S A H0 H locs → lv_has ls 9 [(3, .int (nI (j))), (0, .ref (g 0)), (1, .int (nI (k))), (2, .int (nI (tm)))] → W p l e R s m args below meth c H locs cells slots Q (F0 m 40 ls [])) :
    ∀ (nn j : Nat) (H : Heap) (locs : List Loc) (ls : Array Slot), ct 0 + ct k - j < nn → j ≤ ct 0 + ct k → va_P D vwCl [(g 0, .inr (4, [.int (nI (lg)), .int (nI (N)), .int (nI (rd)), .ref (g 1), .ref (g 2), .ref (g 3), .int (nI (ct 0 + ct k)), .int (nI (tk))])), (g 1, .inl (cI, 2048, .inl (nA (dd)))), (g 2, .inl (cI, 2, .inl (nA (ct)))), (g 3, .inl (cI, 2048, .inl (nA (flN pp 0 0 j))))] H → va_D A [(g 0, .inr (4, [.int (nI (lg)), .int (nI (N)), .int (nI (rd)), .ref (g 1), .ref (g 2), .ref (g 3), .int (nI (ct 0 + ct k)), .int (nI (tk))])), (g 1, .inl (cI, 2048, .inl (nA (dd)))), (g 2, .inl (cI, 2, .inl (nA (ct)))), (g 3, .inl (cI, 2048, .inl (nA (flN pp 0 0 j))))] → va_S A H0 H locs → lv_has ls 9 [(3, .int (nI (j))), (0, .ref (g 0)), (1, .int (nI (k))), (2, .int (nI (tm)))] → W p l e R s m args below meth c H locs cells slots Q (F0 m 19 ls []) := by
  obtain ⟨hx, hb, hml, hown, hts⟩ := id hC0
  intro nn
  induction nn with
  | zero => intro _ _ _ _ h; exact absurd h (Nat.not_lt_zero _)
  | succ nn ih =>
    intro j H locs ls hn hj hP hD hS hl
    refine lv_iload_n hx hb dX4_by_19 rfl (lv_at hl 0 rfl) ?_
    refine lv_aload_n hx hb dX4_by_20 rfl (lv_at hl 1 rfl) ?_
    refine va_get (D := D) (ci := 4) (v := .int (nI (ct 0 + ct k))) (C := RX4) (T := TX4) (N := 8) hx hb hts inX4_X4_by hown hK hP 0 rfl rfl 6 (by decide) (hts (.fieldLink RX4 30 "TransformProductModel" "length" "I") (by decide +kernel)) (fun _ h9 => h9) rfl dX4_by_21 ?_
    refine kr_ge (tgt := 40) hx hb dX4_by_24 (by decide) (by omega) (by omega) (fun hc => ?_) (fun hc => ?_)
    · exact kk j H locs ls (by omega) hP hD hS hl
    · refine lv_aload_n hx hb dX4_by_27 rfl (lv_at hl 1 rfl) ?_
      refine va_get (D := D) (ci := 4) (v := .ref (g 3)) (C := RX4) (T := TX4) (N := 8) hx hb hts inX4_X4_by hown hK hP 0 rfl rfl 5 (by decide) (hts (.fieldLink RX4 16 "TransformProductModel" "product" "[I") (by decide +kernel)) (fun _ h9 => h9) rfl dX4_by_28 ?_
      refine lv_iload_n hx hb dX4_by_31 rfl (lv_at hl 0 rfl) ?_
      refine lv_iconst (v := nI 0) hx hb dX4_by_32 (by decide) ?_
      refine kr_st hx hb hK hP hD hS 3 0 rfl rfl (by omega) (by decide) dX4_by_33 (fun H locs hP hD hS => ?_)
      have hP : va_P D vwCl [(g 0, .inr (4, [.int (nI (lg)), .int (nI (N)), .int (nI (rd)), .ref (g 1), .ref (g 2), .ref (g 3), .int (nI (ct 0 + ct k)), .int (nI (tk))])), (g 1, .inl (cI, 2048, .inl (nA (dd)))), (g 2, .inl (cI, 2, .inl (nA (ct)))), (g 3, .inl (cI, 2048, .inl (nA (va_up (flN pp 0 0 j) j 0))))] H := hP
      have hD : va_D A [(g 0, .inr (4, [.int (nI (lg)), .int (nI (N)), .int (nI (rd)), .ref (g 1), .ref (g 2), .ref (g 3), .int (nI (ct 0 + ct k)), .int (nI (tk))])), (g 1, .inl (cI, 2048, .inl (nA (dd)))), (g 2, .inl (cI, 2, .inl (nA (ct)))), (g 3, .inl (cI, 2048, .inl (nA (va_up (flN pp 0 0 j) j 0))))] := hD
      rw [flN_s0] at hP hD
      refine lv_iinc (v := nI (j + 1)) (lv' := [(3, .int (nI (j + 1))), (0, .ref (g 0)), (1, .int (nI (k))), (2, .int (nI (tm)))]) hx hb dX4_by_34 hl (k := 0) rfl (by rw [show Int32.ofInt 1 = nI 1 by decide]; exact nI_add _ _) (by decide) rfl (fun ls hl => ?_)
      refine lv_goto (tgt := 19) hx hb dX4_by_37 (by decide) ?_
      exact ih (j + 1) H locs ls (by omega) (by omega) hP hD hS (lv_sub hl [0, 1, 2, 3] rfl)
set_option maxHeartbeats 4000000 in
set_option maxRecDepth 100000 in
theorem lp_byI {p : Program} {l : Launch} {e : Env} {R : Room} {s : State} {m : MethodId} {args : Array Value} {below : List Frame} {meth : Method} {c : Code} {cells slots : Nat} {Q : State → Prop} {A : Nat → Prop} {H0 : Heap} {D : va_G} {cI cT : ClassId} (g : Nat → Nat) (lg N rd tk k tm : Nat) (dd ct : Nat → Nat) (i : Nat) (P : Nat → Nat) (hC0 : CallFix p m c cX4_by 9 s args wsX4_by RX4) (hK : va_K D vwCl [(cI, .int), (cT, .object RX1)] s) (hA : ∀ q, H0.size ≤ q → A q) (hk : k ≤ 1) (hL : ct 0 + ct k ≤ 1024) (ha : ∀ q, q < ct 0 → dd q < 32768) (hbb : ∀ q, q < ct k → dd (1024 * k + q) < 32768) (hi : i < ct 0) (hPl : ∀ x, x < ct 0 + ct k → P x < 32768)
    (kk : ∀ (j : Nat) (H : Heap) (locs : List Loc) (ls : Array Slot), j = ct k → va_P D vwCl [(g 0, .inr (4, [.int (nI (lg)), .int (nI (N)), .int (nI (rd)), .ref (g 1), .ref (g 2), .ref (g 3), .int (nI (ct 0 + ct k)), .int (nI (tk))])), (g 1, .inl (cI, 2048, .inl (nA (dd)))), (g 2, .inl (cI, 2, .inl (nA (ct)))), (g 3, .inl (cI, 2048, .inl (nA ((byQ dd (1024 * k) i P j).1))))] H → va_D A [(g 0, .inr (4, [.int (nI (lg)), .int (nI (N)), .int (nI (rd)), .ref (g 1), .ref (g 2), .ref (g 3), .int (nI (ct 0 + ct k)), .int (nI (tk))])), (g 1, .inl (cI, 2048, .inl (nA (dd)))), (g 2, .inl (cI, 2, .inl (nA (ct)))), (g 3, .inl (cI, 2048, .inl (nA ((byQ dd (1024 * k) i P j).1))))] → va_S A H0 H locs → lv_has ls 9 [(6, .int (nI (j))), (4, .long (lN ((byQ dd (1024 * k) i P j).2))), (3, .int (nI (i))), (0, .ref (g 0)), (1, .int (nI (k))), (2, .int (nI (tm)))] → W p l e R s m args below meth c H locs cells slots Q (F0 m 137 ls [])) :
    ∀ (nn j : Nat) (H : Heap) (locs : List Loc) (ls : Array Slot), ct k - j < nn → j ≤ ct k → va_P D vwCl [(g 0, .inr (4, [.int (nI (lg)), .int (nI (N)), .int (nI (rd)), .ref (g 1), .ref (g 2), .ref (g 3), .int (nI (ct 0 + ct k)), .int (nI (tk))])), (g 1, .inl (cI, 2048, .inl (nA (dd)))), (g 2, .inl (cI, 2, .inl (nA (ct)))), (g 3, .inl (cI, 2048, .inl (nA ((byQ dd (1024 * k) i P j).1))))] H → va_D A [(g 0, .inr (4, [.int (nI (lg)), .int (nI (N)), .int (nI (rd)), .ref (g 1), .ref (g 2), .ref (g 3), .int (nI (ct 0 + ct k)), .int (nI (tk))])), (g 1, .inl (cI, 2048, .inl (nA (dd)))), (g 2, .inl (cI, 2, .inl (nA (ct)))), (g 3, .inl (cI, 2048, .inl (nA ((byQ dd (1024 * k) i P j).1))))] → va_S A H0 H locs → lv_has ls 9 [(6, .int (nI (j))), (4, .long (lN ((byQ dd (1024 * k) i P j).2))), (3, .int (nI (i))), (0, .ref (g 0)), (1, .int (nI (k))), (2, .int (nI (tm)))] → W p l e R s m args below meth c H locs cells slots Q (F0 m 58 ls []) := by
  obtain ⟨hx, hb, hml, hown, hts⟩ := id hC0
  intro nn
  induction nn with
  | zero => intro _ _ _ _ h; exact absurd h (Nat.not_lt_zero _)
  | succ nn ih =>
    intro j H locs ls hn hj hP hD hS hl
    refine lv_iload hx hb dX4_by_58 (lv_at hl 0 rfl) ?_
    refine lv_aload_n hx hb dX4_by_60 rfl (lv_at hl 3 rfl) ?_
    refine va_get (D := D) (ci := 4) (v := .ref (g 2)) (C := RX4) (T := TX4) (N := 8) hx hb hts inX4_X4_by hown hK hP 0 rfl rfl 4 (by decide) (hts (.fieldLink RX4 13 "TransformProductModel" "counts" "[I") (by decide +kernel)) (fun _ h9 => h9) rfl dX4_by_61 ?_
    refine lv_iload_n hx hb dX4_by_64 rfl (lv_at hl 4 rfl) ?_
    refine kr_ld hx hb hK hP 2 0 rfl rfl (by omega) (by decide) dX4_by_65 ?_
    refine kr_ge (tgt := 137) hx hb dX4_by_66 (by decide) (by omega) (by omega) (fun hc => ?_) (fun hc => ?_)
    · exact kk j H locs ls (by omega) hP hD hS hl
    · obtain ⟨b1, b2⟩ := byQ_lt (o := 1024 * k) (ha i hi) hPl j (fun q hq => hbb q (by omega)) (show i + j ≤ ct 0 + ct k by omega)
      have b3 := by_s (ha i hi) (hbb j hc) (b1 (i + j) (by omega)) b2
      have b4 := ha i hi
      have b5 := hbb j hc
      have b6 := b1 (i + j) (by omega)
      refine lv_aload_n hx hb dX4_by_69 rfl (lv_at hl 3 rfl) ?_
      refine va_get (D := D) (ci := 4) (v := .ref (g 1)) (C := RX4) (T := TX4) (N := 8) hx hb hts inX4_X4_by hown hK hP 0 rfl rfl 3 (by decide) (hts (.fieldLink RX4 7 "TransformProductModel" "digits" "[I") (by decide +kernel)) (fun _ h9 => h9) rfl dX4_by_70 ?_
      refine lv_iload_n hx hb dX4_by_73 rfl (lv_at hl 2 rfl) ?_
      refine kr_ld hx hb hK hP 1 0 rfl rfl (by omega) (by decide) dX4_by_74 ?_
      refine lv_i2l hx hb dX4_by_75 (nI_l (by omega)) ?_
      refine lv_aload_n hx hb dX4_by_76 rfl (lv_at hl 3 rfl) ?_
      refine va_get (D := D) (ci := 4) (v := .ref (g 1)) (C := RX4) (T := TX4) (N := 8) hx hb hts inX4_X4_by hown hK hP 0 rfl rfl 3 (by decide) (hts (.fieldLink RX4 7 "TransformProductModel" "digits" "[I") (by decide +kernel)) (fun _ h9 => h9) rfl dX4_by_77 ?_
      refine lv_sipush (v := nI 1024) hx hb dX4_by_80 (by decide) ?_
      refine lv_iload_n hx hb dX4_by_83 rfl (lv_at hl 4 rfl) ?_
      refine lv_imul hx hb dX4_by_84 ?_
      refine kr_i (pk_mul _ _) ?_
      refine lv_iload hx hb dX4_by_85 (lv_at hl 0 rfl) ?_
      refine lv_iadd hx hb dX4_by_87 ?_
      refine kr_i (nI_add _ _) ?_
      refine kr_ld hx hb hK hP 1 0 rfl rfl (by omega) (by decide) dX4_by_88 ?_
      refine lv_i2l hx hb dX4_by_89 (nI_l (by omega)) ?_
      refine lv_lmul hx hb dX4_by_90 ?_
      refine kr_l (lN_mul _ _) ?_
      refine lv_aload_n hx hb dX4_by_91 rfl (lv_at hl 3 rfl) ?_
      refine va_get (D := D) (ci := 4) (v := .ref (g 3)) (C := RX4) (T := TX4) (N := 8) hx hb hts inX4_X4_by hown hK hP 0 rfl rfl 5 (by decide) (hts (.fieldLink RX4 16 "TransformProductModel" "product" "[I") (by decide +kernel)) (fun _ h9 => h9) rfl dX4_by_92 ?_
      refine lv_iload_n hx hb dX4_by_95 rfl (lv_at hl 2 rfl) ?_
      refine lv_iload hx hb dX4_by_96 (lv_at hl 0 rfl) ?_
      refine lv_iadd hx hb dX4_by_98 ?_
      refine kr_i (nI_add _ _) ?_
      refine kr_ld hx hb hK hP 3 0 rfl rfl (by omega) (by decide) dX4_by_99 ?_
      refine lv_i2l hx hb dX4_by_100 (nI_l (by omega)) ?_
      refine lv_ladd hx hb dX4_by_101 ?_
      refine kr_l (lN_add _ _) ?_
      refine lv_lload hx hb dX4_by_102 (lv_at hl 1 rfl) ?_
      refine lv_ladd hx hb dX4_by_104 ?_
      refine kr_l (lN_add _ _) ?_
      refine lv_lstore (lv' := [(7, .long (lN ((((dd i) * (dd ((1024 * k) + j))) + (((byQ dd (1024 * k) i P j).1) (i + j))) + ((byQ dd (1024 * k) i P j).2)))), (6, .int (nI (j))), (4, .long (lN ((byQ dd (1024 * k) i P j).2))), (3, .int (nI (i))), (0, .ref (g 0)), (1, .int (nI (k))), (2, .int (nI (tm)))]) hx hb dX4_by_105 hl (by decide) rfl (fun ls hl => ?_)
      refine lv_aload_n hx hb dX4_by_107 rfl (lv_at hl 4 rfl) ?_
      refine va_get (D := D) (ci := 4) (v := .ref (g 3)) (C := RX4) (T := TX4) (N := 8) hx hb hts inX4_X4_by hown hK hP 0 rfl rfl 5 (by decide) (hts (.fieldLink RX4 16 "TransformProductModel" "product" "[I") (by decide +kernel)) (fun _ h9 => h9) rfl dX4_by_108 ?_
      refine lv_iload_n hx hb dX4_by_111 rfl (lv_at hl 3 rfl) ?_
      refine lv_iload hx hb dX4_by_112 (lv_at hl 1 rfl) ?_
      refine lv_iadd hx hb dX4_by_114 ?_
      refine kr_i (nI_add _ _) ?_
      refine lv_lload hx hb dX4_by_115 (lv_at hl 0 rfl) ?_
      refine lv_ldc2 hx hb hown (hts (.constantLong RX4 48 (32768)) (by decide +kernel)) dX4_by_117 ?_
      refine kr_l (show (32768 : Int64) = lN 32768 by decide) ?_
      refine lv_lrem hx hb dX4_by_120 (kn_lne (by omega) (by omega)) ?_
      refine kr_l (pk_lRem (by omega) (by omega) (by omega)) ?_
      refine lv_l2i hx hb dX4_by_121 (lN_i _) ?_
      refine kr_st hx hb hK hP hD hS 3 0 rfl rfl (by omega) (by decide) dX4_by_122 (fun H locs hP hD hS => ?_)
      have hP : va_P D vwCl [(g 0, .inr (4, [.int (nI (lg)), .int (nI (N)), .int (nI (rd)), .ref (g 1), .ref (g 2), .ref (g 3), .int (nI (ct 0 + ct k)), .int (nI (tk))])), (g 1, .inl (cI, 2048, .inl (nA (dd)))), (g 2, .inl (cI, 2, .inl (nA (ct)))), (g 3, .inl (cI, 2048, .inl (nA (va_up ((byQ dd (1024 * k) i P j).1) (i + j) (((((dd i) * (dd ((1024 * k) + j))) + (((byQ dd (1024 * k) i P j).1) (i + j))) + ((byQ dd (1024 * k) i P j).2)) % 32768)))))] H := hP
      have hD : va_D A [(g 0, .inr (4, [.int (nI (lg)), .int (nI (N)), .int (nI (rd)), .ref (g 1), .ref (g 2), .ref (g 3), .int (nI (ct 0 + ct k)), .int (nI (tk))])), (g 1, .inl (cI, 2048, .inl (nA (dd)))), (g 2, .inl (cI, 2, .inl (nA (ct)))), (g 3, .inl (cI, 2048, .inl (nA (va_up ((byQ dd (1024 * k) i P j).1) (i + j) (((((dd i) * (dd ((1024 * k) + j))) + (((byQ dd (1024 * k) i P j).1) (i + j))) + ((byQ dd (1024 * k) i P j).2)) % 32768)))))] := hD
      refine lv_lload hx hb dX4_by_123 (lv_at hl 0 rfl) ?_
      refine lv_ldc2 hx hb hown (hts (.constantLong RX4 48 (32768)) (by decide +kernel)) dX4_by_125 ?_
      refine kr_l (show (32768 : Int64) = lN 32768 by decide) ?_
      refine lv_ldiv hx hb dX4_by_128 (kn_lne (by omega) (by omega)) ?_
      refine kr_l (pk_lDiv (by omega) (by omega) (by omega)) ?_
      refine lv_lstore (lv' := [(4, .long (lN (((((dd i) * (dd ((1024 * k) + j))) + (((byQ dd (1024 * k) i P j).1) (i + j))) + ((byQ dd (1024 * k) i P j).2)) / 32768))), (7, .long (lN ((((dd i) * (dd ((1024 * k) + j))) + (((byQ dd (1024 * k) i P j).1) (i + j))) + ((byQ dd (1024 * k) i P j).2)))), (6, .int (nI (j))), (3, .int (nI (i))), (0, .ref (g 0)), (1, .int (nI (k))), (2, .int (nI (tm)))]) hx hb dX4_by_129 hl (by decide) rfl (fun ls hl => ?_)
      refine lv_iinc (v := nI (j + 1)) (lv' := [(6, .int (nI (j + 1))), (4, .long (lN (((((dd i) * (dd ((1024 * k) + j))) + (((byQ dd (1024 * k) i P j).1) (i + j))) + ((byQ dd (1024 * k) i P j).2)) / 32768))), (7, .long (lN ((((dd i) * (dd ((1024 * k) + j))) + (((byQ dd (1024 * k) i P j).1) (i + j))) + ((byQ dd (1024 * k) i P j).2)))), (3, .int (nI (i))), (0, .ref (g 0)), (1, .int (nI (k))), (2, .int (nI (tm)))]) hx hb dX4_by_131 hl (k := 2) rfl (by rw [show Int32.ofInt 1 = nI 1 by decide]; exact nI_add _ _) (by decide) rfl (fun ls hl => ?_)
      refine lv_goto (tgt := 58) hx hb dX4_by_134 (by decide) ?_
      exact ih (j + 1) H locs ls (by omega) (by omega) hP hD hS (lv_sub hl [0, 1, 3, 4, 5, 6] rfl)
set_option maxHeartbeats 4000000 in
set_option maxRecDepth 100000 in
theorem lp_byU {p : Program} {l : Launch} {e : Env} {R : Room} {s : State} {m : MethodId} {args : Array Value} {below : List Frame} {meth : Method} {c : Code} {cells slots : Nat} {Q : State → Prop} {A : Nat → Prop} {H0 : Heap} {D : va_G} {cI cT : ClassId} (g : Nat → Nat) (lg N rd tk k tm : Nat) (dd ct : Nat → Nat) (P : Nat → Nat) (hC0 : CallFix p m c cX4_by 9 s args wsX4_by RX4) (hK : va_K D vwCl [(cI, .int), (cT, .object RX1)] s) (hA : ∀ q, H0.size ≤ q → A q) (hk : k ≤ 1) (hL : ct 0 + ct k ≤ 1024) (ha : ∀ q, q < ct 0 → dd q < 32768) (hbb : ∀ q, q < ct k → dd (1024 * k + q) < 32768) (hP0 : ∀ x, x < ct 0 + ct k → P x = 0)
    (kk : ∀ (i : Nat) (H : Heap) (locs : List Loc) (ls : Array Slot), i = ct 0 → va_P D vwCl [(g 0, .inr (4, [.int (nI (lg)), .int (nI (N)), .int (nI (rd)), .ref (g 1), .ref (g 2), .ref (g 3), .int (nI (ct 0 + ct k)), .int (nI (tk))])), (g 1, .inl (cI, 2048, .inl (nA (dd)))), (g 2, .inl (cI, 2, .inl (nA (ct)))), (g 3, .inl (cI, 2048, .inl (nA ((byO dd (1024 * k) (ct k) P i)))))] H → va_D A [(g 0, .inr (4, [.int (nI (lg)), .int (nI (N)), .int (nI (rd)), .ref (g 1), .ref (g 2), .ref (g 3), .int (nI (ct 0 + ct k)), .int (nI (tk))])), (g 1, .inl (cI, 2048, .inl (nA (dd)))), (g 2, .inl (cI, 2, .inl (nA (ct)))), (g 3, .inl (cI, 2048, .inl (nA ((byO dd (1024 * k) (ct k) P i)))))] → va_S A H0 H locs → lv_has ls 9 [(3, .int (nI (i))), (0, .ref (g 0)), (1, .int (nI (k))), (2, .int (nI (tm)))] → W p l e R s m args below meth c H locs cells slots Q (F0 m 168 ls [])) :
    ∀ (nn i : Nat) (H : Heap) (locs : List Loc) (ls : Array Slot), ct 0 - i < nn → i ≤ ct 0 → va_P D vwCl [(g 0, .inr (4, [.int (nI (lg)), .int (nI (N)), .int (nI (rd)), .ref (g 1), .ref (g 2), .ref (g 3), .int (nI (ct 0 + ct k)), .int (nI (tk))])), (g 1, .inl (cI, 2048, .inl (nA (dd)))), (g 2, .inl (cI, 2, .inl (nA (ct)))), (g 3, .inl (cI, 2048, .inl (nA ((byO dd (1024 * k) (ct k) P i)))))] H → va_D A [(g 0, .inr (4, [.int (nI (lg)), .int (nI (N)), .int (nI (rd)), .ref (g 1), .ref (g 2), .ref (g 3), .int (nI (ct 0 + ct k)), .int (nI (tk))])), (g 1, .inl (cI, 2048, .inl (nA (dd)))), (g 2, .inl (cI, 2, .inl (nA (ct)))), (g 3, .inl (cI, 2048, .inl (nA ((byO dd (1024 * k) (ct k) P i)))))] → va_S A H0 H locs → lv_has ls 9 [(3, .int (nI (i))), (0, .ref (g 0)), (1, .int (nI (k))), (2, .int (nI (tm)))] → W p l e R s m args below meth c H locs cells slots Q (F0 m 42 ls []) := by
  obtain ⟨hx, hb, hml, hown, hts⟩ := id hC0
  intro nn
  induction nn with
  | zero => intro _ _ _ _ h; exact absurd h (Nat.not_lt_zero _)
  | succ nn ih =>
    intro i H locs ls hn hj hP hD hS hl
    refine lv_iload_n hx hb dX4_by_42 rfl (lv_at hl 0 rfl) ?_
    refine lv_aload_n hx hb dX4_by_43 rfl (lv_at hl 1 rfl) ?_
    refine va_get (D := D) (ci := 4) (v := .ref (g 2)) (C := RX4) (T := TX4) (N := 8) hx hb hts inX4_X4_by hown hK hP 0 rfl rfl 4 (by decide) (hts (.fieldLink RX4 13 "TransformProductModel" "counts" "[I") (by decide +kernel)) (fun _ h9 => h9) rfl dX4_by_44 ?_
    refine lv_iconst (v := nI 0) hx hb dX4_by_47 (by decide) ?_
    refine kr_ld hx hb hK hP 2 0 rfl rfl (by omega) (by decide) dX4_by_48 ?_
    refine kr_ge (tgt := 168) hx hb dX4_by_49 (by decide) (by omega) (by omega) (fun hc => ?_) (fun hc => ?_)
    · exact kk i H locs ls (by omega) hP hD hS hl
    · obtain ⟨o1, o2, o3⟩ := byO_ok (o := 1024 * k) hP0 hbb i (fun q hq => ha q (by omega)) (show i + ct k ≤ ct 0 + ct k by omega)
      refine lv_lconst (v := lN 0) hx hb dX4_by_52 (by decide) ?_
      refine lv_lstore (lv' := [(4, .long (lN (0))), (3, .int (nI (i))), (0, .ref (g 0)), (1, .int (nI (k))), (2, .int (nI (tm)))]) hx hb dX4_by_53 hl (by decide) rfl (fun ls hl => ?_)
      refine lv_iconst (v := nI 0) hx hb dX4_by_55 (by decide) ?_
      refine lv_istore (lv' := [(6, .int (nI (0))), (4, .long (lN (0))), (3, .int (nI (i))), (0, .ref (g 0)), (1, .int (nI (k))), (2, .int (nI (tm)))]) hx hb dX4_by_56 hl (by decide) rfl (fun ls hl => ?_)
      refine lp_byI g lg N rd tk k tm dd ct i (byO dd (1024 * k) (ct k) P i) hC0 hK hA hk hL ha hbb hc o1 (fun j H locs ls hj2 hP hD hS hl => ?_) (ct k + 1) 0 H locs ls (by omega) (by omega) hP hD hS (lv_sub hl [0, 1, 2, 3, 4, 5] rfl)
      rw [hj2] at hP hD hl
      refine lv_aload_n hx hb dX4_by_137 rfl (lv_at hl 3 rfl) ?_
      refine va_get (D := D) (ci := 4) (v := .ref (g 2)) (C := RX4) (T := TX4) (N := 8) hx hb hts inX4_X4_by hown hK hP 0 rfl rfl 4 (by decide) (hts (.fieldLink RX4 13 "TransformProductModel" "counts" "[I") (by decide +kernel)) (fun _ h9 => h9) rfl dX4_by_138 ?_
      refine lv_iload_n hx hb dX4_by_141 rfl (lv_at hl 4 rfl) ?_
      refine kr_ld hx hb hK hP 2 0 rfl rfl (by omega) (by decide) dX4_by_142 ?_
      refine kr_le0 (tgt := 162) hx hb dX4_by_143 (by decide) (by omega) (fun hz => ?_) (fun hz => ?_)
      · rw [show (byQ dd (1024 * k) i (byO dd (1024 * k) (ct k) P i) (ct k)).1 = (byO dd (1024 * k) (ct k) P (i + 1)) from (if_pos hz).symm] at hP hD
        refine lv_iinc (v := nI (i + 1)) (lv' := [(3, .int (nI (i + 1))), (6, .int (nI (ct k))), (4, .long (lN ((byQ dd (1024 * k) i (byO dd (1024 * k) (ct k) P i) (ct k)).2))), (0, .ref (g 0)), (1, .int (nI (k))), (2, .int (nI (tm)))]) hx hb dX4_by_162 hl (k := 2) rfl (by rw [show Int32.ofInt 1 = nI 1 by decide]; exact nI_add _ _) (by decide) rfl (fun ls hl => ?_)
        refine lv_goto (tgt := 42) hx hb dX4_by_165 (by decide) ?_
        exact ih (i + 1) H locs ls (by omega) (by omega) hP hD hS (lv_sub hl [0, 3, 4, 5] rfl)
      · refine lv_aload_n hx hb dX4_by_146 rfl (lv_at hl 3 rfl) ?_
        refine va_get (D := D) (ci := 4) (v := .ref (g 3)) (C := RX4) (T := TX4) (N := 8) hx hb hts inX4_X4_by hown hK hP 0 rfl rfl 5 (by decide) (hts (.fieldLink RX4 16 "TransformProductModel" "product" "[I") (by decide +kernel)) (fun _ h9 => h9) rfl dX4_by_147 ?_
        refine lv_iload_n hx hb dX4_by_150 rfl (lv_at hl 2 rfl) ?_
        refine lv_aload_n hx hb dX4_by_151 rfl (lv_at hl 3 rfl) ?_
        refine va_get (D := D) (ci := 4) (v := .ref (g 2)) (C := RX4) (T := TX4) (N := 8) hx hb hts inX4_X4_by hown hK hP 0 rfl rfl 4 (by decide) (hts (.fieldLink RX4 13 "TransformProductModel" "counts" "[I") (by decide +kernel)) (fun _ h9 => h9) rfl dX4_by_152 ?_
        refine lv_iload_n hx hb dX4_by_155 rfl (lv_at hl 4 rfl) ?_
        refine kr_ld hx hb hK hP 2 0 rfl rfl (by omega) (by decide) dX4_by_156 ?_
        refine lv_iadd hx hb dX4_by_157 ?_
        refine kr_i (nI_add _ _) ?_
        refine lv_lload hx hb dX4_by_158 (lv_at hl 1 rfl) ?_
        refine lv_l2i hx hb dX4_by_160 (lN_i _) ?_
        refine kr_st hx hb hK hP hD hS 3 0 rfl rfl (by omega) (by decide) dX4_by_161 (fun H locs hP hD hS => ?_)
        have hP : va_P D vwCl [(g 0, .inr (4, [.int (nI (lg)), .int (nI (N)), .int (nI (rd)), .ref (g 1), .ref (g 2), .ref (g 3), .int (nI (ct 0 + ct k)), .int (nI (tk))])), (g 1, .inl (cI, 2048, .inl (nA (dd)))), (g 2, .inl (cI, 2, .inl (nA (ct)))), (g 3, .inl (cI, 2048, .inl (nA (va_up ((byQ dd (1024 * k) i (byO dd (1024 * k) (ct k) P i) (ct k)).1) (i + (ct k)) ((byQ dd (1024 * k) i (byO dd (1024 * k) (ct k) P i) (ct k)).2)))))] H := hP
        have hD : va_D A [(g 0, .inr (4, [.int (nI (lg)), .int (nI (N)), .int (nI (rd)), .ref (g 1), .ref (g 2), .ref (g 3), .int (nI (ct 0 + ct k)), .int (nI (tk))])), (g 1, .inl (cI, 2048, .inl (nA (dd)))), (g 2, .inl (cI, 2, .inl (nA (ct)))), (g 3, .inl (cI, 2048, .inl (nA (va_up ((byQ dd (1024 * k) i (byO dd (1024 * k) (ct k) P i) (ct k)).1) (i + (ct k)) ((byQ dd (1024 * k) i (byO dd (1024 * k) (ct k) P i) (ct k)).2)))))] := hD
        rw [show va_up (byQ dd (1024 * k) i (byO dd (1024 * k) (ct k) P i) (ct k)).1 (i + ct k) (byQ dd (1024 * k) i (byO dd (1024 * k) (ct k) P i) (ct k)).2 = (byO dd (1024 * k) (ct k) P (i + 1)) from (if_neg (by omega)).symm] at hP hD
        refine lv_iinc (v := nI (i + 1)) (lv' := [(3, .int (nI (i + 1))), (6, .int (nI (ct k))), (4, .long (lN ((byQ dd (1024 * k) i (byO dd (1024 * k) (ct k) P i) (ct k)).2))), (0, .ref (g 0)), (1, .int (nI (k))), (2, .int (nI (tm)))]) hx hb dX4_by_162 hl (k := 2) rfl (by rw [show Int32.ofInt 1 = nI 1 by decide]; exact nI_add _ _) (by decide) rfl (fun ls hl => ?_)
        refine lv_goto (tgt := 42) hx hb dX4_by_165 (by decide) ?_
        exact ih (i + 1) H locs ls (by omega) (by omega) hP hD hS (lv_sub hl [0, 3, 4, 5] rfl)
set_option maxHeartbeats 4000000 in
set_option maxRecDepth 100000 in
theorem c_X4_by (l : Launch) (D : va_G) (cI cT : ClassId) (sz : Nat) (g : Nat → Nat) (lg N rd len tk : Nat) (dd ct pp : Nat → Nat) (M k tm : Nat) (hM : N = 2 * M) (hN2 : N ≤ 1024) (hk : k ≤ 1) (hL : ct 0 + ct k ≤ 1024) (ha : ∀ q, q < ct 0 → dd q < 32768) (hbb : ∀ q, q < ct k → dd (1024 * k + q) < 32768) : kMv (S := Unit) l yX4_by wsX4_by { frames := 1, cells := 0, slots := 0, locals := 20 } D [(cI, .int), (cT, .object RX1)] [(g 0, .inr (4, [.int (nI (lg)), .int (nI (N)), .int (nI (rd)), .ref (g 1), .ref (g 2), .ref (g 3), .int (nI (len)), .int (nI (tk))])), (g 1, .inl (cI, 2048, .inl (nA (dd)))), (g 2, .inl (cI, 2, .inl (nA (ct)))), (g 3, .inl (cI, 2048, .inl (nA (pp))))] sz (fun _ => True) [.ref (g 0), .int (nI (k)), .int (nI (tm))] (fun _ => True) (fun _ => [(g 0, .inr (4, [.int (nI (lg)), .int (nI (N)), .int (nI (rd)), .ref (g 1), .ref (g 2), .ref (g 3), .int (nI (trN (byO dd (1024 * k) (ct k) (flN pp 0 0 (ct 0 + ct k)) (ct 0)) (ct 0 + ct k))), .int (nI (tm * M * lg))])), (g 1, .inl (cI, 2048, .inl (nA (dd)))), (g 2, .inl (cI, 2, .inl (nA (ct)))), (g 3, .inl (cI, 2048, .inl (nA (byO dd (1024 * k) (ct k) (flN pp 0 0 (ct 0 + ct k)) (ct 0)))))]) (0) (0) := by
  refine kM_of (Qc := fun A => va_Qv (S := Unit) (fun _ => True) (kB D A (fun _ => [(g 0, .inr (4, [.int (nI (lg)), .int (nI (N)), .int (nI (rd)), .ref (g 1), .ref (g 2), .ref (g 3), .int (nI (trN (byO dd (1024 * k) (ct k) (flN pp 0 0 (ct 0 + ct k)) (ct 0)) (ct 0 + ct k))), .int (nI (tm * M * lg))])), (g 1, .inl (cI, 2048, .inl (nA (dd)))), (g 2, .inl (cI, 2, .inl (nA (ct)))), (g 3, .inl (cI, 2048, .inl (nA (byO dd (1024 * k) (ct k) (flN pp 0 0 (ct 0 + ct k)) (ct 0)))))])) A) (cc := cX4_by) (maxL := 9) (ret := none) (by decide +kernel) rfl (Nat.le_of_ble_eq_true rfl) ?_
  intro p e s m below meth c A ls hC0 hr hlk hin hP hK hD hA hS hE hAe hsz hl
  obtain ⟨hx, hb, hml, hown, hts⟩ := id hC0
  have hl : lv_has ls 9 [(0, .ref (g 0)), (1, .int (nI (k))), (2, .int (nI (tm)))] := hl
  obtain ⟨o1, o2, o3⟩ := byO_ok (P := flN pp 0 0 (ct 0 + ct k)) (o := 1024 * k) (fun x hx => fl0_z hx) hbb (ct 0) ha (Nat.le_refl _)
  refine lv_aload_n hx hb dX4_by_0 rfl (lv_at hl 0 rfl) ?_
  refine lv_aload_n hx hb dX4_by_1 rfl (lv_at hl 0 rfl) ?_
  refine va_get (D := D) (ci := 4) (v := .ref (g 2)) (C := RX4) (T := TX4) (N := 8) hx hb hts inX4_X4_by hown hK hP 0 rfl rfl 4 (by decide) (hts (.fieldLink RX4 13 "TransformProductModel" "counts" "[I") (by decide +kernel)) (fun _ h9 => h9) rfl dX4_by_2 ?_
  refine lv_iconst (v := nI 0) hx hb dX4_by_5 (by decide) ?_
  refine kr_ld hx hb hK hP 2 0 rfl rfl (by omega) (by decide) dX4_by_6 ?_
  refine lv_aload_n hx hb dX4_by_7 rfl (lv_at hl 0 rfl) ?_
  refine va_get (D := D) (ci := 4) (v := .ref (g 2)) (C := RX4) (T := TX4) (N := 8) hx hb hts inX4_X4_by hown hK hP 0 rfl rfl 4 (by decide) (hts (.fieldLink RX4 13 "TransformProductModel" "counts" "[I") (by decide +kernel)) (fun _ h9 => h9) rfl dX4_by_8 ?_
  refine lv_iload_n hx hb dX4_by_11 rfl (lv_at hl 1 rfl) ?_
  refine kr_ld hx hb hK hP 2 0 rfl rfl (by omega) (by decide) dX4_by_12 ?_
  refine lv_iadd hx hb dX4_by_13 ?_
  refine kr_i (nI_add _ _) ?_
  refine va_put (D := D) (ci := 4) (v := .int (nI ((ct 0) + (ct k)))) (ty := .int) (C := RX4) (T := TX4) (N := 8) hx hb hts inX4_X4_by tyX4 tyX4_ok nmX4 hown hK hP hD hS 0 rfl rfl 6 (by decide) (hts (.fieldLink RX4 30 "TransformProductModel" "length" "I") (by decide +kernel)) (fun _ h9 => h9) rfl (by decide +kernel) rfl rfl (Nat.le_of_ble_eq_true rfl) dX4_by_14 (fun H locs hP hD hS => ?_)
  have hP : va_P D vwCl [(g 0, .inr (4, [.int (nI (lg)), .int (nI (N)), .int (nI (rd)), .ref (g 1), .ref (g 2), .ref (g 3), .int (nI ((ct 0) + (ct k))), .int (nI (tk))])), (g 1, .inl (cI, 2048, .inl (nA (dd)))), (g 2, .inl (cI, 2, .inl (nA (ct)))), (g 3, .inl (cI, 2048, .inl (nA (pp))))] H := hP
  have hD : va_D A [(g 0, .inr (4, [.int (nI (lg)), .int (nI (N)), .int (nI (rd)), .ref (g 1), .ref (g 2), .ref (g 3), .int (nI ((ct 0) + (ct k))), .int (nI (tk))])), (g 1, .inl (cI, 2048, .inl (nA (dd)))), (g 2, .inl (cI, 2, .inl (nA (ct)))), (g 3, .inl (cI, 2048, .inl (nA (pp))))] := hD
  refine lv_iconst (v := nI 0) hx hb dX4_by_17 (by decide) ?_
  refine lv_istore_n (lv' := [(3, .int (nI (0))), (0, .ref (g 0)), (1, .int (nI (k))), (2, .int (nI (tm)))]) hx hb dX4_by_18 rfl hl (by decide) rfl (fun ls hl => ?_)
  rw [show pp = flN pp 0 0 0 from (flN_0 _ _ _).symm] at hP hD
  refine lp_byZ g lg N rd tk k tm dd ct pp hC0 hK hA hk hL ha hbb (fun j H locs ls hj hP hD hS hl => ?_) (ct 0 + ct k + 1) 0 H locs ls (by omega) (by omega) hP hD hS (lv_sub hl [0, 1, 2, 3] rfl)
  rw [hj] at hP hD hl
  refine lv_iconst (v := nI 0) hx hb dX4_by_40 (by decide) ?_
  refine lv_istore_n (lv' := [(3, .int (nI (0))), (0, .ref (g 0)), (1, .int (nI (k))), (2, .int (nI (tm)))]) hx hb dX4_by_41 rfl hl (by decide) rfl (fun ls hl => ?_)
  refine lp_byU g lg N rd tk k tm dd ct (flN pp 0 0 (ct 0 + ct k)) hC0 hK hA hk hL ha hbb (fun x hx => fl0_z hx) (fun i H locs ls hj hP hD hS hl => ?_) (ct 0 + 1) 0 H locs ls (by omega) (by omega) hP hD hS (lv_sub hl [0, 1, 2, 3] rfl)
  rw [hj] at hP hD hl
  refine lv_aload_n hx hb dX4_by_168 rfl (lv_at hl 1 rfl) ?_
  refine kc_v (wr := []) (va_runV (As := []) (rest := []) hC0 (c_X4_trim l D cI cT H.size g lg N rd (ct 0 + ct k) tk dd ct (byO dd (1024 * k) (ct k) (flN pp 0 0 (ct 0 + ct k)) (ct 0)) (fun i hi => by have := o1 i hi; omega) (by omega)) (cwV 0 hts gX4_by_X4_trim rfl rfl rfl (by decide +kernel) ⟨Nat.le_of_ble_eq_true rfl, Nat.le_of_ble_eq_true rfl⟩) (kp_V (ci := 4) (k0 := 0) kE_0 (fun _ _ _ => trivial) hK hP hD [0, 1, 2, 3] rfl (by decide) rfl rfl) rfl rfl hl.1 rfl (lv_room (Nat.le_of_ble_eq_true rfl)) dX4_by_169 ⟨Nat.le_of_ble_eq_true rfl, Nat.le_of_ble_eq_true rfl⟩) hP hD hS hA [0, 1, 2, 3] [] rfl rfl (by decide) (by decide) (fun uu H locs hw hP hD hS => ?_)
  have hP : va_P D vwCl [(g 0, .inr (4, [.int (nI (lg)), .int (nI (N)), .int (nI (rd)), .ref (g 1), .ref (g 2), .ref (g 3), .int (nI (trN (byO dd (1024 * k) (ct k) (flN pp 0 0 (ct 0 + ct k)) (ct 0)) (ct 0 + ct k))), .int (nI (tk))])), (g 1, .inl (cI, 2048, .inl (nA (dd)))), (g 2, .inl (cI, 2, .inl (nA (ct)))), (g 3, .inl (cI, 2048, .inl (nA (byO dd (1024 * k) (ct k) (flN pp 0 0 (ct 0 + ct k)) (ct 0)))))] H := hP.sub [0, 1, 2, 3] rfl
  have hD : va_D A [(g 0, .inr (4, [.int (nI (lg)), .int (nI (N)), .int (nI (rd)), .ref (g 1), .ref (g 2), .ref (g 3), .int (nI (trN (byO dd (1024 * k) (ct k) (flN pp 0 0 (ct 0 + ct k)) (ct 0)) (ct 0 + ct k))), .int (nI (tk))])), (g 1, .inl (cI, 2048, .inl (nA (dd)))), (g 2, .inl (cI, 2, .inl (nA (ct)))), (g 3, .inl (cI, 2048, .inl (nA (byO dd (1024 * k) (ct k) (flN pp 0 0 (ct 0 + ct k)) (ct 0)))))] := hD.sub [0, 1, 2, 3] (by decide) rfl
  refine lv_aload_n hx hb dX4_by_172 rfl (lv_at hl 1 rfl) ?_
  refine lv_iload_n hx hb dX4_by_173 rfl (lv_at hl 3 rfl) ?_
  refine lv_aload_n hx hb dX4_by_174 rfl (lv_at hl 1 rfl) ?_
  refine va_get (D := D) (ci := 4) (v := .int (nI (N))) (C := RX4) (T := TX4) (N := 8) hx hb hts inX4_X4_by hown hK hP 0 rfl rfl 1 (by decide) (hts (.fieldLink RX4 23 "TransformProductModel" "n" "I") (by decide +kernel)) (fun _ h9 => h9) rfl dX4_by_175 ?_
  refine lv_iconst (v := nI 2) hx hb dX4_by_178 (by decide) ?_
  refine lv_idiv hx hb dX4_by_179 (nI_ne0 (by omega) (by omega)) ?_
  refine kr_i (pk_div (by omega) (by omega) (by omega)) ?_
  refine kr_i (congrArg nI (show N / 2 = M from (by omega))) ?_
  refine lv_imul hx hb dX4_by_180 ?_
  refine kr_i (pk_mul _ _) ?_
  refine lv_aload_n hx hb dX4_by_181 rfl (lv_at hl 1 rfl) ?_
  refine va_get (D := D) (ci := 4) (v := .int (nI (lg))) (C := RX4) (T := TX4) (N := 8) hx hb hts inX4_X4_by hown hK hP 0 rfl rfl 0 (by decide) (hts (.fieldLink RX4 19 "TransformProductModel" "log" "I") (by decide +kernel)) (fun _ h9 => h9) rfl dX4_by_182 ?_
  refine lv_imul hx hb dX4_by_185 ?_
  refine kr_i (pk_mul _ _) ?_
  refine va_put (D := D) (ci := 4) (v := .int (nI ((tm * M) * lg))) (ty := .int) (C := RX4) (T := TX4) (N := 8) hx hb hts inX4_X4_by tyX4 tyX4_ok nmX4 hown hK hP hD hS 0 rfl rfl 7 (by decide) (hts (.fieldLink RX4 33 "TransformProductModel" "taken" "I") (by decide +kernel)) (fun _ h9 => h9) rfl (by decide +kernel) rfl rfl (Nat.le_of_ble_eq_true rfl) dX4_by_186 (fun H locs hP hD hS => ?_)
  have hP : va_P D vwCl [(g 0, .inr (4, [.int (nI (lg)), .int (nI (N)), .int (nI (rd)), .ref (g 1), .ref (g 2), .ref (g 3), .int (nI (trN (byO dd (1024 * k) (ct k) (flN pp 0 0 (ct 0 + ct k)) (ct 0)) (ct 0 + ct k))), .int (nI ((tm * M) * lg))])), (g 1, .inl (cI, 2048, .inl (nA (dd)))), (g 2, .inl (cI, 2, .inl (nA (ct)))), (g 3, .inl (cI, 2048, .inl (nA (byO dd (1024 * k) (ct k) (flN pp 0 0 (ct 0 + ct k)) (ct 0)))))] H := hP
  have hD : va_D A [(g 0, .inr (4, [.int (nI (lg)), .int (nI (N)), .int (nI (rd)), .ref (g 1), .ref (g 2), .ref (g 3), .int (nI (trN (byO dd (1024 * k) (ct k) (flN pp 0 0 (ct 0 + ct k)) (ct 0)) (ct 0 + ct k))), .int (nI ((tm * M) * lg))])), (g 1, .inl (cI, 2048, .inl (nA (dd)))), (g 2, .inl (cI, 2, .inl (nA (ct)))), (g 3, .inl (cI, 2048, .inl (nA (byO dd (1024 * k) (ct k) (flN pp 0 0 (ct 0 + ct k)) (ct 0)))))] := hD
  exact kr_vret () hx hb hr hlk hP hD hS trivial dX4_by_189
set_option maxHeartbeats 4000000 in
set_option maxRecDepth 100000 in
theorem c_X4_multiply (l : Launch) (D : va_G) (cI cT : ClassId) (sz : Nat) (g : Nat → Nat) (lg N rd len tk : Nat) (dd ct pp : Nat → Nat) (M : Nat) (hM : N = 2 * M) (hN2 : N ≤ 1024) (hd : ct 0 + ct 1 ≤ N) (ha : ∀ q, q < ct 0 → dd q < 32768) (hbb : ∀ q, q < ct 1 → dd (1024 * 1 + q) < 32768) : kMi (S := Unit) l yX4_multiply wsX4_multiply { frames := 2, cells := 0, slots := 0, locals := 48 } D [(cI, .int), (cT, .object RX1)] [(g 0, .inr (4, [.int (nI (lg)), .int (nI (N)), .int (nI (1)), .ref (g 1), .ref (g 2), .ref (g 3), .int (nI (len)), .int (nI (tk))])), (g 1, .inl (cI, 2048, .inl (nA (dd)))), (g 2, .inl (cI, 2, .inl (nA (ct)))), (g 3, .inl (cI, 2048, .inl (nA (pp))))] sz (fun _ => True) [.ref (g 0)] (fun r _ => r = nI 1) (fun _ => [(g 0, .inr (4, [.int (nI (lg)), .int (nI (N)), .int (nI (1)), .ref (g 1), .ref (g 2), .ref (g 3), .int (nI (trN (byO dd (1024 * 1) (ct 1) (flN pp 0 0 (ct 0 + ct 1)) (ct 0)) (ct 0 + ct 1))), .int (nI (9 * M * lg))])), (g 1, .inl (cI, 2048, .inl (nA (dd)))), (g 2, .inl (cI, 2, .inl (nA (ct)))), (g 3, .inl (cI, 2048, .inl (nA (byO dd (1024 * 1) (ct 1) (flN pp 0 0 (ct 0 + ct 1)) (ct 0)))))]) (0) (0) := by
  refine kM_of (Qc := fun A => va_Qi (S := Unit) (fun r _ => r = nI 1) (kB D A (fun _ => [(g 0, .inr (4, [.int (nI (lg)), .int (nI (N)), .int (nI (1)), .ref (g 1), .ref (g 2), .ref (g 3), .int (nI (trN (byO dd (1024 * 1) (ct 1) (flN pp 0 0 (ct 0 + ct 1)) (ct 0)) (ct 0 + ct 1))), .int (nI (9 * M * lg))])), (g 1, .inl (cI, 2048, .inl (nA (dd)))), (g 2, .inl (cI, 2, .inl (nA (ct)))), (g 3, .inl (cI, 2048, .inl (nA (byO dd (1024 * 1) (ct 1) (flN pp 0 0 (ct 0 + ct 1)) (ct 0)))))])) A) (cc := cX4_multiply) (maxL := 1) (ret := (some .boolean)) (by decide +kernel) rfl (Nat.le_of_ble_eq_true rfl) ?_
  intro p e s m below meth c A ls hC0 hr hlk hin hP hK hD hA hS hE hAe hsz hl
  obtain ⟨hx, hb, hml, hown, hts⟩ := id hC0
  have hl : lv_has ls 1 [(0, .ref (g 0))] := hl
  refine lv_aload_n hx hb dX4_multiply_0 rfl (lv_at hl 0 rfl) ?_
  refine va_get (D := D) (ci := 4) (v := .int (nI (1))) (C := RX4) (T := TX4) (N := 8) hx hb hts inX4_X4_multiply hown hK hP 0 rfl rfl 2 (by decide) (hts (.fieldLink RX4 26 "TransformProductModel" "isReady" "Z") (by decide +kernel)) (fun _ h9 => h9) rfl dX4_multiply_1 ?_
  refine kr_eq0 (tgt := 27) hx hb dX4_multiply_4 (by decide) (by omega) (fun hc => ?_) (fun hc => ?_)
  · exact absurd hc (by omega)
  · refine lv_aload_n hx hb dX4_multiply_7 rfl (lv_at hl 0 rfl) ?_
    refine va_get (D := D) (ci := 4) (v := .ref (g 2)) (C := RX4) (T := TX4) (N := 8) hx hb hts inX4_X4_multiply hown hK hP 0 rfl rfl 4 (by decide) (hts (.fieldLink RX4 13 "TransformProductModel" "counts" "[I") (by decide +kernel)) (fun _ h9 => h9) rfl dX4_multiply_8 ?_
    refine lv_iconst (v := nI 0) hx hb dX4_multiply_11 (by decide) ?_
    refine kr_ld hx hb hK hP 2 0 rfl rfl (by omega) (by decide) dX4_multiply_12 ?_
    refine lv_aload_n hx hb dX4_multiply_13 rfl (lv_at hl 0 rfl) ?_
    refine va_get (D := D) (ci := 4) (v := .ref (g 2)) (C := RX4) (T := TX4) (N := 8) hx hb hts inX4_X4_multiply hown hK hP 0 rfl rfl 4 (by decide) (hts (.fieldLink RX4 13 "TransformProductModel" "counts" "[I") (by decide +kernel)) (fun _ h9 => h9) rfl dX4_multiply_14 ?_
    refine lv_iconst (v := nI 1) hx hb dX4_multiply_17 (by decide) ?_
    refine kr_ld hx hb hK hP 2 0 rfl rfl (by omega) (by decide) dX4_multiply_18 ?_
    refine lv_iadd hx hb dX4_multiply_19 ?_
    refine kr_i (nI_add _ _) ?_
    refine lv_aload_n hx hb dX4_multiply_20 rfl (lv_at hl 0 rfl) ?_
    refine va_get (D := D) (ci := 4) (v := .int (nI (N))) (C := RX4) (T := TX4) (N := 8) hx hb hts inX4_X4_multiply hown hK hP 0 rfl rfl 1 (by decide) (hts (.fieldLink RX4 23 "TransformProductModel" "n" "I") (by decide +kernel)) (fun _ h9 => h9) rfl dX4_multiply_21 ?_
    refine kr_le (tgt := 29) hx hb dX4_multiply_24 (by decide) (by omega) (by omega) (fun hc => ?_) (fun hc => ?_)
    · refine lv_aload_n hx hb dX4_multiply_29 rfl (lv_at hl 0 rfl) ?_
      refine lv_iconst (v := nI 1) hx hb dX4_multiply_30 (by decide) ?_
      refine lv_bipush (v := nI 9) hx hb dX4_multiply_31 (by decide) ?_
      refine kc_v (wr := []) (va_runV (As := [.int (nI (1)), .int (nI (9))]) (rest := []) hC0 (c_X4_by l D cI cT s.heap.size g lg N 1 len tk dd ct pp M 1 9 hM hN2 (by decide) (by omega) ha hbb) (cwV 2 hts gX4_multiply_X4_by rfl rfl rfl (by decide +kernel) ⟨Nat.le_of_ble_eq_true rfl, Nat.le_of_ble_eq_true rfl⟩) (kp_V (ci := 4) (k0 := 0) kE_0 (fun _ _ _ => trivial) hK hP hD [0, 1, 2, 3] rfl (by decide) rfl rfl) rfl rfl hl.1 rfl (lv_room (Nat.le_of_ble_eq_true rfl)) dX4_multiply_33 ⟨Nat.le_of_ble_eq_true rfl, Nat.le_of_ble_eq_true rfl⟩) hP hD hS hA [0, 1, 2, 3] [] rfl rfl (by decide) (by decide) (fun uu H locs hw hP hD hS => ?_)
      have hP : va_P D vwCl [(g 0, .inr (4, [.int (nI (lg)), .int (nI (N)), .int (nI (1)), .ref (g 1), .ref (g 2), .ref (g 3), .int (nI (trN (byO dd (1024 * 1) (ct 1) (flN pp 0 0 (ct 0 + ct 1)) (ct 0)) (ct 0 + ct 1))), .int (nI (9 * M * lg))])), (g 1, .inl (cI, 2048, .inl (nA (dd)))), (g 2, .inl (cI, 2, .inl (nA (ct)))), (g 3, .inl (cI, 2048, .inl (nA (byO dd (1024 * 1) (ct 1) (flN pp 0 0 (ct 0 + ct 1)) (ct 0)))))] H := hP.sub [0, 1, 2, 3] rfl
      have hD : va_D A [(g 0, .inr (4, [.int (nI (lg)), .int (nI (N)), .int (nI (1)), .ref (g 1), .ref (g 2), .ref (g 3), .int (nI (trN (byO dd (1024 * 1) (ct 1) (flN pp 0 0 (ct 0 + ct 1)) (ct 0)) (ct 0 + ct 1))), .int (nI (9 * M * lg))])), (g 1, .inl (cI, 2048, .inl (nA (dd)))), (g 2, .inl (cI, 2, .inl (nA (ct)))), (g 3, .inl (cI, 2048, .inl (nA (byO dd (1024 * 1) (ct 1) (flN pp 0 0 (ct 0 + ct 1)) (ct 0)))))] := hD.sub [0, 1, 2, 3] (by decide) rfl
      refine lv_iconst (v := nI 1) hx hb dX4_multiply_36 (by decide) ?_
      exact kr_zret () hx hb hr hlk rfl hP hD hS rfl dX4_multiply_37
    · exact absurd hc (by omega)
set_option maxHeartbeats 4000000 in
set_option maxRecDepth 100000 in
theorem c_X4_multiply_no (l : Launch) (D : va_G) (cI cT : ClassId) (sz : Nat) (g : Nat → Nat) (lg N rd len tk : Nat) (dd ct pp : Nat → Nat) (hno : ¬ (¬ rd = 0 ∧ ct 0 + ct 1 ≤ N)) (hN2 : N ≤ 1024) (h1 : ct 0 ≤ N) (h2 : ct 1 ≤ N) (h3 : rd ≤ 1) : kMi (S := Unit) l yX4_multiply wsX4_multiply { frames := 2, cells := 0, slots := 0, locals := 48 } D [(cI, .int), (cT, .object RX1)] [(g 0, .inr (4, [.int (nI (lg)), .int (nI (N)), .int (nI (rd)), .ref (g 1), .ref (g 2), .ref (g 3), .int (nI (len)), .int (nI (tk))])), (g 1, .inl (cI, 2048, .inl (nA (dd)))), (g 2, .inl (cI, 2, .inl (nA (ct)))), (g 3, .inl (cI, 2048, .inl (nA (pp))))] sz (fun _ => True) [.ref (g 0)] (fun r _ => r = nI 0) (fun _ => [(g 0, .inr (4, [.int (nI (lg)), .int (nI (N)), .int (nI (rd)), .ref (g 1), .ref (g 2), .ref (g 3), .int (nI (len)), .int (nI (tk))])), (g 1, .inl (cI, 2048, .inl (nA (dd)))), (g 2, .inl (cI, 2, .inl (nA (ct)))), (g 3, .inl (cI, 2048, .inl (nA (pp))))]) (0) (0) := by
  refine kM_of (Qc := fun A => va_Qi (S := Unit) (fun r _ => r = nI 0) (kB D A (fun _ => [(g 0, .inr (4, [.int (nI (lg)), .int (nI (N)), .int (nI (rd)), .ref (g 1), .ref (g 2), .ref (g 3), .int (nI (len)), .int (nI (tk))])), (g 1, .inl (cI, 2048, .inl (nA (dd)))), (g 2, .inl (cI, 2, .inl (nA (ct)))), (g 3, .inl (cI, 2048, .inl (nA (pp))))])) A) (cc := cX4_multiply) (maxL := 1) (ret := (some .boolean)) (by decide +kernel) rfl (Nat.le_of_ble_eq_true rfl) ?_
  intro p e s m below meth c A ls hC0 hr hlk hin hP hK hD hA hS hE hAe hsz hl
  obtain ⟨hx, hb, hml, hown, hts⟩ := id hC0
  have hl : lv_has ls 1 [(0, .ref (g 0))] := hl
  refine lv_aload_n hx hb dX4_multiply_0 rfl (lv_at hl 0 rfl) ?_
  refine va_get (D := D) (ci := 4) (v := .int (nI (rd))) (C := RX4) (T := TX4) (N := 8) hx hb hts inX4_X4_multiply hown hK hP 0 rfl rfl 2 (by decide) (hts (.fieldLink RX4 26 "TransformProductModel" "isReady" "Z") (by decide +kernel)) (fun _ h9 => h9) rfl dX4_multiply_1 ?_
  refine kr_eq0 (tgt := 27) hx hb dX4_multiply_4 (by decide) (by omega) (fun hc => ?_) (fun hc => ?_)
  · refine lv_iconst (v := nI 0) hx hb dX4_multiply_27 (by decide) ?_
    exact kr_zret () hx hb hr hlk rfl hP hD hS rfl dX4_multiply_28
  · refine lv_aload_n hx hb dX4_multiply_7 rfl (lv_at hl 0 rfl) ?_
    refine va_get (D := D) (ci := 4) (v := .ref (g 2)) (C := RX4) (T := TX4) (N := 8) hx hb hts inX4_X4_multiply hown hK hP 0 rfl rfl 4 (by decide) (hts (.fieldLink RX4 13 "TransformProductModel" "counts" "[I") (by decide +kernel)) (fun _ h9 => h9) rfl dX4_multiply_8 ?_
    refine lv_iconst (v := nI 0) hx hb dX4_multiply_11 (by decide) ?_
    refine kr_ld hx hb hK hP 2 0 rfl rfl (by omega) (by decide) dX4_multiply_12 ?_
    refine lv_aload_n hx hb dX4_multiply_13 rfl (lv_at hl 0 rfl) ?_
    refine va_get (D := D) (ci := 4) (v := .ref (g 2)) (C := RX4) (T := TX4) (N := 8) hx hb hts inX4_X4_multiply hown hK hP 0 rfl rfl 4 (by decide) (hts (.fieldLink RX4 13 "TransformProductModel" "counts" "[I") (by decide +kernel)) (fun _ h9 => h9) rfl dX4_multiply_14 ?_
    refine lv_iconst (v := nI 1) hx hb dX4_multiply_17 (by decide) ?_
    refine kr_ld hx hb hK hP 2 0 rfl rfl (by omega) (by decide) dX4_multiply_18 ?_
    refine lv_iadd hx hb dX4_multiply_19 ?_
    refine kr_i (nI_add _ _) ?_
    refine lv_aload_n hx hb dX4_multiply_20 rfl (lv_at hl 0 rfl) ?_
    refine va_get (D := D) (ci := 4) (v := .int (nI (N))) (C := RX4) (T := TX4) (N := 8) hx hb hts inX4_X4_multiply hown hK hP 0 rfl rfl 1 (by decide) (hts (.fieldLink RX4 23 "TransformProductModel" "n" "I") (by decide +kernel)) (fun _ h9 => h9) rfl dX4_multiply_21 ?_
    refine kr_le (tgt := 29) hx hb dX4_multiply_24 (by decide) (by omega) (by omega) (fun hd => ?_) (fun hd => ?_)
    · exact absurd ⟨hc, hd⟩ hno
    · refine lv_iconst (v := nI 0) hx hb dX4_multiply_27 (by decide) ?_
      exact kr_zret () hx hb hr hlk rfl hP hD hS rfl dX4_multiply_28
set_option maxHeartbeats 4000000 in
set_option maxRecDepth 100000 in
theorem c_X4_square (l : Launch) (D : va_G) (cI cT : ClassId) (sz : Nat) (g : Nat → Nat) (lg N rd len tk : Nat) (dd ct pp : Nat → Nat) (M : Nat) (hM : N = 2 * M) (hN2 : N ≤ 1024) (hd : ct 0 + ct 0 ≤ N) (ha : ∀ q, q < ct 0 → dd q < 32768) (hbb : ∀ q, q < ct 0 → dd (1024 * 0 + q) < 32768) : kMi (S := Unit) l yX4_square wsX4_square { frames := 2, cells := 0, slots := 0, locals := 48 } D [(cI, .int), (cT, .object RX1)] [(g 0, .inr (4, [.int (nI (lg)), .int (nI (N)), .int (nI (1)), .ref (g 1), .ref (g 2), .ref (g 3), .int (nI (len)), .int (nI (tk))])), (g 1, .inl (cI, 2048, .inl (nA (dd)))), (g 2, .inl (cI, 2, .inl (nA (ct)))), (g 3, .inl (cI, 2048, .inl (nA (pp))))] sz (fun _ => True) [.ref (g 0)] (fun r _ => r = nI 1) (fun _ => [(g 0, .inr (4, [.int (nI (lg)), .int (nI (N)), .int (nI (1)), .ref (g 1), .ref (g 2), .ref (g 3), .int (nI (trN (byO dd (1024 * 0) (ct 0) (flN pp 0 0 (ct 0 + ct 0)) (ct 0)) (ct 0 + ct 0))), .int (nI (6 * M * lg))])), (g 1, .inl (cI, 2048, .inl (nA (dd)))), (g 2, .inl (cI, 2, .inl (nA (ct)))), (g 3, .inl (cI, 2048, .inl (nA (byO dd (1024 * 0) (ct 0) (flN pp 0 0 (ct 0 + ct 0)) (ct 0)))))]) (0) (0) := by
  refine kM_of (Qc := fun A => va_Qi (S := Unit) (fun r _ => r = nI 1) (kB D A (fun _ => [(g 0, .inr (4, [.int (nI (lg)), .int (nI (N)), .int (nI (1)), .ref (g 1), .ref (g 2), .ref (g 3), .int (nI (trN (byO dd (1024 * 0) (ct 0) (flN pp 0 0 (ct 0 + ct 0)) (ct 0)) (ct 0 + ct 0))), .int (nI (6 * M * lg))])), (g 1, .inl (cI, 2048, .inl (nA (dd)))), (g 2, .inl (cI, 2, .inl (nA (ct)))), (g 3, .inl (cI, 2048, .inl (nA (byO dd (1024 * 0) (ct 0) (flN pp 0 0 (ct 0 + ct 0)) (ct 0)))))])) A) (cc := cX4_square) (maxL := 1) (ret := (some .boolean)) (by decide +kernel) rfl (Nat.le_of_ble_eq_true rfl) ?_
  intro p e s m below meth c A ls hC0 hr hlk hin hP hK hD hA hS hE hAe hsz hl
  obtain ⟨hx, hb, hml, hown, hts⟩ := id hC0
  have hl : lv_has ls 1 [(0, .ref (g 0))] := hl
  refine lv_aload_n hx hb dX4_square_0 rfl (lv_at hl 0 rfl) ?_
  refine va_get (D := D) (ci := 4) (v := .int (nI (1))) (C := RX4) (T := TX4) (N := 8) hx hb hts inX4_X4_square hown hK hP 0 rfl rfl 2 (by decide) (hts (.fieldLink RX4 26 "TransformProductModel" "isReady" "Z") (by decide +kernel)) (fun _ h9 => h9) rfl dX4_square_1 ?_
  refine kr_eq0 (tgt := 22) hx hb dX4_square_4 (by decide) (by omega) (fun hc => ?_) (fun hc => ?_)
  · exact absurd hc (by omega)
  · refine lv_iconst (v := nI 2) hx hb dX4_square_7 (by decide) ?_
    refine lv_aload_n hx hb dX4_square_8 rfl (lv_at hl 0 rfl) ?_
    refine va_get (D := D) (ci := 4) (v := .ref (g 2)) (C := RX4) (T := TX4) (N := 8) hx hb hts inX4_X4_square hown hK hP 0 rfl rfl 4 (by decide) (hts (.fieldLink RX4 13 "TransformProductModel" "counts" "[I") (by decide +kernel)) (fun _ h9 => h9) rfl dX4_square_9 ?_
    refine lv_iconst (v := nI 0) hx hb dX4_square_12 (by decide) ?_
    refine kr_ld hx hb hK hP 2 0 rfl rfl (by omega) (by decide) dX4_square_13 ?_
    refine lv_imul hx hb dX4_square_14 ?_
    refine kr_i (pk_mul _ _) ?_
    refine kr_i (congrArg nI (show 2 * (ct 0) = ct 0 + ct 0 from (by omega))) ?_
    refine lv_aload_n hx hb dX4_square_15 rfl (lv_at hl 0 rfl) ?_
    refine va_get (D := D) (ci := 4) (v := .int (nI (N))) (C := RX4) (T := TX4) (N := 8) hx hb hts inX4_X4_square hown hK hP 0 rfl rfl 1 (by decide) (hts (.fieldLink RX4 23 "TransformProductModel" "n" "I") (by decide +kernel)) (fun _ h9 => h9) rfl dX4_square_16 ?_
    refine kr_le (tgt := 24) hx hb dX4_square_19 (by decide) (by omega) (by omega) (fun hc => ?_) (fun hc => ?_)
    · refine lv_aload_n hx hb dX4_square_24 rfl (lv_at hl 0 rfl) ?_
      refine lv_iconst (v := nI 0) hx hb dX4_square_25 (by decide) ?_
      refine lv_bipush (v := nI 6) hx hb dX4_square_26 (by decide) ?_
      refine kc_v (wr := []) (va_runV (As := [.int (nI (0)), .int (nI (6))]) (rest := []) hC0 (c_X4_by l D cI cT s.heap.size g lg N 1 len tk dd ct pp M 0 6 hM hN2 (by decide) (by omega) ha hbb) (cwV 2 hts gX4_square_X4_by rfl rfl rfl (by decide +kernel) ⟨Nat.le_of_ble_eq_true rfl, Nat.le_of_ble_eq_true rfl⟩) (kp_V (ci := 4) (k0 := 0) kE_0 (fun _ _ _ => trivial) hK hP hD [0, 1, 2, 3] rfl (by decide) rfl rfl) rfl rfl hl.1 rfl (lv_room (Nat.le_of_ble_eq_true rfl)) dX4_square_28 ⟨Nat.le_of_ble_eq_true rfl, Nat.le_of_ble_eq_true rfl⟩) hP hD hS hA [0, 1, 2, 3] [] rfl rfl (by decide) (by decide) (fun uu H locs hw hP hD hS => ?_)
      have hP : va_P D vwCl [(g 0, .inr (4, [.int (nI (lg)), .int (nI (N)), .int (nI (1)), .ref (g 1), .ref (g 2), .ref (g 3), .int (nI (trN (byO dd (1024 * 0) (ct 0) (flN pp 0 0 (ct 0 + ct 0)) (ct 0)) (ct 0 + ct 0))), .int (nI (6 * M * lg))])), (g 1, .inl (cI, 2048, .inl (nA (dd)))), (g 2, .inl (cI, 2, .inl (nA (ct)))), (g 3, .inl (cI, 2048, .inl (nA (byO dd (1024 * 0) (ct 0) (flN pp 0 0 (ct 0 + ct 0)) (ct 0)))))] H := hP.sub [0, 1, 2, 3] rfl
      have hD : va_D A [(g 0, .inr (4, [.int (nI (lg)), .int (nI (N)), .int (nI (1)), .ref (g 1), .ref (g 2), .ref (g 3), .int (nI (trN (byO dd (1024 * 0) (ct 0) (flN pp 0 0 (ct 0 + ct 0)) (ct 0)) (ct 0 + ct 0))), .int (nI (6 * M * lg))])), (g 1, .inl (cI, 2048, .inl (nA (dd)))), (g 2, .inl (cI, 2, .inl (nA (ct)))), (g 3, .inl (cI, 2048, .inl (nA (byO dd (1024 * 0) (ct 0) (flN pp 0 0 (ct 0 + ct 0)) (ct 0)))))] := hD.sub [0, 1, 2, 3] (by decide) rfl
      refine lv_iconst (v := nI 1) hx hb dX4_square_31 (by decide) ?_
      exact kr_zret () hx hb hr hlk rfl hP hD hS rfl dX4_square_32
    · exact absurd hc (by omega)
set_option maxHeartbeats 4000000 in
set_option maxRecDepth 100000 in
theorem c_X4_square_no (l : Launch) (D : va_G) (cI cT : ClassId) (sz : Nat) (g : Nat → Nat) (lg N rd len tk : Nat) (dd ct pp : Nat → Nat) (hno : ¬ (¬ rd = 0 ∧ ct 0 + ct 0 ≤ N)) (hN2 : N ≤ 1024) (h1 : ct 0 ≤ N) (h2 : ct 1 ≤ N) (h3 : rd ≤ 1) : kMi (S := Unit) l yX4_square wsX4_square { frames := 2, cells := 0, slots := 0, locals := 48 } D [(cI, .int), (cT, .object RX1)] [(g 0, .inr (4, [.int (nI (lg)), .int (nI (N)), .int (nI (rd)), .ref (g 1), .ref (g 2), .ref (g 3), .int (nI (len)), .int (nI (tk))])), (g 1, .inl (cI, 2048, .inl (nA (dd)))), (g 2, .inl (cI, 2, .inl (nA (ct)))), (g 3, .inl (cI, 2048, .inl (nA (pp))))] sz (fun _ => True) [.ref (g 0)] (fun r _ => r = nI 0) (fun _ => [(g 0, .inr (4, [.int (nI (lg)), .int (nI (N)), .int (nI (rd)), .ref (g 1), .ref (g 2), .ref (g 3), .int (nI (len)), .int (nI (tk))])), (g 1, .inl (cI, 2048, .inl (nA (dd)))), (g 2, .inl (cI, 2, .inl (nA (ct)))), (g 3, .inl (cI, 2048, .inl (nA (pp))))]) (0) (0) := by
  refine kM_of (Qc := fun A => va_Qi (S := Unit) (fun r _ => r = nI 0) (kB D A (fun _ => [(g 0, .inr (4, [.int (nI (lg)), .int (nI (N)), .int (nI (rd)), .ref (g 1), .ref (g 2), .ref (g 3), .int (nI (len)), .int (nI (tk))])), (g 1, .inl (cI, 2048, .inl (nA (dd)))), (g 2, .inl (cI, 2, .inl (nA (ct)))), (g 3, .inl (cI, 2048, .inl (nA (pp))))])) A) (cc := cX4_square) (maxL := 1) (ret := (some .boolean)) (by decide +kernel) rfl (Nat.le_of_ble_eq_true rfl) ?_
  intro p e s m below meth c A ls hC0 hr hlk hin hP hK hD hA hS hE hAe hsz hl
  obtain ⟨hx, hb, hml, hown, hts⟩ := id hC0
  have hl : lv_has ls 1 [(0, .ref (g 0))] := hl
  refine lv_aload_n hx hb dX4_square_0 rfl (lv_at hl 0 rfl) ?_
  refine va_get (D := D) (ci := 4) (v := .int (nI (rd))) (C := RX4) (T := TX4) (N := 8) hx hb hts inX4_X4_square hown hK hP 0 rfl rfl 2 (by decide) (hts (.fieldLink RX4 26 "TransformProductModel" "isReady" "Z") (by decide +kernel)) (fun _ h9 => h9) rfl dX4_square_1 ?_
  refine kr_eq0 (tgt := 22) hx hb dX4_square_4 (by decide) (by omega) (fun hc => ?_) (fun hc => ?_)
  · refine lv_iconst (v := nI 0) hx hb dX4_square_22 (by decide) ?_
    exact kr_zret () hx hb hr hlk rfl hP hD hS rfl dX4_square_23
  · refine lv_iconst (v := nI 2) hx hb dX4_square_7 (by decide) ?_
    refine lv_aload_n hx hb dX4_square_8 rfl (lv_at hl 0 rfl) ?_
    refine va_get (D := D) (ci := 4) (v := .ref (g 2)) (C := RX4) (T := TX4) (N := 8) hx hb hts inX4_X4_square hown hK hP 0 rfl rfl 4 (by decide) (hts (.fieldLink RX4 13 "TransformProductModel" "counts" "[I") (by decide +kernel)) (fun _ h9 => h9) rfl dX4_square_9 ?_
    refine lv_iconst (v := nI 0) hx hb dX4_square_12 (by decide) ?_
    refine kr_ld hx hb hK hP 2 0 rfl rfl (by omega) (by decide) dX4_square_13 ?_
    refine lv_imul hx hb dX4_square_14 ?_
    refine kr_i (pk_mul _ _) ?_
    refine kr_i (congrArg nI (show 2 * (ct 0) = ct 0 + ct 0 from (by omega))) ?_
    refine lv_aload_n hx hb dX4_square_15 rfl (lv_at hl 0 rfl) ?_
    refine va_get (D := D) (ci := 4) (v := .int (nI (N))) (C := RX4) (T := TX4) (N := 8) hx hb hts inX4_X4_square hown hK hP 0 rfl rfl 1 (by decide) (hts (.fieldLink RX4 23 "TransformProductModel" "n" "I") (by decide +kernel)) (fun _ h9 => h9) rfl dX4_square_16 ?_
    refine kr_le (tgt := 24) hx hb dX4_square_19 (by decide) (by omega) (by omega) (fun hd => ?_) (fun hd => ?_)
    · exact absurd ⟨hc, hd⟩ hno
    · refine lv_iconst (v := nI 0) hx hb dX4_square_22 (by decide) ?_
      exact kr_zret () hx hb hr hlk rfl hP hD hS rfl dX4_square_23
