/-! numbers: a few rows of BITS.to-paste, and rows in Nat's words -/
theorem s_l : ∀ n, n < 32 → ((nI n &&& 31).toBitVec.smod 32).toNat = n := by decide +kernel
theorem wb_tb (n : Nat) : (lN n).toBitVec = BitVec.ofNat 64 n := rfl
theorem wb_inj {a b : Int64} (h : a.toBitVec = b.toBitVec) : a = b := Int64.toBitVec_inj.mp h
theorem wb_tn {n : Nat} (h : n < 2 ^ 64) : (lN n).toBitVec.toNat = n := by rw [wb_tb, BitVec.toNat_ofNat, Nat.mod_eq_of_lt h]
theorem wb_pw {a b : Nat} (h : a ≤ b) : 2 ^ b = 2 ^ a * 2 ^ (b - a) := by rw [← Nat.pow_add]; congr 1; omega
theorem wb_lt2 {a b : Nat} (h : a < b) : 2 ^ a < 2 ^ b := Nat.pow_lt_pow_right (by decide) h
theorem wb_and {a b : Nat} (ha : a < 2 ^ 64) (hb : b < 2 ^ 64) : lN a &&& lN b = lN (a &&& b) := by
  apply wb_inj
  rw [Int64.toBitVec_and, wb_tb, wb_tb, wb_tb]
  apply BitVec.eq_of_toNat_eq
  rw [BitVec.toNat_and, BitVec.toNat_ofNat, BitVec.toNat_ofNat, BitVec.toNat_ofNat, Nat.mod_eq_of_lt ha, Nat.mod_eq_of_lt hb, Nat.mod_eq_of_lt (Nat.and_lt_two_pow _ hb)]
theorem wb_mask {n k : Nat} (hn : n < 2 ^ 64) (hk : k < 64) : lN n &&& lN (2 ^ k - 1) = lN (n % 2 ^ k) := by
  rw [wb_and hn (by have := wb_lt2 hk; omega), Nat.and_two_pow_sub_one_eq_mod]
theorem wb_a1 {n : Nat} (hn : n < 2 ^ 64) : lN n &&& 1 = lN (n % 2) := wb_mask (k := 1) hn (by decide)
theorem pf_lI {a : Nat} (h : a < 2 ^ 63) : (lN a).toInt = (a : Int) := lg_ofNat_toInt h
theorem pf_shr {a d : Nat} {D : Int64} (hD : (D.toBitVec.smod 64).toNat = d) (h : a < 2 ^ 62) : lN a >>> D = lN (a / 2 ^ d) := by
  have hd : a / 2 ^ d ≤ a := Nat.div_le_self _ _
  apply Int64.toInt_inj.mp
  have e : (lN a >>> D).toInt = (lN a).toInt >>> d := by
    rw [← hD]
    exact BitVec.toInt_sshiftRight ..
  rw [e, Int.shiftRight_eq_div_pow, pf_lI (by omega), pf_lI (by omega)]
  rfl
theorem kn_lsh : ∀ k, k < 64 → (((nI k).toInt64 &&& 63).toBitVec.smod 64).toNat = k := by decide +kernel
theorem kn_lshr {a k : Nat} (hk : k < 64) (h : a < 2 ^ 62) : lN a >>> ((nI k).toInt64 &&& 63) = lN (a / 2 ^ k) := pf_shr (kn_lsh k hk) h
theorem kn_shl {a k : Nat} (hk : k < 32) (h : a * 2 ^ k < 2 ^ 32) : nI a <<< (nI k &&& 31) = nI (a * 2 ^ k) := pk_shlN _ k (s_l k hk) h
theorem kn_shr {a k : Nat} (hk : k < 32) (h : a < 2 ^ 31) : nI a >>> (nI k &&& 31) = nI (a / 2 ^ k) := pk_shrN h _ k (s_l k hk)
theorem kn_msk {a k : Nat} (hk : k < 32) (h : a < 2 ^ 32) : nI a &&& nI (2 ^ k - 1) = nI (a % 2 ^ k) := by
  refine pk_andN h k ?_
  rw [pk_tn]
  have := Nat.pow_lt_pow_right (show 1 < 2 by decide) hk
  omega
theorem kn_m32767 {a : Nat} (h : a < 2 ^ 64) : lN a &&& 32767 = lN (a % 32768) := wb_mask (k := 15) h (by decide)
theorem kn_pr (n : Nat) : nI (n + 1) - 1 = nI n := nI_pred n
theorem kn_m1 (x : Int32) : x + Int32.ofInt (-1) = x - 1 := by rw [Int32.sub_eq_add_neg]; rfl
/-- low - high + p -/
theorem kn_dif {a b p : Nat} (h : b ≤ a + p) : nI a - nI b + nI p = nI (a + p - b) := by
  rw [← pk_sub h, ← nI_add, Int32.sub_eq_add_neg, Int32.sub_eq_add_neg, Int32.add_assoc, Int32.add_assoc, Int32.add_comm (-nI b)]
theorem kn_ti {a b : Nat} (ha : a < 2 ^ 31) (hb : b < 2 ^ 31) : (nI a - nI b).toInt = (a : Int) - b := by
  rw [Int32.toInt_sub, nI_toInt ha, nI_toInt hb]
  exact Int.bmod_eq_of_le (by omega) (by omega)
theorem kn_lt0 {a b : Nat} (ha : a < 2 ^ 31) (hb : b < 2 ^ 31) : nI a - nI b < 0 ↔ a < b := by
  rw [Int32.lt_iff_toInt_lt, kn_ti ha hb, show (0 : Int32).toInt = 0 from by decide]
  omega
theorem kn_eq0 {a b : Nat} (ha : a < 2 ^ 31) (hb : b < 2 ^ 31) : nI a - nI b = 0 ↔ a = b := by
  rw [← Int32.toInt_inj, kn_ti ha hb, show (0 : Int32).toInt = 0 from by decide]
  omega
/-- cells as Nat's -/
def nA (a : Nat → Nat) : Nat → Int32 := fun j => nI (a j)
theorem nA_up (a : Nat → Nat) (k v : Nat) : upd (nA a) k (nI v) = nA (va_up a k v) := by
  funext j
  by_cases h : j = k <;> simp [upd, nA, va_up, h]
theorem nA_cpy (f g : Nat → Nat) (sp dp n : Nat) : va_cpy (nA f) (nA g) sp dp n = nA (va_cpy f g sp dp n) := by
  funext j
  show (if dp ≤ j ∧ j < dp + n then nA f (sp + (j - dp)) else nA g j) = nI (if dp ≤ j ∧ j < dp + n then f (sp + (j - dp)) else g j)
  split <;> rfl
theorem up_at (a : Nat → Nat) (k v : Nat) : va_up a k v k = v := va_up_self a k v
/-! Int64 against Nat -/
theorem kl_rem {x : Int64} {X : Int} {P : Nat} (hX : x.toInt = X) (hP : P < 2 ^ 62) : (x - x / lN P * lN P).toInt = X.tmod P := by
  rw [Jvm.Kit.i64_rem, hX, pk_lT (by omega)]
theorem kl_of {x : Int64} {n : Nat} (h : x.toInt = n) (hn : n < 2 ^ 63) : x = lN n := Int64.toInt_inj.mp (by rw [h, pk_lT hn])
