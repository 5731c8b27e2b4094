/-! the three primes: what their powers are -/
def pwD (pr : Nat) : Nat → Nat → Nat → Nat → Nat
  | 0, a, _, _ => a
  | n + 1, a, f, ex => pwD pr n (if ex % 2 = 1 then a * f % pr else a) (f * f % pr) (ex / 2)
theorem pwD_eq (b ex pr : Nat) : ∀ n j, pwD pr n (pwA b ex pr j) (pwF b pr j) (ex / 2 ^ j) = pwA b ex pr (j + n)
  | 0, j => rfl
  | n + 1, j => by
    show pwD pr n (if ex / 2 ^ j % 2 = 1 then pwA b ex pr j * pwF b pr j % pr else pwA b ex pr j) (pwF b pr j * pwF b pr j % pr) (ex / 2 ^ j / 2) = _
    rw [pwF_s, Nat.div_div_eq_div_mul, ← Nat.pow_succ]
    by_cases h : ex / 2 ^ j % 2 = 1
    · rw [if_pos h, pwA_1 h, pwD_eq b ex pr n (j + 1)]
      congr 1
      omega
    · rw [if_neg h, pwA_0 h, pwD_eq b ex pr n (j + 1)]
      congr 1
      omega
theorem pwD_pow {b ex pr : Nat} (h : ex < 2 ^ 31) (hp : 1 < pr) : b ^ ex % pr = pwD pr 31 1 (b % pr) ex := by
  have := pwD_eq b ex pr 31 0
  rw [← pwA_b hp, ← pwF_b, Nat.pow_zero, Nat.div_one, Nat.zero_add, pwA_end h] at this
  exact this.symm
theorem pm_h : ∀ i, i < 3 → pwD (pmN i) 31 1 (3 % pmN i) ((pmN i - 1) / 2) = pmN i - 1 := by decide +kernel
theorem pm_2 : ∀ i, i < 3 → pwD (pmN i) 31 1 (2 % pmN i) (pmN i - 1) = 1 := by decide +kernel
theorem pm_01 : pwD (pmN 1) 31 1 (pmN 0 % pmN 1) (pmN 1 - 1) = 1 := by decide +kernel
theorem pm_d : ∀ i, i < 3 → (pmN i - 1) % 2048 = 0 := by decide +kernel
/-- W of prime i for N = 2 ^ (k + 1) -/
def pmW (i k : Nat) : Nat := 3 ^ ((pmN i - 1) / 2 ^ (k + 1)) % pmN i
theorem pmW_lt (i k : Nat) : pmW i k < pmN i := Nat.mod_lt _ (by have := pm_lo i; omega)
theorem pmW_h {i k : Nat} (hi : i < 3) (hk : k < 10) : pmW i k ^ 2 ^ k % pmN i = pmN i - 1 := by
  have h1 := pm_lo i
  have h2 := pm_hi i
  unfold pmW
  rw [← Nat.pow_mod, ← Nat.pow_mul]
  have e : (pmN i - 1) / 2 ^ (k + 1) * 2 ^ k = (pmN i - 1) / 2 := by
    obtain ⟨q, hq⟩ : ∃ q, pmN i - 1 = 2048 * q := ⟨(pmN i - 1) / 2048, by have := pm_d i hi; omega⟩
    have e2 : (2048 : Nat) = 2 ^ (k + 1) * 2 ^ (10 - k) := by rw [← Nat.pow_add, show k + 1 + (10 - k) = 11 by omega]
    have e3 : (2048 : Nat) * q / 2 = 1024 * q := by omega
    have e4 : (1024 : Nat) = 2 ^ k * 2 ^ (10 - k) := by rw [← Nat.pow_add, show k + (10 - k) = 10 by omega]
    rw [hq, e3, e4, e2, Nat.mul_assoc, Nat.mul_div_cancel_left _ (Nat.two_pow_pos _), Nat.mul_comm (2 ^ k), Nat.mul_assoc, Nat.mul_assoc, Nat.mul_comm q]
  rw [e, pwD_pow (by omega) (by omega)]
  exact pm_h i hi
theorem pmW_cg {i k : Nat} (hi : i < 3) (hk : k < 10) : cgr (pmN i) ((pmW i k : Int) ^ 2 ^ k) (-1) := by
  have h1 := pm_lo i
  have h := cgr_mdN (pmN i) (pmW i k ^ 2 ^ k)
  rw [pmW_h hi hk, Int.natCast_pow] at h
  refine cgr_tr (cgr_sy h) ⟨1, by omega⟩
theorem pm_inv {i k : Nat} (hi : i < 3) (hk : k < 10) : 2 ^ (k + 1) * ((2 ^ (k + 1)) ^ (pmN i - 2) % pmN i) % pmN i = 1 := by
  have h1 := pm_lo i
  have h2 := pm_hi i
  rw [Nat.mul_mod_mod, Nat.mul_comm, ← Nat.pow_succ, show (pmN i - 2).succ = pmN i - 1 by omega, ← Nat.pow_mul, Nat.mul_comm, Nat.pow_mul, Nat.pow_mod, pwD_pow (b := 2) (ex := pmN i - 1) (by omega) (by omega), pm_2 i hi, Nat.one_pow, Nat.mod_eq_of_lt (by omega)]
theorem pm_jn : pmN 0 * (pmN 0 ^ (pmN 1 - 2) % pmN 1) % pmN 1 = 1 := by
  have h1 := pm_lo 1
  have h2 := pm_hi 1
  rw [Nat.mul_mod_mod, Nat.mul_comm, ← Nat.pow_succ, show (pmN 1 - 2).succ = pmN 1 - 1 by omega, pwD_pow (by omega) (by omega)]
  exact pm_01
/-- the roots that prepare makes -/
theorem rtF_at {w p M : Nat} {f : Nat → Nat} {i : Nat} (h : i < M) : rtF w p M f i = w ^ i % p := if_pos h
/-- a coefficient by one prime -/
theorem coef_ok {i k : Nat} {rt va vb a b : Nat → Nat} {na nb : Nat} (hi : i < 3) (hk : k < 10) (hrt : ∀ j, j < 2 ^ k → rt j = pmW i k ^ j % pmN i) (hva : ∀ j, j < 2 ^ (k + 1) → va j < pmN i) (hvb : ∀ j, j < 2 ^ (k + 1) → vb j < pmN i)
    (ha : ∀ j, j < 2 ^ (k + 1) → va j = padN a na j) (hb : ∀ j, j < 2 ^ (k + 1) → vb j = padN b nb j) (hn : na + nb ≤ 2 ^ (k + 1)) {t : Nat} (ht : t < 2 ^ (k + 1)) :
    jnT (pmN i) (2 ^ (k + 1)) rt (k + 1) (meF (pmN i) (2 ^ (k + 1)) (spT (pmN i) (2 ^ (k + 1)) rt va (k + 1)) (spT (pmN i) (2 ^ (k + 1)) rt vb (k + 1))) ((2 ^ (k + 1) - t) % 2 ^ (k + 1)) * ((2 ^ (k + 1)) ^ (pmN i - 2) % pmN i) % pmN i = cvN a na b nb t % pmN i := by
  have h1 := pm_lo i
  have h2 := conv_ok (by omega) (pmW_cg hi hk) hrt hva hvb ha hb hn ht
  have h3 := pm_inv hi hk
  generalize (2 ^ (k + 1)) ^ (pmN i - 2) % pmN i = iv at h3 ⊢
  refine cgr_modN ?_
  rw [Int.natCast_mul]
  refine cgr_tr (cgr_ml h2 (cgr_rf _ _)) ?_
  have h4 := cgr_sy (cgr_mdN (pmN i) (2 ^ (k + 1) * iv))
  rw [h3, Int.natCast_mul] at h4
  have h5 := cgr_ml h4 (cgr_rf (pmN i : Int) ((cvN a na b nb t : Nat) : Int))
  refine cgr_tr (cgr_eq ?_) (cgr_tr h5 (cgr_eq ?_))
  · generalize ((2 ^ (k + 1) : Nat) : Int) = z
    grind
  · simp
