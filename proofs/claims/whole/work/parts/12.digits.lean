/-! numbers as rows of digits to the base 32768 -/
def dgV (a : Nat → Nat) (n : Nat) : Nat := smN (fun j => a j * 32768 ^ j) n
theorem dgV_0 (a : Nat → Nat) : dgV a 0 = 0 := rfl
theorem dgV_s (a : Nat → Nat) (n : Nat) : dgV a (n + 1) = dgV a n + a n * 32768 ^ n := rfl
theorem dgV_eq {a b : Nat → Nat} {n : Nat} (h : ∀ i, i < n → a i = b i) : dgV a n = dgV b n := smN_eq fun i hi => by rw [h i hi]
theorem p15 (n : Nat) : 0 < 32768 ^ n := Nat.pow_pos (by decide)
theorem dgV_lt {a : Nat → Nat} {n : Nat} (h : ∀ i, i < n → a i < 32768) : dgV a n < 32768 ^ n := by
  induction n with
  | zero => exact Nat.one_pos
  | succ n ih =>
    have h1 := ih (fun i hi => h i (by omega))
    have h2 : a n * 32768 ^ n ≤ 32767 * 32768 ^ n := Nat.mul_le_mul_right _ (by have := h n (by omega); omega)
    rw [dgV_s, Nat.pow_succ]
    omega
/-- digit k of a row's number is its cell k -/
theorem dgV_at {a : Nat → Nat} {n k : Nat} (h : ∀ i, i < n → a i < 32768) (hk : k < n) : dgV a n / 32768 ^ k % 32768 = a k := by
  have key : ∀ d, (∀ i, i < k + 1 + d → a i < 32768) → ∃ M, dgV a (k + 1 + d) = dgV a k + a k * 32768 ^ k + 32768 ^ (k + 1) * M := by
    intro d
    induction d with
    | zero => exact fun _ => ⟨0, rfl⟩
    | succ d ih =>
      intro h
      obtain ⟨M, hM⟩ := ih (fun i hi => h i (by omega))
      refine ⟨M + a (k + 1 + d) * 32768 ^ d, ?_⟩
      rw [← Nat.add_assoc, dgV_s, hM, Nat.mul_add, Nat.pow_add 32768 (k + 1) d, Nat.mul_left_comm (32768 ^ (k + 1))]
      omega
  obtain ⟨d, rfl⟩ : ∃ d, n = k + 1 + d := ⟨n - (k + 1), by omega⟩
  obtain ⟨M, hM⟩ := key d h
  have h1 : dgV a k < 32768 ^ k := dgV_lt fun i hi => h i (by omega)
  rw [hM, show dgV a k + a k * 32768 ^ k + 32768 ^ (k + 1) * M = dgV a k + 32768 ^ k * (a k + 32768 * M) by rw [Nat.pow_succ, Nat.mul_add, Nat.mul_comm (a k), Nat.mul_assoc]; omega]
  rw [Nat.add_mul_div_left _ _ (p15 k), Nat.div_eq_of_lt h1, Nat.zero_add, Nat.add_mul_mod_self_left]
  exact Nat.mod_eq_of_lt (h k (by omega))
/-- the sum of coefficients is the product of the numbers -/
theorem cv_prod (a : Nat → Nat) (na : Nat) (b : Nat → Nat) (nb : Nat) : smN (fun t => cvN a na b nb t * 32768 ^ t) (na + nb) = dgV a na * dgV b nb := by
  unfold cvN dgV
  have e1 : ∀ t, t < na + nb → smN (fun i => smN (fun j => if i + j = t then a i * b j else 0) nb) na * 32768 ^ t = smN (fun i => smN (fun j => if i + j = t then a i * b j * 32768 ^ (i + j) else 0) nb) na := by
    intro t _
    rw [← smN_mr]
    refine smN_eq fun i _ => ?_
    rw [← smN_mr]
    refine smN_eq fun j _ => ?_
    by_cases h : i + j = t
    · rw [if_pos h, if_pos h, h]
    · rw [if_neg h, if_neg h, Nat.zero_mul]
  rw [smN_eq e1, smN_swap, ← smN_mr]
  refine smN_eq fun i hi => ?_
  rw [smN_swap, ← smN_ml]
  refine smN_eq fun j hj => ?_
  rw [smN_1 (k := i + j) (by omega) (fun t _ hne => if_neg (by omega)), if_pos rfl, Nat.pow_add]
  grind
/-- the carries: after i coefficients -/
theorem cy_step {T c B i : Nat} (hB : 0 < B) : (T + c * B ^ i) / B ^ i = T / B ^ i + c := by
  rw [Nat.add_mul_div_right _ _ (Nat.pow_pos hB)]
theorem cy_next {T c i : Nat} : (T / 32768 ^ i + c) / 32768 = (T + c * 32768 ^ i) / 32768 ^ (i + 1) := by
  rw [← cy_step (T := T) (c := c) (B := 32768) (i := i) (by decide), Nat.div_div_eq_div_mul, Nat.pow_succ]
/-- a digit that the carries leave is the whole sum's digit -/
theorem cy_dig (c : Nat → Nat) {n i : Nat} (h : i < n) : (smN (fun t => c t * 32768 ^ t) i / 32768 ^ i + c i) % 32768 = smN (fun t => c t * 32768 ^ t) n / 32768 ^ i % 32768 := by
  have key : ∀ d, ∃ M, smN (fun t => c t * 32768 ^ t) (i + 1 + d) = smN (fun t => c t * 32768 ^ t) (i + 1) + 32768 ^ (i + 1) * M := by
    intro d
    induction d with
    | zero => exact ⟨0, rfl⟩
    | succ d ih =>
      obtain ⟨M, hM⟩ := ih
      refine ⟨M + c (i + 1 + d) * 32768 ^ d, ?_⟩
      show smN (fun t => c t * 32768 ^ t) (i + 1 + d) + c (i + 1 + d) * 32768 ^ (i + 1 + d) = _
      rw [hM, Nat.mul_add, Nat.pow_add 32768 (i + 1) d, Nat.mul_left_comm (32768 ^ (i + 1))]
      omega
  obtain ⟨d, rfl⟩ : ∃ d, n = i + 1 + d := ⟨n - (i + 1), by omega⟩
  obtain ⟨M, hM⟩ := key d
  rw [hM, Nat.pow_succ, Nat.mul_assoc, Nat.add_mul_div_left _ _ (p15 i), Nat.add_mul_mod_self_left]
  show _ = (smN (fun t => c t * 32768 ^ t) i + c i * 32768 ^ i) / 32768 ^ i % 32768
  rw [cy_step (by decide)]
/-- how many digits are left without zeros at the end -/
def trN (a : Nat → Nat) : Nat → Nat
  | 0 => 0
  | n + 1 => if a n = 0 then trN a n else n + 1
theorem trN_le (a : Nat → Nat) : ∀ n, trN a n ≤ n
  | 0 => Nat.le_refl 0
  | n + 1 => by
    have := trN_le a n
    unfold trN
    split <;> omega
theorem trN_eq {a b : Nat → Nat} : ∀ {n : Nat}, (∀ i, i < n → a i = b i) → trN a n = trN b n
  | 0, _ => rfl
  | n + 1, h => by
    unfold trN
    rw [h n (by omega), trN_eq (fun i hi => h i (by omega))]
theorem trN_z {a : Nat → Nat} {n : Nat} (h : a n = 0) : trN a (n + 1) = trN a n := if_pos h
theorem trN_n {a : Nat → Nat} {n : Nat} (h : ¬ a n = 0) : trN a (n + 1) = n + 1 := if_neg h
theorem trN_ab (a : Nat → Nat) : ∀ n i, trN a n ≤ i → i < n → a i = 0
  | 0, _, _, h => by omega
  | n + 1, i, h1, h2 => by
    by_cases h : a n = 0
    · rw [trN_z h] at h1
      by_cases hi : i = n
      · rw [hi]; exact h
      · exact trN_ab a n i h1 (by omega)
    · rw [trN_n h] at h1
      omega
theorem trN_top (a : Nat → Nat) : ∀ n, 0 < trN a n → ¬ a (trN a n - 1) = 0
  | 0, h => by simp [trN] at h
  | n + 1, h => by
    by_cases hz : a n = 0
    · rw [trN_z hz] at h ⊢
      exact trN_top a n h
    · rw [trN_n hz]
      exact hz
/-- A against B from the top: 0 the same, 1 greater, 2 less -/
def cmpN (f g : Nat → Nat) : Nat → Nat
  | 0 => 0
  | n + 1 => if f n = g n then cmpN f g n else if f n < g n then 2 else 1
def padN (a : Nat → Nat) (n : Nat) : Nat → Nat := fun i => if i < n then a i else 0
theorem cmpN_eq {f g f' g' : Nat → Nat} : ∀ {n : Nat}, (∀ i, i < n → f i = f' i ∧ g i = g' i) → cmpN f g n = cmpN f' g' n
  | 0, _ => rfl
  | n + 1, h => by
    unfold cmpN
    rw [(h n (by omega)).1, (h n (by omega)).2, cmpN_eq (fun i hi => h i (by omega))]
theorem cmpN_skip {f g : Nat → Nat} {m : Nat} : ∀ {d : Nat}, (∀ i, m ≤ i → i < m + d → f i = g i) → cmpN f g (m + d) = cmpN f g m
  | 0, _ => rfl
  | d + 1, h => by
    show (if f (m + d) = g (m + d) then cmpN f g (m + d) else _) = _
    rw [if_pos (h (m + d) (by omega) (by omega)), cmpN_skip (fun i h1 h2 => h i h1 (by omega))]
theorem padN_z {a : Nat → Nat} {n i : Nat} (h : trN a n ≤ i) : padN a n i = 0 := by
  unfold padN
  split
  · exact trN_ab a n i h (by assumption)
  · rfl
theorem padN_in {a : Nat → Nat} {n i : Nat} (h : i < n) : padN a n i = a i := if_pos h
/-- the class's way of comparing: by lengths first -/
theorem cmpN_len {a b : Nat → Nat} {na nb N : Nat} (ha : na ≤ N) (hb : nb ≤ N) : cmpN (padN a na) (padN b nb) N = if trN a na = trN b nb then cmpN a b (trN a na) else if trN a na < trN b nb then 2 else 1 := by
  have h1 := trN_le a na
  have h2 := trN_le b nb
  have go : ∀ m, trN a na ≤ m → trN b nb ≤ m → m ≤ N → cmpN (padN a na) (padN b nb) N = cmpN (padN a na) (padN b nb) m := by
    intro m h3 h4 h5
    obtain ⟨d, rfl⟩ : ∃ d, N = m + d := ⟨N - m, by omega⟩
    refine cmpN_skip fun i g1 g2 => ?_
    rw [padN_z (by omega), padN_z (by omega)]
  by_cases e : trN a na = trN b nb
  · rw [if_pos e, go (trN a na) (by omega) (by omega) (by omega)]
    exact cmpN_eq fun i hi => ⟨padN_in (by omega), padN_in (by omega)⟩
  · rw [if_neg e]
    by_cases hlt : trN a na < trN b nb
    · rw [if_pos hlt, go (trN b nb) (by omega) (by omega) (by omega)]
      obtain ⟨k, hk⟩ : ∃ k, trN b nb = k + 1 := ⟨trN b nb - 1, by omega⟩
      have ht := trN_top b nb (by omega)
      rw [hk] at ht ⊢
      show (if padN a na k = padN b nb k then _ else if padN a na k < padN b nb k then 2 else 1) = 2
      rw [padN_z (a := a) (by omega), padN_in (a := b) (by omega)]
      rw [show k + 1 - 1 = k by omega] at ht
      rw [if_neg (fun q => ht q.symm), if_pos (by omega)]
    · rw [if_neg hlt, go (trN a na) (by omega) (by omega) (by omega)]
      obtain ⟨k, hk⟩ : ∃ k, trN a na = k + 1 := ⟨trN a na - 1, by omega⟩
      have ht := trN_top a na (by omega)
      rw [hk] at ht ⊢
      show (if padN a na k = padN b nb k then _ else if padN a na k < padN b nb k then 2 else 1) = 1
      rw [padN_z (a := b) (by omega), padN_in (a := a) (by omega)]
      rw [show k + 1 - 1 = k by omega] at ht
      rw [if_neg ht, if_neg (by omega)]
/-- Horner's rule from place n on down to k, begun with r -/
def hrN (f : Nat → Nat) (x m : Nat) : Nat → Nat → Nat
  | 0, r => r
  | n + 1, r => hrN f x m n ((r * x + f n) % m)
theorem hrN_eq {f g : Nat → Nat} {x m : Nat} : ∀ {n r : Nat}, (∀ i, i < n → f i = g i) → hrN f x m n r = hrN g x m n r
  | 0, _, _ => rfl
  | n + 1, r, h => by
    show hrN f x m n ((r * x + f n) % m) = hrN g x m n ((r * x + g n) % m)
    rw [h n (by omega)]
    exact hrN_eq fun i hi => h i (by omega)
theorem hrN_lt {f : Nat → Nat} {x m : Nat} (hm : 0 < m) : ∀ {n r : Nat}, r < m → hrN f x m n r < m
  | 0, _, h => h
  | n + 1, r, h => hrN_lt (n := n) hm (Nat.mod_lt _ hm)
