/-! class PrimeTransform -/
def rtF (w p k : Nat) (f : Nat → Nat) : Nat → Nat := fun j => if j < k then w ^ j % p else f j
theorem rtF_0 (w p : Nat) (f : Nat → Nat) : rtF w p 0 f = f := by
  funext j
  exact if_neg (by omega)
theorem rtF_s (w p k : Nat) (f : Nat → Nat) : va_up (rtF w p k f) k (w ^ k % p) = rtF w p (k + 1) f := by
  funext j
  unfold va_up rtF
  by_cases h : j = k
  · subst h
    rw [if_pos rfl, if_pos (by omega)]
  · rw [if_neg h]
    by_cases h2 : j < k
    · rw [if_pos h2, if_pos (by omega)]
    · rw [if_neg h2, if_neg (by omega)]
/-- the first k numbers times others -/
def meF (p k : Nat) (v o : Nat → Nat) : Nat → Nat := fun j => if j < k then v j * o j % p else v j
theorem meF_0 (p : Nat) (v o : Nat → Nat) : meF p 0 v o = v := by
  funext j
  exact if_neg (by omega)
theorem meF_at (p k : Nat) (v o : Nat → Nat) : meF p k v o k = v k := if_neg (by omega)
theorem meF_s (p k : Nat) (v o : Nat → Nat) : va_up (meF p k v o) k (v k * o k % p) = meF p (k + 1) v o := by
  funext j
  unfold va_up meF
  by_cases h : j = k
  · subst h
    rw [if_pos rfl, if_pos (by omega)]
  · rw [if_neg h]
    by_cases h2 : j < k
    · rw [if_pos h2, if_pos (by omega)]
    · rw [if_neg h2, if_neg (by omega)]
def adP (p a b : Nat) : Nat := if a + b < p then a + b else a + b - p
def sbP (p a b : Nat) : Nat := if b ≤ a then a - b else a + p - b
theorem adP_lt {p a b : Nat} (ha : a < p) (hb : b < p) : adP p a b < p := by unfold adP; split <;> omega
theorem sbP_lt {p a b : Nat} (ha : a < p) (hb : b < p) : sbP p a b < p := by unfold sbP; split <;> omega
/-- one butterfly of a split, those of a block, of a stage, of all stages -/
def spJ (p st h sg : Nat) (rt v : Nat → Nat) (j : Nat) : Nat → Nat := va_up (va_up v (st + j) (adP p (v (st + j)) (v (st + j + h)))) (st + j + h) ((v (st + j) + p - v (st + j + h)) * rt (j * 2 ^ sg) % p)
def spL (p st h sg : Nat) (rt v : Nat → Nat) : Nat → Nat → Nat
  | 0 => v
  | j + 1 => spJ p st h sg rt (spL p st h sg rt v j) j
def spB (p N sg : Nat) (rt v : Nat → Nat) (b : Nat) : Nat → Nat := spL p (2 * (N / 2 ^ (sg + 1)) * b) (N / 2 ^ (sg + 1)) sg rt v (N / 2 ^ (sg + 1))
def spS (p N sg : Nat) (rt v : Nat → Nat) : Nat → Nat → Nat
  | 0 => v
  | b + 1 => spB p N sg rt (spS p N sg rt v b) b
def spT (p N : Nat) (rt v : Nat → Nat) : Nat → Nat → Nat
  | 0 => v
  | s + 1 => spS p N s rt (spT p N rt v s) (2 ^ s)
/-- the way back -/
def jnJ (p st h sg : Nat) (rt v : Nat → Nat) (j : Nat) : Nat → Nat := va_up (va_up v (st + j) (adP p (v (st + j)) (v (st + j + h) * rt (j * 2 ^ sg) % p))) (st + j + h) (sbP p (v (st + j)) (v (st + j + h) * rt (j * 2 ^ sg) % p))
def jnL (p st h sg : Nat) (rt v : Nat → Nat) : Nat → Nat → Nat
  | 0 => v
  | j + 1 => jnJ p st h sg rt (jnL p st h sg rt v j) j
def jnB (p N sg : Nat) (rt v : Nat → Nat) (b : Nat) : Nat → Nat := jnL p (2 * (N / 2 ^ (sg + 1)) * b) (N / 2 ^ (sg + 1)) sg rt v (N / 2 ^ (sg + 1))
def jnS (p N sg : Nat) (rt v : Nat → Nat) : Nat → Nat → Nat
  | 0 => v
  | b + 1 => jnB p N sg rt (jnS p N sg rt v b) b
/-- the stages below k, from k - 1 on down -/
def jnT (p N : Nat) (rt : Nat → Nat) : Nat → (Nat → Nat) → Nat → Nat
  | 0, v => v
  | s + 1, v => jnT p N rt s (jnS p N s rt v (2 ^ s))
theorem up_lt {p N k x : Nat} {v : Nat → Nat} (h : ∀ i, i < N → v i < p) (hx : x < p) : ∀ i, i < N → va_up v k x i < p := by
  intro i hi
  unfold va_up
  split
  · exact hx
  · exact h i hi
theorem spL_lt {p N st h sg : Nat} {rt v : Nat → Nat} (hp : 0 < p) (hv : ∀ i, i < N → v i < p) (hN : st + 2 * h ≤ N) : ∀ j, j ≤ h → ∀ i, i < N → spL p st h sg rt v j i < p
  | 0, _ => hv
  | j + 1, hj => by
    have ih := spL_lt (sg := sg) (rt := rt) hp hv hN j (by omega)
    exact up_lt (up_lt ih (adP_lt (ih _ (by omega)) (ih _ (by omega)))) (Nat.mod_lt _ hp)
theorem jnL_lt {p N st h sg : Nat} {rt v : Nat → Nat} (hp : 0 < p) (hv : ∀ i, i < N → v i < p) (hN : st + 2 * h ≤ N) : ∀ j, j ≤ h → ∀ i, i < N → jnL p st h sg rt v j i < p
  | 0, _ => hv
  | j + 1, hj => by
    have ih := jnL_lt (sg := sg) (rt := rt) hp hv hN j (by omega)
    exact up_lt (up_lt ih (adP_lt (ih _ (by omega)) (Nat.mod_lt _ hp))) (sbP_lt (ih _ (by omega)) (Nat.mod_lt _ hp))
/-- a block's bounds: N = 2 h 2 ^ sg -/
theorem bk_le {N sg b : Nat} (hd : 2 ^ (sg + 1) ∣ N) (hb : b < 2 ^ sg) : 2 * (N / 2 ^ (sg + 1)) * b + 2 * (N / 2 ^ (sg + 1)) ≤ N := by
  obtain ⟨h, rfl⟩ := hd
  rw [Nat.mul_div_cancel_left _ (Nat.two_pow_pos _)]
  have h1 : 2 * h * (b + 1) ≤ 2 * h * 2 ^ sg := Nat.mul_le_mul_left _ hb
  rw [Nat.mul_add, Nat.mul_one] at h1
  rw [Nat.pow_succ, show 2 ^ sg * 2 * h = 2 * h * 2 ^ sg by rw [Nat.mul_assoc, Nat.mul_comm]]
  exact h1
theorem bk_rt {N M sg j : Nat} (hd : 2 ^ (sg + 1) ∣ N) (hM : N = 2 * M) (hj : j < N / 2 ^ (sg + 1)) : j * 2 ^ sg < M := by
  obtain ⟨h, rfl⟩ := hd
  rw [Nat.mul_div_cancel_left _ (Nat.two_pow_pos _)] at hj
  have h1 : j * 2 ^ sg < h * 2 ^ sg := Nat.mul_lt_mul_of_pos_right hj (Nat.two_pow_pos _)
  rw [Nat.pow_succ, Nat.mul_comm _ 2, Nat.mul_assoc] at hM
  have h2 : 2 ^ sg * h = M := by omega
  rw [Nat.mul_comm] at h2
  omega
theorem spS_lt {p N sg : Nat} {rt v : Nat → Nat} (hp : 0 < p) (hv : ∀ i, i < N → v i < p) (hd : 2 ^ (sg + 1) ∣ N) : ∀ b, b ≤ 2 ^ sg → ∀ i, i < N → spS p N sg rt v b i < p
  | 0, _ => hv
  | b + 1, hb => spL_lt hp (spS_lt hp hv hd b (by omega)) (bk_le hd (by omega)) _ (Nat.le_refl _)
theorem jnS_lt {p N sg : Nat} {rt v : Nat → Nat} (hp : 0 < p) (hv : ∀ i, i < N → v i < p) (hd : 2 ^ (sg + 1) ∣ N) : ∀ b, b ≤ 2 ^ sg → ∀ i, i < N → jnS p N sg rt v b i < p
  | 0, _ => hv
  | b + 1, hb => jnL_lt hp (jnS_lt hp hv hd b (by omega)) (bk_le hd (by omega)) _ (Nat.le_refl _)
theorem sg_dv {lg sg : Nat} (h : sg < lg) : 2 ^ (sg + 1) ∣ 2 ^ lg := Nat.pow_dvd_pow 2 (by omega)
theorem spT_lt {p lg : Nat} {rt v : Nat → Nat} (hp : 0 < p) (hv : ∀ i, i < 2 ^ lg → v i < p) : ∀ s, s ≤ lg → ∀ i, i < 2 ^ lg → spT p (2 ^ lg) rt v s i < p
  | 0, _ => hv
  | s + 1, hs => spS_lt hp (spT_lt hp hv s (by omega)) (sg_dv (by omega)) _ (Nat.le_refl _)
theorem jnT_lt {p lg : Nat} {rt : Nat → Nat} (hp : 0 < p) : ∀ s v, s ≤ lg → (∀ i, i < 2 ^ lg → v i < p) → ∀ i, i < 2 ^ lg → jnT p (2 ^ lg) rt s v i < p
  | 0, _, _, hv => hv
  | s + 1, v, hs, hv => jnT_lt hp s _ (by omega) (jnS_lt hp hv (sg_dv (by omega)) _ (Nat.le_refl _))
theorem inX1_X1_init : ∀ w ∈ wsX10, w ∈ wsX1_init := by decide +kernel
theorem inX1_X1_prepare : ∀ w ∈ wsX10, w ∈ wsX1_prepare := by decide +kernel
theorem inX1_X1_splitBlock : ∀ w ∈ wsX10, w ∈ wsX1_splitBlock := by decide +kernel
theorem inX1_X1_toSpectrum : ∀ w ∈ wsX10, w ∈ wsX1_toSpectrum := by decide +kernel
theorem inX1_X1_multiplyEach : ∀ w ∈ wsX10, w ∈ wsX1_multiplyEach := by decide +kernel
theorem inX1_X1_joinBlock : ∀ w ∈ wsX10, w ∈ wsX1_joinBlock := by decide +kernel
theorem inX1_X1_fromSpectrum : ∀ w ∈ wsX10, w ∈ wsX1_fromSpectrum := by decide +kernel
theorem inX1_X1_convolve : ∀ w ∈ wsX10, w ∈ wsX1_convolve := by decide +kernel
theorem inX2_X1_convolve : ∀ w ∈ wsX20, w ∈ wsX1_convolve := by decide +kernel
theorem inX1_X1_convolveWithItself : ∀ w ∈ wsX10, w ∈ wsX1_convolveWithItself := by decide +kernel
theorem inX2_X1_convolveWithItself : ∀ w ∈ wsX20, w ∈ wsX1_convolveWithItself := by decide +kernel
theorem inX1_X1_coefficient : ∀ w ∈ wsX10, w ∈ wsX1_coefficient := by decide +kernel
theorem inX1_X1_spectrumNumber : ∀ w ∈ wsX10, w ∈ wsX1_spectrumNumber := by decide +kernel
theorem inX2_X1_spectrumNumber : ∀ w ∈ wsX20, w ∈ wsX1_spectrumNumber := by decide +kernel
