/-! congruences and sums of whole numbers -/
def cgr (p a b : Int) : Prop := ∃ k : Int, a = b + p * k
theorem cgr_rf (p a : Int) : cgr p a a := ⟨0, by simp⟩
theorem cgr_eq {p a b : Int} (h : a = b) : cgr p a b := ⟨0, by simp [h]⟩
theorem cgr_sy {p a b : Int} (h : cgr p a b) : cgr p b a := by
  obtain ⟨k, h⟩ := h
  exact ⟨-k, by rw [h, Int.mul_neg]; omega⟩
theorem cgr_tr {p a b c : Int} (h : cgr p a b) (h2 : cgr p b c) : cgr p a c := by
  obtain ⟨k, h⟩ := h
  obtain ⟨j, h2⟩ := h2
  exact ⟨k + j, by rw [h, h2, Int.mul_add]; omega⟩
theorem cgr_ad {p a b c d : Int} (h : cgr p a b) (h2 : cgr p c d) : cgr p (a + c) (b + d) := by
  obtain ⟨k, h⟩ := h
  obtain ⟨j, h2⟩ := h2
  exact ⟨k + j, by rw [h, h2, Int.mul_add]; omega⟩
theorem cgr_sb {p a b c d : Int} (h : cgr p a b) (h2 : cgr p c d) : cgr p (a - c) (b - d) := by
  obtain ⟨k, h⟩ := h
  obtain ⟨j, h2⟩ := h2
  exact ⟨k - j, by rw [h, h2, Int.mul_sub]; omega⟩
theorem cgr_ml {p a b c d : Int} (h : cgr p a b) (h2 : cgr p c d) : cgr p (a * c) (b * d) := by
  obtain ⟨k, h⟩ := h
  obtain ⟨j, h2⟩ := h2
  exact ⟨k * d + b * j + p * k * j, by rw [h, h2]; grind⟩
theorem cgr_pw {p a b : Int} (h : cgr p a b) (n : Nat) : cgr p (a ^ n) (b ^ n) := by
  induction n with
  | zero => exact cgr_eq (by simp)
  | succ n ih =>
    rw [Int.pow_succ, Int.pow_succ]
    exact cgr_ml ih h
theorem cgr_md (p a : Int) : cgr p (a % p) a := ⟨-(a / p), by have := Int.emod_add_mul_ediv a p; rw [Int.mul_neg]; omega⟩
theorem cgr_mdN (p a : Nat) : cgr p ((a % p : Nat) : Int) a := by
  rw [Int.natCast_emod]
  exact cgr_md _ _
theorem cgr_un {p a b : Int} (h : cgr p a b) (h1 : 0 ≤ a) (h2 : a < p) (h3 : 0 ≤ b) (h4 : b < p) : a = b := by
  obtain ⟨k, hk⟩ := h
  have e : a % p = b % p := by rw [hk, Int.add_mul_emod_self_left]
  rwa [Int.emod_eq_of_lt h1 h2, Int.emod_eq_of_lt h3 h4] at e
theorem cgr_unN {p a b : Nat} (h : cgr p a b) (h2 : a < p) (h4 : b < p) : a = b := by
  have := cgr_un h (by omega) (by omega) (by omega) (by omega)
  omega
theorem cgr_modN {p a b : Nat} (h : cgr p a b) : a % p = b % p := by
  rcases Nat.eq_zero_or_pos p with h0 | h0
  · subst h0
    obtain ⟨k, hk⟩ := h
    simp at hk
    omega
  · exact cgr_unN (cgr_tr (cgr_mdN p a) (cgr_tr h (cgr_sy (cgr_mdN p b)))) (Nat.mod_lt _ h0) (Nat.mod_lt _ h0)
/-- the sum of f 0, .., f (n - 1) -/
def smf (f : Nat → Int) : Nat → Int
  | 0 => 0
  | n + 1 => smf f n + f n
theorem smf_cg {p : Int} {f g : Nat → Int} {n : Nat} (h : ∀ i, i < n → cgr p (f i) (g i)) : cgr p (smf f n) (smf g n) := by
  induction n with
  | zero => exact cgr_rf _ _
  | succ n ih => exact cgr_ad (ih (fun i hi => h i (by omega))) (h n (by omega))
theorem smf_eq {f g : Nat → Int} {n : Nat} (h : ∀ i, i < n → f i = g i) : smf f n = smf g n := by
  induction n with
  | zero => rfl
  | succ n ih =>
    show smf f n + f n = smf g n + g n
    rw [ih (fun i hi => h i (by omega)), h n (by omega)]
theorem smf_ad (f g : Nat → Int) (n : Nat) : smf (fun i => f i + g i) n = smf f n + smf g n := by
  induction n with
  | zero => rfl
  | succ n ih =>
    show smf (fun i => f i + g i) n + (f n + g n) = (smf f n + f n) + (smf g n + g n)
    rw [ih]
    omega
theorem smf_ml (c : Int) (f : Nat → Int) (n : Nat) : smf (fun i => c * f i) n = c * smf f n := by
  induction n with
  | zero => exact (Int.mul_zero c).symm
  | succ n ih =>
    show smf (fun i => c * f i) n + c * f n = c * (smf f n + f n)
    rw [ih, Int.mul_add]
theorem smf_mr (c : Int) (f : Nat → Int) (n : Nat) : smf (fun i => f i * c) n = smf f n * c := by
  rw [Int.mul_comm, ← smf_ml]
  exact smf_eq fun i _ => Int.mul_comm _ _
theorem smf_ng (f : Nat → Int) (n : Nat) : smf (fun i => - f i) n = - smf f n := by
  induction n with
  | zero => rfl
  | succ n ih =>
    show smf (fun i => - f i) n + - f n = - (smf f n + f n)
    rw [ih]
    omega
theorem smf_z {f : Nat → Int} {n : Nat} (h : ∀ i, i < n → f i = 0) : smf f n = 0 := by
  induction n with
  | zero => rfl
  | succ n ih =>
    show smf f n + f n = 0
    rw [ih (fun i hi => h i (by omega)), h n (by omega)]
    rfl
theorem smf_app (f : Nat → Int) (m n : Nat) : smf f (m + n) = smf f m + smf (fun i => f (m + i)) n := by
  induction n with
  | zero => exact (Int.add_zero _).symm
  | succ n ih =>
    show smf f (m + n) + f (m + n) = smf f m + (smf (fun i => f (m + i)) n + f (m + n))
    rw [ih]
    omega
theorem smf_two (f : Nat → Int) (n : Nat) : smf f (2 * n) = smf (fun i => f (2 * i) + f (2 * i + 1)) n := by
  induction n with
  | zero => rfl
  | succ n ih =>
    show smf f (2 * n) + f (2 * n) + f (2 * n + 1) = smf (fun i => f (2 * i) + f (2 * i + 1)) n + (f (2 * n) + f (2 * n + 1))
    rw [ih]
    omega
theorem smf_swap (f : Nat → Nat → Int) (m n : Nat) : smf (fun i => smf (fun j => f i j) n) m = smf (fun j => smf (fun i => f i j) m) n := by
  induction m with
  | zero => exact (smf_z fun _ _ => rfl).symm
  | succ m ih =>
    show smf (fun i => smf (fun j => f i j) n) m + smf (fun j => f m j) n = smf (fun j => smf (fun i => f i j) m + f m j) n
    rw [ih, smf_ad]
theorem smf_1 {f : Nat → Int} {n k : Nat} (hk : k < n) (h : ∀ i, i < n → i ≠ k → f i = 0) : smf f n = f k := by
  induction n with
  | zero => omega
  | succ n ih =>
    show smf f n + f n = f k
    by_cases hn : k = n
    · subst hn
      rw [smf_z (fun i hi => h i (by omega) (by omega))]
      omega
    · rw [ih (by omega) (fun i hi => h i (by omega)), h n (by omega) (by omega)]
      omega
theorem smf_0 {f : Nat → Int} {m n : Nat} (hmn : m ≤ n) (h : ∀ i, m ≤ i → i < n → f i = 0) : smf f n = smf f m := by
  obtain ⟨d, rfl⟩ : ∃ d, n = m + d := ⟨n - m, by omega⟩
  rw [smf_app, smf_z (fun i hi => h (m + i) (by omega) (by omega))]
  omega
/-- the same over Nat -/
def smN (f : Nat → Nat) : Nat → Nat
  | 0 => 0
  | n + 1 => smN f n + f n
theorem smN_i (f : Nat → Nat) (n : Nat) : ((smN f n : Nat) : Int) = smf (fun i => (f i : Int)) n := by
  induction n with
  | zero => rfl
  | succ n ih =>
    show ((smN f n + f n : Nat) : Int) = smf (fun i => (f i : Int)) n + (f n : Int)
    rw [← ih]
    omega
theorem smN_eq {f g : Nat → Nat} {n : Nat} (h : ∀ i, i < n → f i = g i) : smN f n = smN g n := by
  induction n with
  | zero => rfl
  | succ n ih =>
    show smN f n + f n = smN g n + g n
    rw [ih (fun i hi => h i (by omega)), h n (by omega)]
theorem smN_z {f : Nat → Nat} {n : Nat} (h : ∀ i, i < n → f i = 0) : smN f n = 0 := by
  induction n with
  | zero => rfl
  | succ n ih =>
    show smN f n + f n = 0
    rw [ih (fun i hi => h i (by omega)), h n (by omega)]
theorem smN_le {f : Nat → Nat} {n c : Nat} (h : ∀ i, i < n → f i ≤ c) : smN f n ≤ n * c := by
  induction n with
  | zero => simp [smN]
  | succ n ih =>
    have h1 := ih (fun i hi => h i (by omega))
    have h2 := h n (by omega)
    show smN f n + f n ≤ (n + 1) * c
    rw [Nat.succ_mul]
    omega
theorem smN_1 {f : Nat → Nat} {n k : Nat} (hk : k < n) (h : ∀ i, i < n → i ≠ k → f i = 0) : smN f n = f k := by
  induction n with
  | zero => omega
  | succ n ih =>
    show smN f n + f n = f k
    by_cases hn : k = n
    · subst hn
      rw [smN_z (fun i hi => h i (by omega) (by omega))]
      omega
    · rw [ih (by omega) (fun i hi => h i (by omega)), h n (by omega) (by omega)]
      omega
theorem smN_ad (f g : Nat → Nat) (n : Nat) : smN (fun i => f i + g i) n = smN f n + smN g n := by
  induction n with
  | zero => rfl
  | succ n ih =>
    show smN (fun i => f i + g i) n + (f n + g n) = (smN f n + f n) + (smN g n + g n)
    rw [ih]
    omega
theorem smN_ml (c : Nat) (f : Nat → Nat) (n : Nat) : smN (fun i => c * f i) n = c * smN f n := by
  induction n with
  | zero => exact (Nat.mul_zero c).symm
  | succ n ih =>
    show smN (fun i => c * f i) n + c * f n = c * (smN f n + f n)
    rw [ih, Nat.mul_add]
theorem smN_mr (c : Nat) (f : Nat → Nat) (n : Nat) : smN (fun i => f i * c) n = smN f n * c := by
  rw [Nat.mul_comm, ← smN_ml]
  exact smN_eq fun i _ => Nat.mul_comm _ _
theorem smN_swap (f : Nat → Nat → Nat) (m n : Nat) : smN (fun i => smN (fun j => f i j) n) m = smN (fun j => smN (fun i => f i j) m) n := by
  induction m with
  | zero => exact (smN_z fun _ _ => rfl).symm
  | succ m ih =>
    show smN (fun i => smN (fun j => f i j) n) m + smN (fun j => f m j) n = smN (fun j => smN (fun i => f i j) m + f m j) n
    rw [ih, smN_ad]
theorem smN_app (f : Nat → Nat) (m n : Nat) : smN f (m + n) = smN f m + smN (fun i => f (m + i)) n := by
  induction n with
  | zero => rfl
  | succ n ih =>
    show smN f (m + n) + f (m + n) = smN f m + (smN (fun i => f (m + i)) n + f (m + n))
    rw [ih]
    omega
