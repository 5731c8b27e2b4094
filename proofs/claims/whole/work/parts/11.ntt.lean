/-! the transforms, over whole numbers by a modulus p; w to the power 2 ^ k is -1 by p -/
theorem ipw_add (a : Int) (m n : Nat) : a ^ (m + n) = a ^ m * a ^ n := by
  induction n with
  | zero => simp
  | succ n ih => rw [← Nat.add_assoc, Int.pow_succ, Int.pow_succ, ih, Int.mul_assoc]
theorem ipw_one (n : Nat) : (1 : Int) ^ n = 1 := by
  induction n with
  | zero => rfl
  | succ n ih => rw [Int.pow_succ, ih]; rfl
theorem ipw_mul (a : Int) (m n : Nat) : a ^ (m * n) = (a ^ m) ^ n := by
  induction n with
  | zero => simp
  | succ n ih => rw [Nat.mul_succ, ipw_add, ih, Int.pow_succ]
theorem pm_e {p z : Int} (h : cgr p z (-1)) (q : Nat) : cgr p (z ^ (2 * q)) 1 := by
  rw [ipw_mul]
  have h2 : cgr p (z ^ 2) 1 := by
    have e : z ^ 2 = z * z := by rw [Int.pow_succ, Int.pow_succ]; simp
    rw [e]
    exact cgr_tr (cgr_ml h h) (cgr_eq (by decide))
  have := cgr_pw h2 q
  rwa [ipw_one] at this
theorem pm_o {p z : Int} (h : cgr p z (-1)) (q : Nat) : cgr p (z ^ (2 * q + 1)) (-1) := by
  rw [Int.pow_succ]
  exact cgr_tr (cgr_ml (pm_e h q) h) (cgr_eq (by decide))
/-- the exponent of the point of block b after s stages -/
def ez : Nat → Nat → Nat
  | 0, _ => 0
  | s + 1, c => ez s (c / 2) + (c % 2) * 2 ^ s
theorem ez_e (s b : Nat) : ez (s + 1) (2 * b) = ez s b := by
  show ez s (2 * b / 2) + (2 * b % 2) * 2 ^ s = _
  rw [show 2 * b / 2 = b by omega, show 2 * b % 2 = 0 by omega]
  simp
theorem ez_o (s b : Nat) : ez (s + 1) (2 * b + 1) = ez s b + 2 ^ s := by
  show ez s ((2 * b + 1) / 2) + ((2 * b + 1) % 2) * 2 ^ s = _
  rw [show (2 * b + 1) / 2 = b by omega, show (2 * b + 1) % 2 = 1 by omega]
  simp
/-- what place j of block b (of L places) is to hold after s stages -/
def nd_S (w : Int) (x : Nat → Int) (s b L j : Nat) : Int := smf (fun q => x (j + q * L) * w ^ (ez s b * (j + q * L))) (2 ^ s)
theorem nd_0 (w : Int) (x : Nat → Int) (L j : Nat) : nd_S w x 0 0 L j = x j := by
  show 0 + x (j + 0 * L) * w ^ (0 * (j + 0 * L)) = x j
  simp
theorem nd_end (w : Int) (x : Nat → Int) (s b : Nat) : nd_S w x s b 1 0 = smf (fun q => x q * w ^ (ez s b * q)) (2 ^ s) := by
  refine smf_eq fun q _ => ?_
  rw [show 0 + q * 1 = q by omega]
theorem nd_lo (w : Int) (x : Nat → Int) (s b h j : Nat) : nd_S w x (s + 1) (2 * b) h j = nd_S w x s b (2 * h) j + nd_S w x s b (2 * h) (j + h) := by
  unfold nd_S
  rw [Nat.pow_succ, Nat.mul_comm (2 ^ s) 2, smf_two, ← smf_ad, ez_e]
  refine smf_eq fun q _ => ?_
  have e1 : j + 2 * q * h = j + q * (2 * h) := by rw [Nat.mul_comm 2 q, Nat.mul_assoc]
  have e2 : j + (2 * q + 1) * h = j + h + q * (2 * h) := by rw [Nat.add_mul, Nat.mul_comm 2 q, Nat.mul_assoc]; omega
  rw [e1, e2]
theorem nd_hi {p w : Int} (x : Nat → Int) {s h : Nat} (b j : Nat) (hw : cgr p (w ^ (2 ^ s * h)) (-1)) : cgr p (nd_S w x (s + 1) (2 * b + 1) h j) ((nd_S w x s b (2 * h) j - nd_S w x s b (2 * h) (j + h)) * w ^ (j * 2 ^ s)) := by
  unfold nd_S
  rw [Nat.pow_succ, Nat.mul_comm (2 ^ s) 2, smf_two, ez_o]
  generalize hE : ez s b = E
  have hr : ∀ (f g : Nat → Int) (c : Int) (n : Nat), (smf f n - smf g n) * c = smf (fun q => f q * c + - (g q * c)) n := by
    intro f g c n
    rw [smf_ad, smf_ng, smf_mr, smf_mr, Int.sub_mul]
    omega
  rw [hr]
  refine smf_cg fun q _ => ?_
  have e1 : j + 2 * q * h = j + q * (2 * h) := by rw [Nat.mul_comm 2 q, Nat.mul_assoc]
  have e2 : j + (2 * q + 1) * h = j + h + q * (2 * h) := by rw [Nat.add_mul, Nat.mul_comm 2 q, Nat.mul_assoc]; omega
  have x1 : (E + 2 ^ s) * (j + q * (2 * h)) = E * (j + q * (2 * h)) + (j * 2 ^ s + 2 ^ s * h * (2 * q)) := by
    rw [Nat.add_mul]
    congr 1
    rw [Nat.mul_add, Nat.mul_comm (2 ^ s) j]
    congr 1
    rw [Nat.mul_comm q (2 * h), Nat.mul_assoc, Nat.mul_assoc (2 ^ s) h (2 * q), Nat.mul_left_comm h 2 q]
  have x2 : (E + 2 ^ s) * (j + h + q * (2 * h)) = E * (j + h + q * (2 * h)) + (j * 2 ^ s + 2 ^ s * h * (2 * q + 1)) := by
    rw [Nat.add_mul]
    congr 1
    rw [Nat.mul_add, Nat.mul_add, Nat.mul_comm (2 ^ s) j, Nat.mul_add (2 ^ s * h), Nat.mul_one, Nat.mul_comm q (2 * h), Nat.mul_assoc 2 h q, Nat.mul_assoc (2 ^ s) h (2 * q), Nat.mul_left_comm h 2 q]
    omega
  rw [e1, e2, x1, x2, ipw_add w (E * (j + q * (2 * h))), ipw_add w (j * 2 ^ s), ipw_mul w (2 ^ s * h), ipw_add w (E * (j + h + q * (2 * h))), ipw_add w (j * 2 ^ s), ipw_mul w (2 ^ s * h)]
  generalize w ^ (E * (j + q * (2 * h))) = A1
  generalize w ^ (E * (j + h + q * (2 * h))) = A2
  generalize w ^ (j * 2 ^ s) = A3
  generalize x (j + q * (2 * h)) = B1
  generalize x (j + h + q * (2 * h)) = B2
  have k1 : cgr p (B1 * (A1 * (A3 * (w ^ (2 ^ s * h)) ^ (2 * q)))) (B1 * A1 * A3) := by
    have := cgr_ml (cgr_rf p (B1 * A1 * A3)) (pm_e hw q)
    rw [Int.mul_one] at this
    rw [← Int.mul_assoc, ← Int.mul_assoc]
    exact this
  have k2 : cgr p (B2 * (A2 * (A3 * (w ^ (2 ^ s * h)) ^ (2 * q + 1)))) (- (B2 * A2 * A3)) := by
    have := cgr_ml (cgr_rf p (B2 * A2 * A3)) (pm_o hw q)
    rw [Int.mul_neg, Int.mul_one] at this
    rw [← Int.mul_assoc, ← Int.mul_assoc]
    exact this
  exact cgr_ad k1 k2
/-- the way back: the exponent of place r among 2 ^ m, relative to its block -/
def er (lg : Nat) : Nat → Nat → Nat
  | 0, _ => 0
  | m + 1, r => if r < 2 ^ m then er lg m r else 2 ^ (lg - 1 - m) + er lg m (r - 2 ^ m)
def ni_S (w : Int) (lg : Nat) (X : Nat → Int) (m b j : Nat) : Int := smf (fun r => X (b * 2 ^ m + r) * w ^ (er lg m r * j)) (2 ^ m)
theorem ni_0 (w : Int) (lg : Nat) (X : Nat → Int) (b j : Nat) : ni_S w lg X 0 b j = X b := by
  show 0 + X (b * 2 ^ 0 + 0) * w ^ (0 * j) = X b
  simp
theorem ni_lo (w : Int) (lg : Nat) (X : Nat → Int) (m b j : Nat) : ni_S w lg X (m + 1) b j = ni_S w lg X m (2 * b) j + w ^ (j * 2 ^ (lg - 1 - m)) * ni_S w lg X m (2 * b + 1) j := by
  unfold ni_S
  rw [show 2 ^ (m + 1) = 2 ^ m + 2 ^ m by rw [Nat.pow_succ]; omega, smf_app, ← smf_ml]
  congr 1
  · refine smf_eq fun r hr => ?_
    rw [show b * (2 ^ m + 2 ^ m) + r = 2 * b * 2 ^ m + r by rw [Nat.mul_add, Nat.mul_comm 2 b, Nat.mul_assoc, Nat.two_mul, Nat.mul_add]]
    rw [show er lg (m + 1) r = er lg m r from if_pos hr]
  · refine smf_eq fun r hr => ?_
    rw [show b * (2 ^ m + 2 ^ m) + (2 ^ m + r) = (2 * b + 1) * 2 ^ m + r by rw [Nat.add_mul, Nat.one_mul, Nat.mul_add, Nat.mul_comm 2 b, Nat.mul_assoc, Nat.two_mul, Nat.mul_add]; omega]
    have e : er lg (m + 1) (2 ^ m + r) = 2 ^ (lg - 1 - m) + er lg m r := by
      show (if 2 ^ m + r < 2 ^ m then er lg m (2 ^ m + r) else 2 ^ (lg - 1 - m) + er lg m (2 ^ m + r - 2 ^ m)) = _
      rw [if_neg (by omega), Nat.add_sub_cancel_left]
    rw [e, Nat.add_mul (2 ^ (lg - 1 - m)), ipw_add, Nat.mul_comm (2 ^ (lg - 1 - m)) j]
    rw [← Int.mul_assoc, ← Int.mul_assoc, Int.mul_comm (X _)]
theorem er_per (lg : Nat) : ∀ (m r : Nat), m ≤ lg → ∃ c, er lg m r * 2 ^ m = 2 ^ lg * c
  | 0, _, _ => ⟨0, by simp [er]⟩
  | m + 1, r, h => by
    by_cases hr : r < 2 ^ m
    · obtain ⟨c, hc⟩ := er_per lg m r (by omega)
      refine ⟨2 * c, ?_⟩
      rw [show er lg (m + 1) r = er lg m r from if_pos hr, Nat.pow_succ, ← Nat.mul_assoc, hc, Nat.mul_assoc, Nat.mul_comm c 2]
    · obtain ⟨c, hc⟩ := er_per lg m (r - 2 ^ m) (by omega)
      refine ⟨1 + 2 * c, ?_⟩
      rw [show er lg (m + 1) r = 2 ^ (lg - 1 - m) + er lg m (r - 2 ^ m) from if_neg hr, Nat.add_mul, ← Nat.pow_add, show lg - 1 - m + (m + 1) = lg by omega, Nat.pow_succ 2 m, ← Nat.mul_assoc, hc, Nat.mul_add, Nat.mul_one, Nat.mul_assoc, Nat.mul_comm c 2]
theorem w_per {p w : Int} {k : Nat} (hw : cgr p (w ^ 2 ^ k) (-1)) (c : Nat) : cgr p (w ^ (2 ^ (k + 1) * c)) 1 := by
  rw [Nat.pow_succ, Nat.mul_assoc, ipw_mul]
  exact pm_e hw c
theorem ni_per {p w : Int} {k : Nat} (hw : cgr p (w ^ 2 ^ k) (-1)) (X : Nat → Int) {m : Nat} (hm : m ≤ k + 1) (b j : Nat) : cgr p (ni_S w (k + 1) X m b (j + 2 ^ m)) (ni_S w (k + 1) X m b j) := by
  refine smf_cg fun r _ => cgr_ml (cgr_rf _ _) ?_
  obtain ⟨c, hc⟩ := er_per (k + 1) m r hm
  rw [Nat.mul_add, ipw_add, hc]
  have := cgr_ml (cgr_rf p (w ^ (er (k + 1) m r * j))) (w_per hw c)
  rwa [Int.mul_one] at this
theorem ni_hi {p w : Int} {k : Nat} (hw : cgr p (w ^ 2 ^ k) (-1)) (X : Nat → Int) {m : Nat} (hm : m ≤ k) (b j : Nat) : cgr p (ni_S w (k + 1) X (m + 1) b (j + 2 ^ m)) (ni_S w (k + 1) X m (2 * b) j - w ^ (j * 2 ^ (k - m)) * ni_S w (k + 1) X m (2 * b + 1) j) := by
  rw [ni_lo, show k + 1 - 1 - m = k - m by omega]
  have h1 : cgr p (w ^ ((j + 2 ^ m) * 2 ^ (k - m))) (- w ^ (j * 2 ^ (k - m))) := by
    rw [Nat.add_mul, ipw_add, ← Nat.pow_add, show m + (k - m) = k by omega]
    have := cgr_ml (cgr_rf p (w ^ (j * 2 ^ (k - m)))) hw
    rwa [Int.mul_neg, Int.mul_one] at this
  have h2 := cgr_ad (ni_per hw X (by omega : m ≤ k + 1) (2 * b) j) (cgr_ml h1 (ni_per hw X (by omega : m ≤ k + 1) (2 * b + 1) j))
  refine cgr_tr h2 (cgr_eq ?_)
  rw [Int.neg_mul]
  omega
theorem er_ez (lg : Nat) : ∀ (m s b r : Nat), s + m = lg → r < 2 ^ m → ez s b + er lg m r = ez lg (b * 2 ^ m + r)
  | 0, s, b, r, hs, hr => by
    have h0 : r = 0 := by simpa using hr
    have hs' : s = lg := by omega
    subst h0
    subst hs'
    simp [er]
  | m + 1, s, b, r, hs, hr => by
    by_cases h : r < 2 ^ m
    · have := er_ez lg m (s + 1) (2 * b) r (by omega) h
      rw [ez_e] at this
      rw [show er lg (m + 1) r = er lg m r from if_pos h, this]
      congr 1
      rw [Nat.pow_succ, Nat.mul_comm 2 b, Nat.mul_assoc, Nat.mul_comm (2 ^ m) 2]
    · have hlt : r - 2 ^ m < 2 ^ m := by
        rw [Nat.pow_succ] at hr
        omega
      have := er_ez lg m (s + 1) (2 * b + 1) (r - 2 ^ m) (by omega) hlt
      rw [ez_o] at this
      rw [show er lg (m + 1) r = 2 ^ (lg - 1 - m) + er lg m (r - 2 ^ m) from if_neg h, show lg - 1 - m = s by omega, ← Nat.add_assoc, this]
      congr 1
      rw [Nat.pow_succ, Nat.add_mul, Nat.one_mul, Nat.mul_comm 2 b, Nat.mul_assoc, Nat.mul_comm 2 (2 ^ m)]
      omega
theorem ni_end (w : Int) (lg : Nat) (X : Nat → Int) (j : Nat) : ni_S w lg X lg 0 j = smf (fun r => X r * w ^ (ez lg r * j)) (2 ^ lg) := by
  refine smf_eq fun r hr => ?_
  have := er_ez lg lg 0 0 r (by omega) hr
  rw [show ez 0 0 = 0 from rfl, Nat.zero_add, Nat.zero_mul, Nat.zero_add] at this
  rw [Nat.zero_mul, Nat.zero_add, this]
/-- the sum of all points' powers -/
def nr_S (w : Int) (s t : Nat) : Int := smf (fun b => w ^ (ez s b * t)) (2 ^ s)
theorem nr_succ (w : Int) (s t : Nat) : nr_S w (s + 1) t = nr_S w s t * (1 + w ^ (2 ^ s * t)) := by
  unfold nr_S
  rw [Nat.pow_succ, Nat.mul_comm (2 ^ s) 2, smf_two, ← smf_mr]
  refine smf_eq fun b _ => ?_
  rw [ez_e, ez_o, Nat.add_mul, ipw_add, Int.mul_add, Int.mul_one]
theorem nr_0 (w : Int) (t : Nat) : nr_S w 0 t = 1 := by
  show 0 + w ^ (0 * t) = 1
  simp
theorem nr_A {p w : Int} {k : Nat} (hw : cgr p (w ^ 2 ^ k) (-1)) (c : Nat) : ∀ s, cgr p (nr_S w s (2 ^ (k + 1) * c)) ((2 ^ s : Nat) : Int)
  | 0 => cgr_eq (by rw [nr_0]; rfl)
  | s + 1 => by
    rw [nr_succ]
    have h1 : cgr p (w ^ (2 ^ s * (2 ^ (k + 1) * c))) 1 := by
      rw [Nat.mul_left_comm]
      exact w_per hw _
    refine cgr_tr (cgr_ml (nr_A hw c s) (cgr_ad (cgr_rf p 1) h1)) (cgr_eq ?_)
    rw [Nat.pow_succ]
    omega
theorem two_adic : ∀ (n t : Nat), ¬ 2 ^ n ∣ t → ∃ e c, e < n ∧ t = 2 ^ e * (2 * c + 1)
  | 0, t, h => absurd (Nat.one_dvd t) h
  | n + 1, t, h => by
    by_cases h1 : 2 ^ n ∣ t
    · obtain ⟨d, hd⟩ := h1
      refine ⟨n, d / 2, by omega, ?_⟩
      have hodd : d % 2 = 1 := by
        rcases (show d % 2 = 0 ∨ d % 2 = 1 by omega) with q | q
        · exfalso
          apply h
          refine ⟨d / 2, ?_⟩
          rw [hd, Nat.pow_succ, Nat.mul_assoc]
          congr 1
          omega
        · exact q
      rw [hd]
      congr 1
      omega
    · obtain ⟨e, c, h2, h3⟩ := two_adic n t h1
      exact ⟨e, c, by omega, h3⟩
theorem nr_keep {p w : Int} {s t : Nat} (h : cgr p (nr_S w s t) 0) : ∀ d, cgr p (nr_S w (s + d) t) 0
  | 0 => h
  | d + 1 => by
    rw [← Nat.add_assoc, nr_succ]
    have := cgr_ml (nr_keep h d) (cgr_rf p (1 + w ^ (2 ^ (s + d) * t)))
    rwa [Int.zero_mul] at this
theorem nr_B {p w : Int} {k t : Nat} (hw : cgr p (w ^ 2 ^ k) (-1)) (ht : ¬ 2 ^ (k + 1) ∣ t) : cgr p (nr_S w (k + 1) t) 0 := by
  obtain ⟨e, c, he, htt⟩ := two_adic _ _ ht
  have h1 : cgr p (nr_S w (k - e + 1) t) 0 := by
    rw [nr_succ, htt, ← Nat.mul_assoc, ← Nat.pow_add, show k - e + e = k by omega, ipw_mul]
    have h2 := cgr_ad (cgr_rf p 1) (pm_o hw c)
    have := cgr_ml (cgr_rf p (nr_S w (k - e) (2 ^ e * (2 * c + 1)))) h2
    rwa [show (1 : Int) + -1 = 0 from rfl, Int.mul_zero] at this
  have := nr_keep h1 e
  rwa [show k - e + 1 + e = k + 1 by omega] at this
/-- a row with zeros behind its digits, as whole numbers -/
def padZ (a : Nat → Nat) (n : Nat) : Nat → Int := fun i => if i < n then (a i : Int) else 0
/-- coefficient i of the product of two rows -/
def cvN (a : Nat → Nat) (na : Nat) (b : Nat → Nat) (nb : Nat) (t : Nat) : Nat := smN (fun i => smN (fun j => if i + j = t then a i * b j else 0) nb) na
theorem smf_prod (f g : Nat → Int) (n m : Nat) : smf f n * smf g m = smf (fun i => smf (fun j => f i * g j) m) n := by
  rw [← smf_mr]
  refine smf_eq fun i _ => ?_
  rw [smf_ml]
theorem conv_sum (w : Int) (lg m : Nat) (x y : Nat → Int) (n : Nat) : smf (fun k => (smf (fun i => x i * w ^ (ez lg k * i)) n * smf (fun j => y j * w ^ (ez lg k * j)) n) * w ^ (ez lg k * m)) (2 ^ lg) = smf (fun i => smf (fun j => x i * y j * nr_S w lg (i + j + m)) n) n := by
  have e : ∀ k, k < 2 ^ lg → (smf (fun i => x i * w ^ (ez lg k * i)) n * smf (fun j => y j * w ^ (ez lg k * j)) n) * w ^ (ez lg k * m) = smf (fun i => smf (fun j => x i * y j * w ^ (ez lg k * (i + j + m))) n) n := by
    intro k _
    rw [smf_prod, ← smf_mr]
    refine smf_eq fun i _ => ?_
    rw [← smf_mr]
    refine smf_eq fun j _ => ?_
    rw [Nat.mul_add, Nat.mul_add, ipw_add, ipw_add]
    grind
  rw [smf_eq e, smf_swap]
  refine smf_eq fun i _ => ?_
  rw [smf_swap]
  refine smf_eq fun j _ => ?_
  rw [smf_ml]
  rfl
theorem conv_div {n i j t : Nat} (h1 : i + j < n) (h2 : t < n) : n ∣ i + j + (n - t) % n ↔ i + j = t := by
  constructor
  · intro h
    have h3 := Nat.mod_eq_zero_of_dvd h
    by_cases h0 : t = 0
    · subst h0
      rw [Nat.sub_zero, Nat.mod_self, Nat.add_zero, Nat.mod_eq_of_lt h1] at h3
      exact h3
    · rw [Nat.mod_eq_of_lt (by omega : n - t < n)] at h3
      by_cases h4 : i + j + (n - t) < n
      · rw [Nat.mod_eq_of_lt h4] at h3
        omega
      · rw [Nat.mod_eq_sub_mod (by omega), Nat.mod_eq_of_lt (by omega)] at h3
        omega
  · intro h
    subst h
    by_cases h0 : i + j = 0
    · rw [h0, Nat.sub_zero, Nat.mod_self]
      exact ⟨0, by simp⟩
    · rw [Nat.mod_eq_of_lt (by omega : n - (i + j) < n)]
      exact ⟨1, by omega⟩
theorem cvN_i (a : Nat → Nat) (na : Nat) (b : Nat → Nat) (nb t : Nat) {n : Nat} (hna : na ≤ n) (hnb : nb ≤ n) : ((cvN a na b nb t : Nat) : Int) = smf (fun i => smf (fun j => if i + j = t then padZ a na i * padZ b nb j else 0) n) n := by
  unfold cvN
  rw [smN_i, smf_0 (n := n) hna (fun i h1 h2 => smf_z fun j _ => ?_)]
  · refine smf_eq fun i hi => ?_
    rw [smN_i, smf_0 (n := n) hnb (fun j h1 h2 => ?_)]
    · refine smf_eq fun j hj => ?_
      by_cases h : i + j = t
      · rw [if_pos h, if_pos h]
        unfold padZ
        rw [if_pos hi, if_pos hj]
        exact Int.natCast_mul _ _
      · rw [if_neg h, if_neg h]
        rfl
    · unfold padZ
      rw [if_neg (show ¬ j < nb by omega), Int.mul_zero]
      split <;> rfl
  · unfold padZ
    rw [if_neg (show ¬ i < na by omega), Int.zero_mul]
    split <;> rfl
/-- the transforms' answer: N times the product's coefficient -/
theorem ntt_conv {p w : Int} {k : Nat} (hw : cgr p (w ^ 2 ^ k) (-1)) (a : Nat → Nat) (na : Nat) (b : Nat → Nat) (nb : Nat) {t : Nat} (hn : na + nb ≤ 2 ^ (k + 1)) (ht : t < 2 ^ (k + 1)) :
    cgr p (smf (fun r => (smf (fun i => padZ a na i * w ^ (ez (k + 1) r * i)) (2 ^ (k + 1)) * smf (fun j => padZ b nb j * w ^ (ez (k + 1) r * j)) (2 ^ (k + 1))) * w ^ (ez (k + 1) r * ((2 ^ (k + 1) - t) % 2 ^ (k + 1)))) (2 ^ (k + 1))) (((2 ^ (k + 1) : Nat) : Int) * (cvN a na b nb t : Int)) := by
  rw [conv_sum, cvN_i a na b nb t (n := 2 ^ (k + 1)) (by omega) (by omega), ← smf_ml]
  refine smf_cg fun i _ => ?_
  rw [← smf_ml]
  refine smf_cg fun j _ => ?_
  by_cases hi : i < na
  · by_cases hj : j < nb
    · by_cases h : i + j = t
      · rw [if_pos h]
        obtain ⟨c, hc⟩ := (conv_div (n := 2 ^ (k + 1)) (i := i) (j := j) (t := t) (by omega) ht).mpr h
        rw [hc, Int.mul_comm ((2 ^ (k + 1) : Nat) : Int)]
        exact cgr_ml (cgr_rf _ _) (nr_A hw c (k + 1))
      · rw [if_neg h, Int.mul_zero]
        have := cgr_ml (cgr_rf p (padZ a na i * padZ b nb j)) (nr_B hw (fun q => h ((conv_div (n := 2 ^ (k + 1)) (i := i) (j := j) (t := t) (by omega) ht).mp q)))
        rwa [Int.mul_zero] at this
    · have e : padZ b nb j = 0 := if_neg hj
      rw [e, Int.mul_zero, Int.zero_mul]
      exact cgr_eq (by split <;> simp)
  · have e : padZ a na i = 0 := if_neg hi
    rw [e, Int.zero_mul, Int.zero_mul]
    exact cgr_eq (by split <;> simp)
theorem cvN_le (a : Nat → Nat) (na : Nat) (b : Nat → Nat) (nb t c : Nat) (h : ∀ i j, i < na → j < nb → a i * b j ≤ c) : cvN a na b nb t ≤ na * c := by
  refine smN_le fun i hi => ?_
  by_cases hx : i ≤ t ∧ t - i < nb
  · rw [smN_1 (k := t - i) hx.2 (fun j hj hne => if_neg (by omega)), if_pos (by omega)]
    exact h i (t - i) hi hx.2
  · rw [smN_z (fun j hj => if_neg (by omega))]
    exact Nat.zero_le _
