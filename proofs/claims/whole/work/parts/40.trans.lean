/-! what the stages compute -/
theorem adP_cg (p a b : Nat) (ha : a < p) (hb : b < p) : cgr p (adP p a b : Nat) ((a : Int) + b) := by
  unfold adP
  split
  · exact cgr_eq (by omega)
  · exact ⟨-1, by omega⟩
theorem sbP_cg (p a b : Nat) (ha : a < p) (hb : b < p) : cgr p (sbP p a b : Nat) ((a : Int) - b) := by
  unfold sbP
  split
  · exact cgr_eq (by omega)
  · exact ⟨1, by omega⟩
theorem spL_spec (p st h sg : Nat) (rt v : Nat → Nat) : ∀ n, n ≤ h → ∀ i, spL p st h sg rt v n i = if st ≤ i ∧ i < st + n then adP p (v i) (v (i + h)) else if st + h ≤ i ∧ i < st + h + n then (v (i - h) + p - v i) * rt ((i - st - h) * 2 ^ sg) % p else v i
  | 0, _, i => by
    rw [if_neg (by omega), if_neg (by omega)]
    rfl
  | n + 1, hn, i => by
    have ih := spL_spec p st h sg rt v n (by omega)
    have e1 : spL p st h sg rt v n (st + n) = v (st + n) := by rw [ih, if_neg (by omega), if_neg (by omega)]
    have e2 : spL p st h sg rt v n (st + n + h) = v (st + n + h) := by rw [ih, if_neg (by omega), if_neg (by omega)]
    show spJ p st h sg rt (spL p st h sg rt v n) n i = _
    unfold spJ
    rw [e1, e2]
    unfold va_up
    by_cases h1 : i = st + n + h
    · subst h1
      rw [if_pos rfl, if_neg (by omega), if_pos (by omega), show st + n + h - h = st + n by omega, show st + n + h - st - h = n by omega]
    · rw [if_neg h1]
      by_cases h2 : i = st + n
      · subst h2
        rw [if_pos rfl, if_pos (by omega)]
      · rw [if_neg h2, ih]
        by_cases h3 : st ≤ i ∧ i < st + n
        · rw [if_pos h3, if_pos (by omega)]
        · rw [if_neg h3, if_neg (show ¬ (st ≤ i ∧ i < st + (n + 1)) by omega)]
          by_cases h4 : st + h ≤ i ∧ i < st + h + n
          · rw [if_pos h4, if_pos (show st + h ≤ i ∧ i < st + h + (n + 1) by omega)]
          · rw [if_neg h4, if_neg (show ¬ (st + h ≤ i ∧ i < st + h + (n + 1)) by omega)]
theorem jnL_spec (p st h sg : Nat) (rt v : Nat → Nat) : ∀ n, n ≤ h → ∀ i, jnL p st h sg rt v n i = if st ≤ i ∧ i < st + n then adP p (v i) (v (i + h) * rt ((i - st) * 2 ^ sg) % p) else if st + h ≤ i ∧ i < st + h + n then sbP p (v (i - h)) (v i * rt ((i - st - h) * 2 ^ sg) % p) else v i
  | 0, _, i => by
    rw [if_neg (by omega), if_neg (by omega)]
    rfl
  | n + 1, hn, i => by
    have ih := jnL_spec p st h sg rt v n (by omega)
    have e1 : jnL p st h sg rt v n (st + n) = v (st + n) := by rw [ih, if_neg (by omega), if_neg (by omega)]
    have e2 : jnL p st h sg rt v n (st + n + h) = v (st + n + h) := by rw [ih, if_neg (by omega), if_neg (by omega)]
    show jnJ p st h sg rt (jnL p st h sg rt v n) n i = _
    unfold jnJ
    rw [e1, e2]
    unfold va_up
    by_cases h1 : i = st + n + h
    · subst h1
      rw [if_pos rfl, if_neg (by omega), if_pos (by omega), show st + n + h - h = st + n by omega, show st + n + h - st - h = n by omega]
    · rw [if_neg h1]
      by_cases h2 : i = st + n
      · subst h2
        rw [if_pos rfl, if_pos (by omega), show st + n - st = n by omega]
      · rw [if_neg h2, ih]
        by_cases h3 : st ≤ i ∧ i < st + n
        · rw [if_pos h3, if_pos (by omega)]
        · rw [if_neg h3, if_neg (show ¬ (st ≤ i ∧ i < st + (n + 1)) by omega)]
          by_cases h4 : st + h ≤ i ∧ i < st + h + n
          · rw [if_pos h4, if_pos (show st + h ≤ i ∧ i < st + h + (n + 1) by omega)]
          · rw [if_neg h4, if_neg (show ¬ (st + h ≤ i ∧ i < st + h + (n + 1)) by omega)]
/-- blocks apart -/
theorem bk_ap {L b c j : Nat} (hj : j < L) (h : b ≠ c) : c * L + j < b * L ∨ b * L + L ≤ c * L + j := by
  rcases Nat.lt_or_gt_of_ne h with h | h
  · right
    have := Nat.mul_le_mul_right L (show b + 1 ≤ c by omega)
    rw [Nat.add_mul, Nat.one_mul] at this
    omega
  · left
    have := Nat.mul_le_mul_right L (show c + 1 ≤ b by omega)
    rw [Nat.add_mul, Nat.one_mul] at this
    omega
theorem spS_spec {p N sg h : Nat} {rt v : Nat → Nat} (hN : N / 2 ^ (sg + 1) = h) : ∀ n c j, j < 2 * h → spS p N sg rt v n (c * (2 * h) + j) = if c < n then (if j < h then adP p (v (c * (2 * h) + j)) (v (c * (2 * h) + j + h)) else (v (c * (2 * h) + j - h) + p - v (c * (2 * h) + j)) * rt ((j - h) * 2 ^ sg) % p) else v (c * (2 * h) + j)
  | 0, c, j, _ => by
    rw [if_neg (by omega)]
    rfl
  | n + 1, c, j, hj => by
    have ih := spS_spec (p := p) (rt := rt) (v := v) hN n
    show spB p N sg rt (spS p N sg rt v n) n (c * (2 * h) + j) = _
    unfold spB
    rw [hN, spL_spec _ _ _ _ _ _ h (Nat.le_refl _)]
    have hst : 2 * h * n = n * (2 * h) := Nat.mul_comm _ _
    rw [hst]
    by_cases hc : c = n
    · subst hc
      rw [if_pos (show c < c + 1 by omega)]
      by_cases hjh : j < h
      · rw [if_pos (by omega), if_pos hjh, ih c j hj, if_neg (by omega), Nat.add_assoc, ih c (j + h) (by omega), if_neg (by omega)]
      · have e3 : c * (2 * h) + j - h = c * (2 * h) + (j - h) := by omega
        rw [if_neg (by omega), if_pos (by omega), if_neg hjh, ih c j hj, if_neg (by omega), e3, ih c (j - h) (by omega), if_neg (by omega)]
        rw [show c * (2 * h) + j - c * (2 * h) - h = j - h by omega]
    · have := bk_ap hj (Ne.symm hc)
      rw [if_neg (by omega), if_neg (by omega), ih c j hj]
      by_cases hcn : c < n
      · rw [if_pos hcn, if_pos (show c < n + 1 by omega)]
      · rw [if_neg hcn, if_neg (show ¬ c < n + 1 by omega)]
theorem jnS_spec {p N sg h : Nat} {rt v : Nat → Nat} (hN : N / 2 ^ (sg + 1) = h) : ∀ n c j, j < 2 * h → jnS p N sg rt v n (c * (2 * h) + j) = if c < n then (if j < h then adP p (v (c * (2 * h) + j)) (v (c * (2 * h) + j + h) * rt (j * 2 ^ sg) % p) else sbP p (v (c * (2 * h) + j - h)) (v (c * (2 * h) + j) * rt ((j - h) * 2 ^ sg) % p)) else v (c * (2 * h) + j)
  | 0, c, j, _ => by
    rw [if_neg (by omega)]
    rfl
  | n + 1, c, j, hj => by
    have ih := jnS_spec (p := p) (rt := rt) (v := v) hN n
    show jnB p N sg rt (jnS p N sg rt v n) n (c * (2 * h) + j) = _
    unfold jnB
    rw [hN, jnL_spec _ _ _ _ _ _ h (Nat.le_refl _)]
    have hst : 2 * h * n = n * (2 * h) := Nat.mul_comm _ _
    rw [hst]
    by_cases hc : c = n
    · subst hc
      rw [if_pos (show c < c + 1 by omega)]
      by_cases hjh : j < h
      · rw [if_pos (by omega), if_pos hjh, ih c j hj, if_neg (by omega), Nat.add_assoc, ih c (j + h) (by omega), if_neg (by omega)]
        rw [show c * (2 * h) + j - c * (2 * h) = j by omega]
      · have e3 : c * (2 * h) + j - h = c * (2 * h) + (j - h) := by omega
        rw [if_neg (by omega), if_pos (by omega), if_neg hjh, ih c j hj, if_neg (by omega), e3, ih c (j - h) (by omega), if_neg (by omega)]
        rw [show c * (2 * h) + j - c * (2 * h) - h = j - h by omega]
    · have := bk_ap hj (Ne.symm hc)
      rw [if_neg (by omega), if_neg (by omega), ih c j hj]
      by_cases hcn : c < n
      · rw [if_pos hcn, if_pos (show c < n + 1 by omega)]
      · rw [if_neg hcn, if_neg (show ¬ c < n + 1 by omega)]
theorem hlf {k s : Nat} (hs : s ≤ k) : 2 ^ (k + 1) / 2 ^ (s + 1) = 2 ^ (k - s) := by
  have e : 2 ^ (k + 1) = 2 ^ (s + 1) * 2 ^ (k - s) := by rw [← Nat.pow_add]; congr 1; omega
  rw [e, Nat.mul_div_cancel_left _ (Nat.two_pow_pos _)]
theorem rt_cg {p k : Nat} {w : Nat} {rt : Nat → Nat} (hrt : ∀ i, i < 2 ^ k → rt i = w ^ i % p) {i : Nat} (hi : i < 2 ^ k) : cgr p (rt i : Nat) ((w : Int) ^ i) := by
  rw [hrt i hi]
  refine cgr_tr (cgr_mdN p _) (cgr_eq ?_)
  exact Int.natCast_pow w i
theorem idx_lt {c s h k : Nat} (hc : c < 2 ^ s) (hh : 2 ^ s * (2 * h) = 2 ^ (k + 1)) {j : Nat} (hj : j < 2 * h) : c * (2 * h) + j < 2 ^ (k + 1) := by
  have := Nat.mul_le_mul_right (2 * h) (show c + 1 ≤ 2 ^ s by omega)
  rw [Nat.add_mul, Nat.one_mul, hh] at this
  omega
/-- the stages of toSpectrum -/
theorem spT_cg {p k : Nat} {w : Nat} {rt v : Nat → Nat} {x : Nat → Int} (hp : 0 < p) (hw : cgr p ((w : Int) ^ 2 ^ k) (-1)) (hrt : ∀ i, i < 2 ^ k → rt i = w ^ i % p) (hv : ∀ i, i < 2 ^ (k + 1) → v i < p) (hx : ∀ i, i < 2 ^ (k + 1) → cgr p (v i : Nat) (x i)) :
    ∀ s, s ≤ k + 1 → ∀ c j, c < 2 ^ s → j < 2 ^ (k + 1 - s) → cgr p (spT p (2 ^ (k + 1)) rt v s (c * 2 ^ (k + 1 - s) + j) : Nat) (nd_S w x s c (2 ^ (k + 1 - s)) j)
  | 0, _, c, j, hc, hj => by
    have h0 : c = 0 := by simpa using hc
    subst h0
    rw [nd_0, Nat.zero_mul, Nat.zero_add]
    exact hx j hj
  | s + 1, hs, c, j, hc, hj => by
    have ih := spT_cg hp hw hrt hv hx s (by omega)
    have hlt := spT_lt (rt := rt) hp hv s (by omega)
    generalize hV : spT p (2 ^ (k + 1)) rt v s = V at ih hlt
    have e0 : k + 1 - (s + 1) = k - s := by omega
    rw [e0] at hj ⊢
    have e1 : 2 ^ (k + 1 - s) = 2 * 2 ^ (k - s) := by rw [show k + 1 - s = (k - s) + 1 by omega, Nat.pow_succ, Nat.mul_comm]
    rw [e1] at ih
    have hh : 2 ^ s * (2 * 2 ^ (k - s)) = 2 ^ (k + 1) := by rw [← e1, ← Nat.pow_add]; congr 1; omega
    have hsp := spS_spec (p := p) (rt := rt) (v := V) (hlf (show s ≤ k by omega)) (2 ^ s)
    have hjr : j * 2 ^ s < 2 ^ k := by
      have h1 := Nat.mul_lt_mul_of_pos_right hj (Nat.two_pow_pos s)
      rw [← Nat.pow_add, show k - s + s = k by omega] at h1
      exact h1
    have hw2 : cgr p ((w : Int) ^ (2 ^ s * 2 ^ (k - s))) (-1) := by rw [← Nat.pow_add, show s + (k - s) = k by omega]; exact hw
    show cgr p (spS p (2 ^ (k + 1)) s rt (spT p (2 ^ (k + 1)) rt v s) (2 ^ s) _ : Nat) _
    rw [hV]
    obtain ⟨d, hd | hd⟩ : ∃ d, c = 2 * d ∨ c = 2 * d + 1 := ⟨c / 2, by omega⟩
    · subst hd
      have hd2 : d < 2 ^ s := by rw [Nat.pow_succ] at hc; omega
      have e2 : 2 * d * 2 ^ (k - s) + j = d * (2 * 2 ^ (k - s)) + j := by rw [Nat.mul_comm 2 d, Nat.mul_assoc]
      rw [e2, hsp d j (by omega), if_pos hd2, if_pos hj, nd_lo]
      refine cgr_tr (adP_cg _ _ _ (hlt _ (idx_lt hd2 hh (by omega))) ?_) (cgr_ad (ih d j hd2 (by omega)) ?_)
      · rw [Nat.add_assoc]
        exact hlt _ (idx_lt hd2 hh (by omega))
      · rw [Nat.add_assoc]
        exact ih d (j + 2 ^ (k - s)) hd2 (by omega)
    · subst hd
      have hd2 : d < 2 ^ s := by rw [Nat.pow_succ] at hc; omega
      have e2 : (2 * d + 1) * 2 ^ (k - s) + j = d * (2 * 2 ^ (k - s)) + (j + 2 ^ (k - s)) := by rw [Nat.add_mul, Nat.one_mul, Nat.mul_comm 2 d, Nat.mul_assoc]; omega
      rw [e2, hsp d (j + 2 ^ (k - s)) (by omega), if_pos hd2, if_neg (by omega), Nat.add_sub_cancel, show d * (2 * 2 ^ (k - s)) + (j + 2 ^ (k - s)) - 2 ^ (k - s) = d * (2 * 2 ^ (k - s)) + j by omega]
      refine cgr_tr (cgr_mdN _ _) (cgr_sy (cgr_tr (nd_hi x d j hw2) (cgr_sy ?_)))
      rw [Int.natCast_mul]
      refine cgr_ml ?_ (rt_cg hrt hjr)
      have a1 := hlt _ (idx_lt hd2 hh (show j < 2 * 2 ^ (k - s) by omega))
      have a2 := hlt _ (idx_lt hd2 hh (show j + 2 ^ (k - s) < 2 * 2 ^ (k - s) by omega))
      have b1 := ih d j hd2 (by omega)
      have b2 := ih d (j + 2 ^ (k - s)) hd2 (by omega)
      refine cgr_tr ?_ (cgr_sb b1 b2)
      exact ⟨1, by omega⟩
theorem spT_end {p k : Nat} {w : Nat} {rt v : Nat → Nat} {x : Nat → Int} (hp : 0 < p) (hw : cgr p ((w : Int) ^ 2 ^ k) (-1)) (hrt : ∀ i, i < 2 ^ k → rt i = w ^ i % p) (hv : ∀ i, i < 2 ^ (k + 1) → v i < p) (hx : ∀ i, i < 2 ^ (k + 1) → cgr p (v i : Nat) (x i)) (c : Nat) (hc : c < 2 ^ (k + 1)) :
    cgr p (spT p (2 ^ (k + 1)) rt v (k + 1) c : Nat) (smf (fun q => x q * (w : Int) ^ (ez (k + 1) c * q)) (2 ^ (k + 1))) := by
  have := spT_cg hp hw hrt hv hx (k + 1) (Nat.le_refl _) c 0 hc (by rw [Nat.sub_self]; decide)
  rw [Nat.sub_self, Nat.pow_zero, Nat.mul_one, Nat.add_zero, nd_end] at this
  exact this
/-- the stages of fromSpectrum -/
theorem jnT_cg {p k : Nat} {w : Nat} {rt : Nat → Nat} {X : Nat → Int} (hp : 0 < p) (hw : cgr p ((w : Int) ^ 2 ^ k) (-1)) (hrt : ∀ i, i < 2 ^ k → rt i = w ^ i % p) :
    ∀ s v, s ≤ k + 1 → (∀ i, i < 2 ^ (k + 1) → v i < p) → (∀ c j, c < 2 ^ s → j < 2 ^ (k + 1 - s) → cgr p (v (c * 2 ^ (k + 1 - s) + j) : Nat) (ni_S w (k + 1) X (k + 1 - s) c j)) → ∀ j, j < 2 ^ (k + 1) → cgr p (jnT p (2 ^ (k + 1)) rt s v j : Nat) (ni_S w (k + 1) X (k + 1) 0 j)
  | 0, v, _, _, h, j, hj => by
    have := h 0 j (by decide) hj
    rwa [Nat.zero_mul, Nat.zero_add] at this
  | s + 1, v, hs, hv, h, j, hj => by
    refine jnT_cg hp hw hrt s _ (by omega) (jnS_lt hp hv (sg_dv (by omega)) _ (Nat.le_refl _)) ?_ j hj
    intro c j hc hj
    have e0 : k + 1 - (s + 1) = k - s := by omega
    rw [e0] at h
    have e1 : 2 ^ (k + 1 - s) = 2 * 2 ^ (k - s) := by rw [show k + 1 - s = (k - s) + 1 by omega, Nat.pow_succ, Nat.mul_comm]
    have hh : 2 ^ s * (2 * 2 ^ (k - s)) = 2 ^ (k + 1) := by rw [← e1, ← Nat.pow_add]; congr 1; omega
    have hsp := jnS_spec (p := p) (rt := rt) (v := v) (hlf (show s ≤ k by omega)) (2 ^ s)
    rw [e1] at hj ⊢
    rw [hsp c j hj, if_pos hc, show k + 1 - s = (k - s) + 1 by omega]
    have hc2 : 2 * c < 2 ^ (s + 1) := by rw [Nat.pow_succ]; omega
    have hc3 : 2 * c + 1 < 2 ^ (s + 1) := by rw [Nat.pow_succ]; omega
    have r1 : ∀ i, i < 2 ^ (k - s) → i * 2 ^ s < 2 ^ k := by
      intro i hi
      have h1 := Nat.mul_lt_mul_of_pos_right hi (Nat.two_pow_pos s)
      rw [← Nat.pow_add, show k - s + s = k by omega] at h1
      exact h1
    have p1 : ∀ i, 2 * c * 2 ^ (k - s) + i = c * (2 * 2 ^ (k - s)) + i := fun i => by rw [Nat.mul_comm 2 c, Nat.mul_assoc]
    have p2 : ∀ i, (2 * c + 1) * 2 ^ (k - s) + i = c * (2 * 2 ^ (k - s)) + i + 2 ^ (k - s) := fun i => by rw [Nat.add_mul, Nat.one_mul, Nat.mul_comm 2 c, Nat.mul_assoc]; omega
    have q1 : ∀ i, i < 2 ^ (k - s) → cgr p (v (c * (2 * 2 ^ (k - s)) + i) : Nat) (ni_S w (k + 1) X (k - s) (2 * c) i) := fun i hi => by rw [← p1]; exact h (2 * c) i hc2 hi
    have q2 : ∀ i, i < 2 ^ (k - s) → cgr p (v (c * (2 * 2 ^ (k - s)) + i + 2 ^ (k - s)) * rt (i * 2 ^ s) % p : Nat) ((w : Int) ^ (i * 2 ^ s) * ni_S w (k + 1) X (k - s) (2 * c + 1) i) := fun i hi => by
      refine cgr_tr (cgr_mdN _ _) ?_
      rw [Int.natCast_mul, Int.mul_comm]
      refine cgr_ml (rt_cg hrt (r1 i hi)) ?_
      rw [← p2]
      exact h (2 * c + 1) i hc3 hi
    by_cases hjh : j < 2 ^ (k - s)
    · rw [if_pos hjh, ni_lo, show k + 1 - 1 - (k - s) = s by omega]
      exact cgr_tr (adP_cg _ _ _ (hv _ (idx_lt hc hh hj)) (Nat.mod_lt _ hp)) (cgr_ad (q1 j hjh) (q2 j hjh))
    · obtain ⟨i, rfl⟩ : ∃ i, j = i + 2 ^ (k - s) := ⟨j - 2 ^ (k - s), by omega⟩
      have hi : i < 2 ^ (k - s) := by omega
      rw [if_neg hjh, Nat.add_sub_cancel, show c * (2 * 2 ^ (k - s)) + (i + 2 ^ (k - s)) - 2 ^ (k - s) = c * (2 * 2 ^ (k - s)) + i by omega, ← Nat.add_assoc]
      have h2 := ni_hi hw X (show k - s ≤ k by omega) c i
      rw [show k - (k - s) = s by omega] at h2
      refine cgr_tr (sbP_cg _ _ _ (hv _ (idx_lt hc hh (by omega))) (Nat.mod_lt _ hp)) (cgr_tr (cgr_sb (q1 i hi) (q2 i hi)) (cgr_sy h2))
/-- a convolution's numbers: N times the product's coefficients -/
theorem conv_ok {p k w : Nat} {rt va vb a b : Nat → Nat} {na nb : Nat} (hp : 0 < p) (hw : cgr p ((w : Int) ^ 2 ^ k) (-1)) (hrt : ∀ i, i < 2 ^ k → rt i = w ^ i % p) (hva : ∀ i, i < 2 ^ (k + 1) → va i < p) (hvb : ∀ i, i < 2 ^ (k + 1) → vb i < p)
    (ha : ∀ i, i < 2 ^ (k + 1) → va i = padN a na i) (hb : ∀ i, i < 2 ^ (k + 1) → vb i = padN b nb i) (hn : na + nb ≤ 2 ^ (k + 1)) {t : Nat} (ht : t < 2 ^ (k + 1)) :
    cgr p (jnT p (2 ^ (k + 1)) rt (k + 1) (meF p (2 ^ (k + 1)) (spT p (2 ^ (k + 1)) rt va (k + 1)) (spT p (2 ^ (k + 1)) rt vb (k + 1))) ((2 ^ (k + 1) - t) % 2 ^ (k + 1)) : Nat) (((2 ^ (k + 1) : Nat) : Int) * (cvN a na b nb t : Int)) := by
  have hpad : ∀ (f : Nat → Nat) (n i : Nat), ((padN f n i : Nat) : Int) = padZ f n i := by
    intro f n i
    unfold padN padZ
    split <;> rfl
  have h1 := fun c hc => spT_end (x := padZ a na) hp hw hrt hva (fun i hi => cgr_eq (by rw [ha i hi, hpad])) c hc
  have h2 := fun c hc => spT_end (x := padZ b nb) hp hw hrt hvb (fun i hi => cgr_eq (by rw [hb i hi, hpad])) c hc
  refine cgr_tr (jnT_cg (X := fun r => smf (fun i => padZ a na i * (w : Int) ^ (ez (k + 1) r * i)) (2 ^ (k + 1)) * smf (fun j => padZ b nb j * (w : Int) ^ (ez (k + 1) r * j)) (2 ^ (k + 1))) hp hw hrt (k + 1) _ (Nat.le_refl _) (meF_lt hp) ?_ _ (Nat.mod_lt _ (Nat.two_pow_pos _))) ?_
  · intro c j hc hj
    rw [Nat.sub_self, Nat.pow_zero] at hj ⊢
    have hj0 : j = 0 := by omega
    subst hj0
    rw [Nat.mul_one, ni_0, show c + 0 = c from rfl]
    unfold meF
    rw [if_pos hc]
    refine cgr_tr (cgr_mdN _ _) ?_
    rw [Int.natCast_mul]
    exact cgr_ml (h1 c hc) (h2 c hc)
  · rw [ni_end]
    exact ntt_conv hw a na b nb hn ht
