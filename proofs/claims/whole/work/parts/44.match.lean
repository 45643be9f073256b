/-! What is written and read, in numbers and lists: mine, after the document. -/

/-- the greatest q below i, not below lo, that P holds of -/
def nr (P : Nat → Bool) (lo : Nat) : Nat → Option Nat
  | 0 => none
  | q + 1 => if q < lo then none else if P q then some q else nr P lo q
/-- how many bytes from p on are those from q on, at most d -/
def mlf (D : List Nat) (q p : Nat) : Nat → Nat
  | 0 => 0
  | d + 1 => if gb D q = gb D p then 1 + mlf D (q + 1) (p + 1) d else 0
def ml (D : List Nat) (q p lim : Nat) : Nat := mlf D q p (lim - p)
theorem mlf_le (D : List Nat) : ∀ (d q p : Nat), mlf D q p d ≤ d := by
  intro d
  induction d with
  | zero => intro q p; exact Nat.le_refl 0
  | succ d ih =>
    intro q p
    rw [mlf]
    split
    · have := ih (q + 1) (p + 1)
      omega
    · omega
theorem mlf_eq (D : List Nat) : ∀ (d q p i : Nat), i < mlf D q p d → gb D (q + i) = gb D (p + i) := by
  intro d
  induction d with
  | zero => intro q p i h; rw [mlf] at h; omega
  | succ d ih =>
    intro q p i h
    rw [mlf] at h
    split at h
    · rename_i he
      cases i with
      | zero => exact he
      | succ i =>
        have := ih (q + 1) (p + 1) i (by omega)
        rw [show q + (i + 1) = q + 1 + i by omega, show p + (i + 1) = p + 1 + i by omega]
        exact this
    · omega
theorem mlf_stop (D : List Nat) : ∀ (d q p : Nat), mlf D q p d < d → gb D (q + mlf D q p d) ≠ gb D (p + mlf D q p d) := by
  intro d
  induction d with
  | zero => intro q p h; omega
  | succ d ih =>
    intro q p h
    rw [mlf] at h ⊢
    split
    · rename_i he
      rw [if_pos he] at h
      have := ih (q + 1) (p + 1) (by omega)
      rw [show q + (1 + mlf D (q + 1) (p + 1) d) = q + 1 + mlf D (q + 1) (p + 1) d by omega, show p + (1 + mlf D (q + 1) (p + 1) d) = p + 1 + mlf D (q + 1) (p + 1) d by omega]
      exact this
    · rename_i he
      exact he
theorem mlf_ge (D : List Nat) : ∀ (d q p n : Nat), n ≤ d → (∀ i, i < n → gb D (q + i) = gb D (p + i)) → n ≤ mlf D q p d := by
  intro d
  induction d with
  | zero => intro q p n h _; omega
  | succ d ih =>
    intro q p n h he
    cases n with
    | zero => omega
    | succ n =>
      rw [mlf, if_pos (show gb D q = gb D p from he 0 (by omega))]
      have := ih (q + 1) (p + 1) n (by omega) (fun i hi => by
        have := he (i + 1) (by omega)
        rw [show q + 1 + i = q + (i + 1) by omega, show p + 1 + i = p + (i + 1) by omega]
        exact this)
      omega
theorem nr_lt {P : Nat → Bool} {lo : Nat} : ∀ {i q : Nat}, nr P lo i = some q → q < i ∧ lo ≤ q ∧ P q = true := by
  intro i
  induction i with
  | zero => intro q h; simp [nr] at h
  | succ i ih =>
    intro q h
    rw [nr] at h
    split at h
    · simp at h
    · split at h
      · rename_i h1 h2
        cases h
        exact ⟨by omega, by omega, h2⟩
      · have := ih h
        exact ⟨by omega, this.2⟩
/-- a search by a coarser sieve: the next one of the coarse, then the fine -/
theorem nr_skip {M P : Nat → Bool} {lo : Nat} (hMP : ∀ q, M q = true → P q = true) : ∀ (i : Nat), nr M lo i = match nr P 0 i with
    | none => none
    | some q => if q < lo then none else if M q then some q else nr M lo q := by
  intro i
  induction i with
  | zero => rfl
  | succ i ih =>
    rw [nr, nr, if_neg (Nat.not_lt_zero i)]
    by_cases hP : P i = true
    · rw [if_pos hP]
    · rw [if_neg hP]
      have hM : ¬ M i = true := fun h => hP (hMP i h)
      rw [if_neg hM, ← ih]
      split
      · rename_i h
        cases i with
        | zero => rfl
        | succ j =>
          rw [nr]
          by_cases hj : j < lo
          · rw [if_pos hj]
          · omega
      · rfl
/-- byte k as the class reads it: 255 where there is none -/
def bA (D : List Nat) (k : Nat) : Nat := if k < D.length then gb D k else 255
theorem bA_in {D : List Nat} {k : Nat} (h : k < D.length) : bA D k = gb D k := if_pos h
theorem bA_lt {cap : Nat} {f : Nat → Int32} {D : List Nat} (h : tp_Rw cap f D) (k : Nat) : bA D k < 256 := by
  unfold bA
  split
  · exact rw_lt h k
  · decide
def nvA (D : List Nat) (a : Nat) : Nat → Nat
  | 0 => 0
  | k + 1 => nvA D a k + bA D (a + k) * 2 ^ (8 * k)
theorem nvA_lt {cap : Nat} {f : Nat → Int32} {D : List Nat} (h : tp_Rw cap f D) (a : Nat) : ∀ k, nvA D a k < 2 ^ (8 * k) := by
  intro k
  induction k with
  | zero => exact Nat.one_pos
  | succ k ih =>
    have hb := bA_lt h (a + k)
    rw [nvA, show 8 * (k + 1) = 8 * k + 8 by omega, Nat.pow_add]
    have : bA D (a + k) * 2 ^ (8 * k) ≤ 255 * 2 ^ (8 * k) := Nat.mul_le_mul_right _ (by omega)
    omega
theorem at_any {f : Nat → Int32} {D : List Nat} {k : Nat} (h : tp_Rw 10000 f D) (hl : D.length ≤ 10000) (hk : k < 2 ^ 31) : ∃ r, m_Row_at (nI k) (nI D.length) f = some r ∧ r &&& 255 = nI (bA D k) := by
  by_cases c : k < D.length
  · refine ⟨_, at_in h c (by omega) (by omega), ?_⟩
    rw [bA_in c, show (255 : Int32) = nI 255 from rfl]
    exact (pk_andN (by have := rw_lt h k; omega) 8 (by decide)).trans (congrArg nI (Nat.mod_eq_of_lt (rw_lt h k)))
  · refine ⟨_, at_out (by omega) hk, ?_⟩
    unfold bA
    rw [if_neg c]
    decide
theorem numAt_l {N : Nat} {D : List Nat} {f : Nat → Int32} (h : tp_Rw 10000 f D) (hl : D.length ≤ 10000) {a k : Nat} (ha : a < 2 ^ 30) (hk : k ≤ 7) : ∀ (d n i : Nat), i + d = k → d < n → tp_it4 (m_Row_numberAt_5 N (nI D.length) f) n (nI a) (nI k) (lN (nvA D a i)) (nI i) = some (lN (nvA D a k)) := by
  intro d
  induction d with
  | zero =>
    intro n i hi hn
    obtain ⟨n, rfl⟩ : ∃ z, n = z + 1 := ⟨n - 1, by omega⟩
    show m_Row_numberAt_5 N (nI D.length) f (tp_it4 (m_Row_numberAt_5 N (nI D.length) f) n) (nI a) (nI k) (lN (nvA D a i)) (nI i) = _
    unfold m_Row_numberAt_5
    rw [if_pos (nI_le (by omega) (by omega)), show i = k by omega]
  | succ d ih =>
    intro n i hi hn
    obtain ⟨n, rfl⟩ : ∃ z, n = z + 1 := ⟨n - 1, by omega⟩
    show m_Row_numberAt_5 N (nI D.length) f (tp_it4 (m_Row_numberAt_5 N (nI D.length) f) n) (nI a) (nI k) (lN (nvA D a i)) (nI i) = _
    unfold m_Row_numberAt_5
    obtain ⟨r, e1, e2⟩ := at_any h hl (k := a + i) (by omega)
    have hb := bA_lt h (a + i)
    have hp : 2 ^ (8 * (i + 1)) ≤ 2 ^ 56 := Nat.pow_le_pow_right (by decide) (by omega)
    have hs : nvA D a i + bA D (a + i) * 2 ^ (8 * i) < 2 ^ 64 := Nat.lt_of_lt_of_le (nvA_lt h a (i + 1)) (Nat.le_trans hp (by decide))
    rw [if_neg (nI_ge (by omega) (by omega)), nI_add, e1, tp_b1_s, e2, nI_8, nI_l (by omega), wb_shl _ (by omega), g_or' (k := 8 * i) rfl (nvA_lt h a i) hs, show nI i + (1 : Int32) = nI (i + 1) from nI_1 i]
    exact ih n (i + 1) (by omega) (by omega)
theorem numberAt_ok {N : Nat} (hN : 100000 ≤ N) {D : List Nat} {f : Nat → Int32} (h : tp_Rw 10000 f D) (hl : D.length ≤ 10000) {a k : Nat} (ha : a < 2 ^ 30) (hk : k ≤ 7) : m_Row_numberAt N (nI a) (nI k) (nI D.length) f = some (lN (nvA D a k)) :=
  numAt_l h hl ha hk k N 0 (by omega) (by omega)
-- ---- alike
theorem sb_eq {cap : Nat} {f : Nat → Int32} {D : List Nat} (h : tp_Rw cap f D) {a b : Nat} (ha : a < D.length) (hb : b < D.length) (ha2 : a < cap) (hb2 : b < cap) : f a = f b ↔ gb D a = gb D b := by
  rw [h.1 a ha ha2, h.1 b hb hb2]
  exact ⟨fun e => sb_inj _ (rw_lt h a) _ (rw_lt h b) e, fun e => by rw [show D.getD a 0 = D.getD b 0 from e]⟩
theorem malike_l {N : Nat} {D : List Nat} {f : Nat → Int32} (h : tp_Rw 10000 f D) (hl : D.length ≤ 10000) {q p lim : Nat} (hq : q < p) (hlim : lim ≤ D.length) : ∀ (d n i : Nat), lim - (p + i) = d → d < n → p + i < 2 ^ 30 → tp_it4 (m_Mo_alike_3 N f) n (nI q) (nI p) (nI lim) (nI i) = some (nI (i + mlf D (q + i) (p + i) d)) := by
  intro d
  induction d with
  | zero =>
    intro n i hi hn hb
    obtain ⟨n, rfl⟩ : ∃ z, n = z + 1 := ⟨n - 1, by omega⟩
    show m_Mo_alike_3 N f (tp_it4 (m_Mo_alike_3 N f) n) (nI q) (nI p) (nI lim) (nI i) = _
    unfold m_Mo_alike_3
    rw [nI_add, if_pos (nI_le (by omega) (by omega)), mlf, Nat.add_zero]
  | succ d ih =>
    intro n i hi hn hb
    obtain ⟨n, rfl⟩ : ∃ z, n = z + 1 := ⟨n - 1, by omega⟩
    show m_Mo_alike_3 N f (tp_it4 (m_Mo_alike_3 N f) n) (nI q) (nI p) (nI lim) (nI i) = _
    unfold m_Mo_alike_3
    rw [nI_add, nI_add, if_neg (nI_ge (by omega) (by omega)), tp_gd_t (tp_inb_nI (by omega) (by decide)), tp_gd_t (tp_inb_nI (by omega) (by decide)), nI_clamp (by omega), nI_clamp (by omega), mlf]
    by_cases e : gb D (q + i) = gb D (p + i)
    · rw [if_pos ((sb_eq h (by omega) (by omega) (by omega) (by omega)).mpr e), if_pos e, show nI i + (1 : Int32) = nI (i + 1) from nI_1 i]
      refine (ih n (i + 1) (by omega) (by omega) (by omega)).trans ?_
      rw [show q + (i + 1) = q + i + 1 by omega, show p + (i + 1) = p + i + 1 by omega, show i + 1 + mlf D (q + i + 1) (p + i + 1) d = i + (1 + mlf D (q + i + 1) (p + i + 1) d) by omega]
    · rw [if_neg (fun z => e ((sb_eq h (by omega) (by omega) (by omega) (by omega)).mp z)), if_neg e, Nat.add_zero]
theorem malike_ok {N : Nat} (hN : 100000 ≤ N) {D : List Nat} {f : Nat → Int32} (h : tp_Rw 10000 f D) (hl : D.length ≤ 10000) {q p lim : Nat} (hq : q < p) (hp : p ≤ 20000) (hlim : lim ≤ D.length) : m_Mo_alike N (nI q) (nI p) (nI lim) f = some (nI (ml D q p lim)) := by
  have e := malike_l (N := N) h hl hq hlim (lim - p) N 0 (by omega) (by omega) (by omega)
  rw [Nat.zero_add] at e
  exact e
theorem alike_l {N : Nat} {D : List Nat} {f : Nat → Int32} (h : tp_Rw 10000 f D) (hl : D.length ≤ 10000) {q p lim : Nat} (hq : q < p) (hlim : lim ≤ D.length) : ∀ (d n i : Nat), lim - (p + i) = d → d < n → p + i < 2 ^ 30 → tp_it4 (m_Matches_alike_14 N f) n (nI q) (nI p) (nI lim) (nI i) = some (nI (i + mlf D (q + i) (p + i) d)) := by
  intro d
  induction d with
  | zero =>
    intro n i hi hn hb
    obtain ⟨n, rfl⟩ : ∃ z, n = z + 1 := ⟨n - 1, by omega⟩
    show m_Matches_alike_14 N f (tp_it4 (m_Matches_alike_14 N f) n) (nI q) (nI p) (nI lim) (nI i) = _
    unfold m_Matches_alike_14
    rw [nI_add, if_pos (nI_le (by omega) (by omega)), mlf, Nat.add_zero]
  | succ d ih =>
    intro n i hi hn hb
    obtain ⟨n, rfl⟩ : ∃ z, n = z + 1 := ⟨n - 1, by omega⟩
    show m_Matches_alike_14 N f (tp_it4 (m_Matches_alike_14 N f) n) (nI q) (nI p) (nI lim) (nI i) = _
    unfold m_Matches_alike_14
    rw [nI_add, nI_add, if_neg (nI_ge (by omega) (by omega)), if_neg (show ¬ (10000 : Int32) ≤ nI (p + i) from nI_ge (b := 10000) (by omega) (by omega)), tp_gd_t (tp_inb_nI (by omega) (by decide)), tp_gd_t (tp_inb_nI (by omega) (by decide)), nI_clamp (by omega), nI_clamp (by omega), mlf]
    by_cases e : gb D (q + i) = gb D (p + i)
    · rw [if_pos ((sb_eq h (by omega) (by omega) (by omega) (by omega)).mpr e), if_pos e, show nI i + (1 : Int32) = nI (i + 1) from nI_1 i]
      refine (ih n (i + 1) (by omega) (by omega) (by omega)).trans ?_
      rw [show q + (i + 1) = q + i + 1 by omega, show p + (i + 1) = p + i + 1 by omega, show i + 1 + mlf D (q + i + 1) (p + i + 1) d = i + (1 + mlf D (q + i + 1) (p + i + 1) d) by omega]
    · rw [if_neg (fun z => e ((sb_eq h (by omega) (by omega) (by omega) (by omega)).mp z)), if_neg e, Nat.add_zero]
theorem alike_ok {N : Nat} (hN : 100000 ≤ N) {D : List Nat} {f : Nat → Int32} (h : tp_Rw 10000 f D) (hl : D.length ≤ 10000) {q p lim : Nat} (hq : q < p) (hp : p ≤ 20000) (hlim : lim ≤ D.length) : m_Matches_alike N (nI q) (nI p) (nI lim) f = some (nI (ml D q p lim)) := by
  have e := alike_l (N := N) h hl hq hlim (lim - p) N 0 (by omega) (by omega) (by omega)
  rw [Nat.zero_add] at e
  unfold m_Matches_alike
  rw [if_neg (nI_pos (by omega)), if_pos (nI_lt hq (by omega))]
  exact e
