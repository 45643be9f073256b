/-! Copies: the fewest bytes, the first copy as long as can be; the class's rule and the reference's table. -/
/-- bytes for one copy of n -/
def bf (near : Bool) (n : Nat) : Nat := if near = true ∧ 4 ≤ n ∧ n ≤ 11 then 2 else 3
/-- the fewest bytes for a match of l -/
def cst (near : Bool) (l : Nat) : Nat :=
  if near = true then 3 * (l / 64) + (if l % 64 = 0 then 0 else if l % 64 ≤ 11 ∧ (64 ≤ l ∨ 4 ≤ l % 64) then 2 else 3)
  else 3 * ((l + 63) / 64)
/-- the first copy of a match of l -/
def fst1 (near : Bool) (l : Nat) : Nat := if near = true ∧ 64 < l ∧ l < 68 then l - 4 else if l < 64 then l else 64
theorem fst1_in (near : Bool) {l : Nat} (h : 1 ≤ l) : 1 ≤ fst1 near l ∧ fst1 near l ≤ l ∧ fst1 near l ≤ 64 := by
  unfold fst1
  split
  · omega
  · split <;> omega
theorem cst_le (near : Bool) {l n : Nat} (h1 : 1 ≤ n) (h2 : n ≤ l) (h3 : n ≤ 64) : cst near l ≤ bf near n + cst near (l - n) := by
  unfold cst bf
  cases near with
  | false => simp only [Bool.false_eq_true, if_false, false_and]; omega
  | true =>
    simp only [if_true, true_and]
    split <;> split <;> (repeat' split) <;> omega
theorem cst_eq (near : Bool) {l : Nat} (h : 1 ≤ l) : bf near (fst1 near l) + cst near (l - fst1 near l) = cst near l := by
  unfold cst bf fst1
  cases near with
  | false =>
    simp only [Bool.false_eq_true, if_false, false_and]
    split <;> omega
  | true =>
    simp only [if_true, true_and]
    (repeat' split) <;> omega
theorem cst_gt (near : Bool) {l n : Nat} (h1 : fst1 near l < n) (h2 : n ≤ l) (h3 : n ≤ 64) : cst near l < bf near n + cst near (l - n) := by
  unfold fst1 at h1
  unfold cst bf
  cases near with
  | false =>
    simp only [Bool.false_eq_true, if_false, false_and] at h1
    split at h1 <;> omega
  | true =>
    simp only [if_true, true_and] at h1 ⊢
    split at h1
    · (repeat' split) <;> omega
    · split at h1 <;> omega
theorem cst_lt (near : Bool) {l : Nat} (h : l ≤ 10000) : cst near l ≤ 3 * l := by
  unfold cst
  cases near with
  | false => simp only [Bool.false_eq_true, if_false]; omega
  | true =>
    simp only [if_true]
    (repeat' split) <;> omega
/-- one copy -/
def e1c (near : Bool) (d n : Nat) : List Nat := if near = true ∧ 4 ≤ n ∧ n ≤ 11 then [1 + 4 * (n - 4) + 32 * (d / 256), d % 256] else (2 + 4 * (n - 1)) :: nbf (nI d) 0 2
/-- the copies of a match of l -/
def emf (near : Bool) (d : Nat) : Nat → Nat → List Nat
  | 0, _ => []
  | k + 1, l => if l = 0 then [] else e1c near d (fst1 near l) ++ emf near d k (l - fst1 near l)
def em (d l : Nat) : List Nat := emf (decide (d < 2048)) d l l
theorem e1c_len (near : Bool) (d n : Nat) : (e1c near d n).length ≤ 3 := by
  unfold e1c
  split
  · show 2 ≤ 3; omega
  · rw [List.length_cons, nbf_len]; omega
theorem emf_len (near : Bool) (d : Nat) : ∀ k l, (emf near d k l).length ≤ 3 * k := by
  intro k
  induction k with
  | zero => intro l; exact Nat.zero_le _
  | succ k ih =>
    intro l
    rw [emf]
    split
    · exact Nat.zero_le _
    · rw [List.length_append]
      have := e1c_len near d (fst1 near l)
      have := ih (l - fst1 near l)
      omega
def nB (near : Bool) : Int32 := if near = true then 1 else 0
theorem or_1 : ∀ a, a < 8 → ∀ b, b < 8 → ((1 : Int32) ||| nI (a * 2 ^ 2)) ||| nI (b * 2 ^ 5) = nI (1 + 4 * a + 32 * b) := by decide +kernel
theorem or_2 : ∀ a, a < 64 → (2 : Int32) ||| nI (a * 2 ^ 2) = nI (2 + 4 * a) := by decide +kernel
theorem tp_by_mod {n : Nat} (h : n < 2 ^ 32) : tp_by (nI n) = n % 256 := by
  unfold tp_by
  rw [pk_tn h]
theorem app22 (L : List Nat) (a b : Nat) (M : List Nat) : L ++ [a] ++ [b] ++ M = L ++ ([a, b] ++ M) := by simp
theorem pm_l {N : Nat} (hN : 100000 ≤ N) {near : Bool} {d : Nat} (hd : d ≤ 10000) (hnr : near = true → d < 2048) : ∀ (k n l : Nat) (f : Nat → Int32) (L : List Nat), l ≤ k → k < n → l ≤ 10000 → tp_Rw 10000 f L → tp_fitsB f → L.length + 3 * k < 2 ^ 28 → ∃ f', tp_it5 (m_BlockWriter_putMatch_16 N) n (nI d) (nB near) (nI l) (nI L.length) f = some (nI (L ++ emf near d k l).length, f') ∧ tp_Rw 10000 f' (L ++ emf near d k l) ∧ tp_fitsB f' := by
  intro k
  induction k with
  | zero =>
    intro n l f L h1 h2 h3 h hf hl
    obtain ⟨n, rfl⟩ : ∃ z, n = z + 1 := ⟨n - 1, by omega⟩
    obtain rfl : l = 0 := by omega
    show ∃ f', m_BlockWriter_putMatch_16 N (tp_it5 (m_BlockWriter_putMatch_16 N) n) (nI d) (nB near) (nI 0) (nI L.length) f = _ ∧ _
    rw [m_BlockWriter_putMatch_16, if_pos (by decide), emf, List.append_nil]
    exact ⟨f, rfl, h, hf⟩
  | succ k ih =>
    intro n l f L h1 h2 h3 h hf hl
    obtain ⟨n, rfl⟩ : ∃ z, n = z + 1 := ⟨n - 1, by omega⟩
    show ∃ f', m_BlockWriter_putMatch_16 N (tp_it5 (m_BlockWriter_putMatch_16 N) n) (nI d) (nB near) (nI l) (nI L.length) f = _ ∧ _
    rw [m_BlockWriter_putMatch_16, emf]
    by_cases c0 : l = 0
    · subst c0
      rw [if_pos (by decide), if_pos rfl, List.append_nil]
      exact ⟨f, rfl, h, hf⟩
    rw [if_neg (nI_nle (by omega) (by omega)), if_neg c0]
    obtain ⟨g1, g2, g3⟩ := fst1_in near (l := l) (by omega)
    have step : ∃ f', m_BlockWriter_putMatch_54 N (tp_it5 (m_BlockWriter_putMatch_16 N) n) (nI d) (nB near) (nI l) (nI (fst1 near l)) (nI L.length) f = some (nI (L ++ (e1c near d (fst1 near l) ++ emf near d k (l - fst1 near l))).length, f') ∧ tp_Rw 10000 f' (L ++ (e1c near d (fst1 near l) ++ emf near d k (l - fst1 near l))) ∧ tp_fitsB f' := by
      have far : ¬ (near = true ∧ 4 ≤ fst1 near l ∧ fst1 near l ≤ 11) → ∃ f', m_BlockWriter_putMatch_104 N (tp_it5 (m_BlockWriter_putMatch_16 N) n) (nI d) (nB near) (nI l) (nI (fst1 near l)) (nI L.length) f = some (nI (L ++ (e1c near d (fst1 near l) ++ emf near d k (l - fst1 near l))).length, f') ∧ tp_Rw 10000 f' (L ++ (e1c near d (fst1 near l) ++ emf near d k (l - fst1 near l))) ∧ tp_fitsB f' := by
        intro hn
        rw [e1c, if_neg hn, m_BlockWriter_putMatch_104, show nI (fst1 near l) - (1 : Int32) = nI (fst1 near l - 1) from pk_sub (b := 1) (by omega), show nI (fst1 near l - 1) <<< ((2 : Int32) &&& 31) = nI ((fst1 near l - 1) * 2 ^ 2) from pk_shlN _ 2 (by decide) (by omega), or_2 _ (by omega)]
        obtain ⟨f1, e1, h1', hf1⟩ := put_ok (nI (2 + 4 * (fst1 near l - 1))) h hf (by omega)
        rw [tp_by_nI (by omega)] at e1 h1'
        obtain ⟨f2, e2, h2', hf2⟩ := putNumber_ok hN (nI d) (k := 2) (by decide) h1' hf1 (by rw [List.length_append, List.length_singleton]; omega)
        obtain ⟨f3, e3, h3', hf3⟩ := ih n (l - fst1 near l) f2 _ (by omega) (by omega) (by omega) h2' hf2 (by rw [List.length_append, List.length_append, List.length_singleton, nbf_len]; omega)
        rw [e1, tp_b2_s, show (2 : Int32) = nI 2 from rfl, e2, tp_b2_s, pk_sub (by omega)]
        rw [app3] at e3 h3'
        exact ⟨f3, e3, h3', hf3⟩
      rw [m_BlockWriter_putMatch_54]
      cases near with
      | false =>
        rw [show nB false = 0 from rfl, if_pos rfl]
        exact far (by simp)
      | true =>
        rw [show nB true = 1 from rfl, if_neg (by decide)]
        by_cases c1 : 4 ≤ fst1 true l
        · rw [if_neg (show ¬ nI (fst1 true l) < (4 : Int32) from nI_nlt (b := 4) c1 (by omega))]
          by_cases c2 : fst1 true l ≤ 11
          · have hd2 := hnr rfl
            rw [if_neg (show ¬ (11 : Int32) < nI (fst1 true l) from nI_nlt (a := 11) c2 (by decide)), e1c, if_pos ⟨rfl, c1, c2⟩, show nI (fst1 true l) - (4 : Int32) = nI (fst1 true l - 4) from pk_sub (b := 4) c1, show nI (fst1 true l - 4) <<< ((2 : Int32) &&& 31) = nI ((fst1 true l - 4) * 2 ^ 2) from pk_shlN _ 2 (by decide) (by omega), show nI d >>> ((8 : Int32) &&& 31) = nI (d / 2 ^ 8) from pk_shrN (by omega) _ 8 (by decide), show nI (d / 2 ^ 8) <<< ((5 : Int32) &&& 31) = nI (d / 2 ^ 8 * 2 ^ 5) from pk_shlN _ 5 (by decide) (by omega), or_1 _ (by omega) _ (by omega)]
            obtain ⟨f1, e1, h1', hf1⟩ := put_ok (nI (1 + 4 * (fst1 true l - 4) + 32 * (d / 2 ^ 8))) h hf (by omega)
            rw [tp_by_nI (by omega)] at e1 h1'
            obtain ⟨f2, e2, h2', hf2⟩ := put_ok (nI d) h1' hf1 (by rw [List.length_append, List.length_singleton]; omega)
            rw [tp_by_mod (by omega)] at e2 h2'
            obtain ⟨f3, e3, h3', hf3⟩ := ih n (l - fst1 true l) f2 _ (by omega) (by omega) (by omega) h2' hf2 (by rw [List.length_append, List.length_append, List.length_singleton, List.length_singleton]; omega)
            rw [e1, tp_b2_s, e2, tp_b2_s, pk_sub (by omega)]
            rw [app22] at e3 h3'
            exact ⟨f3, e3, h3', hf3⟩
          · rw [if_pos (show (11 : Int32) < nI (fst1 true l) from nI_lt (a := 11) (by omega) (by omega))]
            exact far (fun z => c2 z.2.2)
        · rw [if_pos (show nI (fst1 true l) < (4 : Int32) from nI_lt (b := 4) (by omega) (by omega))]
          exact far (fun z => c1 z.2.1)
    obtain ⟨f', e', h', hf'⟩ := step
    refine ⟨f', ?_, h', hf'⟩
    rw [tp_b0]
    show (if nB near = 0 then m_BlockWriter_putMatch_54 N (tp_it5 (m_BlockWriter_putMatch_16 N) n) (nI d) (nB near) (nI l) (if (64 : Int32) < nI l then 64 else nI l) (nI L.length) f else _) = _
    have emin : (if (64 : Int32) < nI l then (64 : Int32) else nI l) = nI (if l < 64 then l else 64) := by
      by_cases c : l < 64
      · rw [if_pos c, if_neg (show ¬ (64 : Int32) < nI l from nI_nlt (a := 64) (by omega) (by omega))]
      · rw [if_neg c]
        by_cases c2 : l = 64
        · subst c2; decide
        · rw [if_pos (show (64 : Int32) < nI l from nI_lt (a := 64) (by omega) (by omega))]
          rfl
    cases near with
    | false =>
      have e : fst1 false l = if l < 64 then l else 64 := by unfold fst1; simp
      rw [show nB false = 0 from rfl, if_pos rfl, emin, ← e]
      exact e'
    | true =>
      rw [show nB true = 1 from rfl, if_neg (by decide)]
      by_cases c1 : l ≤ 64
      · have e : fst1 true l = if l < 64 then l else 64 := by unfold fst1; rw [if_neg (by omega)]
        rw [if_pos (show nI l ≤ (64 : Int32) from nI_le (b := 64) c1 (by decide)), emin, ← e]
        exact e'
      · rw [if_neg (show ¬ nI l ≤ (64 : Int32) from nI_ge (a := 64) (by omega) (by omega))]
        by_cases c2 : 68 ≤ l
        · have e : fst1 true l = if l < 64 then l else 64 := by unfold fst1; rw [if_neg (by omega)]
          rw [if_pos (show (68 : Int32) ≤ nI l from nI_le (a := 68) c2 (by omega)), emin, ← e]
          exact e'
        · have e : fst1 true l = l - 4 := by unfold fst1; rw [if_pos ⟨rfl, by omega, by omega⟩]
          rw [if_neg (show ¬ (68 : Int32) ≤ nI l from nI_ge (b := 68) (by omega) (by omega)), show nI l - (4 : Int32) = nI (l - 4) from pk_sub (b := 4) (by omega), ← e]
          exact e'
theorem pm_ok {N : Nat} (hN : 100000 ≤ N) {d l : Nat} (hd : d ≤ 10000) (hl : l ≤ 10000) {f : Nat → Int32} {L : List Nat} (h : tp_Rw 10000 f L) (hf : tp_fitsB f) (hL : L.length + 3 * l < 2 ^ 28) : ∃ f', m_BlockWriter_putMatch N (nI l) (nI d) (nI L.length) f = some (nI (L ++ em d l).length, f') ∧ tp_Rw 10000 f' (L ++ em d l) ∧ tp_fitsB f' := by
  unfold m_BlockWriter_putMatch em
  by_cases c : d < 2048
  · rw [if_neg (show ¬ (2048 : Int32) ≤ nI d from nI_ge (b := 2048) c (by decide)), decide_eq_true c]
    exact pm_l (near := true) hN hd (fun _ => c) l N l f L (Nat.le_refl l) (by omega) hl h hf hL
  · rw [if_pos (show (2048 : Int32) ≤ nI d from nI_le (a := 2048) (by omega) (by omega)), decide_eq_false c]
    exact pm_l (near := false) hN hd (fun z => by cases z) l N l f L (Nat.le_refl l) (by omega) hl h hf hL
