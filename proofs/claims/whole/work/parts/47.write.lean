/-! What is written: the length, literals, copies; and that both sides write it. -/
def ef : Nat → Nat → List Nat
  | 0, n => [n]
  | k + 1, n => if n < 128 then [n] else (n % 128 + 128) :: ef k (n / 128)
/-- a length in as few bytes as can be -/
def elen (n : Nat) : List Nat := ef 4 n
theorem ef_len : ∀ k n, (ef k n).length ≤ k + 1 := by
  intro k
  induction k with
  | zero => intro n; exact Nat.le_refl 1
  | succ k ih =>
    intro n
    rw [ef]
    split
    · show 1 ≤ _; omega
    · rw [List.length_cons]; have := ih (n / 128); omega
theorem or128 : ∀ a, a < 128 → nI a ||| 128 = nI (a + 128) := by decide +kernel
theorem plen_l {N : Nat} : ∀ (k n i m : Nat) (f : Nat → Int32) (L : List Nat), i + k = 4 → k < n → m < 128 * 128 ^ k → m < 2 ^ 30 → tp_Rw 10000 f L → tp_fitsB f → L.length + k < 2 ^ 29 → ∃ f', tp_it4 (m_BlockWriter_putLength_4 N) n (nI m) (nI i) (nI L.length) f = some (nI (L ++ ef k m).length, f') ∧ tp_Rw 10000 f' (L ++ ef k m) ∧ tp_fitsB f' := by
  intro k
  induction k with
  | zero =>
    intro n i m f L hi hn hm hm2 h hf hl
    obtain ⟨n, rfl⟩ : ∃ z, n = z + 1 := ⟨n - 1, by omega⟩
    show ∃ f', m_BlockWriter_putLength_4 N (tp_it4 (m_BlockWriter_putLength_4 N) n) (nI m) (nI i) (nI L.length) f = _ ∧ _
    obtain ⟨f1, e1, h1, hf1⟩ := put_ok (nI m) h hf (by omega)
    rw [tp_by_nI (by omega)] at e1 h1
    rw [m_BlockWriter_putLength_4, if_pos (show (4 : Int32) ≤ nI i from nI_le (a := 4) (by omega) (by omega)), e1, tp_b2_s]
    exact ⟨f1, rfl, h1, hf1⟩
  | succ k ih =>
    intro n i m f L hi hn hm hm2 h hf hl
    obtain ⟨n, rfl⟩ : ∃ z, n = z + 1 := ⟨n - 1, by omega⟩
    show ∃ f', m_BlockWriter_putLength_4 N (tp_it4 (m_BlockWriter_putLength_4 N) n) (nI m) (nI i) (nI L.length) f = _ ∧ _
    rw [m_BlockWriter_putLength_4, if_neg (show ¬ (4 : Int32) ≤ nI i from nI_ge (b := 4) (by omega) (by omega)), ef]
    by_cases c : m < 128
    · obtain ⟨f1, e1, h1, hf1⟩ := put_ok (nI m) h hf (by omega)
      rw [tp_by_nI (by omega)] at e1 h1
      rw [if_pos (show nI m ≤ (127 : Int32) from nI_le (b := 127) (by omega) (by omega)), e1, tp_b2_s, if_pos c]
      exact ⟨f1, rfl, h1, hf1⟩
    · obtain ⟨f1, e1, h1, hf1⟩ := put_ok (nI (m % 128 + 128)) h hf (by omega)
      rw [tp_by_nI (by omega)] at e1 h1
      rw [if_neg (show ¬ nI m ≤ (127 : Int32) from nI_ge (a := 127) (by omega) (by omega)), show nI m &&& (127 : Int32) = nI (m % 128) from pk_andN (by omega) 7 (by decide), or128 _ (by omega), e1, tp_b2_s, if_neg c, show tp_ushr (nI m) (7 : Int32) = nI (m / 128) from pk_ushrN (by omega) 7 7 (by decide), show nI i + (1 : Int32) = nI (i + 1) from nI_1 i]
      obtain ⟨f2, e2, h2, hf2⟩ := ih n (i + 1) (m / 128) f1 _ (by omega) (by omega) (by rw [Nat.pow_succ, Nat.mul_comm (128 ^ k) 128] at hm; exact Nat.div_lt_of_lt_mul hm) (by omega) h1 hf1 (by rw [List.length_append, List.length_singleton]; omega)
      rw [List.append_assoc] at e2 h2
      exact ⟨f2, e2, h2, hf2⟩
theorem plen_ok {N : Nat} (hN : 100000 ≤ N) {m : Nat} (hm : m ≤ 10000) {f : Nat → Int32} {L : List Nat} (h : tp_Rw 10000 f L) (hf : tp_fitsB f) (hl : L.length < 2 ^ 28) : ∃ f', m_BlockWriter_putLength N (nI m) (nI L.length) f = some (nI (L ++ elen m).length, f') ∧ tp_Rw 10000 f' (L ++ elen m) ∧ tp_fitsB f' :=
  plen_l 4 N 0 m f L (by omega) (by omega) (by omega) (by omega) h hf (by omega)
/-- the literals from a to b -/
def elit (D : List Nat) (a b : Nat) : List Nat :=
  if b - a = 0 then []
  else if b - a ≤ 60 then 4 * (b - a - 1) :: sl D a (b - a)
  else if b - a ≤ 256 then 240 :: (nbf (nI (b - a - 1)) 0 1 ++ sl D a (b - a))
  else 244 :: (nbf (nI (b - a - 1)) 0 2 ++ sl D a (b - a))
theorem elit_len (D : List Nat) (a b : Nat) : (elit D a b).length ≤ 4 * (b - a) := by
  unfold elit
  split
  · exact Nat.zero_le _
  · split
    · rw [List.length_cons, sl_len]; omega
    · split
      · rw [List.length_cons, List.length_append, sl_len, nbf_len]; omega
      · rw [List.length_cons, List.length_append, sl_len, nbf_len]; omega
theorem app3 (L : List Nat) (x : Nat) (A B : List Nat) : L ++ [x] ++ A ++ B = L ++ x :: (A ++ B) := by simp
theorem app2 (L : List Nat) (x : Nat) (A : List Nat) : L ++ [x] ++ A = L ++ x :: A := by simp
theorem plit_ok {N : Nat} (hN : 100000 ≤ N) {D : List Nat} {g : Nat → Int32} (hD : tp_Rw 10000 g D) (hDl : D.length ≤ 10000) {a b : Nat} (hab : a ≤ b) (hb : b ≤ D.length) {f : Nat → Int32} {L : List Nat} (h : tp_Rw 10000 f L) (hf : tp_fitsB f) (hl : L.length < 2 ^ 28) : ∃ f', m_BlockWriter_putLiterals N (nI a) (nI b) (nI D.length) g (nI L.length) f = some (nI (L ++ elit D a b).length, f') ∧ tp_Rw 10000 f' (L ++ elit D a b) ∧ tp_fitsB f' := by
  unfold m_BlockWriter_putLiterals elit
  rw [pk_sub hab]
  by_cases c0 : b - a = 0
  · rw [if_neg (show ¬ (1 : Int32) ≤ nI (b - a) from nI_ge (b := 1) (by omega) (by omega)), if_pos c0, List.append_nil]
    exact ⟨f, rfl, h, hf⟩
  · rw [if_pos (show (1 : Int32) ≤ nI (b - a) from nI_le (a := 1) (by omega) (by omega)), if_neg c0]
    by_cases c1 : b - a ≤ 60
    · rw [if_neg (show ¬ (60 : Int32) < nI (b - a) from nI_nlt (a := 60) c1 (by decide)), if_pos c1, show nI (b - a) - (1 : Int32) = nI (b - a - 1) from pk_sub (b := 1) (by omega), show nI (b - a - 1) <<< ((2 : Int32) &&& 31) = nI ((b - a - 1) * 2 ^ 2) from pk_shlN _ 2 (by decide) (by omega)]
      obtain ⟨f1, e1, h1, hf1⟩ := put_ok (nI ((b - a - 1) * 2 ^ 2)) h hf (by omega)
      rw [tp_by_nI (by omega), show (b - a - 1) * 2 ^ 2 = 4 * (b - a - 1) by omega] at e1 h1
      obtain ⟨f2, e2, h2, hf2⟩ := putFrom_ok hN hD hDl hab hb h1 hf1 (by rw [List.length_append, List.length_singleton]; omega)
      rw [show (b - a - 1) * 2 ^ 2 = 4 * (b - a - 1) by omega, e1, tp_b2_s, e2, tp_b2_s]
      rw [app2] at h2 ⊢
      exact ⟨f2, rfl, h2, hf2⟩
    · rw [if_pos (show (60 : Int32) < nI (b - a) from nI_lt (a := 60) (by omega) (by omega)), if_neg c1]
      by_cases c2 : b - a ≤ 256
      · rw [if_neg (show ¬ (256 : Int32) < nI (b - a) from nI_nlt (a := 256) c2 (by decide)), if_pos c2, show nI (b - a) - (1 : Int32) = nI (b - a - 1) from pk_sub (b := 1) (by omega)]
        obtain ⟨f1, e1, h1, hf1⟩ := put_ok (240 : Int32) h hf (by omega)
        rw [show tp_by 240 = 240 from by decide] at e1 h1
        obtain ⟨f2, e2, h2, hf2⟩ := putNumber_ok hN (nI (b - a - 1)) (k := 1) (by decide) h1 hf1 (by rw [List.length_append, List.length_singleton]; omega)
        obtain ⟨f3, e3, h3, hf3⟩ := putFrom_ok hN hD hDl hab hb h2 hf2 (by rw [List.length_append, List.length_append, List.length_singleton, nbf_len]; omega)
        rw [e1, tp_b2_s, show (1 : Int32) = nI 1 from rfl, e2, tp_b2_s, e3, tp_b2_s]
        rw [app3] at h3 ⊢
        exact ⟨f3, rfl, h3, hf3⟩
      · rw [if_pos (show (256 : Int32) < nI (b - a) from nI_lt (a := 256) (by omega) (by omega)), if_neg c2, show nI (b - a) - (1 : Int32) = nI (b - a - 1) from pk_sub (b := 1) (by omega)]
        obtain ⟨f1, e1, h1, hf1⟩ := put_ok (244 : Int32) h hf (by omega)
        rw [show tp_by 244 = 244 from by decide] at e1 h1
        obtain ⟨f2, e2, h2, hf2⟩ := putNumber_ok hN (nI (b - a - 1)) (k := 2) (by decide) h1 hf1 (by rw [List.length_append, List.length_singleton]; omega)
        obtain ⟨f3, e3, h3, hf3⟩ := putFrom_ok hN hD hDl hab hb h2 hf2 (by rw [List.length_append, List.length_append, List.length_singleton, nbf_len]; omega)
        rw [e1, tp_b2_s, show (2 : Int32) = nI 2 from rfl, e2, tp_b2_s, e3, tp_b2_s]
        rw [app3] at h3 ⊢
        exact ⟨f3, rfl, h3, hf3⟩
theorem mlit_l {N : Nat} {D : List Nat} {g : Nat → Int32} (hD : tp_Rw 10000 g D) (hDl : D.length ≤ 10000) {b : Nat} (hb : b ≤ D.length) : ∀ (d n a : Nat) (f : Nat → Int32) (L : List Nat), a + d = b → d < n → tp_Rw 20000 f L → L.length + d < 2 ^ 30 → ∃ f', tp_it4 (m_Mo_putLiterals_79 N g) n (nI b) (nI a) (nI L.length) f = some (nI (L ++ sl D a d).length, f') ∧ tp_Rw 20000 f' (L ++ sl D a d) := by
  intro d
  induction d with
  | zero =>
    intro n a f L hi hn h hl
    obtain ⟨n, rfl⟩ : ∃ z, n = z + 1 := ⟨n - 1, by omega⟩
    show ∃ f', m_Mo_putLiterals_79 N g (tp_it4 (m_Mo_putLiterals_79 N g) n) (nI b) (nI a) (nI L.length) f = _ ∧ _
    rw [m_Mo_putLiterals_79, if_pos (nI_le (by omega) (by omega)), sl, List.append_nil]
    exact ⟨f, rfl, h⟩
  | succ d ih =>
    intro n a f L hi hn h hl
    obtain ⟨n, rfl⟩ : ∃ z, n = z + 1 := ⟨n - 1, by omega⟩
    show ∃ f', m_Mo_putLiterals_79 N g (tp_it4 (m_Mo_putLiterals_79 N g) n) (nI b) (nI a) (nI L.length) f = _ ∧ _
    obtain ⟨f1, e1, h1⟩ := mput_ok (sb_b (gb D a)) h (by omega)
    rw [tp_by_b _ (rw_lt hD a)] at e1 h1
    rw [m_Mo_putLiterals_79, if_neg (nI_ge (by omega) (by omega)), tp_gd_t (tp_inb_nI (by omega) (by decide)), nI_clamp (by omega), hD.1 a (by omega) (by omega), e1, tp_b2_s, show nI a + (1 : Int32) = nI (a + 1) from nI_1 a]
    obtain ⟨f2, e2, h2⟩ := ih n (a + 1) f1 _ (by omega) (by omega) h1 (by rw [List.length_append, List.length_singleton]; omega)
    rw [List.append_assoc] at e2 h2
    exact ⟨f2, e2, h2⟩
theorem mlit41 {N : Nat} (hN : 100000 ≤ N) {D : List Nat} {g : Nat → Int32} (hD : tp_Rw 10000 g D) (hDl : D.length ≤ 10000) {a b more : Nat} (hab : a < b) (hb : b ≤ D.length) (hm : 1 ≤ more) (hm2 : more ≤ 2) {f : Nat → Int32} {L : List Nat} (h : tp_Rw 20000 f L) (hl : L.length < 2 ^ 28) : ∃ f', m_Mo_putLiterals_41 N g (nI a) (nI b) (nI (b - a)) (nI more) (nI L.length) f = some (nI (L ++ (4 * (59 + more)) :: (nbf (nI (b - a - 1)) 0 more ++ sl D a (b - a))).length, f') ∧ tp_Rw 20000 f' (L ++ (4 * (59 + more)) :: (nbf (nI (b - a - 1)) 0 more ++ sl D a (b - a))) := by
  unfold m_Mo_putLiterals_41
  obtain ⟨f1, e1, h1⟩ := mput_ok (nI (4 * (59 + more))) h (by omega)
  rw [tp_by_nI (by omega)] at e1 h1
  obtain ⟨f2, e2, h2⟩ := mputNumber_ok hN (nI (b - a - 1)) (k := more) (by omega) h1 (by rw [List.length_append, List.length_singleton]; omega)
  obtain ⟨f3, e3, h3⟩ := mlit_l (N := N) hD hDl hb (b - a) N a f2 _ (by omega) (by omega) h2 (by rw [List.length_append, List.length_append, List.length_singleton, nbf_len]; omega)
  rw [if_neg (nI_ne0 (by omega) (by omega)), show nI (b - a) - (1 : Int32) = nI (b - a - 1) from pk_sub (b := 1) (by omega), show (4 : Int32) * ((59 : Int32) + nI more) = nI (4 * (59 + more)) by rw [show (59 : Int32) + nI more = nI (59 + more) from nI_add 59 more]; exact pk_mul 4 _, e1, tp_b2_s, e2, tp_b2_s]
  rw [app3] at e3 h3
  exact ⟨f3, e3, h3⟩
theorem mplit_ok {N : Nat} (hN : 100000 ≤ N) {D : List Nat} {g : Nat → Int32} (hD : tp_Rw 10000 g D) (hDl : D.length ≤ 10000) {a b : Nat} (hab : a ≤ b) (hb : b ≤ D.length) {f : Nat → Int32} {L : List Nat} (h : tp_Rw 20000 f L) (hl : L.length < 2 ^ 28) : ∃ f', m_Mo_putLiterals N (nI a) (nI b) (nI L.length) g f = some (nI (L ++ elit D a b).length, f') ∧ tp_Rw 20000 f' (L ++ elit D a b) := by
  unfold m_Mo_putLiterals elit
  rw [pk_sub hab]
  by_cases c0 : b - a = 0
  · rw [if_pos (show nI (b - a) = 0 by rw [c0]; rfl), if_pos c0, List.append_nil]
    exact ⟨f, rfl, h⟩
  · rw [if_neg (nI_ne0 (by omega) (by omega)), if_neg c0]
    by_cases c1 : b - a ≤ 60
    · rw [if_neg (show ¬ (60 : Int32) < nI (b - a) from nI_nlt (a := 60) c1 (by decide)), if_pos c1]
      unfold m_Mo_putLiterals_41
      obtain ⟨f1, e1, h1⟩ := mput_ok (nI (4 * (b - a - 1))) h (by omega)
      rw [tp_by_nI (by omega)] at e1 h1
      obtain ⟨f2, e2, h2⟩ := mputNumber_ok hN (nI (b - a - 1)) (k := 0) (by decide) h1 (by rw [List.length_append, List.length_singleton]; omega)
      rw [nbf, List.append_nil] at e2 h2
      obtain ⟨f3, e3, h3⟩ := mlit_l (N := N) hD hDl hb (b - a) N a f2 _ (by omega) (by omega) h2 (by rw [List.length_append, List.length_singleton]; omega)
      rw [if_pos rfl, show nI (b - a) - (1 : Int32) = nI (b - a - 1) from pk_sub (b := 1) (by omega), show (4 : Int32) * nI (b - a - 1) = nI (4 * (b - a - 1)) from pk_mul 4 _, e1, tp_b2_s, show (0 : Int32) = nI 0 from rfl, e2, tp_b2_s]
      rw [app2] at e3 h3
      exact ⟨f3, e3, h3⟩
    · rw [if_pos (show (60 : Int32) < nI (b - a) from nI_lt (a := 60) (by omega) (by omega)), if_neg c1]
      by_cases c2 : b - a ≤ 256
      · rw [if_neg (show ¬ (256 : Int32) < nI (b - a) from nI_nlt (a := 256) c2 (by decide)), if_pos c2]
        exact mlit41 (more := 1) hN hD hDl (by omega) hb (by decide) (by decide) h hl
      · rw [if_pos (show (256 : Int32) < nI (b - a) from nI_lt (a := 256) (by omega) (by omega)), if_neg (show ¬ (65536 : Int32) < nI (b - a) from nI_nlt (a := 65536) (by omega) (by decide)), if_neg c2]
        exact mlit41 (more := 2) hN hD hDl (by omega) hb (by decide) (by decide) h hl
