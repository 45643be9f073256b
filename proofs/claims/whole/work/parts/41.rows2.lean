/-! Rows: copies from another row, from itself, numbers read, the small operations of both sides. -/
abbrev gb (D : List Nat) (k : Nat) : Nat := D.getD k 0
/-- d bytes of D from a on -/
def sl (D : List Nat) (a : Nat) : Nat → List Nat
  | 0 => []
  | d + 1 => gb D a :: sl D (a + 1) d
theorem sl_len (D : List Nat) : ∀ (d a : Nat), (sl D a d).length = d := by
  intro d
  induction d with
  | zero => intro a; rfl
  | succ d ih => intro a; rw [sl, List.length_cons, ih]
/-- n bytes more, each from d back -/
def bk (L : List Nat) (d : Nat) : Nat → List Nat
  | 0 => L
  | n + 1 => bk (L ++ [gb L (L.length - d)]) d n
theorem bk_len (d : Nat) : ∀ (n : Nat) (L : List Nat), (bk L d n).length = L.length + n := by
  intro n
  induction n with
  | zero => intro L; rfl
  | succ n ih => intro L; rw [bk, ih, List.length_append, List.length_singleton]; omega
theorem putFrom_l {N : Nat} {D : List Nat} {g : Nat → Int32} (hD : tp_Rw 10000 g D) (hDl : D.length ≤ 10000) {b : Nat} (hb : b ≤ D.length) : ∀ (d n a : Nat) (f : Nat → Int32) (L : List Nat), a + d = b → d < n → tp_Rw 10000 f L → tp_fitsB f → L.length + d < 2 ^ 30 → ∃ f', tp_it4 (m_Row_putFrom_3 N (nI D.length) g) n (nI b) (nI a) (nI L.length) f = some (nI (L ++ sl D a d).length, f') ∧ tp_Rw 10000 f' (L ++ sl D a d) ∧ tp_fitsB f' := by
  intro d
  induction d with
  | zero =>
    intro n a f L hi hn h hf hl
    obtain ⟨n, rfl⟩ : ∃ z, n = z + 1 := ⟨n - 1, by omega⟩
    show ∃ f', m_Row_putFrom_3 N (nI D.length) g (tp_it4 (m_Row_putFrom_3 N (nI D.length) g) n) (nI b) (nI a) (nI L.length) f = _ ∧ _
    unfold m_Row_putFrom_3
    rw [if_pos (nI_le (by omega) (by omega)), sl, List.append_nil]
    exact ⟨f, rfl, h, hf⟩
  | succ d ih =>
    intro n a f L hi hn h hf hl
    obtain ⟨n, rfl⟩ : ∃ z, n = z + 1 := ⟨n - 1, by omega⟩
    show ∃ f', m_Row_putFrom_3 N (nI D.length) g (tp_it4 (m_Row_putFrom_3 N (nI D.length) g) n) (nI b) (nI a) (nI L.length) f = _ ∧ _
    unfold m_Row_putFrom_3
    obtain ⟨f1, e1, h1, hf1⟩ := put_ok (nI (gb D a)) h hf (by omega)
    rw [tp_by_nI (rw_lt hD a)] at e1 h1
    rw [if_neg (nI_ge (by omega) (by omega)), at_in hD (by omega) (by omega) (by omega), tp_b1_s, e1, tp_b2_s, show nI a + (1 : Int32) = nI (a + 1) from nI_1 a]
    obtain ⟨f2, e2, h2, hf2⟩ := ih n (a + 1) f1 _ (by omega) (by omega) h1 hf1 (by rw [List.length_append, List.length_singleton]; omega)
    rw [List.append_assoc] at e2 h2
    exact ⟨f2, e2, h2, hf2⟩
theorem putFrom_ok {N : Nat} (hN : 100000 ≤ N) {D : List Nat} {g : Nat → Int32} (hD : tp_Rw 10000 g D) (hDl : D.length ≤ 10000) {a b : Nat} (hab : a ≤ b) (hb : b ≤ D.length) {f : Nat → Int32} {L : List Nat} (h : tp_Rw 10000 f L) (hf : tp_fitsB f) (hl : L.length < 2 ^ 29) : ∃ f', m_Row_putFrom N (nI a) (nI b) (nI L.length) f (nI D.length) g = some (nI (L ++ sl D a (b - a)).length, f') ∧ tp_Rw 10000 f' (L ++ sl D a (b - a)) ∧ tp_fitsB f' :=
  putFrom_l hD hDl hb (b - a) N a f L (by omega) (by omega) h hf (by omega)
theorem putBack_l {N : Nat} {m k : Nat} (hm : 1 ≤ m) (hk : k < 2 ^ 30) : ∀ (d n i : Nat) (f : Nat → Int32) (L : List Nat), i + d = k → d < n → m ≤ L.length → tp_Rw 10000 f L → tp_fitsB f → L.length + d ≤ 10000 → ∃ f', tp_it5 (m_Row_putBack_2 N) n (nI m) (nI k) (nI i) (nI L.length) f = some (nI (bk L m d).length, f') ∧ tp_Rw 10000 f' (bk L m d) ∧ tp_fitsB f' := by
  intro d
  induction d with
  | zero =>
    intro n i f L hi hn hmL h hf hl
    obtain ⟨n, rfl⟩ : ∃ z, n = z + 1 := ⟨n - 1, by omega⟩
    show ∃ f', m_Row_putBack_2 N (tp_it5 (m_Row_putBack_2 N) n) (nI m) (nI k) (nI i) (nI L.length) f = _ ∧ _
    unfold m_Row_putBack_2
    rw [if_pos (nI_le (by omega) (by omega)), bk]
    exact ⟨f, rfl, h, hf⟩
  | succ d ih =>
    intro n i f L hi hn hmL h hf hl
    obtain ⟨n, rfl⟩ : ∃ z, n = z + 1 := ⟨n - 1, by omega⟩
    show ∃ f', m_Row_putBack_2 N (tp_it5 (m_Row_putBack_2 N) n) (nI m) (nI k) (nI i) (nI L.length) f = _ ∧ _
    unfold m_Row_putBack_2
    obtain ⟨f1, e1, h1, hf1⟩ := put_ok (nI (gb L (L.length - m))) h hf (by omega)
    rw [tp_by_nI (rw_lt h _)] at e1 h1
    rw [if_neg (nI_ge (by omega) (by omega)), pk_sub hmL, at_in h (by omega) (by omega) (by omega), tp_b1_s, e1, tp_b2_s, show nI i + (1 : Int32) = nI (i + 1) from nI_1 i]
    exact ih n (i + 1) f1 _ (by omega) (by omega) (by rw [List.length_append, List.length_singleton]; omega) h1 hf1 (by rw [List.length_append, List.length_singleton]; omega)
theorem putBack_ok {N : Nat} (hN : 100000 ≤ N) {m k : Nat} (hm : 1 ≤ m) {f : Nat → Int32} {L : List Nat} (hmL : m ≤ L.length) (h : tp_Rw 10000 f L) (hf : tp_fitsB f) (hl : L.length + k ≤ 10000) : ∃ f', m_Row_putBack N (nI m) (nI k) (nI L.length) f = some (nI (bk L m k).length, f') ∧ tp_Rw 10000 f' (bk L m k) ∧ tp_fitsB f' :=
  putBack_l hm (by omega) k N 0 f L (by omega) (by omega) hmL h hf hl
theorem shorten_ok {k n : Nat} (h : k ≤ n) (hn : n < 2 ^ 31) : m_Row_shorten (nI k) (nI n) = some (nI k) := by
  unfold m_Row_shorten
  simp only [li]
  rw [if_neg (nI_nlt (Nat.zero_le _) (by omega)), if_neg (nI_nlt h hn)]
theorem fits_ok {n : Nat} (h : n ≤ 10000) : m_Row_fits (nI n) = some (nI 1) := by
  unfold m_Row_fits
  simp only [li]
  rw [if_neg (nI_nlt h (by decide))]
theorem fits_no {n : Nat} (h : 10000 < n) (hn : n < 2 ^ 31) : m_Row_fits (nI n) = some (nI 0) := by
  unfold m_Row_fits
  simp only [li]
  rw [if_pos (nI_lt h hn)]
theorem rw_cpy {cap : Nat} {f g : Nat → Int32} {L : List Nat} (h : tp_Rw cap f L) (hl : L.length ≤ cap) : tp_Rw cap (va_cpy f g 0 0 L.length) L :=
  ⟨fun j hj hm => by rw [sb_cpy0 hj]; exact h.1 j hj hm, h.2⟩
theorem become_ok {x : Int32} {f g : Nat → Int32} {L : List Nat} (h : tp_Rw 10000 f L) (hf : tp_fitsB f) (hg : tp_fitsB g) (hl : L.length ≤ 10000) : ∃ f', m_Row_become x g (nI L.length) f = some (nI L.length, f') ∧ tp_Rw 10000 f' L ∧ tp_fitsB f' := by
  unfold m_Row_become
  rw [fits_ok hl, tp_b1_s, if_neg (by decide), tp_gd_t (show tp_cpok 0 0 (nI L.length) 10000 10000 = true from decide_eq_true ⟨by decide, by decide, nI_pos (by omega), by rw [nI_clamp (by omega), show Int32.toNatClampNeg 0 = 0 from rfl]; omega, by rw [nI_clamp (by omega), show Int32.toNatClampNeg 0 = 0 from rfl]; omega⟩), tp_gdp_t hf, nI_clamp (by omega)]
  exact ⟨_, rfl, rw_cpy h hl, sb_fitC hf hg⟩
-- ---- the reference's copies of rows
theorem mset_l {N : Nat} {D : List Nat} {g : Nat → Int32} (hD : tp_Rw 10000 g D) (hDl : D.length ≤ 10000) (x : Int32) : ∀ (d n a : Nat) (f : Nat → Int32), a + d = D.length → d < n → (∀ j, j < a → f j = sb_b (gb D j)) → ∃ f', tp_it3 (m_Mo_turn_2 N (nI D.length) g) n (nI a) x f = some (nI D.length, f') ∧ tp_Rw 10000 f' D := by
  intro d
  induction d with
  | zero =>
    intro n a f hi hn h
    obtain ⟨n, rfl⟩ : ∃ z, n = z + 1 := ⟨n - 1, by omega⟩
    show ∃ f', m_Mo_turn_2 N (nI D.length) g (tp_it3 (m_Mo_turn_2 N (nI D.length) g) n) (nI a) x f = _ ∧ _
    unfold m_Mo_turn_2
    rw [if_pos (nI_le (by omega) (by omega))]
    exact ⟨f, rfl, fun j hj _ => h j (by omega), hD.2⟩
  | succ d ih =>
    intro n a f hi hn h
    obtain ⟨n, rfl⟩ : ∃ z, n = z + 1 := ⟨n - 1, by omega⟩
    show ∃ f', m_Mo_turn_2 N (nI D.length) g (tp_it3 (m_Mo_turn_2 N (nI D.length) g) n) (nI a) x f = _ ∧ _
    unfold m_Mo_turn_2
    rw [if_neg (nI_ge (by omega) (by omega)), tp_gd_t (tp_inb_nI (by omega) (by decide)), tp_gd_t (tp_inb_nI (by omega) (by decide)), nI_clamp (by omega), hD.1 a (by omega) (by omega), show vp_nar .byte (sb_b (gb D a)) = sb_b (gb D a) from pk_vb _, show nI a + (1 : Int32) = nI (a + 1) from nI_1 a]
    refine ih n (a + 1) _ (by omega) (by omega) (fun j hj => ?_)
    by_cases e : j = a
    · subst e; rw [pk_us]
    · rw [pk_un e]; exact h j (by omega)
theorem mturn_ok {N : Nat} (hN : 100000 ≤ N) {D : List Nat} {g f : Nat → Int32} (hD : tp_Rw 10000 g D) (hDl : D.length ≤ 10000) (x : Int32) : ∃ f', m_Mo_turn N x (nI D.length) f g = some (nI D.length, f') ∧ tp_Rw 10000 f' D :=
  mset_l hD hDl x D.length N 0 f (by omega) (by omega) (fun j h => absurd h (Nat.not_lt_zero j))
theorem msettle_l {N : Nat} {D : List Nat} {g : Nat → Int32} (hD : tp_Rw 20000 g D) (hDl : D.length ≤ 10000) (x : Int32) : ∀ (d n a : Nat) (f : Nat → Int32), a + d = D.length → d < n → (∀ j, j < a → f j = sb_b (gb D j)) → ∃ f', tp_it3 (m_Mo_settle_2 N (nI D.length) g) n (nI a) x f = some (nI D.length, nI D.length, f') ∧ tp_Rw 10000 f' D := by
  intro d
  induction d with
  | zero =>
    intro n a f hi hn h
    obtain ⟨n, rfl⟩ : ∃ z, n = z + 1 := ⟨n - 1, by omega⟩
    show ∃ f', m_Mo_settle_2 N (nI D.length) g (tp_it3 (m_Mo_settle_2 N (nI D.length) g) n) (nI a) x f = _ ∧ _
    unfold m_Mo_settle_2
    rw [if_pos (nI_le (by omega) (by omega))]
    exact ⟨f, rfl, fun j hj _ => h j (by omega), hD.2⟩
  | succ d ih =>
    intro n a f hi hn h
    obtain ⟨n, rfl⟩ : ∃ z, n = z + 1 := ⟨n - 1, by omega⟩
    show ∃ f', m_Mo_settle_2 N (nI D.length) g (tp_it3 (m_Mo_settle_2 N (nI D.length) g) n) (nI a) x f = _ ∧ _
    unfold m_Mo_settle_2
    rw [if_neg (nI_ge (by omega) (by omega)), tp_gd_t (tp_inb_nI (by omega) (by decide)), tp_gd_t (tp_inb_nI (by omega) (by decide)), nI_clamp (by omega), hD.1 a (by omega) (by omega), show vp_nar .byte (sb_b (gb D a)) = sb_b (gb D a) from pk_vb _, show nI a + (1 : Int32) = nI (a + 1) from nI_1 a]
    refine ih n (a + 1) _ (by omega) (by omega) (fun j hj => ?_)
    by_cases e : j = a
    · subst e; rw [pk_us]
    · rw [pk_un e]; exact h j (by omega)
theorem msettle_ok {N : Nat} (hN : 100000 ≤ N) {D : List Nat} {g f : Nat → Int32} (hD : tp_Rw 20000 g D) (hDl : D.length ≤ 10000) (x : Int32) : ∃ f', m_Mo_settle N x (nI D.length) f g = some (nI D.length, nI D.length, f') ∧ tp_Rw 10000 f' D :=
  msettle_l hD hDl x D.length N 0 f (by omega) (by omega) (fun j h => absurd h (Nat.not_lt_zero j))
