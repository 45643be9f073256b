/-! Rows: what the models of the small methods answer, in numbers and lists of bytes. -/
/-- a written number -/
theorem li (n : Nat) : (OfNat.ofNat n : Int32) = nI (OfNat.ofNat n) := id rfl
theorem tp_gd_t {α : Type} {b : Bool} {k : Option α} (h : b = true) : tp_gd b k = k := by subst h; rfl
theorem tp_gdp_t {α : Type} {P : Prop} {k : Option α} (h : P) : tp_gdp P k = k := if_pos h
theorem tp_inb_nI {k n : Nat} (h : k < n) (hn : n < 2 ^ 31) : tp_inb (nI k) n = true := decide_eq_true (nI_in h hn)
/-- the byte of a number -/
def tp_by (v : Int32) : Nat := v.toBitVec.toNat % 256
theorem tp_by_lt (v : Int32) : tp_by v < 256 := Nat.mod_lt _ (by decide)
theorem tp_by_sb (v : Int32) : v.toInt8.toInt32 = sb_b (tp_by v) := by
  have h : (v.toInt8).toBitVec = ((nI (tp_by v)).toInt8).toBitVec := by
    apply BitVec.eq_of_toNat_eq
    rw [Int32.toBitVec_toInt8, Int32.toBitVec_toInt8, BitVec.signExtend_eq_setWidth_of_le _ (by decide), BitVec.signExtend_eq_setWidth_of_le _ (by decide), BitVec.toNat_setWidth, BitVec.toNat_setWidth, pk_tn (by have := tp_by_lt v; omega)]
    unfold tp_by
    omega
  unfold sb_b
  rw [show v.toInt8 = (nI (tp_by v)).toInt8 from Int8.toBitVec_inj.mp h]
theorem tp_by_nI {n : Nat} (h : n < 256) : tp_by (nI n) = n := by
  unfold tp_by
  rw [pk_tn (by omega)]
  omega
theorem tp_by_b : ∀ n, n < 256 → tp_by (sb_b n) = n := by decide +kernel
theorem sb_inj : ∀ a, a < 256 → ∀ b, b < 256 → sb_b a = sb_b b → a = b := by
  intro a ha b hb h
  rw [← tp_by_b a ha, ← tp_by_b b hb, h]
/-- bytes held: L's, as far as there is room -/
def tp_Rw (cap : Nat) (f : Nat → Int32) (L : List Nat) : Prop := (∀ j, j < L.length → j < cap → f j = sb_b (L.getD j 0)) ∧ (∀ x ∈ L, x < 256)
theorem rw_lt {cap : Nat} {f : Nat → Int32} {L : List Nat} (h : tp_Rw cap f L) (j : Nat) : L.getD j 0 < 256 := by
  by_cases hj : j < L.length
  · rw [List.getD_eq_getElem?_getD, List.getElem?_eq_getElem hj]
    exact h.2 _ (List.getElem_mem hj)
  · rw [List.getD_eq_getElem?_getD, List.getElem?_eq_none (by omega)]
    decide
theorem gd_app_lt {L M : List Nat} {j : Nat} (h : j < L.length) : (L ++ M).getD j 0 = L.getD j 0 := by
  rw [List.getD_eq_getElem?_getD, List.getD_eq_getElem?_getD, List.getElem?_append_left h]
theorem gd_app_eq {L : List Nat} {x : Nat} : (L ++ [x]).getD L.length 0 = x := by
  rw [List.getD_eq_getElem?_getD, List.getElem?_append_right (Nat.le_refl _), Nat.sub_self]
  rfl
theorem gd_app_ge {L M : List Nat} {j : Nat} (h : L.length ≤ j) : (L ++ M).getD j 0 = M.getD (j - L.length) 0 := by
  rw [List.getD_eq_getElem?_getD, List.getD_eq_getElem?_getD, List.getElem?_append_right h]
theorem rw_nil (cap : Nat) (f : Nat → Int32) : tp_Rw cap f [] := ⟨fun j h => absurd h (Nat.not_lt_zero j), fun x h => absurd h List.not_mem_nil⟩
theorem rw_put {cap : Nat} {f : Nat → Int32} {L : List Nat} (h : tp_Rw cap f L) {c : Nat} (hc : c < 256) : tp_Rw cap (upd f L.length (sb_b c)) (L ++ [c]) := by
  refine ⟨fun j hj hm => ?_, fun x hx => ?_⟩
  · rw [List.length_append, List.length_singleton] at hj
    by_cases e : j = L.length
    · subst e
      rw [pk_us, gd_app_eq]
    · rw [pk_un e, gd_app_lt (by omega)]
      exact h.1 j (by omega) hm
  · rcases List.mem_append.mp hx with hx | hx
    · exact h.2 x hx
    · rw [List.mem_singleton.mp hx]
      exact hc
theorem rw_put2 {cap : Nat} {f : Nat → Int32} {L : List Nat} (h : tp_Rw cap f L) {c : Nat} (hc : c < 256) (hl : cap ≤ L.length) : tp_Rw cap f (L ++ [c]) := by
  refine ⟨fun j hj hm => ?_, fun x hx => ?_⟩
  · rw [gd_app_lt (by omega)]
    exact h.1 j (by omega) hm
  · rcases List.mem_append.mp hx with hx | hx
    · exact h.2 x hx
    · rw [List.mem_singleton.mp hx]
      exact hc
theorem ft_u {f : Nat → Int32} (h : tp_fitsB f) (k c : Nat) : tp_fitsB (upd f k (sb_b c)) := sb_fitU h (sb_fitB c)
-- ---- Row.at
theorem at_in {f : Nat → Int32} {L : List Nat} {k : Nat} (h : tp_Rw 10000 f L) (hk : k < L.length) (hl : k < 10000) (hn : L.length < 2 ^ 31) : m_Row_at (nI k) (nI L.length) f = some (nI (L.getD k 0)) := by
  unfold m_Row_at
  simp only [li]
  rw [if_neg (nI_nlt (Nat.zero_le _) (by omega)), if_neg (nI_ge hk hn), if_neg (nI_ge (b := 10000) hl (by decide)), tp_gd_t (tp_inb_nI hl (by decide)), nI_clamp (by omega), h.1 k hk hl, ← li 255, (sb_byte _ (rw_lt h k)).1]
theorem at_out {f : Nat → Int32} {k n : Nat} (hk : n ≤ k) (hl : k < 2 ^ 31) : m_Row_at (nI k) (nI n) f = some (-nI 1) := by
  unfold m_Row_at
  simp only [li]
  rw [if_neg (nI_nlt (Nat.zero_le _) hl), if_pos (nI_le hk hl)]
-- ---- puts
theorem put_ok {f : Nat → Int32} {L : List Nat} (v : Int32) (h : tp_Rw 10000 f L) (hf : tp_fitsB f) (hl : L.length < 2 ^ 30) : ∃ f', m_Row_put v (nI L.length) f = some (nI (L ++ [tp_by v]).length, f') ∧ tp_Rw 10000 f' (L ++ [tp_by v]) ∧ tp_fitsB f' := by
  unfold m_Row_put
  simp only [li]
  rw [if_neg (nI_nlt (Nat.zero_le _) (by omega)), List.length_append, List.length_singleton]
  by_cases hm : L.length < 10000
  · rw [if_neg (nI_ge (b := 10000) hm (by decide)), tp_gd_t (tp_inb_nI hm (by decide)), nI_clamp (by omega), pk_vb, tp_by_sb]
    exact ⟨_, congrArg some (congrArg (·, _) (nI_add _ 1)), rw_put h (tp_by_lt v), ft_u hf _ _⟩
  · rw [if_pos (nI_le (a := 10000) (by omega) (by omega))]
    exact ⟨_, congrArg some (congrArg (·, _) (nI_add _ 1)), rw_put2 h (tp_by_lt v) (by omega), hf⟩
theorem mput_ok {f : Nat → Int32} {L : List Nat} (v : Int32) (h : tp_Rw 20000 f L) (hl : L.length < 2 ^ 30) : ∃ f', m_Mo_put v (nI L.length) f = some (nI (L ++ [tp_by v]).length, f') ∧ tp_Rw 20000 f' (L ++ [tp_by v]) := by
  unfold m_Mo_put
  simp only [li]
  rw [List.length_append, List.length_singleton]
  by_cases hm : L.length < 20000
  · rw [if_neg (nI_ge (b := 20000) hm (by decide)), tp_gd_t (tp_inb_nI hm (by decide)), nI_clamp (by omega), pk_vb, tp_by_sb]
    exact ⟨_, congrArg some (congrArg (·, _) (nI_add _ 1)), rw_put h (tp_by_lt v)⟩
  · rw [if_pos (nI_le (a := 20000) (by omega) (by omega))]
    exact ⟨_, congrArg some (congrArg (·, _) (nI_add _ 1)), rw_put2 h (tp_by_lt v) (by omega)⟩
/-- the bytes i .. i + d - 1 of a number -/
def nbf (v : Int32) (i : Nat) : Nat → List Nat
  | 0 => []
  | d + 1 => tp_by (tp_ushr v ((8 : Int32) * nI i)) :: nbf v (i + 1) d
theorem nbf_len (v : Int32) : ∀ (d i : Nat), (nbf v i d).length = d := by
  intro d
  induction d with
  | zero => intro i; rfl
  | succ d ih => intro i; rw [nbf, List.length_cons, ih]
theorem nI_8 (i : Nat) : (8 : Int32) * nI i = nI (8 * i) := pk_mul 8 i
theorem putN_l {N : Nat} (v : Int32) (k : Nat) (hk : k < 2 ^ 30) : ∀ (d n i : Nat) (f : Nat → Int32) (L : List Nat), i + d = k → d < n → tp_Rw 10000 f L → tp_fitsB f → L.length + d < 2 ^ 30 → ∃ f', tp_it5 (m_Row_putNumber_2 N) n v (nI k) (nI i) (nI L.length) f = some (nI (L ++ nbf v i d).length, f') ∧ tp_Rw 10000 f' (L ++ nbf v i d) ∧ tp_fitsB f' := by
  intro d
  induction d with
  | zero =>
    intro n i f L hi hn h hf hl
    obtain ⟨n, rfl⟩ : ∃ z, n = z + 1 := ⟨n - 1, by omega⟩
    show ∃ f', m_Row_putNumber_2 N (tp_it5 (m_Row_putNumber_2 N) n) v (nI k) (nI i) (nI L.length) f = _ ∧ _
    unfold m_Row_putNumber_2
    rw [if_pos (nI_le (by omega) (by omega)), nbf, List.append_nil]
    exact ⟨f, rfl, h, hf⟩
  | succ d ih =>
    intro n i f L hi hn h hf hl
    obtain ⟨n, rfl⟩ : ∃ z, n = z + 1 := ⟨n - 1, by omega⟩
    show ∃ f', m_Row_putNumber_2 N (tp_it5 (m_Row_putNumber_2 N) n) v (nI k) (nI i) (nI L.length) f = _ ∧ _
    unfold m_Row_putNumber_2
    obtain ⟨f1, e1, h1, hf1⟩ := put_ok (tp_ushr v ((8 : Int32) * nI i)) h hf (by omega)
    rw [if_neg (nI_ge (by omega) (by omega)), e1, tp_b2_s, show nI i + (1 : Int32) = nI (i + 1) from nI_1 i]
    obtain ⟨f2, e2, h2, hf2⟩ := ih n (i + 1) f1 _ (by omega) (by omega) h1 hf1 (by rw [List.length_append, List.length_singleton]; omega)
    rw [List.append_assoc] at e2 h2
    exact ⟨f2, e2, h2, hf2⟩
theorem putNumber_ok {N : Nat} (hN : 100000 ≤ N) (v : Int32) {k : Nat} (hk : k < 100) {f : Nat → Int32} {L : List Nat} (h : tp_Rw 10000 f L) (hf : tp_fitsB f) (hl : L.length < 2 ^ 29) : ∃ f', m_Row_putNumber N v (nI k) (nI L.length) f = some (nI (L ++ nbf v 0 k).length, f') ∧ tp_Rw 10000 f' (L ++ nbf v 0 k) ∧ tp_fitsB f' :=
  putN_l v k (by omega) k N 0 f L (by omega) (by omega) h hf (by omega)
theorem mputN_l {N : Nat} (v : Int32) (k : Nat) (hk : k < 2 ^ 30) : ∀ (d n i : Nat) (f : Nat → Int32) (L : List Nat), i + d = k → d < n → tp_Rw 20000 f L → L.length + d < 2 ^ 30 → ∃ f', tp_it5 (m_Mo_putNumber_2 N) n v (nI k) (nI i) (nI L.length) f = some (nI (L ++ nbf v i d).length, f') ∧ tp_Rw 20000 f' (L ++ nbf v i d) := by
  intro d
  induction d with
  | zero =>
    intro n i f L hi hn h hl
    obtain ⟨n, rfl⟩ : ∃ z, n = z + 1 := ⟨n - 1, by omega⟩
    show ∃ f', m_Mo_putNumber_2 N (tp_it5 (m_Mo_putNumber_2 N) n) v (nI k) (nI i) (nI L.length) f = _ ∧ _
    unfold m_Mo_putNumber_2
    rw [if_pos (nI_le (by omega) (by omega)), nbf, List.append_nil]
    exact ⟨f, rfl, h⟩
  | succ d ih =>
    intro n i f L hi hn h hl
    obtain ⟨n, rfl⟩ : ∃ z, n = z + 1 := ⟨n - 1, by omega⟩
    show ∃ f', m_Mo_putNumber_2 N (tp_it5 (m_Mo_putNumber_2 N) n) v (nI k) (nI i) (nI L.length) f = _ ∧ _
    unfold m_Mo_putNumber_2
    obtain ⟨f1, e1, h1⟩ := mput_ok (tp_ushr v ((8 : Int32) * nI i)) h (by omega)
    rw [if_neg (nI_ge (by omega) (by omega)), e1, tp_b2_s, show nI i + (1 : Int32) = nI (i + 1) from nI_1 i]
    obtain ⟨f2, e2, h2⟩ := ih n (i + 1) f1 _ (by omega) (by omega) h1 (by rw [List.length_append, List.length_singleton]; omega)
    rw [List.append_assoc] at e2 h2
    exact ⟨f2, e2, h2⟩
theorem mputNumber_ok {N : Nat} (hN : 100000 ≤ N) (v : Int32) {k : Nat} (hk : k < 100) {f : Nat → Int32} {L : List Nat} (h : tp_Rw 20000 f L) (hl : L.length < 2 ^ 29) : ∃ f', m_Mo_putNumber N v (nI k) (nI L.length) f = some (nI (L ++ nbf v 0 k).length, f') ∧ tp_Rw 20000 f' (L ++ nbf v 0 k) :=
  mputN_l v k (by omega) k N 0 f L (by omega) (by omega) h (by omega)
