/-! READING a block: the reference's reader. -/
theorem mfails_0 (a b fp : Int32) : m_Mo_fails a b 0 fp = some (0, a, b) := if_pos rfl
theorem mfails_f {w : Int32} (hw : ¬ w = 0) (a b fp : Int32) : m_Mo_fails a b w fp = some (0, w, fp) := if_neg hw
theorem sbl : ∀ b, b < 256 → (sb_b b).toInt64 &&& 255 = lN b := by decide +kernel
def elM (X : Option (Int32 × Int32 × Int32 × Int32 × (Nat → Int32))) (s : Except (Nat × Nat) (Nat × List Nat)) (fp : Int32) : Prop :=
  match s with
  | .error x => ∃ (md a' : Int32) (t' : Nat → Int32), X = some (md, a', nI x.1, nI x.2, t') ∧ 1 ≤ x.1 ∧ x.1 ≤ 12
  | .ok x => ∃ (t' : Nat → Int32), X = some (nI x.2.length, nI x.1, (0 : Int32), fp, t') ∧ tp_Rw 20000 t' x.2
section
variable {N : Nat} {D : List Nat} {g : Nat → Int32} {e tb len : Nat}
theorem take_l (hD : tp_Rw 10000 g D) (hDl : D.length ≤ 10000) (he : e ≤ D.length) {a k : Nat} (hk : k ≤ 7) (fp : Int32) : ∀ (d n i : Nat), i + d = k → d < n → a + i ≤ e → tp_it6 (m_Mo_take_16 N (nI e) g) n (nI k) (lN (nvA D a i)) (nI i) (nI (a + i)) 0 fp = if a + k ≤ e then some (lN (nvA D a k), nI (a + k), (0 : Int32), fp) else some (-1, nI e, (1 : Int32), nI e) := by
  intro d
  induction d with
  | zero =>
    intro n i hi hn ha
    obtain ⟨n, rfl⟩ : ∃ z, n = z + 1 := ⟨n - 1, by omega⟩
    show m_Mo_take_16 N (nI e) g (tp_it6 (m_Mo_take_16 N (nI e) g) n) (nI k) (lN (nvA D a i)) (nI i) (nI (a + i)) 0 fp = _
    rw [m_Mo_take_16, if_pos (nI_le (by omega) (by omega)), if_pos (by omega), show i = k by omega]
  | succ d ih =>
    intro n i hi hn ha
    obtain ⟨n, rfl⟩ : ∃ z, n = z + 1 := ⟨n - 1, by omega⟩
    show m_Mo_take_16 N (nI e) g (tp_it6 (m_Mo_take_16 N (nI e) g) n) (nI k) (lN (nvA D a i)) (nI i) (nI (a + i)) 0 fp = _
    rw [m_Mo_take_16, if_neg (nI_ge (by omega) (by omega))]
    by_cases c : a + i = e
    · rw [if_pos (by rw [c]), mfails_0, tp_b3_s, if_neg (by omega), c]
    · have hb := bA_lt hD (a + i)
      have hp : 2 ^ (8 * (i + 1)) ≤ 2 ^ 56 := Nat.pow_le_pow_right (by decide) (by omega)
      have hs : nvA D a i + bA D (a + i) * 2 ^ (8 * i) < 2 ^ 64 := Nat.lt_of_lt_of_le (nvA_lt hD a (i + 1)) (Nat.le_trans hp (by decide))
      rw [if_neg (fun z => c ((nI_eq (by omega) (by omega)).mp z)), tp_gd_t (tp_inb_nI (by omega) (by decide)), nI_clamp (by omega), hD.1 _ (by omega) (by omega), sbl _ (rw_lt hD _), show D.getD (a + i) 0 = bA D (a + i) from (bA_in (by omega)).symm, nI_8, wb_shl _ (by omega), g_or' (k := 8 * i) rfl (nvA_lt hD a i) hs, tp_b0, show nI i + (1 : Int32) = nI (i + 1) from nI_1 i, show nI (a + i) + (1 : Int32) = nI (a + (i + 1)) from nI_1 (a + i)]
      exact ih n (i + 1) (by omega) (by omega) (by omega)
theorem take_ok (hN : 100000 ≤ N) (hD : tp_Rw 10000 g D) (hDl : D.length ≤ 10000) (he : e ≤ D.length) {a k : Nat} (hk : k ≤ 7) (ha : a ≤ e) (fp : Int32) : m_Mo_take N (nI k) (nI a) (nI e) 0 fp g = if a + k ≤ e then some (lN (nvA D a k), nI (a + k), (0 : Int32), fp) else some (-1, nI e, (1 : Int32), nI e) := by
  unfold m_Mo_take
  rw [if_pos rfl]
  exact take_l hD hDl he hk fp k N 0 (by omega) (by omega) ha
theorem nvA_1 {a : Nat} (h : a < D.length) : nvA D a 1 = gb D a := by
  rw [nvA, nvA, Nat.add_zero, bA_in h]
  omega
theorem take1_in (hN : 100000 ≤ N) (hD : tp_Rw 10000 g D) (hDl : D.length ≤ 10000) (he : e ≤ D.length) {a : Nat} (ha : a < e) (fp : Int32) : m_Mo_take N 1 (nI a) (nI e) 0 fp g = some (lN (gb D a), nI (a + 1), (0 : Int32), fp) := by
  rw [show (1 : Int32) = nI 1 from rfl, take_ok hN hD hDl he (by decide) (by omega), if_pos (by omega), nvA_1 (by omega)]
theorem take1_out (hN : 100000 ≤ N) (hD : tp_Rw 10000 g D) (hDl : D.length ≤ 10000) (he : e ≤ D.length) (fp : Int32) : m_Mo_take N 1 (nI e) (nI e) 0 fp g = some (-1, nI e, (1 : Int32), nI e) := by
  rw [show (1 : Int32) = nI 1 from rfl, take_ok hN hD hDl he (by decide) (by omega), if_neg (by omega)]
  rfl
theorem mlit60_l (hN : 100000 ≤ N) (hD : tp_Rw 10000 g D) (hDl : D.length ≤ 10000) (he : e ≤ D.length) {many : Nat} (hm : many ≤ 10000) (fp : Int32) : ∀ (d n i a : Nat) (L : List Nat) (t : Nat → Int32), i + d = many → d + 1 < n → a ≤ e → L.length + d ≤ 20000 → tp_Rw 20000 t L → elM (tp_it7 (m_Mo_literals_60 N (nI e) g) n (lN many) (lN i) (nI L.length) (nI a) 0 fp t) (if e < a + d then .error (1, e) else .ok (a + d, L ++ sl D a d)) fp := by
  intro d
  induction d with
  | zero =>
    intro n i a L t hi hn ha hl h
    obtain ⟨n, rfl⟩ : ∃ z, n = z + 1 := ⟨n - 1, by omega⟩
    show elM (m_Mo_literals_60 N (nI e) g (tp_it7 (m_Mo_literals_60 N (nI e) g) n) (lN many) (lN i) (nI L.length) (nI a) 0 fp t) _ _
    rw [m_Mo_literals_60, if_pos ((lgn_ge (by omega) (by omega)).mpr (by omega)), if_neg (by omega), sl, List.append_nil]
    exact ⟨t, rfl, h⟩
  | succ d ih =>
    intro n i a L t hi hn ha hl h
    obtain ⟨n, rfl⟩ : ∃ z, n = z + 1 := ⟨n - 1, by omega⟩
    show elM (m_Mo_literals_60 N (nI e) g (tp_it7 (m_Mo_literals_60 N (nI e) g) n) (lN many) (lN i) (nI L.length) (nI a) 0 fp t) _ _
    rw [m_Mo_literals_60, if_neg (fun z => by have := (lgn_ge (by omega) (by omega)).mp z; omega), if_pos rfl]
    by_cases c : a = e
    · subst c
      rw [take1_out hN hD hDl he, tp_b4_s, if_pos (by decide), if_pos (by omega)]
      obtain ⟨n, rfl⟩ : ∃ z, n = z + 1 := ⟨n - 1, by omega⟩
      show elM (m_Mo_literals_60 N (nI a) g (tp_it7 (m_Mo_literals_60 N (nI a) g) n) (lN many) (lN i + 1) (nI L.length) (nI a) 1 (nI a) t) _ _
      rw [m_Mo_literals_60]
      split
      · exact ⟨_, _, t, rfl, Nat.le_of_ble_eq_true rfl, Nat.le_of_ble_eq_true rfl⟩
      · rw [if_neg (by decide)]
        exact ⟨_, _, t, rfl, Nat.le_of_ble_eq_true rfl, Nat.le_of_ble_eq_true rfl⟩
    · have hb : gb D a < 256 := rw_lt hD a
      obtain ⟨t1, e1, h1⟩ := mput_ok (nI (gb D a)) h (by omega)
      rw [tp_by_nI hb] at e1 h1
      rw [take1_in hN hD hDl he (by omega), tp_b4_s, if_neg (show ¬ lg_cmp (lN (gb D a)) (0 : Int64) < 0 from Int32.not_lt.mpr ((lgn_ge (b := 0) (by omega) (by decide)).mpr (Nat.zero_le _))), lN_i, e1, tp_b2_s, lN_1]
      have := ih n (i + 1) (a + 1) _ t1 (by omega) (by omega) (by omega) (by rw [List.length_append, List.length_singleton]; omega) h1
      rw [List.append_assoc, show a + 1 + d = a + (d + 1) by omega] at this
      exact this
theorem mlit23_f {w : Int32} (hw : ¬ w = 0) (en x1 x2 md at' fp : Int32) (x4 k0 : Int64) (t : Nat → Int32) : m_Mo_literals_23 N en g x1 x2 x4 k0 md at' w fp t = some (md, at', w, fp, t) := by
  unfold m_Mo_literals_23
  rw [if_neg hw]
theorem mlit23_ok (hN : 100000 ≤ N) (hD : tp_Rw 10000 g D) (hDl : D.length ≤ 10000) (he : e ≤ D.length) {a many bg : Nat} {T : List Nat} {t : Nat → Int32} (ha : a ≤ e) (h1 : tb ≤ T.length) (h2 : T.length ≤ tb + len) (h3 : tb + len ≤ 10000) (hm : many < 2 ^ 40) (h : tp_Rw 20000 t T) (fp : Int32) : elM (m_Mo_literals_23 N (nI e) g (nI bg) (nI tb) (lN len) (lN many) (nI T.length) (nI a) 0 fp t) (litS D e tb len bg a many T) fp := by
  unfold m_Mo_literals_23 litS
  rw [if_pos rfl, pk_sub h1, nI_l (by omega), lN_add]
  by_cases c : len < T.length - tb + many
  · rw [if_pos c, if_neg (fun z => by have := (lgn_le (by omega) (by omega)).mp z; omega), mfails_0, tp_b3_s]
    exact ⟨_, _, t, rfl, Nat.le_of_ble_eq_true rfl, Nat.le_of_ble_eq_true rfl⟩
  · rw [if_neg c, if_pos ((lgn_le (by omega) (by omega)).mpr (by omega))]
    exact mlit60_l hN hD hDl he (by omega) fp many N 0 a T t (by omega) (by omega) ha (by omega) h
theorem mcp_l {many dist : Nat} (hm : many < 1000) (hd : 1 ≤ dist) (at' fp : Int32) : ∀ (d n i : Nat) (L : List Nat) (t : Nat → Int32), i + d = many → d < n → dist ≤ L.length → L.length + d ≤ 20000 → tp_Rw 20000 t L → ∃ t', tp_it8 (m_Mo_copy_78 N (nI e) g) n (lN many) (lN dist) (nI i) (nI L.length) at' 0 fp t = some (nI (bk L dist d).length, at', (0 : Int32), fp, t') ∧ tp_Rw 20000 t' (bk L dist d) := by
  intro d
  induction d with
  | zero =>
    intro n i L t hi hn h1 hl h
    obtain ⟨n, rfl⟩ : ∃ z, n = z + 1 := ⟨n - 1, by omega⟩
    show ∃ t', m_Mo_copy_78 N (nI e) g (tp_it8 (m_Mo_copy_78 N (nI e) g) n) (lN many) (lN dist) (nI i) (nI L.length) at' 0 fp t = _ ∧ _
    rw [m_Mo_copy_78, nI_l (by omega), if_pos ((lgn_ge (by omega) (by omega)).mpr (by omega)), bk]
    exact ⟨t, rfl, h⟩
  | succ d ih =>
    intro n i L t hi hn h1 hl h
    obtain ⟨n, rfl⟩ : ∃ z, n = z + 1 := ⟨n - 1, by omega⟩
    show ∃ t', m_Mo_copy_78 N (nI e) g (tp_it8 (m_Mo_copy_78 N (nI e) g) n) (lN many) (lN dist) (nI i) (nI L.length) at' 0 fp t = _ ∧ _
    obtain ⟨t1, e1, h2⟩ := mput_ok (sb_b (L.getD (L.length - dist) 0)) h (by omega)
    rw [tp_by_b _ (rw_lt h _)] at e1 h2
    rw [m_Mo_copy_78, nI_l (by omega), if_neg (fun z => by have := (lgn_ge (by omega) (by omega)).mp z; omega), lN_i, pk_sub h1, tp_gd_t (tp_inb_nI (by omega) (by decide)), nI_clamp (by omega), h.1 _ (by omega) (by omega), e1, tp_b2_s, show nI i + (1 : Int32) = nI (i + 1) from nI_1 i]
    exact ih n (i + 1) _ t1 (by omega) (by omega) (by rw [List.length_append, List.length_singleton]; omega) (by rw [List.length_append, List.length_singleton]; omega) h2
theorem mcp59_f {w : Int32} (hw : ¬ w = 0) (en x1 x2 md at' fp : Int32) (x5 x7 x9 : Int64) (t : Nat → Int32) : m_Mo_copy_59 N en g x1 x2 x5 x7 x9 md at' w fp t = some (md, at', w, fp, t) := by
  unfold m_Mo_copy_59 m_Mo_fitting
  rw [if_neg hw, tp_b3_s, if_pos rfl]
theorem mcp59_ok (hN : 100000 ≤ N) {a many dist bg : Nat} {T : List Nat} {t : Nat → Int32} (h1 : tb ≤ T.length) (h2 : T.length ≤ tb + len) (h3 : tb + len ≤ 10000) (hm : many < 1000) (hd : dist < 2 ^ 40) (h : tp_Rw 20000 t T) (fp : Int32) : elM (m_Mo_copy_59 N (nI e) g (nI bg) (nI tb) (lN len) (lN many) (lN dist) (nI T.length) (nI a) 0 fp t) (cpS tb len bg a many dist T) fp := by
  unfold m_Mo_copy_59 m_Mo_fitting cpS
  rw [if_pos rfl, show (0 : Int64) = lN 0 from rfl, pk_sub h1, nI_l (by omega), lN_add]
  by_cases c0 : dist = 0
  · rw [if_pos ((lgn_eq (by omega) (by omega)).mpr c0), mfails_0, tp_b3_s, tp_gd_t (by decide), tp_b3_s, if_pos rfl, if_pos (Or.inl c0)]
    exact ⟨_, _, t, rfl, Nat.le_of_ble_eq_true rfl, Nat.le_of_ble_eq_true rfl⟩
  rw [if_neg (fun z => c0 ((lgn_eq (by omega) (by omega)).mp z))]
  by_cases c1 : T.length - tb < dist
  · rw [if_neg (fun z => by have := (lgn_le (by omega) (by omega)).mp z; omega), mfails_0, tp_b3_s, tp_gd_t (by decide), tp_b3_s, if_pos rfl, if_pos (Or.inr c1)]
    exact ⟨_, _, t, rfl, Nat.le_of_ble_eq_true rfl, Nat.le_of_ble_eq_true rfl⟩
  rw [if_pos ((lgn_le (by omega) (by omega)).mpr (by omega)), if_neg (show ¬ (dist = 0 ∨ T.length - tb < dist) by omega)]
  by_cases c2 : len < T.length - tb + many
  · rw [if_neg (fun z => by have := (lgn_le (by omega) (by omega)).mp z; omega), mfails_0, tp_b3_s, if_pos rfl, tp_b3_s, if_pos rfl, if_pos c2]
    exact ⟨_, _, t, rfl, Nat.le_of_ble_eq_true rfl, Nat.le_of_ble_eq_true rfl⟩
  · obtain ⟨t1, e1, h4⟩ := mcp_l (N := N) (e := e) (g := g) (many := many) (dist := dist) hm (by omega) (nI a) fp many N 0 T t (by omega) (by omega) (by omega) (by omega) h
    rw [if_pos ((lgn_le (by omega) (by omega)).mpr (by omega)), tp_b3_s, if_neg (by decide), if_neg c2, show (0 : Int32) = nI 0 from rfl]
    exact ⟨t1, e1, h4⟩
theorem mlits_ok (hN : 100000 ≤ N) (hD : tp_Rw 10000 g D) (hDl : D.length ≤ 10000) (he : e ≤ D.length) {a : Nat} {T : List Nat} {t : Nat → Int32} (ha : a < e) (h1 : tb ≤ T.length) (h2 : T.length ≤ tb + len) (h3 : tb + len ≤ 10000) (h : tp_Rw 20000 t T) (fp : Int32) (k0 : gb D a % 4 = 0) : elM (m_Mo_literals N (nI a) (nI tb) (nI (gb D a / 4)) (lN len) (nI T.length) (nI (a + 1)) (nI e) 0 fp g t) (elS D e tb len a T) fp := by
  have hb : gb D a < 256 := rw_lt hD a
  unfold m_Mo_literals elS
  rw [if_pos k0]
  by_cases c : gb D a / 4 < 60
  · rw [if_pos c, if_neg (show ¬ (60 : Int32) ≤ nI (gb D a / 4) from nI_ge (b := 60) c (by decide)), nI_l (by omega), lN_1]
    exact mlit23_ok hN hD hDl he (by omega) h1 h2 h3 (by omega) h fp
  · rw [if_neg c, if_pos (show (60 : Int32) ≤ nI (gb D a / 4) from nI_le (a := 60) (by omega) (by omega)), show nI (gb D a / 4) - (59 : Int32) = nI (gb D a / 4 - 59) from pk_sub (b := 59) (by omega), take_ok hN hD hDl he (by omega) (by omega)]
    by_cases c2 : a + 1 + (gb D a / 4 - 59) ≤ e
    · have hv := nvA_lt hD (a + 1) (gb D a / 4 - 59)
      have hp : 2 ^ (8 * (gb D a / 4 - 59)) ≤ 2 ^ 32 := Nat.pow_le_pow_right (by decide) (by omega)
      rw [if_pos c2, if_pos c2, tp_b4_s, lN_1]
      exact mlit23_ok hN hD hDl he (by omega) h1 h2 h3 (by omega) h fp
    · rw [if_neg c2, if_neg c2, tp_b4_s, mlit23_f (by decide)]
      exact ⟨_, _, t, rfl, Nat.le_of_ble_eq_true rfl, Nat.le_of_ble_eq_true rfl⟩
theorem mcopy_ok (hN : 100000 ≤ N) (hD : tp_Rw 10000 g D) (hDl : D.length ≤ 10000) (he : e ≤ D.length) {a : Nat} {T : List Nat} {t : Nat → Int32} (ha : a < e) (h1 : tb ≤ T.length) (h2 : T.length ≤ tb + len) (h3 : tb + len ≤ 10000) (h : tp_Rw 20000 t T) (fp : Int32) (k0 : ¬ gb D a % 4 = 0) : elM (m_Mo_copy N (nI a) (nI tb) (nI (gb D a % 4)) (nI (gb D a / 4)) (lN len) (nI T.length) (nI (a + 1)) (nI e) 0 fp g t) (elS D e tb len a T) fp := by
  have hb : gb D a < 256 := rw_lt hD a
  have hb2 : gb D (a + 1) < 256 := rw_lt hD (a + 1)
  have eo : ∀ md a' : Int32, elM (some (md, a', 1, nI e, t)) (.error (1, e)) fp := fun md a' => ⟨md, a', t, rfl, Nat.le_of_ble_eq_true rfl, Nat.le_of_ble_eq_true rfl⟩
  unfold m_Mo_copy m_Mo_copy_21 m_Mo_copy_34 elS
  rw [if_neg k0]
  by_cases k1 : gb D a % 4 = 1
  · rw [if_pos k1, k1, if_pos (show nI 1 = (1 : Int32) from rfl), if_neg (show ¬ nI 1 = (3 : Int32) by decide), show nI (gb D a / 4) / (8 : Int32) = nI (gb D a / 4 / 8) from pk_div (d := 8) (by omega) (by decide) (by decide), show nI (gb D a / 4 / 8) * (8 : Int32) = nI (gb D a / 4 / 8 * 8) from pk_mul _ 8, pk_sub (by omega), show gb D a / 4 - gb D a / 4 / 8 * 8 = gb D a / 4 % 8 by omega, show nI (gb D a / 4 % 8) + (4 : Int32) = nI (gb D a / 4 % 8 + 4) from nI_add _ 4, nI_l (by omega), nI_l (by omega)]
    by_cases c2 : a + 1 + 1 ≤ e
    · rw [if_pos c2, show nI 1 = (1 : Int32) from rfl, take1_in hN hD hDl he (by omega), tp_b4_s, if_pos rfl, tp_b0, show (256 : Int64) * lN (gb D a / 4 / 8) = lN (256 * (gb D a / 4 / 8)) from lN_mul 256 _, lN_add]
      exact mcp59_ok hN h1 h2 h3 (by omega) (by omega) h fp
    · rw [if_neg c2, show a + 1 = e by omega, show nI 1 = (1 : Int32) from rfl, take1_out hN hD hDl he, tp_b4_s, if_pos rfl, tp_b0, mcp59_f (by decide)]
      exact eo _ _
  · rw [if_neg k1, if_neg (show ¬ nI (gb D a % 4) = (1 : Int32) from fun z => k1 ((nI_eq (b := 1) (by omega) (by decide)).mp z)), show nI (gb D a / 4) + (1 : Int32) = nI (gb D a / 4 + 1) from nI_1 _, nI_l (by omega)]
    by_cases k2 : gb D a % 4 = 2
    · rw [if_pos k2, k2, if_neg (show ¬ nI 2 = (3 : Int32) by decide), take_ok hN hD hDl he (by decide) (by omega)]
      by_cases c2 : a + 1 + 2 ≤ e
      · have hv := nvA_lt hD (a + 1) 2
        rw [if_pos c2, if_pos c2, tp_b4_s, if_neg (show ¬ nI 2 = (1 : Int32) by decide)]
        exact mcp59_ok hN h1 h2 h3 (by omega) (by omega) h fp
      · rw [if_neg c2, if_neg c2, tp_b4_s, if_neg (show ¬ nI 2 = (1 : Int32) by decide), mcp59_f (by decide)]
        exact eo _ _
    · have k3 : gb D a % 4 = 3 := by omega
      rw [if_neg k2, k3, if_pos (show nI 3 = (3 : Int32) from rfl), show (4 : Int32) = nI 4 from rfl, take_ok hN hD hDl he (by decide) (by omega)]
      by_cases c2 : a + 1 + 4 ≤ e
      · have hv := nvA_lt hD (a + 1) 4
        rw [if_pos c2, if_pos c2, tp_b4_s, if_neg (show ¬ nI 3 = (1 : Int32) by decide)]
        exact mcp59_ok hN h1 h2 h3 (by omega) (by omega) h fp
      · rw [if_neg c2, if_neg c2, tp_b4_s, if_neg (show ¬ nI 3 = (1 : Int32) by decide), mcp59_f (by decide)]
        exact eo _ _
-- ---- the length ahead
def lnM (X : Option (Int64 × Int32 × Int32 × Int32)) (s : Except (Nat × Nat) (Nat × Nat)) (fp : Int32) : Prop :=
  match s with
  | .error x => ∃ (l' : Int64) (a' : Int32), X = some (l', a', nI x.1, nI x.2) ∧ 1 ≤ x.1 ∧ x.1 ≤ 12
  | .ok x => X = some (lN x.1, nI x.2, (0 : Int32), fp)
theorem tl93_ok {most bg x a : Nat} (hm : most ≤ 10000) (hx : x < 2 ^ 60) (en fp : Int32) : lnM (m_Mo_takeLength_93 N en g (nI most) (nI bg) (lN x) (nI a) 0 fp) (lnE bg most x a) fp := by
  unfold m_Mo_takeLength_93 lnE
  rw [nI_l (by omega)]
  by_cases c : most < x
  · rw [if_pos c, if_neg (fun z => by have := (lgn_le (by omega) (by omega)).mp z; omega), mfails_0, tp_b3_s, if_neg (by decide)]
    exact ⟨_, _, rfl, Nat.le_of_ble_eq_true rfl, Nat.le_of_ble_eq_true rfl⟩
  · rw [if_neg c, if_pos ((lgn_le (by omega) (by omega)).mpr (by omega)), if_pos rfl]
    exact rfl
theorem tl_l (hN : 100000 ≤ N) (hD : tp_Rw 10000 g D) (hDl : D.length ≤ 10000) (he : e ≤ D.length) {most bg : Nat} (hm : most ≤ 10000) (fp : Int32) : ∀ (d n k x a : Nat), k + d = 5 → d + 1 < n → x < 2 ^ (7 * k) → a ≤ e → lnM (tp_it7 (m_Mo_takeLength_10 N (nI e) g) n (nI most) (nI bg) (lN x) (nI k) (nI a) 0 fp) (lnf D e bg most d k x a) fp := by
  intro d
  induction d with
  | zero =>
    intro n k x a hk hn hx ha
    obtain ⟨n, rfl⟩ : ∃ z, n = z + 1 := ⟨n - 1, by omega⟩
    show lnM (m_Mo_takeLength_10 N (nI e) g (tp_it7 (m_Mo_takeLength_10 N (nI e) g) n) (nI most) (nI bg) (lN x) (nI k) (nI a) 0 fp) _ _
    have hx2 : 2 ^ (7 * k) ≤ 2 ^ 35 := Nat.pow_le_pow_right (by decide) (by omega)
    rw [m_Mo_takeLength_10, if_pos (show (5 : Int32) ≤ nI k from nI_le (a := 5) (by omega) (by omega)), lnf]
    exact tl93_ok hm (by omega) _ _
  | succ d ih =>
    intro n k x a hk hn hx ha
    obtain ⟨n, rfl⟩ : ∃ z, n = z + 1 := ⟨n - 1, by omega⟩
    show lnM (m_Mo_takeLength_10 N (nI e) g (tp_it7 (m_Mo_takeLength_10 N (nI e) g) n) (nI most) (nI bg) (lN x) (nI k) (nI a) 0 fp) _ _
    rw [m_Mo_takeLength_10, if_neg (show ¬ (5 : Int32) ≤ nI k from nI_ge (b := 5) (by omega) (by decide)), lnf]
    by_cases c : e ≤ a
    · have ea : a = e := by omega
      subst ea
      rw [if_pos c, take1_out hN hD hDl he, tp_b4_s, if_neg (by decide)]
      exact ⟨_, _, rfl, Nat.le_of_ble_eq_true rfl, Nat.le_of_ble_eq_true rfl⟩
    · have hb : gb D a < 256 := rw_lt hD a
      have hp7 : 2 ^ (7 * (k + 1)) = 2 ^ (7 * k) * 128 := by rw [show 7 * (k + 1) = 7 * k + 7 by omega, Nat.pow_add]
      have hp8 : 2 ^ (7 * (k + 1)) ≤ 2 ^ 35 := Nat.pow_le_pow_right (by decide) (by omega)
      have hle : gb D a % 128 * 2 ^ (7 * k) ≤ 127 * 2 ^ (7 * k) := Nat.mul_le_mul_right _ (by omega)
      have hy : lN x ||| ((lN (gb D a) &&& (127 : Int64)) <<< (Int32.toInt64 ((7 : Int32) * nI k) &&& 63)) = lN (x + gb D a % 128 * 2 ^ (7 * k)) := by
        rw [show (127 : Int64) = lN (2 ^ 7 - 1) from rfl, wb_mask (by omega) (by decide), show (7 : Int32) * nI k = nI (7 * k) from pk_mul 7 k, wb_shl _ (by omega), show gb D a % 2 ^ 7 = gb D a % 128 from rfl, g_or' (k := 7 * k) rfl hx (by omega)]
      have go : lnM (m_Mo_takeLength_60 N (nI e) g (tp_it7 (m_Mo_takeLength_10 N (nI e) g) n) (nI most) (nI bg) (lN x) (nI k) (lN (gb D a)) (nI (a + 1)) 0 fp) (if gb D a < 128 then lnE bg most (x + gb D a % 128 * 2 ^ (7 * k)) (a + 1) else lnf D e bg most d (k + 1) (x + gb D a % 128 * 2 ^ (7 * k)) (a + 1)) fp := by
        rw [m_Mo_takeLength_60, hy, tp_b0, show (128 : Int64) = lN 128 from rfl]
        by_cases c3 : gb D a < 128
        · rw [if_pos c3, if_neg (fun z => by have := (lgn_ge (by omega) (by omega)).mp z; omega)]
          exact tl93_ok hm (by omega) _ _
        · rw [if_neg c3, if_pos ((lgn_ge (by omega) (by omega)).mpr (by omega)), show nI k + (1 : Int32) = nI (k + 1) from nI_1 k]
          exact ih n (k + 1) _ (a + 1) (by omega) (by omega) (by omega) (by omega)
      rw [if_neg c, take1_in hN hD hDl he (by omega), tp_b4_s, show (0 : Int64) = lN 0 from rfl, if_pos ((lgn_ge (by omega) (by omega)).mpr (Nat.zero_le _)), show (15 : Int64) = lN 15 from rfl]
      by_cases c4 : k = 4
      · rw [if_pos (show nI k = (4 : Int32) by rw [c4]; rfl)]
        by_cases c5 : 15 < gb D a
        · rw [if_pos (show k = 4 ∧ 15 < gb D a from ⟨c4, c5⟩), if_neg (fun z => by have := (lgn_le (by omega) (by omega)).mp z; omega), mfails_0, tp_b3_s]
          exact ⟨_, _, rfl, Nat.le_of_ble_eq_true rfl, Nat.le_of_ble_eq_true rfl⟩
        · rw [if_neg (show ¬ (k = 4 ∧ 15 < gb D a) from fun z => c5 z.2), if_pos ((lgn_le (by omega) (by omega)).mpr (by omega))]
          exact go
      · rw [if_neg (show ¬ nI k = (4 : Int32) from fun z => c4 ((nI_eq (b := 4) (by omega) (by decide)).mp z)), if_neg (show ¬ (k = 4 ∧ 15 < gb D a) from fun z => c4 z.1)]
        exact go
-- ---- the block
def blM (X : Option (Int32 × Int32 × Int32 × Int32 × (Nat → Int32))) (s : Except (Nat × Nat) (List Nat)) : Prop :=
  match s with
  | .error x => ∃ (md a' : Int32) (t' : Nat → Int32), X = some (md, a', nI x.1, nI x.2, t') ∧ 1 ≤ x.1 ∧ x.1 ≤ 12
  | .ok T' => ∃ (a' fp : Int32) (t' : Nat → Int32), X = some (nI T'.length, a', (0 : Int32), fp, t') ∧ tp_Rw 20000 t' T'
theorem mbl_f {w p : Nat} (hw : 1 ≤ w) (hw2 : w ≤ 12) (n : Nat) (en x2 md at' : Int32) (x3 : Int64) (t : Nat → Int32) : blM (tp_it7 (m_Mo_takeBlock_11 N en g) (n + 1) x2 x3 md at' (nI w) (nI p) t) (.error (w, p)) := by
  show blM (m_Mo_takeBlock_11 N en g (tp_it7 (m_Mo_takeBlock_11 N en g) n) x2 x3 md at' (nI w) (nI p) t) _
  rw [m_Mo_takeBlock_11, if_neg (nI_ne0 hw (by omega)), m_Mo_takeBlock_84, if_neg (nI_ne0 hw (by omega))]
  exact ⟨md, at', t, rfl, hw, hw2⟩
theorem mbl_l (hN : 100000 ≤ N) (hD : tp_Rw 10000 g D) (hDl : D.length ≤ 10000) (he : e ≤ D.length) (h3 : tb + len ≤ 10000) (fp : Int32) : ∀ (k n a : Nat) (T : List Nat) (t : Nat → Int32), e - a < k → k + 1 < n → a ≤ e → tb ≤ T.length → T.length ≤ tb + len → tp_Rw 20000 t T → blM (tp_it7 (m_Mo_takeBlock_11 N (nI e) g) n (nI tb) (lN len) (nI T.length) (nI a) 0 fp t) (blf D e tb len k a T) := by
  intro k
  induction k with
  | zero => intro n a T t h; omega
  | succ k ih =>
    intro n a T t hk hn ha h1 h2 h
    obtain ⟨n, rfl⟩ : ∃ z, n = z + 1 := ⟨n - 1, by omega⟩
    show blM (m_Mo_takeBlock_11 N (nI e) g (tp_it7 (m_Mo_takeBlock_11 N (nI e) g) n) (nI tb) (lN len) (nI T.length) (nI a) 0 fp t) _
    rw [m_Mo_takeBlock_11, blf, if_pos rfl]
    by_cases c1 : e ≤ a
    · rw [if_pos c1, if_pos (nI_le c1 (by omega)), m_Mo_takeBlock_84, if_pos rfl, pk_sub h1, nI_l (by omega)]
      by_cases c : T.length - tb < len
      · rw [if_pos c, if_neg (fun z => by have := (lgn_ge (by omega) (by omega)).mp z; omega), mfails_0, tp_b3_s]
        exact ⟨_, _, t, rfl, Nat.le_of_ble_eq_true rfl, Nat.le_of_ble_eq_true rfl⟩
      · rw [if_neg c, if_pos ((lgn_ge (by omega) (by omega)).mpr (by omega))]
        exact ⟨_, _, t, rfl, h⟩
    · have hb : gb D a < 256 := rw_lt hD a
      rw [if_neg c1, if_neg (nI_ge (by omega) (by omega)), take1_in hN hD hDl he (by omega), tp_b4_s, lN_i, show nI (gb D a) - nI (gb D a) / (4 : Int32) * (4 : Int32) = nI (gb D a % 4) from pk_rem (d := 4) (by omega) (by decide) (by decide), show nI (gb D a) / (4 : Int32) = nI (gb D a / 4) from pk_div (d := 4) (by omega) (by decide) (by decide)]
      obtain ⟨n, rfl⟩ : ∃ z, n = z + 1 := ⟨n - 1, by omega⟩
      have go : ∀ X, elM X (elS D e tb len a T) fp → blM (tp_b5 X fun j_made_14 j_at_15 j_fault_16 j_fp_17 jm_f_18 => tp_it7 (m_Mo_takeBlock_11 N (nI e) g) (n + 1) (nI tb) (lN len) j_made_14 j_at_15 j_fault_16 j_fp_17 jm_f_18) (match elS D e tb len a T with
          | .error x => .error x
          | .ok x => blf D e tb len k x.1 x.2) := by
        intro X hE
        cases hx : elS D e tb len a T with
        | error x =>
          rw [hx] at hE
          obtain ⟨md, a', t', e1, w1, w2⟩ := hE
          rw [e1, tp_b5_s]
          exact mbl_f w1 w2 n _ _ _ _ _ _
        | ok x =>
          rw [hx] at hE
          have i1 := elS_in h1 hx
          obtain ⟨t', e1, h4⟩ := hE
          rw [e1, tp_b5_s]
          exact ih (n + 1) x.1 x.2 t' (by omega) (by omega) (by omega) (by omega) (by omega) h4
      by_cases k0 : gb D a % 4 = 0
      · rw [if_pos (show nI (gb D a % 4) = 0 by rw [k0]; rfl)]
        exact go _ (mlits_ok hN hD hDl he (by omega) h1 h2 h3 h fp k0)
      · rw [if_neg (nI_ne0 (by omega) (by omega))]
        exact go _ (mcopy_ok hN hD hDl he (by omega) h1 h2 h3 h fp k0)
theorem mrb_ok (hN : 100000 ≤ N) (hD : tp_Rw 10000 g D) (hDl : D.length ≤ 10000) (he : e ≤ D.length) {a most : Nat} {T : List Nat} {t : Nat → Int32} (ha : a ≤ e) (hm : T.length + most ≤ 10000) (h : tp_Rw 20000 t T) (fp : Int32) : blM (m_Mo_takeBlock N (nI most) (nI T.length) (nI a) (nI e) 0 fp g t) (rbS D a e most T) := by
  have hL := tl_l hN hD hDl he (most := most) (bg := a) (by omega) fp 5 N 0 0 a (by omega) (by omega) (by decide) ha
  unfold m_Mo_takeBlock rbS m_Mo_takeLength
  cases hx : lnf D e a most 5 0 0 a with
  | error x =>
    rw [hx] at hL
    obtain ⟨l', a', e1, w1, w2⟩ := hL
    obtain ⟨n, rfl⟩ : ∃ z, N = z + 1 := ⟨N - 1, by omega⟩
    rw [show tp_it7 (m_Mo_takeLength_10 (n + 1) (nI e) g) (n + 1) (nI most) (nI a) (0 : Int64) (0 : Int32) (nI a) (0 : Int32) fp = _ from e1, tp_b4_s]
    exact mbl_f w1 w2 n _ _ _ _ _ _
  | ok x =>
    rw [hx] at hL
    have i1 := lnf_in _ _ _ _ _ ha hx
    rw [show tp_it7 (m_Mo_takeLength_10 N (nI e) g) N (nI most) (nI a) (0 : Int64) (0 : Int32) (nI a) (0 : Int32) fp = _ from hL, tp_b4_s]
    exact mbl_l hN hD hDl he (by omega) fp (e - x.2 + 1) N x.2 T t (by omega) (by omega) (by omega) (Nat.le_refl _) (by omega) h
end
