/-! write and again, on both sides. -/
theorem lgc_le (x y : Int64) : lg_cmp x y ≤ 0 ↔ ¬ y < x := by
  unfold lg_cmp
  by_cases h1 : y < x
  · rw [if_pos h1]; exact ⟨fun h => absurd h (by decide), fun h => absurd h1 h⟩
  · rw [if_neg h1]
    by_cases h2 : x = y
    · rw [if_pos h2]; exact ⟨fun _ => h1, fun _ => by decide⟩
    · rw [if_neg h2]; exact ⟨fun _ => h1, fun _ => by decide⟩
theorem lgc_ge (x y : Int64) : 0 ≤ lg_cmp x y ↔ ¬ x < y := by
  unfold lg_cmp
  by_cases h1 : y < x
  · rw [if_pos h1]; exact ⟨fun _ h => absurd (Int64.lt_trans h h1) (Int64.lt_irrefl), fun _ => by decide⟩
  · rw [if_neg h1]
    by_cases h2 : x = y
    · rw [if_pos h2]; subst h2; exact ⟨fun _ => h1, fun _ => by decide⟩
    · rw [if_neg h2]; exact ⟨fun h => absurd h (by decide), fun h => absurd (Int64.le_antisymm (Int64.not_lt.mp h1) (Int64.not_lt.mp h)) h2⟩
theorem lgc_eq (x y : Int64) : lg_cmp x y = 0 ↔ x = y := by
  unfold lg_cmp
  by_cases h1 : y < x
  · rw [if_pos h1]; exact ⟨fun h => absurd h (by decide), fun h => absurd (h ▸ h1) Int64.lt_irrefl⟩
  · rw [if_neg h1]
    by_cases h2 : x = y
    · rw [if_pos h2]; exact ⟨fun _ => h2, fun _ => rfl⟩
    · rw [if_neg h2]; exact ⟨fun h => absurd h (by decide), fun h => absurd h h2⟩
theorem lgn_le {a b : Nat} (ha : a < 2 ^ 63) (hb : b < 2 ^ 63) : lg_cmp (lN a) (lN b) ≤ 0 ↔ a ≤ b := by
  rw [lgc_le, pk_lLT hb ha]; omega
theorem lgn_ge {a b : Nat} (ha : a < 2 ^ 63) (hb : b < 2 ^ 63) : 0 ≤ lg_cmp (lN a) (lN b) ↔ b ≤ a := by
  rw [lgc_ge, pk_lLT ha hb]; omega
theorem lgn_eq {a b : Nat} (ha : a < 2 ^ 63) (hb : b < 2 ^ 63) : lg_cmp (lN a) (lN b) = 0 ↔ a = b := by
  rw [lgc_eq, pk_lEQ ha hb]
/-- a written long -/
theorem ll (n : Nat) : (OfNat.ofNat n : Int64) = lN (OfNat.ofNat n) := id rfl
/-- the bytes that write takes -/
def wl (x : Int64) (i : Nat) : Nat → List Nat
  | 0 => []
  | d + 1 => tp_by (Int64.toInt32 (tp_lushr x ((56 : Int32) - ((8 : Int32) * nI i)))) :: wl x (i + 1) d
theorem wl_len (x : Int64) : ∀ (d i : Nat), (wl x i d).length = d := by
  intro d
  induction d with
  | zero => intro i; rfl
  | succ d ih => intro i; rw [wl, List.length_cons, ih]
theorem write_l {N : Nat} (x : Int64) {k : Nat} (hk : k < 100) : ∀ (d n i : Nat) (f : Nat → Int32) (L : List Nat), i + d = k → d < n → tp_Rw 10000 f L → tp_fitsB f → L.length + d ≤ 10000 → ∃ f', tp_it5 (m_TP_write_31 N) n x (nI k) (nI i) (nI L.length) f = some (1, nI (L ++ wl x i d).length, f') ∧ tp_Rw 10000 f' (L ++ wl x i d) ∧ tp_fitsB f' := by
  intro d
  induction d with
  | zero =>
    intro n i f L hi hn h hf hl
    obtain ⟨n, rfl⟩ : ∃ z, n = z + 1 := ⟨n - 1, by omega⟩
    show ∃ f', m_TP_write_31 N (tp_it5 (m_TP_write_31 N) n) x (nI k) (nI i) (nI L.length) f = _ ∧ _
    unfold m_TP_write_31
    rw [if_pos (nI_le (by omega) (by omega)), wl, List.append_nil]
    exact ⟨f, rfl, h, hf⟩
  | succ d ih =>
    intro n i f L hi hn h hf hl
    obtain ⟨n, rfl⟩ : ∃ z, n = z + 1 := ⟨n - 1, by omega⟩
    show ∃ f', m_TP_write_31 N (tp_it5 (m_TP_write_31 N) n) x (nI k) (nI i) (nI L.length) f = _ ∧ _
    unfold m_TP_write_31
    obtain ⟨f1, e1, h1, hf1⟩ := put_ok (Int64.toInt32 (tp_lushr x ((56 : Int32) - ((8 : Int32) * nI i)))) h hf (by omega)
    rw [if_neg (nI_ge (by omega) (by omega)), e1, tp_b2_s, show nI i + (1 : Int32) = nI (i + 1) from nI_1 i]
    obtain ⟨f2, e2, h2, hf2⟩ := ih n (i + 1) f1 _ (by omega) (by omega) h1 hf1 (by rw [List.length_append, List.length_singleton]; omega)
    rw [List.append_assoc] at e2 h2
    exact ⟨f2, e2, h2, hf2⟩
theorem mwrite_l {N : Nat} (x : Int64) {k : Nat} (hk : k < 100) : ∀ (d n i : Nat) (f : Nat → Int32) (L : List Nat), i + d = k → d < n → tp_Rw 10000 f L → L.length + d ≤ 10000 → ∃ f', tp_it5 (m_Mo_write_28 N) n x (nI k) (nI i) (nI L.length) f = some (1, nI (L ++ wl x i d).length, f') ∧ tp_Rw 10000 f' (L ++ wl x i d) := by
  intro d
  induction d with
  | zero =>
    intro n i f L hi hn h hl
    obtain ⟨n, rfl⟩ : ∃ z, n = z + 1 := ⟨n - 1, by omega⟩
    show ∃ f', m_Mo_write_28 N (tp_it5 (m_Mo_write_28 N) n) x (nI k) (nI i) (nI L.length) f = _ ∧ _
    unfold m_Mo_write_28
    rw [if_pos (nI_le (by omega) (by omega)), wl, List.append_nil]
    exact ⟨f, rfl, h⟩
  | succ d ih =>
    intro n i f L hi hn h hl
    obtain ⟨n, rfl⟩ : ∃ z, n = z + 1 := ⟨n - 1, by omega⟩
    show ∃ f', m_Mo_write_28 N (tp_it5 (m_Mo_write_28 N) n) x (nI k) (nI i) (nI L.length) f = _ ∧ _
    unfold m_Mo_write_28
    rw [if_neg (nI_ge (by omega) (by omega)), tp_gd_t (tp_inb_nI (by omega) (by decide)), nI_clamp (by omega), pk_vb, tp_by_sb, show nI i + (1 : Int32) = nI (i + 1) from nI_1 i, show nI L.length + (1 : Int32) = nI (L ++ [tp_by (Int64.toInt32 (tp_lushr x ((56 : Int32) - ((8 : Int32) * nI i))))]).length by rw [List.length_append, List.length_singleton]; exact nI_1 _]
    obtain ⟨f2, e2, h2⟩ := ih n (i + 1) _ _ (by omega) (by omega) (rw_put h (tp_by_lt _)) (by rw [List.length_append, List.length_singleton]; omega)
    rw [List.append_assoc] at e2 h2
    exact ⟨f2, e2, h2⟩
theorem op_write {N : Nat} (hN : 100000 ≤ N) (x1 : Int64) (x3 : Int32) {I : List Nat} {f g : Nat → Int32} (hl : I.length ≤ 10000) (h : tp_Rw 10000 f I) (hf : tp_fitsB f) (hg : tp_Rw 10000 g I) : ∃ (r : Int32) (I' : List Nat) (f' g' : Nat → Int32), m_TP_write N x1 x3 (nI I.length) f = some (r, nI I'.length, f') ∧ m_Mo_write N x1 x3 (nI I.length) g = some (r, nI I'.length, g') ∧ I'.length ≤ 10000 ∧ tp_Rw 10000 f' I' ∧ tp_fitsB f' ∧ tp_Rw 10000 g' I' := by
  unfold m_TP_write m_Mo_write
  by_cases c1 : x3 < 1
  · rw [if_pos c1, if_pos c1]
    exact ⟨0, I, f, g, rfl, rfl, hl, h, hf, hg⟩
  rw [if_neg c1, if_neg c1]
  by_cases c2 : (8 : Int32) < x3
  · rw [if_pos c2, if_pos c2]
    exact ⟨0, I, f, g, rfl, rfl, hl, h, hf, hg⟩
  rw [if_neg c2, if_neg c2]
  obtain ⟨k, hk, rfl⟩ : ∃ k : Nat, k ≤ 8 ∧ x3 = nI k := nI_of2 (M := 8) (by decide) (fun z => c1 (Int32.lt_trans z (by decide))) (Int32.not_lt.mp c2)
  rw [show (10000 : Int32) - nI I.length = nI (10000 - I.length) from pk_sub (a := 10000) hl, nI_add]
  by_cases c3 : I.length + k ≤ 10000
  · rw [if_pos (nI_le (by omega) (by omega)), if_pos (show nI (I.length + k) ≤ 10000 from nI_le (b := 10000) c3 (by decide))]
    obtain ⟨f', e1, h1, hf1⟩ := write_l (N := N) x1 (k := k) (by omega) k N 0 f I (by omega) (by omega) h hf c3
    obtain ⟨g', e2, h2⟩ := mwrite_l (N := N) x1 (k := k) (by omega) k N 0 g I (by omega) (by omega) hg c3
    exact ⟨1, _, f', g', e1, e2, by rw [List.length_append, wl_len]; omega, h1, hf1, h2⟩
  · rw [if_neg (nI_ge (by omega) (by omega)), if_neg (show ¬ nI (I.length + k) ≤ 10000 from nI_ge (a := 10000) (by omega) (by omega))]
    exact ⟨0, I, f, g, rfl, rfl, hl, h, hf, hg⟩
theorem magain_l {N : Nat} {m k : Nat} (hm : 1 ≤ m) (hk : k < 2 ^ 30) : ∀ (d n i : Nat) (f : Nat → Int32) (L : List Nat), i + d = k → d < n → m ≤ L.length → tp_Rw 10000 f L → L.length + d ≤ 10000 → ∃ f', tp_it5 (m_Mo_again_44 N) n (nI m) (nI k) (nI i) (nI L.length) f = some (1, nI (bk L m d).length, f') ∧ tp_Rw 10000 f' (bk L m d) := by
  intro d
  induction d with
  | zero =>
    intro n i f L hi hn hmL h hl
    obtain ⟨n, rfl⟩ : ∃ z, n = z + 1 := ⟨n - 1, by omega⟩
    show ∃ f', m_Mo_again_44 N (tp_it5 (m_Mo_again_44 N) n) (nI m) (nI k) (nI i) (nI L.length) f = _ ∧ _
    unfold m_Mo_again_44
    rw [if_pos (nI_le (by omega) (by omega)), bk]
    exact ⟨f, rfl, h⟩
  | succ d ih =>
    intro n i f L hi hn hmL h hl
    obtain ⟨n, rfl⟩ : ∃ z, n = z + 1 := ⟨n - 1, by omega⟩
    show ∃ f', m_Mo_again_44 N (tp_it5 (m_Mo_again_44 N) n) (nI m) (nI k) (nI i) (nI L.length) f = _ ∧ _
    unfold m_Mo_again_44
    rw [if_neg (nI_ge (by omega) (by omega)), pk_sub hmL, tp_gd_t (tp_inb_nI (by omega) (by decide)), tp_gd_t (tp_inb_nI (by omega) (by decide)), nI_clamp (by omega), nI_clamp (by omega), h.1 _ (by omega) (by omega), show vp_nar .byte (sb_b (L.getD (L.length - m) 0)) = sb_b (L.getD (L.length - m) 0) from pk_vb _, show nI i + (1 : Int32) = nI (i + 1) from nI_1 i, show nI L.length + (1 : Int32) = nI (L ++ [L.getD (L.length - m) 0]).length by rw [List.length_append, List.length_singleton]; exact nI_1 _]
    exact ih n (i + 1) _ _ (by omega) (by omega) (by rw [List.length_append, List.length_singleton]; omega) (rw_put h (rw_lt h _)) (by rw [List.length_append, List.length_singleton]; omega)
theorem op_again {N : Nat} (hN : 100000 ≤ N) (x1 x2 : Int32) {I : List Nat} {f g : Nat → Int32} (hl : I.length ≤ 10000) (h : tp_Rw 10000 f I) (hf : tp_fitsB f) (hg : tp_Rw 10000 g I) : ∃ (r : Int32) (I' : List Nat) (f' g' : Nat → Int32), m_TP_again N x1 x2 (nI I.length) f = some (r, nI I'.length, f') ∧ m_Mo_again N x1 x2 (nI I.length) g = some (r, nI I'.length, g') ∧ I'.length ≤ 10000 ∧ tp_Rw 10000 f' I' ∧ tp_fitsB f' ∧ tp_Rw 10000 g' I' := by
  unfold m_TP_again m_Mo_again
  by_cases c1 : x1 < 1
  · rw [if_pos c1, if_pos c1]
    exact ⟨0, I, f, g, rfl, rfl, hl, h, hf, hg⟩
  rw [if_neg c1, if_neg c1]
  by_cases c2 : nI I.length < x1
  · rw [if_pos c2, if_pos c2]
    exact ⟨0, I, f, g, rfl, rfl, hl, h, hf, hg⟩
  rw [if_neg c2, if_neg c2]
  by_cases c3 : x2 < 0
  · rw [if_pos c3, if_pos c3]
    exact ⟨0, I, f, g, rfl, rfl, hl, h, hf, hg⟩
  rw [if_neg c3, if_neg c3]
  obtain ⟨m, hm, rfl⟩ : ∃ m : Nat, m ≤ I.length ∧ x1 = nI m := nI_of2 (M := nI I.length) (nI_toInt (by omega)) (fun z => c1 (Int32.lt_trans z (by decide))) (Int32.not_lt.mp c2)
  obtain ⟨q, hq, rfl⟩ := nI_of c3
  have hm1 : 1 ≤ m := by
    rcases Nat.eq_zero_or_pos m with z | z
    · subst z; exact absurd (by decide) c1
    · exact z
  have hmq : m * q < 2 ^ 62 := Nat.lt_of_le_of_lt (Nat.mul_le_mul (Nat.le_trans hm hl) (Nat.le_of_lt hq)) (by decide)
  rw [nI_l (by omega), nI_l hq, nI_l (by omega), lN_mul, show (10000 : Int32) - nI I.length = nI (10000 - I.length) from pk_sub (a := 10000) hl, nI_l (by omega), lN_add, show (10000 : Int64) = lN 10000 from rfl, pk_mul]
  by_cases c4 : I.length + m * q ≤ 10000
  · rw [if_pos ((lgn_le (by omega) (by omega)).mpr (by omega)), if_pos ((lgn_le (by omega) (by omega)).mpr c4)]
    obtain ⟨f', e1, h1, hf1⟩ := putBack_ok hN hm1 hm h hf c4
    obtain ⟨g', e2, h2⟩ := magain_l (N := N) hm1 (k := m * q) (by omega) (m * q) N 0 g I (by omega) (by omega) hm hg c4
    rw [e1, tp_b2_s]
    exact ⟨1, _, f', g', rfl, e2, by rw [bk_len]; exact c4, h1, hf1, h2⟩
  · rw [if_neg (fun z => c4 (by have := (lgn_le (by omega) (by omega)).mp z; omega)), if_neg (fun z => c4 ((lgn_le (by omega) (by omega)).mp z))]
    exact ⟨0, I, f, g, rfl, rfl, hl, h, hf, hg⟩
