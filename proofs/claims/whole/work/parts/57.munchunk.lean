/-! unpack and unchunk of the reference. -/
theorem or32 {a b k : Nat} (ha : a < 2 ^ k) (h : a + b * 2 ^ k < 2 ^ 32) : nI a ||| nI (b * 2 ^ k) = nI (a + b * 2 ^ k) := by
  have h1 : a ||| b * 2 ^ k = a + b * 2 ^ k := by
    rw [Nat.or_comm, Nat.add_comm, ← Nat.shiftLeft_eq, Nat.shiftLeft_add_eq_or_of_lt ha]
  apply Int32.toBitVec_inj.mp
  apply BitVec.eq_of_toNat_eq
  rw [Int32.toBitVec_or, BitVec.toNat_or, pk_tn (by omega), pk_tn (by omega), pk_tn h, h1]
def usM (D O : List Nat) (X : Option (Int32 × Int32 × Int32 × Int32 × Int32 × Int32 × Int32 × Int32 × (Nat → Int32) × (Nat → Int32))) (s : Except (Nat × Nat) (List Nat)) : Prop :=
  ∃ (md a' en f fp : Int32) (jo jm : Nat → Int32), X = some (rdR s, nI (rdO O s).length, md, rdP D s, a', en, f, fp, jo, jm) ∧ tp_Rw 10000 jo (rdO O s)
section
variable {N : Nat} {D O : List Nat} {g jo : Nat → Int32}
theorem mend_er (ho : tp_Rw 10000 jo O) {w p : Nat} (hw : 1 ≤ w) (hw2 : w ≤ 12) (md told a' en : Int32) (jm : Nat → Int32) : usM D O (tp_b4 (m_Mo_endReading N (nI D.length) (nI O.length) md told (nI w) (nI p) jo jm) fun r14 j_out_15 j_told_16 jo_f_17 => some (r14, j_out_15, md, j_told_16, a', en, nI w, nI p, jo_f_17, jm)) (.error (w, p)) := by
  unfold m_Mo_endReading m_Mo_endReading_19
  rw [if_neg (nI_ne0 hw (by omega)), if_neg (nI_ne0 hw (by omega)), tp_b4_s]
  exact ⟨md, a', en, _, _, jo, jm, rfl, ho⟩
theorem mend_ok (hN : 100000 ≤ N) {T : List Nat} {t : Nat → Int32} (h : tp_Rw 20000 t T) (hl : T.length ≤ 10000) (told a' en fp : Int32) : usM D O (tp_b4 (m_Mo_endReading N (nI D.length) (nI O.length) (nI T.length) told 0 fp jo t) fun r14 j_out_15 j_told_16 jo_f_17 => some (r14, j_out_15, nI T.length, j_told_16, a', en, 0, fp, jo_f_17, t)) (.ok T) := by
  obtain ⟨o', e, h1⟩ := msettle_ok hN (f := jo) h hl (nI O.length)
  unfold m_Mo_endReading m_Mo_endReading_19
  rw [if_pos rfl, if_pos rfl, e, tp_b3_s, tp_b4_s]
  exact ⟨_, a', en, 0, fp, o', t, rfl, h1⟩
theorem mup_ok (hN : 100000 ≤ N) (hD : tp_Rw 10000 g D) (hDl : D.length ≤ 10000) (ho : tp_Rw 10000 jo O) {most : Nat} (hm : most ≤ 10000) (md told a' en f fp : Int32) (t : Nat → Int32) : usM D O (m_Mo_unpack N (nI most) (nI D.length) (nI O.length) md told a' en f fp g jo t) (rbS D 0 D.length most []) := by
  have hB := mrb_ok hN hD hDl (Nat.le_refl _) (a := 0) (most := most) (Nat.zero_le _) (show ([] : List Nat).length + most ≤ 10000 by rw [List.length_nil]; omega) (rw_nil 20000 t) fp
  unfold m_Mo_unpack m_Mo_beginReading
  rw [if_neg (show ¬ nI most < 0 from nI_pos (by omega)), if_pos (show nI most ≤ (10000 : Int32) from nI_le (b := 10000) hm (by decide)), tp_b4_s]
  cases hr : rbS D 0 D.length most [] with
  | error x =>
    rw [hr] at hB
    obtain ⟨md', a2, t', e1, w1, w2⟩ := hB
    rw [show m_Mo_takeBlock N (nI most) 0 0 (nI D.length) 0 fp g t = _ from e1, tp_b5_s]
    exact mend_er ho w1 w2 _ _ _ _ _
  | ok T' =>
    rw [hr] at hB
    have j := rbS_in (Nat.zero_le _) hr
    have hl : T'.length ≤ 10000 := by rw [List.length_nil] at j; omega
    obtain ⟨a2, fp', t', e1, h4⟩ := hB
    rw [show m_Mo_takeBlock N (nI most) 0 0 (nI D.length) 0 fp g t = _ from e1, tp_b5_s]
    exact mend_ok hN h4 hl _ _ _ _
theorem byteOf_ok (hD : tp_Rw 10000 g D) (hDl : D.length ≤ 10000) {k : Nat} (hk : k < D.length) : m_Mo_byteOf (nI k) g = some (nI (gb D k)) := by
  unfold m_Mo_byteOf
  rw [tp_gd_t (tp_inb_nI (by omega) (by decide)), nI_clamp (by omega), hD.1 k hk (by omega), (sb_byte _ (rw_lt hD k)).1]
theorem nvA_3 {a : Nat} (h : a + 3 ≤ D.length) : nvA D a 3 = gb D a + 256 * gb D (a + 1) + 65536 * gb D (a + 2) := by
  rw [nvA, nvA, nvA, nvA, bA_in (by omega), bA_in (by omega), bA_in (by omega), Nat.add_zero]
  omega
theorem nvA_4 {a : Nat} (h : a + 4 ≤ D.length) : nvA D a 4 = gb D a + gb D (a + 1) * 2 ^ 8 + gb D (a + 2) * 2 ^ 16 + gb D (a + 3) * 2 ^ 24 := by
  rw [nvA, nvA, nvA, nvA, nvA, bA_in (by omega), bA_in (by omega), bA_in (by omega), bA_in (by omega), Nat.add_zero]
  omega
theorem sz_ok {a : Nat} (h : a + 4 ≤ D.length) : (nI (gb D (a + 1)) + (256 : Int32) * nI (gb D (a + 2))) + (65536 : Int32) * nI (gb D (a + 3)) = nI (nvA D (a + 1) 3) := by
  rw [show (256 : Int32) * nI (gb D (a + 2)) = nI (256 * gb D (a + 2)) from pk_mul 256 _, show (65536 : Int32) * nI (gb D (a + 3)) = nI (65536 * gb D (a + 3)) from pk_mul 65536 _, nI_add, nI_add, nvA_3 (by omega)]
theorem wnt (hD : tp_Rw 10000 g D) {a : Nat} (h : a + 8 ≤ D.length) : ((nI (gb D (a + 4)) ||| (nI (gb D (a + 5)) <<< ((8 : Int32) &&& 31))) ||| (nI (gb D (a + 6)) <<< ((16 : Int32) &&& 31))) ||| (nI (gb D (a + 7)) <<< ((24 : Int32) &&& 31)) = nI (nvA D (a + 4) 4) := by
  have b4 : gb D (a + 4) < 256 := rw_lt hD _
  have b5 : gb D (a + 5) < 256 := rw_lt hD _
  have b6 : gb D (a + 6) < 256 := rw_lt hD _
  have b7 : gb D (a + 7) < 256 := rw_lt hD _
  rw [pk_shlN _ 8 (by decide) (by omega), pk_shlN _ 16 (by decide) (by omega), pk_shlN _ 24 (by decide) (by omega), or32 (by omega) (by omega), or32 (by omega) (by omega), or32 (by omega) (by omega), nvA_4 (by omega)]
theorem omk_l (hD : tp_Rw 10000 g D) (hDl : D.length ≤ 10000) {a : Nat} (hb : a + 4 + 6 ≤ D.length) (en fp : Int32) : ∀ (d n i : Nat), i + d = 6 → d + 1 < n → tp_it6 (m_Mo_orderly_145 N (nI D.length) g) n (nI a) 1 (nI i) en 0 fp = if mkb D (a + 4) i d = true then some (1, en, 0, fp) else some (0, en, 8, nI a) := by
  intro d
  induction d with
  | zero =>
    intro n i hi hn
    obtain ⟨n, rfl⟩ : ∃ z, n = z + 1 := ⟨n - 1, by omega⟩
    show m_Mo_orderly_145 N (nI D.length) g (tp_it6 (m_Mo_orderly_145 N (nI D.length) g) n) (nI a) 1 (nI i) en 0 fp = _
    rw [m_Mo_orderly_145, if_pos (show (6 : Int32) ≤ nI i from nI_le (a := 6) (by omega) (by omega)), m_Mo_orderly_188, if_neg (by decide), mkb, if_pos rfl]
  | succ d ih =>
    intro n i hi hn
    obtain ⟨n, rfl⟩ : ∃ z, n = z + 1 := ⟨n - 1, by omega⟩
    show m_Mo_orderly_145 N (nI D.length) g (tp_it6 (m_Mo_orderly_145 N (nI D.length) g) n) (nI a) 1 (nI i) en 0 fp = _
    rw [m_Mo_orderly_145, if_neg (show ¬ (6 : Int32) ≤ nI i from nI_ge (b := 6) (by omega) (by decide)), if_neg (by decide), show nI a + (4 : Int32) = nI (a + 4) from nI_add a 4, nI_add, byteOf_ok hD hDl (by omega), tp_b1_s, mmark i (by omega), tp_b1_s, show nI i + (1 : Int32) = nI (i + 1) from nI_1 i, mkb]
    by_cases c : nI (gb D (a + 4 + i)) = tp_mark i
    · rw [if_pos c, if_pos c]
      exact ih n (i + 1) (by omega) (by omega)
    · rw [if_neg c, if_neg c, if_neg (by decide)]
      obtain ⟨n, rfl⟩ : ∃ z, n = z + 1 := ⟨n - 1, by omega⟩
      show m_Mo_orderly_145 N (nI D.length) g (tp_it6 (m_Mo_orderly_145 N (nI D.length) g) n) (nI a) 0 (nI (i + 1)) en 0 fp = _
      have h188 : m_Mo_orderly_188 N (nI D.length) g (nI a) 0 en 0 fp = some (0, en, 8, nI a) := by
        unfold m_Mo_orderly_188
        rw [if_pos rfl, mfails_0, tp_b3_s, if_pos rfl]
      rw [m_Mo_orderly_145]
      split
      · exact h188
      · rw [if_pos rfl]; exact h188
theorem or_19 {a : Nat} (ha : a < 2 ^ 30) (hk : gb D a < 256) (c1 : ¬ (a = 0 ∧ ¬ gb D a = 255)) (en fp : Int32) : m_Mo_orderly N (nI a) (nI (gb D a)) (nI D.length) en 0 fp g = m_Mo_orderly_19 N (nI D.length) g (nI a) (nI (gb D a)) en 0 fp := by
  unfold m_Mo_orderly
  by_cases z : a = 0
  · rw [if_pos (show nI a = 0 by rw [z]; rfl), if_pos (show nI (gb D a) = 255 by rw [show gb D a = 255 by omega]; rfl)]
  · rw [if_neg (nI_ne0 (by omega) (by omega))]
theorem or_38 {a : Nat} (hk : gb D a < 256) (c2 : ¬ (2 ≤ gb D a ∧ gb D a ≤ 127)) (en fp : Int32) : m_Mo_orderly_19 N (nI D.length) g (nI a) (nI (gb D a)) en 0 fp = m_Mo_orderly_38 N (nI D.length) g (nI a) (nI (gb D a)) en 0 fp := by
  unfold m_Mo_orderly_19
  by_cases z : gb D a < 2
  · rw [if_pos (show nI (gb D a) < (2 : Int32) from nI_lt (b := 2) z (by decide))]
  · rw [if_neg (show ¬ nI (gb D a) < (2 : Int32) from nI_nlt (b := 2) (by omega) (by omega)), if_pos (show (127 : Int32) < nI (gb D a) from nI_lt (a := 127) (by omega) (by omega))]
theorem or_head (hD : tp_Rw 10000 g D) (hDl : D.length ≤ 10000) {a : Nat} (h : a + 4 ≤ D.length) (en fp : Int32) : m_Mo_orderly_38 N (nI D.length) g (nI a) (nI (gb D a)) en 0 fp = (if nI (a + 4 + nvA D (a + 1) 3) ≤ nI D.length then
      (if nI (gb D a) = (255 : Int32) then
        (if nI (nvA D (a + 1) 3) = (6 : Int32) then
          tp_it6 (m_Mo_orderly_145 N (nI D.length) g) N (nI a) (1 : Int32) (0 : Int32) (nI (a + 4 + nvA D (a + 1) 3)) 0 fp
        else
          tp_it6 (m_Mo_orderly_145 N (nI D.length) g) N (nI a) (0 : Int32) (0 : Int32) (nI (a + 4 + nvA D (a + 1) 3)) 0 fp)
      else
        if (1 : Int32) < nI (gb D a) then
          m_Mo_orderly_219 N (nI D.length) g (nI a) (nI (gb D a)) (nI (nvA D (a + 1) 3)) (nI (a + 4 + nvA D (a + 1) 3)) 0 fp
        else
          if nI (nvA D (a + 1) 3) < (4 : Int32) then
            m_Mo_orderly_230 N (nI D.length) g (nI a) (nI (a + 4 + nvA D (a + 1) 3)) 0 fp
          else
            m_Mo_orderly_219 N (nI D.length) g (nI a) (nI (gb D a)) (nI (nvA D (a + 1) 3)) (nI (a + 4 + nvA D (a + 1) 3)) 0 fp)
    else some (0, en, 7, nI D.length)) := by
  unfold m_Mo_orderly_38
  rw [show nI a + (4 : Int32) = nI (a + 4) from nI_add a 4, if_pos (nI_le h (by omega)), show nI a + (1 : Int32) = nI (a + 1) from nI_add a 1, byteOf_ok hD hDl (by omega), tp_b1_s, show nI a + (2 : Int32) = nI (a + 2) from nI_add a 2, byteOf_ok hD hDl (by omega), tp_b1_s, show nI a + (3 : Int32) = nI (a + 3) from nI_add a 3, byteOf_ok hD hDl (by omega), tp_b1_s, sz_ok h, tp_b0, nI_add, mfails_0, tp_b3_s, tp_gd_t (by decide)]
  rfl
theorem or_er (hD : tp_Rw 10000 g D) (hDl : D.length ≤ 10000) {a : Nat} (ha : a < D.length) {x : Nat × Nat} (hx : hdS D a = some x) (en fp : Int32) : ∃ en', m_Mo_orderly N (nI a) (nI (gb D a)) (nI D.length) en 0 fp g = some (0, en', nI x.1, nI x.2) := by
  have hk : gb D a < 256 := rw_lt hD a
  have hs : nvA D (a + 1) 3 < 2 ^ 24 := nvA_lt hD (a + 1) 3
  unfold hdS at hx
  by_cases c1 : a = 0 ∧ ¬ gb D a = 255
  · rw [if_pos c1] at hx
    cases hx
    unfold m_Mo_orderly
    rw [if_pos (show nI a = 0 by rw [c1.1]; rfl), if_neg (show ¬ nI (gb D a) = (255 : Int32) from fun z => c1.2 ((nI_eq (b := 255) (by omega) (by decide)).mp z)), mfails_0, tp_b3_s, tp_gd_t (by decide)]
    exact ⟨en, rfl⟩
  rw [if_neg c1] at hx
  rw [or_19 (by omega) hk c1]
  by_cases c2 : 2 ≤ gb D a ∧ gb D a ≤ 127
  · rw [if_pos c2] at hx
    cases hx
    unfold m_Mo_orderly_19
    rw [if_neg (show ¬ nI (gb D a) < (2 : Int32) from nI_nlt (b := 2) (by omega) (by omega)), if_neg (show ¬ (127 : Int32) < nI (gb D a) from nI_nlt (a := 127) (by omega) (by decide)), mfails_0, tp_b3_s, tp_gd_t (by decide)]
    exact ⟨en, rfl⟩
  rw [if_neg c2] at hx
  rw [or_38 hk c2]
  by_cases c3 : D.length < a + 4 + nvA D (a + 1) 3
  · rw [if_pos c3] at hx
    cases hx
    by_cases z : a + 4 ≤ D.length
    · rw [or_head hD hDl z, if_neg (nI_ge c3 (by omega))]
      exact ⟨en, rfl⟩
    · unfold m_Mo_orderly_38
      rw [show nI a + (4 : Int32) = nI (a + 4) from nI_add a 4, if_neg (nI_ge (by omega) (by omega)), mfails_0, tp_b3_s, tp_gd_t (by decide)]
      exact ⟨en, rfl⟩
  rw [if_neg c3] at hx
  by_cases c4 : gb D a ≤ 1 ∧ nvA D (a + 1) 3 < 4
  · rw [if_pos c4] at hx
    cases hx
    rw [or_head hD hDl (by omega), if_pos (nI_le (by omega) (by omega)), if_neg (show ¬ nI (gb D a) = (255 : Int32) from fun z => by have := (nI_eq (b := 255) (by omega) (by decide)).mp z; omega), if_neg (show ¬ (1 : Int32) < nI (gb D a) from nI_nlt (a := 1) (by omega) (by decide)), if_pos (show nI (nvA D (a + 1) 3) < (4 : Int32) from nI_lt (b := 4) c4.2 (by decide))]
    unfold m_Mo_orderly_230 m_Mo_orderly_235
    rw [if_neg (by decide), mfails_0, tp_b3_s, if_pos rfl]
    exact ⟨_, rfl⟩
  · rw [if_neg c4] at hx
    cases hx
theorem or_ok (hN : 100000 ≤ N) (hD : tp_Rw 10000 g D) (hDl : D.length ≤ 10000) {a : Nat} (hx : hdS D a = none) (en fp : Int32) : m_Mo_orderly N (nI a) (nI (gb D a)) (nI D.length) en 0 fp g = if gb D a = 255 ∧ ¬ (nvA D (a + 1) 3 = 6 ∧ mkb D (a + 4) 0 6 = true) then some (0, nI (a + 4 + nvA D (a + 1) 3), 8, nI a) else some (1, nI (a + 4 + nvA D (a + 1) 3), 0, fp) := by
  have hk : gb D a < 256 := rw_lt hD a
  have i := hdS_in hx
  have c1 : ¬ (a = 0 ∧ ¬ gb D a = 255) := fun z => by
    unfold hdS at hx
    rw [if_pos z] at hx
    cases hx
  rw [or_19 (by omega) hk c1, or_38 hk (by omega), or_head hD hDl (by omega), if_pos (nI_le i.1 (by omega))]
  have h234 : m_Mo_orderly_234 N (nI D.length) g (nI a) (nI (a + 4 + nvA D (a + 1) 3)) 0 fp = some (1, nI (a + 4 + nvA D (a + 1) 3), 0, fp) := by
    unfold m_Mo_orderly_234 m_Mo_orderly_235
    rw [if_pos rfl]
  have h219 : m_Mo_orderly_219 N (nI D.length) g (nI a) (nI (gb D a)) (nI (nvA D (a + 1) 3)) (nI (a + 4 + nvA D (a + 1) 3)) 0 fp = some (1, nI (a + 4 + nvA D (a + 1) 3), 0, fp) := by
    unfold m_Mo_orderly_219
    rw [if_pos (show nI (nvA D (a + 1) 3) ≤ (65540 : Int32) from nI_le (b := 65540) (by omega) (by decide)), h234]
    split <;> rfl
  by_cases k255 : gb D a = 255
  · rw [if_pos (show nI (gb D a) = 255 by rw [k255]; rfl)]
    by_cases c : nvA D (a + 1) 3 = 6
    · rw [if_pos (show nI (nvA D (a + 1) 3) = 6 by rw [c]; rfl)]
      refine (omk_l hD hDl (by omega) _ fp 6 N 0 (by omega) (by omega)).trans ?_
      by_cases z : mkb D (a + 4) 0 6 = true
      · rw [if_pos z, if_neg (fun y => y.2 ⟨c, z⟩)]
      · rw [if_neg z, if_pos ⟨k255, fun y => z y.2⟩]
    · rw [if_neg (show ¬ nI (nvA D (a + 1) 3) = (6 : Int32) from fun z => c ((nI_eq (b := 6) (by omega) (by decide)).mp z)), if_pos ⟨k255, fun y => c y.1⟩]
      obtain ⟨n, rfl⟩ : ∃ z, N = z + 1 := ⟨N - 1, by omega⟩
      show m_Mo_orderly_145 (n + 1) (nI D.length) g (tp_it6 (m_Mo_orderly_145 (n + 1) (nI D.length) g) n) (nI a) 0 0 (nI (a + 4 + nvA D (a + 1) 3)) 0 fp = _
      rw [m_Mo_orderly_145, if_neg (by decide), if_pos rfl, m_Mo_orderly_188, if_pos rfl, mfails_0, tp_b3_s, if_pos rfl]
  · rw [if_neg (show ¬ nI (gb D a) = (255 : Int32) from fun z => k255 ((nI_eq (b := 255) (by omega) (by decide)).mp z)), if_neg (show ¬ (gb D a = 255 ∧ ¬ (nvA D (a + 1) 3 = 6 ∧ mkb D (a + 4) 0 6 = true)) from fun y => k255 y.1), h219]
    by_cases z : 1 < gb D a
    · rw [if_pos (show (1 : Int32) < nI (gb D a) from nI_lt (a := 1) z (by omega))]
    · have s4 := i.2.1 (by omega)
      rw [if_neg (show ¬ (1 : Int32) < nI (gb D a) from nI_nlt (a := 1) (by omega) (by decide)), if_neg (show ¬ nI (nvA D (a + 1) 3) < (4 : Int32) from nI_nlt (b := 4) s4 (by omega))]
-- ---- the chunk's data
def chM (X : Option (Int32 × Int32 × Int32 × Int32 × (Nat → Int32))) (s : Except (Nat × Nat) (Nat × List Nat)) : Prop :=
  match s with
  | .error x => ∃ (md a' : Int32) (t' : Nat → Int32), X = some (md, a', nI x.1, nI x.2, t') ∧ 1 ≤ x.1 ∧ x.1 ≤ 12
  | .ok x => ∃ (a' fp : Int32) (t' : Nat → Int32), X = some (nI x.2.length, a', (0 : Int32), fp, t') ∧ tp_Rw 20000 t' x.2
theorem tc127_f {w p : Nat} (hw : 1 ≤ w) (hw2 : w ≤ 12) (en x1 x4 md a' : Int32) (t : Nat → Int32) : chM (m_Mo_takeChunk_127 N en g x1 x4 md a' (nI w) (nI p) t) (.error (w, p)) := by
  unfold m_Mo_takeChunk_127
  rw [if_neg (nI_ne0 hw (by omega))]
  exact ⟨md, a', t, rfl, hw, hw2⟩
theorem tc127_1 (hN : 100000 ≤ N) (hD : tp_Rw 10000 g D) (hDl : D.length ≤ 10000) {a : Nat} (ha : a + 8 ≤ D.length) {T T' : List Nat} {t : Nat → Int32} (h1 : T.length ≤ T'.length) (h2 : T'.length ≤ 10000) (h : tp_Rw 20000 t T') (en a' fp : Int32) : m_Mo_takeChunk_127 N en g (nI a) (nI T.length) (nI T'.length) a' 0 fp t = if smS T' T.length (T'.length - T.length) = nI (nvA D (a + 4) 4) then some (nI T'.length, a', 0, fp, t) else some (nI T'.length, a', 11, nI (a + 4), t) := by
  unfold m_Mo_takeChunk_127
  rw [if_pos rfl, show nI a + (4 : Int32) = nI (a + 4) from nI_add a 4, show nI a + (5 : Int32) = nI (a + 5) from nI_add a 5, show nI a + (6 : Int32) = nI (a + 6) from nI_add a 6, show nI a + (7 : Int32) = nI (a + 7) from nI_add a 7, byteOf_ok hD hDl (by omega), tp_b1_s, byteOf_ok hD hDl (by omega), tp_b1_s, byteOf_ok hD hDl (by omega), tp_b1_s, byteOf_ok hD hDl (by omega), tp_b1_s, wnt hD ha, tp_b0, msumOf_ok hN h (by decide) h1 (Nat.le_refl _) (by omega) (by omega), tp_b1_s, mfails_0, tp_b3_s]
theorem tc127_ok (hN : 100000 ≤ N) (hD : tp_Rw 10000 g D) (hDl : D.length ≤ 10000) {a : Nat} (ha : a + 8 ≤ D.length) {T T' : List Nat} {t : Nat → Int32} (h1 : T.length ≤ T'.length) (h2 : T'.length ≤ 10000) (h : tp_Rw 20000 t T') (en a' fp : Int32) : chM (m_Mo_takeChunk_127 N en g (nI a) (nI T.length) (nI T'.length) a' 0 fp t) (smC D a T T') := by
  have e1 := tc127_1 hN hD hDl ha h1 h2 h en a' fp
  refine (Classical.em (smS T' T.length (T'.length - T.length) = nI (nvA D (a + 4) 4))).elim (fun c => ?_) (fun c => ?_)
  · rw [if_pos c] at e1
    have e2 : smC D a T T' = .ok (a + 4 + nvA D (a + 1) 3, T') := if_pos c
    rw [e1, e2]
    exact ⟨a', fp, t, rfl, h⟩
  · rw [if_neg c] at e1
    have e2 : smC D a T T' = .error (11, a + 4) := if_neg c
    rw [e1, e2]
    exact ⟨_, a', t, rfl, Nat.le_of_ble_eq_true rfl, Nat.le_of_ble_eq_true rfl⟩
theorem tc101_l (hD : tp_Rw 10000 g D) (hDl : D.length ≤ 10000) {e : Nat} (he : e ≤ D.length) (x1 x4 a' fp : Int32) : ∀ (d n b : Nat) (L : List Nat) (t : Nat → Int32), b + d = e → d < n → L.length + d ≤ 20000 → tp_Rw 20000 t L → ∃ t', tp_it8 (m_Mo_takeChunk_101 N (nI e) g) n x1 x4 (nI b) (nI L.length) a' 0 fp t = m_Mo_takeChunk_127 N (nI e) g x1 x4 (nI (L ++ sl D b d).length) a' 0 fp t' ∧ tp_Rw 20000 t' (L ++ sl D b d) := by
  intro d
  induction d with
  | zero =>
    intro n b L t hi hn hl h
    obtain ⟨n, rfl⟩ : ∃ z, n = z + 1 := ⟨n - 1, by omega⟩
    show ∃ t', m_Mo_takeChunk_101 N (nI e) g (tp_it8 (m_Mo_takeChunk_101 N (nI e) g) n) x1 x4 (nI b) (nI L.length) a' 0 fp t = _ ∧ _
    rw [m_Mo_takeChunk_101, if_pos (nI_le (by omega) (by omega)), sl, List.append_nil]
    exact ⟨t, rfl, h⟩
  | succ d ih =>
    intro n b L t hi hn hl h
    obtain ⟨n, rfl⟩ : ∃ z, n = z + 1 := ⟨n - 1, by omega⟩
    show ∃ t', m_Mo_takeChunk_101 N (nI e) g (tp_it8 (m_Mo_takeChunk_101 N (nI e) g) n) x1 x4 (nI b) (nI L.length) a' 0 fp t = _ ∧ _
    obtain ⟨t1, e1, h1⟩ := mput_ok (sb_b (D.getD b 0)) h (by omega)
    rw [tp_by_b _ (rw_lt hD _)] at e1 h1
    rw [m_Mo_takeChunk_101, if_neg (nI_ge (by omega) (by omega)), tp_gd_t (tp_inb_nI (by omega) (by decide)), nI_clamp (by omega), hD.1 b (by omega) (by omega), e1, tp_b2_s, show nI b + (1 : Int32) = nI (b + 1) from nI_1 b]
    obtain ⟨t2, e2, h2⟩ := ih n (b + 1) _ t1 (by omega) (by omega) (by rw [List.length_append, List.length_singleton]; omega) h1
    rw [List.append_assoc] at e2 h2
    exact ⟨t2, e2, h2⟩
/-- what a chunk that is in order adds -/
noncomputable def dtS (D : List Nat) (most a : Nat) (T : List Nat) : Except (Nat × Nat) (Nat × List Nat) :=
  if gb D a = 0 then (match rbS D (a + 4 + 4) (a + 4 + nvA D (a + 1) 3) (most - T.length) T with
    | .error x => .error (e12 x)
    | .ok T' => smC D a T T')
  else if gb D a = 1 then (if most - T.length < nvA D (a + 1) 3 - 4 then .error (3, a + 4 + 4 + (most - T.length)) else smC D a T (T ++ sl D (a + 4 + 4) (nvA D (a + 1) 3 - 4)))
  else .ok (a + 4 + nvA D (a + 1) 3, T)
theorem tc_ok (hN : 100000 ≤ N) (hD : tp_Rw 10000 g D) (hDl : D.length ≤ 10000) {a most : Nat} (hx : hdS D a = none) (hm : most ≤ 10000) {T : List Nat} {t : Nat → Int32} (hT : T.length ≤ most) (h : tp_Rw 20000 t T) (a' fp : Int32) : chM (m_Mo_takeChunk N (nI a) (nI (gb D a)) (nI most) (nI T.length) a' (nI (a + 4 + nvA D (a + 1) 3)) 0 fp g t) (dtS D most a T) := by
  have hk : gb D a < 256 := rw_lt hD a
  have i := hdS_in hx
  have e8 : nI a + (8 : Int32) = nI (a + 4 + 4) := nI_add a 8
  unfold m_Mo_takeChunk dtS
  by_cases k0 : gb D a = 0
  · have s4 := i.2.1 (by omega)
    have hB := mrb_ok hN hD hDl i.1 (a := a + 4 + 4) (most := most - T.length) (by omega) (by omega) h fp
    rw [if_pos (show nI (gb D a) ≤ (1 : Int32) from nI_le (b := 1) (by omega) (by decide)), if_pos (show nI (gb D a) = 0 by rw [k0]; rfl), if_pos k0, pk_sub hT, if_neg (show ¬ (65536 : Int32) ≤ nI (most - T.length) from nI_ge (b := 65536) (by omega) (by decide)), e8]
    unfold m_Mo_takeChunk_45
    cases hr : rbS D (a + 4 + 4) (a + 4 + nvA D (a + 1) 3) (most - T.length) T with
    | error x =>
      rw [hr] at hB
      obtain ⟨md, a2, t', e1, w1, w2⟩ := hB
      rw [e1, tp_b5_s]
      show chM _ (.error (e12 x))
      by_cases c : x.1 = 1
      · rw [if_pos (show nI x.1 = 1 by rw [c]; rfl), show e12 x = (12, x.2) by unfold e12; rw [if_pos c]]
        exact tc127_f (w := 12) (by decide) (by decide) _ _ _ _ _ _
      · rw [if_neg (show ¬ nI x.1 = (1 : Int32) from fun z => c ((nI_eq (b := 1) (by omega) (by decide)).mp z)), show e12 x = (x.1, x.2) by unfold e12; rw [if_neg c]]
        exact tc127_f w1 w2 _ _ _ _ _ _
    | ok T' =>
      rw [hr] at hB
      have j := rbS_in (by omega) hr
      obtain ⟨a2, fp', t', e1, h4⟩ := hB
      rw [e1, tp_b5_s, if_neg (by decide)]
      exact tc127_ok hN hD hDl (by omega) j.1 (by omega) h4 _ _ _
  by_cases k1 : gb D a = 1
  · have s4 := i.2.1 (by omega)
    rw [if_pos (show nI (gb D a) ≤ (1 : Int32) from nI_le (b := 1) (by omega) (by decide)), if_neg (nI_ne0 (by omega) (by omega)), if_neg k0, if_pos k1, pk_sub hT, e8, pk_sub (by omega), show a + 4 + nvA D (a + 1) 3 - (a + 4 + 4) = nvA D (a + 1) 3 - 4 by omega]
    by_cases c : most - T.length < nvA D (a + 1) 3 - 4
    · rw [if_pos c, if_neg (nI_ge c (by omega)), nI_add, mfails_0, tp_b3_s]
      exact tc127_f (w := 3) (by decide) (by decide) _ _ _ _ _ _
    · obtain ⟨t1, e1, h4⟩ := tc101_l (N := N) hD hDl i.1 (nI a) (nI T.length) (nI (a + 4 + 4)) fp (nvA D (a + 1) 3 - 4) N (a + 4 + 4) T t (by omega) (by omega) (by omega) h
      rw [if_neg c, if_pos (nI_le (by omega) (by omega)), e1]
      exact tc127_ok hN hD hDl (by omega) (by rw [List.length_append]; omega) (by rw [List.length_append, sl_len]; omega) h4 _ _ _
  · rw [if_neg (show ¬ nI (gb D a) ≤ (1 : Int32) from nI_ge (a := 1) (by omega) (by omega)), if_neg k0, if_neg k1]
    exact ⟨a', fp, t, rfl, h⟩
theorem chS_er {a most : Nat} {T : List Nat} {x : Nat × Nat} (hx : hdS D a = some x) : chS D most a T = .error x := by
  unfold chS
  rw [hx]
theorem chS_m {a most : Nat} {T : List Nat} (hx : hdS D a = none) (k : gb D a = 255 ∧ ¬ (nvA D (a + 1) 3 = 6 ∧ mkb D (a + 4) 0 6 = true)) : chS D most a T = .error (8, a) := by
  unfold chS
  rw [hx]
  dsimp only
  rw [if_pos k.1, if_neg k.2]
theorem chS_d {a most : Nat} {T : List Nat} (hx : hdS D a = none) (k : ¬ (gb D a = 255 ∧ ¬ (nvA D (a + 1) 3 = 6 ∧ mkb D (a + 4) 0 6 = true))) : chS D most a T = dtS D most a T := by
  unfold chS dtS
  rw [hx]
  dsimp only
  by_cases c : gb D a = 255
  · have z : nvA D (a + 1) 3 = 6 ∧ mkb D (a + 4) 0 6 = true := Classical.byContradiction (fun y => k ⟨c, y⟩)
    rw [if_pos c, if_pos z, if_neg (by omega), if_neg (by omega)]
  · rw [if_neg c]
    rfl
theorem mus_f (ho : tp_Rw 10000 jo O) {w p : Nat} (hw : 1 ≤ w) (hw2 : w ≤ 12) (n : Nat) (x1 x2 md told a' en : Int32) (jm : Nat → Int32) : usM D O (tp_it11 (m_Mo_unchunk_20 N (nI D.length) g) (n + 1) x1 x2 (nI O.length) md told a' en (nI w) (nI p) jo jm) (.error (w, p)) := by
  show usM D O (m_Mo_unchunk_20 N (nI D.length) g (tp_it11 (m_Mo_unchunk_20 N (nI D.length) g) n) x1 x2 (nI O.length) md told a' en (nI w) (nI p) jo jm) _
  rw [m_Mo_unchunk_20, if_neg (nI_ne0 hw (by omega))]
  exact mend_er ho hw hw2 _ _ _ _ _
theorem mus_l (hN : 100000 ≤ N) (hD : tp_Rw 10000 g D) (hDl : D.length ≤ 10000) (ho : tp_Rw 10000 jo O) {most : Nat} (hm : most ≤ 10000) (told : Int32) : ∀ (k n a : Nat) (T : List Nat) (t : Nat → Int32) (a' en fp : Int32), D.length - a < k → k + 1 < n → a < 2 ^ 30 → T.length ≤ most → tp_Rw 20000 t T → usM D O (tp_it11 (m_Mo_unchunk_20 N (nI D.length) g) n (nI most) (nI a) (nI O.length) (nI T.length) told a' en 0 fp jo t) (unf D most k a T) := by
  intro k
  induction k with
  | zero => intro n a T t a' en fp h; omega
  | succ k ih =>
    intro n a T t a' en fp hk hn ha hT h
    obtain ⟨n, rfl⟩ : ∃ z, n = z + 1 := ⟨n - 1, by omega⟩
    show usM D O (m_Mo_unchunk_20 N (nI D.length) g (tp_it11 (m_Mo_unchunk_20 N (nI D.length) g) n) (nI most) (nI a) (nI O.length) (nI T.length) told a' en 0 fp jo t) _
    rw [m_Mo_unchunk_20, unf, if_pos rfl]
    by_cases c1 : D.length ≤ a
    · rw [if_pos c1, if_pos (nI_le c1 (by omega))]
      exact mend_ok hN h (by omega) _ _ _ _
    · rw [if_neg c1, if_neg (nI_ge (by omega) (by omega)), byteOf_ok hD hDl (by omega), tp_b1_s]
      obtain ⟨n, rfl⟩ : ∃ z, n = z + 1 := ⟨n - 1, by omega⟩
      cases hx : hdS D a with
      | some x =>
        have w := hdS_w hx
        obtain ⟨en', e1⟩ := or_er (N := N) hD hDl (a := a) (by omega) hx en fp
        rw [e1, tp_b4_s, if_pos rfl, chS_er hx]
        exact mus_f ho w.1 w.2 n _ _ _ _ _ _ _
      | none =>
        have i := hdS_in hx
        rw [or_ok hN hD hDl hx]
        by_cases z : gb D a = 255 ∧ ¬ (nvA D (a + 1) 3 = 6 ∧ mkb D (a + 4) 0 6 = true)
        · rw [if_pos z, tp_b4_s, if_pos rfl, chS_m hx z]
          exact mus_f (w := 8) ho (by decide) (by decide) n _ _ _ _ _ _ _
        · have hC := tc_ok hN hD hDl hx hm hT h a' fp
          have hi := fun y => chS_in (D := D) (a := a) (x := y) hT
          rw [if_neg z, tp_b4_s, if_neg (by decide)]
          rw [chS_d hx z] at hi ⊢
          cases hd : dtS D most a T with
          | error y =>
            rw [hd] at hC
            obtain ⟨md, a2, t', e1, w1, w2⟩ := hC
            rw [e1, tp_b5_s]
            exact mus_f ho w1 w2 n _ _ _ _ _ _ _
          | ok y =>
            have j := hi y hd
            have ev : y.1 = a + 4 + nvA D (a + 1) 3 := by
              unfold dtS at hd
              split at hd
              · split at hd
                · cases hd
                · rw [smC_in hd]
              · split at hd
                · split at hd
                  · cases hd
                  · rw [smC_in hd]
                · cases hd; rfl
            rw [hd] at hC
            obtain ⟨a2, fp', t', e1, h4⟩ := hC
            rw [e1, tp_b5_s, ← ev]
            exact ih (n + 1) y.1 y.2 t' a2 _ fp' (by omega) (by omega) (by omega) (by omega) h4
theorem mus_ok (hN : 100000 ≤ N) (hD : tp_Rw 10000 g D) (hDl : D.length ≤ 10000) (ho : tp_Rw 10000 jo O) {most : Nat} (hm : most ≤ 10000) (md told a' en f fp : Int32) (t : Nat → Int32) : usM D O (m_Mo_unchunk N (nI most) (nI D.length) (nI O.length) md told a' en f fp g jo t) (unf D most (D.length + 1) 0 []) := by
  unfold m_Mo_unchunk m_Mo_beginReading
  rw [if_neg (show ¬ nI most < 0 from nI_pos (by omega)), if_pos (show nI most ≤ (10000 : Int32) from nI_le (b := 10000) hm (by decide)), tp_b4_s]
  exact mus_l hN hD hDl ho hm told (D.length + 1) N 0 [] t _ _ fp (by omega) (by omega) (by decide) (Nat.zero_le _) (rw_nil 20000 t)
end
