/-! READING a stream: what it says, in numbers; and the class's reader; unpack and unchunk of the class. -/
/-- d bytes of the mark from its byte i on, at b + i -/
def mkb (D : List Nat) (b : Nat) : Nat → Nat → Bool
  | _, 0 => true
  | i, d + 1 => if nI (gb D (b + i)) = tp_mark i then mkb D b (i + 1) d else false
/-- what is wrong with a chunk's head -/
def hdS (D : List Nat) (a : Nat) : Option (Nat × Nat) :=
  if a = 0 ∧ ¬ gb D a = 255 then some (8, a)
  else if 2 ≤ gb D a ∧ gb D a ≤ 127 then some (9, a)
  else if D.length < a + 4 + nvA D (a + 1) 3 then some (7, D.length)
  else if gb D a ≤ 1 ∧ nvA D (a + 1) 3 < 4 then some (10, a)
  else none
/-- the sum at a + 4 against the bytes behind T -/
noncomputable def smC (D : List Nat) (a : Nat) (T T' : List Nat) : Except (Nat × Nat) (Nat × List Nat) :=
  @ite _ (smS T' T.length (T'.length - T.length) = nI (nvA D (a + 4) 4)) (Classical.propDecidable _) (.ok (a + 4 + nvA D (a + 1) 3, T')) (.error (11, a + 4))
def e12 (x : Nat × Nat) : Nat × Nat := (if x.1 = 1 then 12 else x.1, x.2)
/-- one chunk -/
noncomputable def chS (D : List Nat) (most a : Nat) (T : List Nat) : Except (Nat × Nat) (Nat × List Nat) :=
  match hdS D a with
  | some x => .error x
  | none =>
    if gb D a = 255 then (if nvA D (a + 1) 3 = 6 ∧ mkb D (a + 4) 0 6 = true then .ok (a + 4 + nvA D (a + 1) 3, T) else .error (8, a))
    else if gb D a = 0 then (match rbS D (a + 4 + 4) (a + 4 + nvA D (a + 1) 3) (most - T.length) T with
      | .error x => .error (e12 x)
      | .ok T' => smC D a T T')
    else if gb D a = 1 then (if most - T.length < nvA D (a + 1) 3 - 4 then .error (3, a + 4 + 4 + (most - T.length)) else smC D a T (T ++ sl D (a + 4 + 4) (nvA D (a + 1) 3 - 4)))
    else .ok (a + 4 + nvA D (a + 1) 3, T)
noncomputable def unf (D : List Nat) (most : Nat) : Nat → Nat → List Nat → Except (Nat × Nat) (List Nat)
  | 0, _, _ => .error (6, 0)
  | k + 1, a, T => if D.length ≤ a then .ok T else match chS D most a T with
    | .error x => .error x
    | .ok x => unf D most k x.1 x.2
theorem hdS_in {D : List Nat} {a : Nat} (h : hdS D a = none) : a + 4 + nvA D (a + 1) 3 ≤ D.length ∧ (gb D a ≤ 1 → 4 ≤ nvA D (a + 1) 3) ∧ (gb D a ≤ 1 ∨ 127 < gb D a) := by
  unfold hdS at h
  split at h
  · cases h
  · split at h
    · cases h
    · split at h
      · cases h
      · split at h
        · cases h
        · rename_i h1 h2 h3 h4
          exact ⟨by omega, fun z => by omega, by omega⟩
theorem smC_in {D : List Nat} {a : Nat} {T T' : List Nat} {x : Nat × List Nat} (h : smC D a T T' = .ok x) : x = (a + 4 + nvA D (a + 1) 3, T') := by
  unfold smC at h
  split at h
  · cases h; rfl
  · cases h
theorem chS_in {D : List Nat} {most a : Nat} {T : List Nat} {x : Nat × List Nat} (hT : T.length ≤ most) (h : chS D most a T = .ok x) : a + 4 ≤ x.1 ∧ x.1 ≤ D.length ∧ T.length ≤ x.2.length ∧ x.2.length ≤ most := by
  unfold chS at h
  cases hh : hdS D a with
  | some y => rw [hh] at h; cases h
  | none =>
    rw [hh] at h
    have i := hdS_in hh
    dsimp only at h
    split at h
    · split at h
      · cases h; exact ⟨by omega, i.1, Nat.le_refl _, hT⟩
      · cases h
    · split at h
      · rename_i k0
        cases hr : rbS D (a + 4 + 4) (a + 4 + nvA D (a + 1) 3) (most - T.length) T with
        | error y => rw [hr] at h; cases h
        | ok T' =>
          rw [hr] at h
          have j := rbS_in (by have := i.2.1 (by omega); omega) hr
          rw [smC_in h]
          exact ⟨by omega, i.1, j.1, by dsimp only; omega⟩
      · split at h
        · split at h
          · cases h
          · rw [smC_in h]
            refine ⟨by omega, i.1, ?_, ?_⟩
            · dsimp only; rw [List.length_append]; omega
            · dsimp only; rw [List.length_append, sl_len]; omega
        · cases h; exact ⟨by omega, i.1, Nat.le_refl _, hT⟩
theorem unf_in {D : List Nat} {most : Nat} : ∀ (k a : Nat) (T T' : List Nat), T.length ≤ most → unf D most k a T = .ok T' → T'.length ≤ most := by
  intro k
  induction k with
  | zero => intro a T T' _ h; rw [unf] at h; cases h
  | succ k ih =>
    intro a T T' h1 h
    rw [unf] at h
    by_cases c : D.length ≤ a
    · rw [if_pos c] at h; cases h; exact h1
    · rw [if_neg c] at h
      cases hx : chS D most a T with
      | error y => rw [hx] at h; cases h
      | ok y =>
        rw [hx] at h
        have i := chS_in h1 hx
        exact ih y.1 y.2 T' (by omega) h
-- ---- the class
theorem sfail_0 (a b fp : Int32) : m_StreamReader_fail a b 0 fp = some (a, b) := if_pos rfl
theorem sfail_f {w : Int32} (hw : ¬ w = 0) (a b fp : Int32) : m_StreamReader_fail a b w fp = some (w, fp) := if_neg hw
theorem neg4 : ∀ k, k < 4 → nI k - (4 : Int32) < 0 := by decide +kernel
def hdR (s : Option (Nat × Nat)) (fp : Int32) : Int32 × Int32 :=
  match s with
  | some x => (nI x.1, nI x.2)
  | none => (0, fp)
section
variable {N : Nat} {D : List Nat} {g : Nat → Int32}
theorem head_ok (hD : tp_Rw 10000 g D) (hDl : D.length ≤ 10000) {a : Nat} (ha : a < D.length) (fp : Int32) : m_StreamReader_checkHead (nI (gb D a)) (nI (nvA D (a + 1) 3)) (nI a) 0 fp (nI D.length) = some (hdR (hdS D a) fp) := by
  have hb : gb D a < 256 := rw_lt hD a
  have hs : nvA D (a + 1) 3 < 2 ^ 24 := nvA_lt hD (a + 1) 3
  have fl : ∀ y : Int32, (if nI (gb D a) = 0 then m_StreamReader_checkHead_24 (nI a) (nI D.length) (nI (gb D a)) (nI (nvA D (a + 1) 3)) y 0 fp else if nI (gb D a) = (1 : Int32) then m_StreamReader_checkHead_24 (nI a) (nI D.length) (nI (gb D a)) (nI (nvA D (a + 1) 3)) y 0 fp else m_StreamReader_checkHead_29 (nI a) (nI D.length) (nI (gb D a)) (nI (nvA D (a + 1) 3)) y (0 : Int32) 0 fp) = m_StreamReader_checkHead_29 (nI a) (nI D.length) (nI (gb D a)) (nI (nvA D (a + 1) 3)) y (if gb D a ≤ 1 then 1 else 0) 0 fp := by
    intro y
    unfold m_StreamReader_checkHead_24
    by_cases c0 : gb D a = 0
    · rw [if_pos (show nI (gb D a) = 0 by rw [c0]; rfl), if_pos (by omega)]
    · rw [if_neg (nI_ne0 (by omega) (by omega))]
      by_cases c1 : gb D a = 1
      · rw [if_pos (show nI (gb D a) = 1 by rw [c1]; rfl), if_pos (by omega)]
      · rw [if_neg (show ¬ nI (gb D a) = 1 from fun z => c1 ((nI_eq (b := 1) (by omega) (by decide)).mp z)), if_neg (by omega)]
  unfold m_StreamReader_checkHead
  rw [tp_b0, fl]
  unfold hdS
  rw [m_StreamReader_checkHead_29]
  by_cases c1 : a = 0 ∧ ¬ gb D a = 255
  · rw [if_pos c1, if_pos (show nI a = 0 by rw [c1.1]; rfl), if_neg (show ¬ nI (gb D a) = (255 : Int32) from fun z => c1.2 ((nI_eq (b := 255) (by omega) (by decide)).mp z)), sfail_0, tp_b2_s]
    rfl
  have e29 : ∀ X Y : Option (Int32 × Int32), (if nI a = 0 then (if nI (gb D a) = (255 : Int32) then X else Y) else X) = X := by
    intro X Y
    by_cases z : a = 0
    · rw [if_pos (show nI a = 0 by rw [z]; rfl), if_pos (show nI (gb D a) = 255 by rw [show gb D a = 255 by omega]; rfl)]
    · rw [if_neg (nI_ne0 (by omega) (by omega))]
  rw [if_neg c1, e29, m_StreamReader_checkHead_58]
  by_cases c2 : 2 ≤ gb D a ∧ gb D a ≤ 127
  · rw [if_pos c2, if_neg (show ¬ gb D a ≤ 1 by omega), if_pos rfl, if_neg (show ¬ (128 : Int32) ≤ nI (gb D a) from nI_ge (b := 128) (by omega) (by decide)), sfail_0, tp_b2_s]
    rfl
  have e58 : ∀ X Y : Option (Int32 × Int32), (if (if gb D a ≤ 1 then (1 : Int32) else 0) = 0 then (if (128 : Int32) ≤ nI (gb D a) then X else Y) else X) = X := by
    intro X Y
    by_cases z : gb D a ≤ 1
    · rw [if_pos z, if_neg (by decide)]
    · rw [if_neg z, if_pos rfl, if_pos (show (128 : Int32) ≤ nI (gb D a) from nI_le (a := 128) (by omega) (by omega))]
  rw [if_neg c2, e58, m_StreamReader_checkHead_83, pk_sub (show a ≤ D.length by omega)]
  by_cases c3 : D.length < a + 4 + nvA D (a + 1) 3
  · have hn : ¬ nI (nvA D (a + 1) 3) ≤ nI (D.length - a) - (4 : Int32) := by
      by_cases z : D.length - a < 4
      · exact fun y => nI_pos (show nvA D (a + 1) 3 < 2 ^ 31 by omega) (Int32.lt_of_le_of_lt y (neg4 _ z))
      · rw [show nI (D.length - a) - (4 : Int32) = nI (D.length - a - 4) from pk_sub (b := 4) (by omega)]
        exact nI_ge (by omega) (by omega)
    rw [if_pos c3, if_neg hn, sfail_0, tp_b2_s]
    rfl
  rw [if_neg c3, show nI (D.length - a) - (4 : Int32) = nI (D.length - a - 4) from pk_sub (b := 4) (by omega), if_pos (nI_le (by omega) (by omega))]
  have h127 : m_StreamReader_checkHead_127 (nI a) (nI D.length) (nI (gb D a)) (nI (nvA D (a + 1) 3)) 0 fp = some (0, fp) := by
    unfold m_StreamReader_checkHead_127
    rw [if_pos (show nI (nvA D (a + 1) 3) ≤ (65540 : Int32) from nI_le (b := 65540) (by omega) (by decide))]
    split <;> rfl
  by_cases c4 : gb D a ≤ 1 ∧ nvA D (a + 1) 3 < 4
  · rw [if_pos c4, if_pos c4.1, if_neg (by decide), if_neg (show ¬ (4 : Int32) ≤ nI (nvA D (a + 1) 3) from nI_ge (b := 4) c4.2 (by decide)), sfail_0, tp_b2_s]
    rfl
  · rw [if_neg c4, h127]
    by_cases z : gb D a ≤ 1
    · rw [if_pos z, if_neg (by decide), if_pos (show (4 : Int32) ≤ nI (nvA D (a + 1) 3) from nI_le (a := 4) (by omega) (by omega))]
      rfl
    · rw [if_neg z, if_pos rfl]
      rfl
theorem cmk_l (hD : tp_Rw 10000 g D) (hDl : D.length ≤ 10000) {b : Nat} (hb : b + 6 ≤ D.length) (at' fp : Int32) : ∀ (d n i : Nat), i + d = 6 → d + 1 < n → tp_it5 (m_StreamReader_checkMark_19 N at' (nI D.length) g) n (nI b) 1 (nI i) 0 fp = if mkb D b i d = true then some (0, fp) else some (8, at') := by
  intro d
  induction d with
  | zero =>
    intro n i hi hn
    obtain ⟨n, rfl⟩ : ∃ z, n = z + 1 := ⟨n - 1, by omega⟩
    show m_StreamReader_checkMark_19 N at' (nI D.length) g (tp_it5 (m_StreamReader_checkMark_19 N at' (nI D.length) g) n) (nI b) 1 (nI i) 0 fp = _
    rw [m_StreamReader_checkMark_19, if_neg (by decide), if_pos (show (6 : Int32) ≤ nI i from nI_le (a := 6) (by omega) (by omega)), if_neg (by decide), mkb, if_pos rfl]
  | succ d ih =>
    intro n i hi hn
    obtain ⟨n, rfl⟩ : ∃ z, n = z + 1 := ⟨n - 1, by omega⟩
    show m_StreamReader_checkMark_19 N at' (nI D.length) g (tp_it5 (m_StreamReader_checkMark_19 N at' (nI D.length) g) n) (nI b) 1 (nI i) 0 fp = _
    rw [m_StreamReader_checkMark_19, if_neg (by decide), if_neg (show ¬ (6 : Int32) ≤ nI i from nI_ge (b := 6) (by omega) (by decide)), nI_add, at_in hD (by omega) (by omega) (by omega), tp_b1_s, tp_gd_t (tp_inb_nI (by omega) (by decide)), nI_clamp (by omega), show nI i + (1 : Int32) = nI (i + 1) from nI_1 i, mkb]
    by_cases c : nI (gb D (b + i)) = tp_mark i
    · rw [if_pos c, if_pos c]
      exact ih n (i + 1) (by omega) (by omega)
    · rw [if_neg c, if_neg c, if_neg (by decide)]
      obtain ⟨n, rfl⟩ : ∃ z, n = z + 1 := ⟨n - 1, by omega⟩
      show m_StreamReader_checkMark_19 N at' (nI D.length) g (tp_it5 (m_StreamReader_checkMark_19 N at' (nI D.length) g) n) (nI b) 0 (nI (i + 1)) 0 fp = _
      rw [m_StreamReader_checkMark_19, if_pos rfl, if_pos rfl, sfail_0, tp_b2_s]
theorem cmark2_ok (hN : 100000 ≤ N) (hD : tp_Rw 10000 g D) (hDl : D.length ≤ 10000) {b sz : Nat} (hb : b + sz ≤ D.length) (at' fp : Int32) : m_StreamReader_checkMark N (nI b) (nI (b + sz)) at' 0 fp (nI D.length) g = if sz = 6 ∧ mkb D b 0 6 = true then some (0, fp) else some (8, at') := by
  unfold m_StreamReader_checkMark
  rw [pk_sub (by omega), show b + sz - b = sz by omega]
  by_cases c : sz = 6
  · rw [if_pos (show nI sz = 6 by rw [c]; rfl)]
    refine (cmk_l hD hDl (by omega) at' fp 6 N 0 (by omega) (by omega)).trans ?_
    by_cases z : mkb D b 0 6 = true
    · rw [if_pos z, if_pos ⟨c, z⟩]
    · rw [if_neg z, if_neg (fun y => z y.2)]
  · rw [if_neg (show ¬ nI sz = (6 : Int32) from fun z => c ((nI_eq (b := 6) (by omega) (by decide)).mp z)), if_neg (fun y => c y.1)]
    obtain ⟨n, rfl⟩ : ∃ z, N = z + 1 := ⟨N - 1, by omega⟩
    show m_StreamReader_checkMark_19 (n + 1) at' (nI D.length) g (tp_it5 (m_StreamReader_checkMark_19 (n + 1) at' (nI D.length) g) n) (nI b) 0 0 0 fp = _
    rw [m_StreamReader_checkMark_19, if_pos rfl, if_pos rfl, sfail_0, tp_b2_s]
theorem csum_f (hN : 100000 ≤ N) (hD : tp_Rw 10000 g D) (hDl : D.length ≤ 10000) {b : Nat} (hb : b < 20000) {w : Int32} (hw : ¬ w = 0) (x2 fp tc : Int32) (t : Nat → Int32) : m_StreamReader_checkSum N (nI b) x2 w fp (nI D.length) g tc t = some (w, fp) := by
  unfold m_StreamReader_checkSum
  rw [show (4 : Int32) = nI 4 from rfl, numberAt_ok hN hD hDl (by omega) (by decide), tp_b1_s, if_neg hw]
theorem csum_ok (hN : 100000 ≤ N) (hD : tp_Rw 10000 g D) (hDl : D.length ≤ 10000) {a : Nat} (ha : a < 10000) {T T' : List Nat} {t : Nat → Int32} (h1 : T.length ≤ T'.length) (h2 : T'.length ≤ 10000) (h : tp_Rw 10000 t T') (fp : Int32) : m_StreamReader_checkSum N (nI (a + 4)) (nI T.length) 0 fp (nI D.length) g (nI T'.length) t = if smS T' T.length (T'.length - T.length) = nI (nvA D (a + 4) 4) then some (0, fp) else some (11, nI (a + 4)) := by
  unfold m_StreamReader_checkSum
  rw [show (4 : Int32) = nI 4 from rfl, numberAt_ok hN hD hDl (by omega) (by decide), tp_b1_s, if_pos rfl, sumOf_ok hN h h1 (Nat.le_refl _) h2 (by omega), tp_b1_s, lN_i]
  by_cases c : smS T' T.length (T'.length - T.length) = nI (nvA D (a + 4) 4)
  · rw [if_pos c, if_pos c.symm]
  · rw [if_neg c, if_neg (fun z => c z.symm), sfail_0, tp_b2_s]
def rcC (X : Option (Int32 × Int32 × Int32 × Int32 × (Nat → Int32) × Int32 × Int32 × Int32 × Int64 × Int32 × Int32)) (s : Except (Nat × Nat) (Nat × List Nat)) (fp : Int32) : Prop :=
  match s with
  | .error x => ∃ (a' : Int32) (T' : Nat) (t' : Nat → Int32) (b1 b2 b3 : Int32) (b4 : Int64) (b5 b6 : Int32), X = some (a', nI x.1, nI x.2, nI T', t', b1, b2, b3, b4, b5, b6) ∧ T' ≤ 10000 ∧ tp_fitsB t' ∧ 1 ≤ x.1 ∧ x.1 ≤ 12
  | .ok x => ∃ (t' : Nat → Int32) (b1 b2 b3 : Int32) (b4 : Int64) (b5 b6 : Int32), X = some (nI x.1, (0 : Int32), fp, nI x.2.length, t', b1, b2, b3, b4, b5, b6) ∧ tp_Rw 10000 t' x.2 ∧ tp_fitsB t'
theorem hdS_w {D : List Nat} {a : Nat} {x : Nat × Nat} (h : hdS D a = some x) : 1 ≤ x.1 ∧ x.1 ≤ 12 := by
  unfold hdS at h
  split at h
  · cases h; dsimp only; omega
  · split at h
    · cases h; dsimp only; omega
    · split at h
      · cases h; dsimp only; omega
      · split at h
        · cases h; dsimp only; omega
        · cases h
/-- the last step of a chunk with data -/
theorem rcC_er {w p T' : Nat} {t : Nat → Int32} (a' fp b1 b2 b3 b5 b6 : Int32) (b4 : Int64) (h2 : T' ≤ 10000) (hf : tp_fitsB t) (w1 : 1 ≤ w) (w2 : w ≤ 12) : rcC (some (a', nI w, nI p, nI T', t, b1, b2, b3, b4, b5, b6)) (.error (w, p)) fp := by
  unfold rcC
  exact ⟨a', T', t, b1, b2, b3, b4, b5, b6, rfl, h2, hf, w1, w2⟩
theorem rcC_ok {v : Nat} {T' : List Nat} {t : Nat → Int32} (fp b1 b2 b3 b5 b6 : Int32) (b4 : Int64) (h : tp_Rw 10000 t T') (hf : tp_fitsB t) : rcC (some (nI v, 0, fp, nI T'.length, t, b1, b2, b3, b4, b5, b6)) (.ok (v, T')) fp := by
  unfold rcC
  exact ⟨t, b1, b2, b3, b4, b5, b6, rfl, h, hf⟩
theorem rc_sum1 (hN : 100000 ≤ N) (hD : tp_Rw 10000 g D) (hDl : D.length ≤ 10000) {a : Nat} (ha : a < 10000) {T T' : List Nat} {t : Nat → Int32} (h1 : T.length ≤ T'.length) (h2 : T'.length ≤ 10000) (h : tp_Rw 10000 t T') (hf : tp_fitsB t) (fp b1 b2 b3 b5 b6 : Int32) (b4 : Int64) (c : smS T' T.length (T'.length - T.length) = nI (nvA D (a + 4) 4)) : rcC (tp_b2 (m_StreamReader_checkSum N (nI (a + 4)) (nI T.length) 0 fp (nI D.length) g (nI T'.length) t) fun x y => some (nI (a + 4 + nvA D (a + 1) 3), x, y, nI T'.length, t, b1, b2, b3, b4, b5, b6)) (smC D a T T') fp := by
  have hs := csum_ok hN hD hDl ha h1 h2 h fp
  rw [if_pos c] at hs
  have e : smC D a T T' = .ok (a + 4 + nvA D (a + 1) 3, T') := if_pos c
  rw [hs, e, tp_b2_s]
  exact rcC_ok _ _ _ _ _ _ _ h hf
theorem rc_sum2 (hN : 100000 ≤ N) (hD : tp_Rw 10000 g D) (hDl : D.length ≤ 10000) {a : Nat} (ha : a < 10000) {T T' : List Nat} {t : Nat → Int32} (h1 : T.length ≤ T'.length) (h2 : T'.length ≤ 10000) (h : tp_Rw 10000 t T') (hf : tp_fitsB t) (fp b1 b2 b3 b5 b6 : Int32) (b4 : Int64) (c : ¬ smS T' T.length (T'.length - T.length) = nI (nvA D (a + 4) 4)) : rcC (tp_b2 (m_StreamReader_checkSum N (nI (a + 4)) (nI T.length) 0 fp (nI D.length) g (nI T'.length) t) fun x y => some (nI (a + 4 + nvA D (a + 1) 3), x, y, nI T'.length, t, b1, b2, b3, b4, b5, b6)) (smC D a T T') fp := by
  have hs := csum_ok hN hD hDl ha h1 h2 h fp
  rw [if_neg c] at hs
  have e : smC D a T T' = .error (11, a + 4) := if_neg c
  rw [hs, e, tp_b2_s]
  exact rcC_er (w := 11) _ _ _ _ _ _ _ _ h2 hf (by decide) (by decide)
theorem rc_sum (hN : 100000 ≤ N) (hD : tp_Rw 10000 g D) (hDl : D.length ≤ 10000) {a : Nat} (ha : a < 10000) {T T' : List Nat} {t : Nat → Int32} (h1 : T.length ≤ T'.length) (h2 : T'.length ≤ 10000) (h : tp_Rw 10000 t T') (hf : tp_fitsB t) (fp b1 b2 b3 b5 b6 : Int32) (b4 : Int64) : rcC (tp_b2 (m_StreamReader_checkSum N (nI (a + 4)) (nI T.length) 0 fp (nI D.length) g (nI T'.length) t) fun x y => some (nI (a + 4 + nvA D (a + 1) 3), x, y, nI T'.length, t, b1, b2, b3, b4, b5, b6)) (smC D a T T') fp :=
  (Classical.em _).elim (rc_sum1 hN hD hDl ha h1 h2 h hf fp b1 b2 b3 b5 b6 b4) (rc_sum2 hN hD hDl ha h1 h2 h hf fp b1 b2 b3 b5 b6 b4)
theorem e12_w {x : Nat × Nat} (h : 1 ≤ x.1) (h2 : x.1 ≤ 12) : 1 ≤ (e12 x).1 ∧ (e12 x).1 ≤ 12 := by
  unfold e12
  dsimp only
  split <;> omega
theorem tfb_f {x : Nat × Nat} (h : 1 ≤ x.1) (h2 : x.1 ≤ 12) (fp : Int32) : m_StreamReader_takeFaultOfBlock 0 fp (nI x.1) (nI x.2) = some (nI (e12 x).1, nI (e12 x).2) := by
  unfold m_StreamReader_takeFaultOfBlock e12
  rw [if_neg (nI_ne0 h (by omega))]
  by_cases c : x.1 = 1
  · rw [if_pos (show nI x.1 = 1 by rw [c]; rfl), sfail_0, tp_b2_s, if_pos c]
    rfl
  · rw [if_neg (show ¬ nI x.1 = (1 : Int32) from fun z => c ((nI_eq (b := 1) (by omega) (by decide)).mp z)), sfail_0, tp_b2_s, if_neg c]
theorem rc_ok (hN : 100000 ≤ N) (hD : tp_Rw 10000 g D) (hDl : D.length ≤ 10000) {a most : Nat} (ha : a < D.length) (hm : most ≤ 10000) {T : List Nat} {t : Nat → Int32} (hT : T.length ≤ most) (h : tp_Rw 10000 t T) (hf : tp_fitsB t) (fp b1 b2 b3 b5 b6 : Int32) (b4 : Int64) : rcC (m_StreamReader_readChunk N (nI a) (nI most) 0 fp (nI D.length) g (nI T.length) t b1 b2 b3 b4 b5 b6) (chS D most a T) fp := by
  have hb : gb D a < 256 := rw_lt hD a
  have hs : nvA D (a + 1) 3 < 2 ^ 24 := nvA_lt hD (a + 1) 3
  unfold m_StreamReader_readChunk chS
  rw [at_in hD ha (by omega) (by omega), tp_b1_s, show nI a + (1 : Int32) = nI (a + 1) from nI_1 a, show (3 : Int32) = nI 3 from rfl, numberAt_ok hN hD hDl (by omega) (by decide), tp_b1_s, lN_i, show D.getD a 0 = gb D a from rfl, head_ok hD hDl ha]
  cases hh : hdS D a with
  | some x =>
    have w := hdS_w hh
    show rcC (tp_b2 (some (nI x.1, nI x.2)) _) (.error x) fp
    rw [tp_b2_s, if_neg (nI_ne0 w.1 (by omega))]
    exact ⟨_, T.length, t, _, _, _, _, _, _, rfl, by omega, hf, w.1, w.2⟩
  | none =>
    have i := hdS_in hh
    show rcC (tp_b2 (some (0, fp)) _) _ fp
    rw [tp_b2_s, if_pos rfl, show nI a + (4 : Int32) = nI (a + 4) from nI_add a 4, nI_add, tp_b0, show nI (a + 4) + (4 : Int32) = nI (a + 4 + 4) from nI_add (a + 4) 4]
    dsimp only
    by_cases k255 : gb D a = 255
    · rw [if_pos (show nI (gb D a) = 255 by rw [k255]; rfl), if_pos k255, cmark2_ok hN hD hDl i.1]
      by_cases z : nvA D (a + 1) 3 = 6 ∧ mkb D (a + 4) 0 6 = true
      · rw [if_pos z, if_pos z, tp_b2_s]
        exact ⟨t, _, _, _, _, _, _, rfl, h, hf⟩
      · rw [if_neg z, if_neg z, tp_b2_s]
        exact ⟨_, T.length, t, _, _, _, _, _, _, rfl, by omega, hf, Nat.le_of_ble_eq_true rfl, Nat.le_of_ble_eq_true rfl⟩
    rw [if_neg (show ¬ nI (gb D a) = (255 : Int32) from fun z => k255 ((nI_eq (b := 255) (by omega) (by decide)).mp z)), if_neg k255]
    by_cases k0 : gb D a = 0
    · have s4 := i.2.1 (by omega)
      have hmn : (if (65536 : Int32) < nI most - nI T.length then (65536 : Int32) else nI most - nI T.length) = nI (most - T.length) := by
        rw [pk_sub hT, if_neg (show ¬ (65536 : Int32) < nI (most - T.length) from nI_nlt (a := 65536) (by omega) (by decide))]
      have hB := rb_ok hN hD hDl i.1 (a := a + 4 + 4) (most := most - T.length) (by omega) (by omega) h hf b1 b2 b3 b5 b6 b4
      rw [if_pos (show nI (gb D a) = 0 by rw [k0]; rfl), if_pos k0, hmn]
      cases hr : rbS D (a + 4 + 4) (a + 4 + nvA D (a + 1) 3) (most - T.length) T with
      | error x =>
        rw [hr] at hB
        obtain ⟨c1, c2, c3, l, T', t', e1, hl, h4, hf4, w1, w2⟩ := hB
        have w := e12_w w1 w2
        rw [e1, tp_b8_s, tfb_f w1 w2, tp_b2_s, csum_f hN hD hDl (by omega) (nI_ne0 w.1 (by omega)), tp_b2_s]
        exact ⟨_, T'.length, t', _, _, _, _, _, _, rfl, hl, hf4, w.1, w.2⟩
      | ok T' =>
        rw [hr] at hB
        have j := rbS_in (by omega) hr
        obtain ⟨c1, c2, c3, l, c5, t', e1, h4, hf4⟩ := hB
        rw [e1, tp_b8_s, show m_StreamReader_takeFaultOfBlock 0 fp 0 c5 = some (0, fp) from if_pos rfl, tp_b2_s]
        exact rc_sum (a := a) hN hD hDl (by omega) j.1 (by omega) h4 hf4 _ _ _ _ _ _ _
    rw [if_neg (nI_ne0 (by omega) (by omega)), if_neg k0]
    by_cases k1 : gb D a = 1
    · have s4 := i.2.1 (by omega)
      rw [if_pos (show nI (gb D a) = 1 by rw [k1]; rfl), if_pos k1]
      unfold m_StreamReader_readPlain
      rw [pk_sub hT, pk_sub (by omega), show a + 4 + nvA D (a + 1) 3 - (a + 4 + 4) = nvA D (a + 1) 3 - 4 by omega]
      by_cases c : most - T.length < nvA D (a + 1) 3 - 4
      · rw [if_pos c, if_neg (nI_ge c (by omega)), sfail_0, tp_b2_s, tp_b4_s, csum_f hN hD hDl (by omega) (by decide), tp_b2_s, nI_add]
        exact ⟨_, T.length, t, _, _, _, _, _, _, rfl, by omega, hf, Nat.le_of_ble_eq_true rfl, Nat.le_of_ble_eq_true rfl⟩
      · obtain ⟨t1, e1, h4, hf4⟩ := putFrom_ok hN hD hDl (a := a + 4 + 4) (b := a + 4 + nvA D (a + 1) 3) (by omega) i.1 h hf (by omega)
        rw [show a + 4 + nvA D (a + 1) 3 - (a + 4 + 4) = nvA D (a + 1) 3 - 4 by omega] at e1 h4
        rw [if_neg c, if_pos (nI_le (by omega) (by omega)), e1, tp_b2_s, tp_b4_s]
        exact rc_sum (a := a) hN hD hDl (by omega) (by rw [List.length_append]; omega) (by rw [List.length_append, sl_len]; omega) h4 hf4 _ _ _ _ _ _ _
    rw [if_neg (show ¬ nI (gb D a) = (1 : Int32) from fun z => k1 ((nI_eq (b := 1) (by omega) (by decide)).mp z)), if_neg k1]
    exact ⟨t, _, _, _, _, _, _, rfl, h, hf⟩
end
