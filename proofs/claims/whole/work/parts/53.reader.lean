/-! READING a block: what it says, in numbers; and the class's reader. -/
/-- literals: many bytes from a on -/
def litS (D : List Nat) (e tb len bg a many : Nat) (T : List Nat) : Except (Nat × Nat) (Nat × List Nat) :=
  if len < T.length - tb + many then .error (5, bg) else if e < a + many then .error (1, e) else .ok (a + many, T ++ sl D a many)
/-- a copy -/
def cpS (tb len bg a many dist : Nat) (T : List Nat) : Except (Nat × Nat) (Nat × List Nat) :=
  if dist = 0 ∨ T.length - tb < dist then .error (4, bg) else if len < T.length - tb + many then .error (5, bg) else .ok (a, bk T dist many)
/-- one element -/
def elS (D : List Nat) (e tb len a : Nat) (T : List Nat) : Except (Nat × Nat) (Nat × List Nat) :=
  if gb D a % 4 = 0 then
    (if gb D a / 4 < 60 then litS D e tb len a (a + 1) (gb D a / 4 + 1) T
    else if a + 1 + (gb D a / 4 - 59) ≤ e then litS D e tb len a (a + 1 + (gb D a / 4 - 59)) (nvA D (a + 1) (gb D a / 4 - 59) + 1) T else .error (1, e))
  else if gb D a % 4 = 1 then (if a + 1 + 1 ≤ e then cpS tb len a (a + 1 + 1) (gb D a / 4 % 8 + 4) (gb D (a + 1) + 256 * (gb D a / 4 / 8)) T else .error (1, e))
  else if gb D a % 4 = 2 then (if a + 1 + 2 ≤ e then cpS tb len a (a + 1 + 2) (gb D a / 4 + 1) (nvA D (a + 1) 2) T else .error (1, e))
  else (if a + 1 + 4 ≤ e then cpS tb len a (a + 1 + 4) (gb D a / 4 + 1) (nvA D (a + 1) 4) T else .error (1, e))
/-- the elements from a on -/
def blf (D : List Nat) (e tb len : Nat) : Nat → Nat → List Nat → Except (Nat × Nat) (List Nat)
  | 0, _, _ => .error (6, 0)
  | k + 1, a, T => if e ≤ a then (if T.length - tb < len then .error (6, e) else .ok T) else match elS D e tb len a T with
    | .error x => .error x
    | .ok x => blf D e tb len k x.1 x.2
/-- the length ahead -/
def lnE (bg most x a : Nat) : Except (Nat × Nat) (Nat × Nat) := if most < x then .error (3, bg) else .ok (x, a)
def lnf (D : List Nat) (e bg most : Nat) : Nat → Nat → Nat → Nat → Except (Nat × Nat) (Nat × Nat)
  | 0, _, x, a => lnE bg most x a
  | d + 1, k, x, a => if e ≤ a then .error (1, e) else if k = 4 ∧ 15 < gb D a then .error (2, bg) else if gb D a < 128 then lnE bg most (x + gb D a % 128 * 2 ^ (7 * k)) (a + 1) else lnf D e bg most d (k + 1) (x + gb D a % 128 * 2 ^ (7 * k)) (a + 1)
/-- a block in D's bytes a .. e, of at most most bytes, behind T -/
def rbS (D : List Nat) (a e most : Nat) (T : List Nat) : Except (Nat × Nat) (List Nat) :=
  match lnf D e a most 5 0 0 a with
  | .error x => .error x
  | .ok x => blf D e T.length x.1 (e - x.2 + 1) x.2 T
theorem litS_in {D : List Nat} {e tb len bg a many : Nat} {T : List Nat} {x : Nat × List Nat} (h1 : tb ≤ T.length) (h : litS D e tb len bg a many T = .ok x) : a + many = x.1 ∧ x.1 ≤ e ∧ T.length ≤ x.2.length ∧ x.2.length ≤ tb + len := by
  unfold litS at h
  by_cases c : len < T.length - tb + many
  · rw [if_pos c] at h; cases h
  · rw [if_neg c] at h
    by_cases c2 : e < a + many
    · rw [if_pos c2] at h; cases h
    · rw [if_neg c2] at h
      cases h
      rw [List.length_append, sl_len]
      exact ⟨rfl, by omega, by omega, by omega⟩
theorem cpS_in {tb len bg a many dist : Nat} {T : List Nat} {x : Nat × List Nat} (h1 : tb ≤ T.length) (h : cpS tb len bg a many dist T = .ok x) : x.1 = a ∧ T.length ≤ x.2.length ∧ x.2.length ≤ tb + len := by
  unfold cpS at h
  by_cases c : dist = 0 ∨ T.length - tb < dist
  · rw [if_pos c] at h; cases h
  · rw [if_neg c] at h
    by_cases c2 : len < T.length - tb + many
    · rw [if_pos c2] at h; cases h
    · rw [if_neg c2] at h
      cases h
      rw [bk_len]
      exact ⟨rfl, by omega, by omega⟩
theorem elS_in {D : List Nat} {e tb len a : Nat} {T : List Nat} {x : Nat × List Nat} (h1 : tb ≤ T.length) (h : elS D e tb len a T = .ok x) : a + 1 ≤ x.1 ∧ x.1 ≤ e ∧ T.length ≤ x.2.length ∧ x.2.length ≤ tb + len := by
  unfold elS at h
  split at h
  · split at h
    · have := litS_in h1 h; omega
    · split at h
      · have := litS_in h1 h; omega
      · cases h
  · split at h
    · split at h
      · have := cpS_in h1 h; omega
      · cases h
    · split at h
      · split at h
        · have := cpS_in h1 h; omega
        · cases h
      · split at h
        · have := cpS_in h1 h; omega
        · cases h
theorem blf_in {D : List Nat} {e tb len : Nat} : ∀ (k a : Nat) (T T' : List Nat), tb ≤ T.length → T.length ≤ tb + len → blf D e tb len k a T = .ok T' → T.length ≤ T'.length ∧ T'.length ≤ tb + len := by
  intro k
  induction k with
  | zero => intro a T T' _ _ h; rw [blf] at h; cases h
  | succ k ih =>
    intro a T T' h1 h2 h
    rw [blf] at h
    by_cases c : e ≤ a
    · rw [if_pos c] at h
      by_cases c2 : T.length - tb < len
      · rw [if_pos c2] at h; cases h
      · rw [if_neg c2] at h; cases h; omega
    · rw [if_neg c] at h
      cases hx : elS D e tb len a T with
      | error y => rw [hx] at h; cases h
      | ok y =>
        rw [hx] at h
        have i1 := elS_in h1 hx
        have := ih y.1 y.2 T' (by omega) (by omega) h
        omega
theorem lnE_in {bg most x a : Nat} {y : Nat × Nat} (h : lnE bg most x a = .ok y) : y.1 ≤ most ∧ y.2 = a := by
  unfold lnE at h
  by_cases c : most < x
  · rw [if_pos c] at h; cases h
  · rw [if_neg c] at h; cases h; exact ⟨by omega, rfl⟩
theorem lnf_in {D : List Nat} {e bg most : Nat} : ∀ (d k x a : Nat) (y : Nat × Nat), a ≤ e → lnf D e bg most d k x a = .ok y → y.1 ≤ most ∧ a ≤ y.2 ∧ y.2 ≤ e := by
  intro d
  induction d with
  | zero => intro k x a y ha h; rw [lnf] at h; have := lnE_in h; omega
  | succ d ih =>
    intro k x a y ha h
    rw [lnf] at h
    split at h
    · cases h
    · split at h
      · cases h
      · split at h
        · have := lnE_in h; omega
        · have := ih _ _ _ _ (by omega) h; omega
theorem rbS_in {D : List Nat} {a e most : Nat} {T T' : List Nat} (ha : a ≤ e) (h : rbS D a e most T = .ok T') : T.length ≤ T'.length ∧ T'.length ≤ T.length + most := by
  unfold rbS at h
  cases hx : lnf D e a most 5 0 0 a with
  | error y => rw [hx] at h; cases h
  | ok y =>
    rw [hx] at h
    have i1 := lnf_in _ _ _ _ _ ha hx
    have := blf_in _ _ _ _ (Nat.le_refl _) (by omega) h
    omega
-- ---- the class
theorem l1p (n : Nat) : (1 : Int64) + lN n = lN (n + 1) := by rw [Nat.add_comm]; exact lN_add 1 n
theorem bfail_0 (a b fp : Int32) : m_BlockReader_fail a b 0 fp = some (a, b) := if_pos rfl
theorem bfail_f {w : Int32} (hw : ¬ w = 0) (a b fp : Int32) : m_BlockReader_fail a b w fp = some (w, fp) := if_neg hw
theorem tp_b5_id {α β γ δ ε : Type} (X : Option (α × β × γ × δ × ε)) : (tp_b5 X fun a b c d e => some (a, b, c, d, e)) = X := by cases X <;> rfl
def elC (X : Option (Int32 × Int32 × Int32 × Int32 × (Nat → Int32))) (s : Except (Nat × Nat) (Nat × List Nat)) (T : List Nat) (fp : Int32) : Prop :=
  match s with
  | .error x => ∃ (a' : Int32) (t' : Nat → Int32), X = some (a', nI x.1, nI x.2, nI T.length, t') ∧ tp_Rw 10000 t' T ∧ tp_fitsB t' ∧ 1 ≤ x.1 ∧ x.1 ≤ 12
  | .ok x => ∃ (t' : Nat → Int32), X = some (nI x.1, (0 : Int32), fp, nI x.2.length, t') ∧ tp_Rw 10000 t' x.2 ∧ tp_fitsB t'
section
variable {N : Nat} {D : List Nat} {g : Nat → Int32} {e tb len : Nat}
theorem rlit21_f {w : Int32} (hw : ¬ w = 0) (x2 : Int64) (at' en tb' ic tc fp : Int32) (len' : Int64) (t : Nat → Int32) : m_BlockReader_readLiterals_21 N en tb' len' ic g x2 at' w fp tc t = some (at', w, fp, tc, t) := by
  have h45 : m_BlockReader_readLiterals_45 N en tb' len' ic g x2 at' w fp tc t = some (at', w, fp, tc, t) := by
    unfold m_BlockReader_readLiterals_45
    rw [if_neg hw]
  unfold m_BlockReader_readLiterals_21
  split
  · exact h45
  · rw [bfail_f hw, tp_b2_s]; exact h45
theorem rlit_f {w : Int32} (hw : ¬ w = 0) (x1 : Int32) (x2 : Int64) (at' en tb' ic tc fp : Int32) (len' : Int64) (t : Nat → Int32) : m_BlockReader_readLiterals N x1 x2 at' en tb' len' w fp ic g tc t = some (at', w, fp, tc, t) := by
  unfold m_BlockReader_readLiterals m_BlockReader_made
  rw [tp_b1_s]
  split
  · exact rlit21_f hw _ _ _ _ _ _ _ _ _
  · rw [bfail_f hw, tp_b2_s]; exact rlit21_f hw _ _ _ _ _ _ _ _ _
theorem rlit_ok (hN : 100000 ≤ N) (hD : tp_Rw 10000 g D) (hDl : D.length ≤ 10000) (he : e ≤ D.length) {a many bg : Nat} {T : List Nat} {t : Nat → Int32} (ha : a ≤ e) (h1 : tb ≤ T.length) (h2 : T.length ≤ tb + len) (h3 : tb + len ≤ 10000) (hm : many < 2 ^ 40) (h : tp_Rw 10000 t T) (hf : tp_fitsB t) (fp : Int32) : elC (m_BlockReader_readLiterals N (nI bg) (lN many) (nI a) (nI e) (nI tb) (lN len) 0 fp (nI D.length) g (nI T.length) t) (litS D e tb len bg a many T) T fp := by
  unfold m_BlockReader_readLiterals m_BlockReader_made litS
  rw [tp_b1_s, pk_sub h1, nI_l (by omega), lN_sub (by omega)]
  by_cases c : len < T.length - tb + many
  · rw [if_pos c, if_neg (fun z => by have := (lgn_le (by omega) (by omega)).mp z; omega), bfail_0, tp_b2_s, rlit21_f (by decide)]
    exact ⟨_, t, rfl, h, hf, Nat.le_of_ble_eq_true rfl, Nat.le_of_ble_eq_true rfl⟩
  · rw [if_neg c, if_pos ((lgn_le (by omega) (by omega)).mpr (by omega))]
    unfold m_BlockReader_readLiterals_21
    rw [pk_sub ha, nI_l (by omega)]
    by_cases c2 : e < a + many
    · rw [if_pos c2, if_neg (fun z => by have := (lgn_le (by omega) (by omega)).mp z; omega), bfail_0, tp_b2_s]
      unfold m_BlockReader_readLiterals_45
      rw [if_neg (by decide)]
      exact ⟨_, t, rfl, h, hf, Nat.le_of_ble_eq_true rfl, Nat.le_of_ble_eq_true rfl⟩
    · rw [if_neg c2, if_pos ((lgn_le (by omega) (by omega)).mpr (by omega))]
      unfold m_BlockReader_readLiterals_45
      obtain ⟨t1, e1, h4, hf1⟩ := putFrom_ok hN hD hDl (a := a) (b := a + many) (by omega) (by omega) h hf (by omega)
      rw [show a + many - a = many by omega] at e1 h4
      rw [if_pos rfl, lN_i, nI_add, e1, tp_b2_s, tp_b0]
      exact ⟨t1, rfl, h4, hf1⟩
theorem rcopy22_f {w : Int32} (hw : ¬ w = 0) (x1 x2 : Int32) (x3 : Int64) (tb' tc fp : Int32) (len' : Int64) (t : Nat → Int32) : m_BlockReader_readCopy_22 N tb' len' x1 x2 x3 w fp tc t = some (w, fp, tc, t) := by
  have h44 : m_BlockReader_readCopy_44 N tb' len' x2 x3 w fp tc t = some (w, fp, tc, t) := by
    unfold m_BlockReader_readCopy_44
    rw [if_neg hw]
  unfold m_BlockReader_readCopy_22 m_BlockReader_made
  rw [tp_b1_s]
  split
  · exact h44
  · rw [bfail_f hw, tp_b2_s]; exact h44
theorem rcopy_f {w : Int32} (hw : ¬ w = 0) (x1 x2 : Int32) (x3 : Int64) (tb' tc fp : Int32) (len' : Int64) (t : Nat → Int32) : m_BlockReader_readCopy N x1 x2 x3 tb' len' w fp tc t = some (w, fp, tc, t) := by
  have h16 : m_BlockReader_readCopy_16 N tb' len' x1 x2 x3 w fp tc t = some (w, fp, tc, t) := by
    unfold m_BlockReader_readCopy_16
    rw [bfail_f hw, tp_b2_s]
    exact rcopy22_f hw _ _ _ _ _ _ _ _
  unfold m_BlockReader_readCopy m_BlockReader_made
  split
  · exact h16
  · rw [tp_b1_s]
    split
    · exact rcopy22_f hw _ _ _ _ _ _ _ _
    · exact h16
theorem rcopy_ok (hN : 100000 ≤ N) {a many dist bg : Nat} {T : List Nat} {t : Nat → Int32} (h1 : tb ≤ T.length) (h2 : T.length ≤ tb + len) (h3 : tb + len ≤ 10000) (hm : many < 1000) (hd : dist < 2 ^ 40) (h : tp_Rw 10000 t T) (hf : tp_fitsB t) (fp : Int32) : elC (tp_b4 (m_BlockReader_readCopy N (nI bg) (nI many) (lN dist) (nI tb) (lN len) 0 fp (nI T.length) t) fun x y z u => some (nI a, x, y, z, u)) (cpS tb len bg a many dist T) T fp := by
  have no : dist = 0 ∨ T.length - tb < dist → m_BlockReader_readCopy N (nI bg) (nI many) (lN dist) (nI tb) (lN len) 0 fp (nI T.length) t = some (4, nI bg, nI T.length, t) := by
    intro c
    have h16 : m_BlockReader_readCopy_16 N (nI tb) (lN len) (nI bg) (nI many) (lN dist) 0 fp (nI T.length) t = some (4, nI bg, nI T.length, t) := by
      unfold m_BlockReader_readCopy_16
      rw [bfail_0, tp_b2_s, rcopy22_f (by decide)]
    unfold m_BlockReader_readCopy m_BlockReader_made
    rw [show (0 : Int64) = lN 0 from rfl, tp_b1_s, pk_sub h1, nI_l (by omega)]
    by_cases c0 : dist = 0
    · rw [if_pos ((lgn_eq (by omega) (by omega)).mpr c0), h16]
    · rw [if_neg (fun z => c0 ((lgn_eq (by omega) (by omega)).mp z)), if_neg (fun z => by have := (lgn_le (by omega) (by omega)).mp z; omega), h16]
  unfold cpS
  by_cases c : dist = 0 ∨ T.length - tb < dist
  · rw [if_pos c, no c, tp_b4_s]
    exact ⟨_, t, rfl, h, hf, Nat.le_of_ble_eq_true rfl, Nat.le_of_ble_eq_true rfl⟩
  · have e1 : m_BlockReader_readCopy N (nI bg) (nI many) (lN dist) (nI tb) (lN len) 0 fp (nI T.length) t = m_BlockReader_readCopy_22 N (nI tb) (lN len) (nI bg) (nI many) (lN dist) 0 fp (nI T.length) t := by
      unfold m_BlockReader_readCopy m_BlockReader_made
      rw [show (0 : Int64) = lN 0 from rfl, tp_b1_s, pk_sub h1, nI_l (by omega), if_neg (fun z => c (Or.inl ((lgn_eq (by omega) (by omega)).mp z))), if_pos ((lgn_le (by omega) (by omega)).mpr (by omega))]
    rw [if_neg c, e1]
    unfold m_BlockReader_readCopy_22 m_BlockReader_made m_BlockReader_readCopy_44
    rw [tp_b1_s, pk_sub h1, nI_l (by omega), nI_l (by omega), lN_sub (by omega)]
    by_cases c2 : len < T.length - tb + many
    · rw [if_pos c2, if_neg (fun z => by have := (lgn_le (by omega) (by omega)).mp z; omega), bfail_0, tp_b2_s, if_neg (by decide), tp_b4_s]
      exact ⟨_, t, rfl, h, hf, Nat.le_of_ble_eq_true rfl, Nat.le_of_ble_eq_true rfl⟩
    · obtain ⟨t1, e2, h4, hf1⟩ := putBack_ok hN (m := dist) (k := many) (by omega) (by omega) h hf (by omega)
      rw [if_neg c2, if_pos ((lgn_le (by omega) (by omega)).mpr (by omega)), if_pos rfl, lN_i, e2, tp_b2_s, tp_b4_s]
      exact ⟨t1, rfl, h4, hf1⟩
theorem next_in (hD : tp_Rw 10000 g D) (hDl : D.length ≤ 10000) (he : e ≤ D.length) {a : Nat} (ha : a < e) (w fp : Int32) : m_BlockReader_next (nI a) (nI e) w fp (nI D.length) g = some (nI (gb D a), nI (a + 1), w, fp) := by
  unfold m_BlockReader_next
  rw [if_pos (nI_lt ha (by omega)), nI_1, nI_pred, at_in hD (by omega) (by omega) (by omega), tp_b1_s, show (255 : Int32) = nI 255 from rfl, pk_andN (by have := rw_lt hD a; omega) 8 (by decide), Nat.mod_eq_of_lt (rw_lt hD a)]
theorem next_out {a : Nat} (ha : e ≤ a) (ha2 : a < 2 ^ 31) (fp : Int32) : m_BlockReader_next (nI a) (nI e) 0 fp (nI D.length) g = some (0, nI a, 1, nI e) := by
  unfold m_BlockReader_next
  rw [if_neg (nI_nlt ha ha2), bfail_0, tp_b2_s]
theorem nn_in (hN : 100000 ≤ N) (hD : tp_Rw 10000 g D) (hDl : D.length ≤ 10000) (he : e ≤ D.length) {a k : Nat} (ha : a + k ≤ e) (hk : k ≤ 7) (w fp : Int32) : m_BlockReader_nextNumber N (nI k) (nI a) (nI e) w fp (nI D.length) g = some (lN (nvA D a k), nI (a + k), w, fp) := by
  unfold m_BlockReader_nextNumber
  rw [pk_sub (by omega), if_pos (nI_le (by omega) (by omega)), nI_add, pk_sub (by omega), show a + k - k = a by omega, numberAt_ok hN hD hDl (by omega) hk, tp_b1_s]
theorem nn_out {a k : Nat} (ha : e < a + k) (ha2 : a ≤ e) (hk : k ≤ 7) (he : e < 2 ^ 30) (fp : Int32) : m_BlockReader_nextNumber N (nI k) (nI a) (nI e) 0 fp (nI D.length) g = some (0, nI a, 1, nI e) := by
  unfold m_BlockReader_nextNumber
  rw [pk_sub (by omega), if_neg (nI_ge (by omega) (by omega)), bfail_0, tp_b2_s]
theorem tg2 : ∀ n, n < 256 → nI n >>> ((2 : Int32) &&& 31) = nI (n / 4) := by decide +kernel
theorem tg3 : ∀ n, n < 256 → nI n &&& (3 : Int32) = nI (n % 4) := by decide +kernel
theorem el_ok (hN : 100000 ≤ N) (hD : tp_Rw 10000 g D) (hDl : D.length ≤ 10000) (he : e ≤ D.length) {a : Nat} {T : List Nat} {t : Nat → Int32} (ha : a < e) (h1 : tb ≤ T.length) (h2 : T.length ≤ tb + len) (h3 : tb + len ≤ 10000) (h : tp_Rw 10000 t T) (hf : tp_fitsB t) (fp : Int32) : elC (m_BlockReader_readElement N (nI a) (nI e) (nI tb) (lN len) 0 fp (nI D.length) g (nI T.length) t) (elS D e tb len a T) T fp := by
  have hb : gb D a < 256 := rw_lt hD a
  have hb2 : gb D (a + 1) < 256 := rw_lt hD (a + 1)
  have eo : ∀ a' : Int32, elC (some (a', 1, nI e, nI T.length, t)) (.error (1, e)) T fp := fun a' => ⟨a', t, rfl, h, hf, Nat.le_of_ble_eq_true rfl, Nat.le_of_ble_eq_true rfl⟩
  unfold m_BlockReader_readElement elS
  rw [next_in hD hDl he ha, tp_b4_s, tp_b0, tg2 _ hb, tg3 _ hb]
  by_cases k0 : gb D a % 4 = 0
  · rw [if_pos k0, k0, if_pos (show nI 0 = (0 : Int32) from rfl)]
    by_cases c : gb D a / 4 < 60
    · rw [if_pos c, if_neg (show ¬ (60 : Int32) ≤ nI (gb D a / 4) from nI_ge (b := 60) c (by decide)), tp_b5_id, nI_l (by omega), show (1 : Int64) + lN (gb D a / 4) = lN (gb D a / 4 + 1) by rw [Nat.add_comm]; exact lN_add 1 _]
      exact rlit_ok hN hD hDl he (by omega) h1 h2 h3 (by omega) h hf fp
    · rw [if_neg c, if_pos (show (60 : Int32) ≤ nI (gb D a / 4) from nI_le (a := 60) (by omega) (by omega)), show nI (gb D a / 4) - (59 : Int32) = nI (gb D a / 4 - 59) from pk_sub (b := 59) (by omega)]
      by_cases c2 : a + 1 + (gb D a / 4 - 59) ≤ e
      · have hv := nvA_lt hD (a + 1) (gb D a / 4 - 59)
        have hp : 2 ^ (8 * (gb D a / 4 - 59)) ≤ 2 ^ 32 := Nat.pow_le_pow_right (by decide) (by omega)
        rw [if_pos c2, nn_in hN hD hDl he c2 (by omega), tp_b4_s, tp_b5_id, l1p]
        exact rlit_ok hN hD hDl he (by omega) h1 h2 h3 (by omega) h hf fp
      · rw [if_neg c2, nn_out (by omega) (by omega) (by omega) (by omega), tp_b4_s, tp_b5_id, rlit_f (by decide)]
        exact eo _
  · rw [if_neg k0, if_neg (show ¬ nI (gb D a % 4) = (0 : Int32) from nI_ne0 (by omega) (by omega))]
    by_cases k1 : gb D a % 4 = 1
    · rw [if_pos k1, k1, if_pos (show nI 1 = (1 : Int32) from rfl), show nI (gb D a / 4) / (8 : Int32) = nI (gb D a / 4 / 8) from pk_div (d := 8) (by omega) (by decide) (by decide)]
      by_cases c2 : a + 1 + 1 ≤ e
      · rw [if_pos c2, next_in hD hDl he (by omega), tp_b4_s, show nI (gb D a / 4 / 8) * (8 : Int32) = nI (gb D a / 4 / 8 * 8) from pk_mul _ 8, pk_sub (by omega), show gb D a / 4 - gb D a / 4 / 8 * 8 = gb D a / 4 % 8 by omega, show nI (gb D a / 4 % 8) + (4 : Int32) = nI (gb D a / 4 % 8 + 4) from nI_add _ 4, show (256 : Int32) * nI (gb D a / 4 / 8) = nI (256 * (gb D a / 4 / 8)) from pk_mul 256 _, nI_add, nI_l (by omega)]
        exact rcopy_ok hN h1 h2 h3 (by omega) (by omega) h hf fp
      · rw [if_neg c2, next_out (by omega) (by omega), tp_b4_s, rcopy_f (by decide), tp_b4_s]
        exact eo _
    · rw [if_neg k1, if_neg (show ¬ nI (gb D a % 4) = (1 : Int32) from fun z => k1 ((nI_eq (b := 1) (by omega) (by decide)).mp z))]
      have hy : nI (gb D a / 4) + (1 : Int32) = nI (gb D a / 4 + 1) := nI_1 _
      by_cases k2 : gb D a % 4 = 2
      · rw [if_pos k2, k2, if_pos (show nI 2 = (2 : Int32) from rfl), hy, show (2 : Int32) = nI 2 from rfl]
        by_cases c2 : a + 1 + 2 ≤ e
        · have hv := nvA_lt hD (a + 1) 2
          rw [if_pos c2, nn_in hN hD hDl he c2 (by omega), tp_b4_s]
          exact rcopy_ok hN h1 h2 h3 (by omega) (by omega) h hf fp
        · rw [if_neg c2, nn_out (by omega) (by omega) (by omega) (by omega), tp_b4_s, rcopy_f (by decide), tp_b4_s]
          exact eo _
      · rw [if_neg k2, if_neg (show ¬ nI (gb D a % 4) = (2 : Int32) from fun z => k2 ((nI_eq (b := 2) (by omega) (by decide)).mp z)), hy, show (4 : Int32) = nI 4 from rfl]
        by_cases c2 : a + 1 + 4 ≤ e
        · have hv := nvA_lt hD (a + 1) 4
          rw [if_pos c2, nn_in hN hD hDl he c2 (by omega), tp_b4_s]
          exact rcopy_ok hN h1 h2 h3 (by omega) (by omega) h hf fp
        · rw [if_neg c2, nn_out (by omega) (by omega) (by omega) (by omega), tp_b4_s, rcopy_f (by decide), tp_b4_s]
          exact eo _
-- ---- the length ahead
def lnC (X : Option (Int32 × Int64 × Int32 × Int32)) (s : Except (Nat × Nat) (Nat × Nat)) (fp : Int32) : Prop :=
  match s with
  | .error x => ∃ (a' : Int32) (l' : Int64), X = some (a', l', nI x.1, nI x.2) ∧ 1 ≤ x.1 ∧ x.1 ≤ 12
  | .ok x => X = some (nI x.2, lN x.1, (0 : Int32), fp)
theorem rl85_f {w : Int32} (hw : ¬ w = 0) (en ic x1 x2 at' fp : Int32) (l : Int64) : m_BlockReader_readLength_85 N en ic g x1 x2 at' l w fp = some (at', l, w, fp) := by
  unfold m_BlockReader_readLength_85
  split
  · rfl
  · rw [bfail_f hw, tp_b2_s]
theorem rl_f {w : Int32} (hw : ¬ w = 0) (en ic x1 x2 x3 x4 at' fp : Int32) (l : Int64) (n : Nat) : tp_it8 (m_BlockReader_readLength_17 N en ic g) (n + 1) x1 x2 x3 x4 at' l w fp = some (at', l, w, fp) := by
  show m_BlockReader_readLength_17 N en ic g (tp_it8 (m_BlockReader_readLength_17 N en ic g) n) x1 x2 x3 x4 at' l w fp = _
  rw [m_BlockReader_readLength_17]
  split
  · exact rl85_f hw _ _ _ _ _ _ _
  · split
    · exact rl85_f hw _ _ _ _ _ _ _
    · exact rl85_f hw _ _ _ _ _ _ _
theorem rl85_ok {most bg x a : Nat} (hm : most ≤ 10000) (hx : x < 2 ^ 60) (en ic fp : Int32) : lnC (m_BlockReader_readLength_85 N en ic g (nI most) (nI bg) (nI a) (lN x) 0 fp) (lnE bg most x a) fp := by
  unfold m_BlockReader_readLength_85 lnE
  rw [nI_l (by omega)]
  by_cases c : most < x
  · rw [if_pos c, if_neg (fun z => by have := (lgn_le (by omega) (by omega)).mp z; omega), bfail_0, tp_b2_s]
    exact ⟨_, _, rfl, Nat.le_of_ble_eq_true rfl, Nat.le_of_ble_eq_true rfl⟩
  · rw [if_neg c, if_pos ((lgn_le (by omega) (by omega)).mpr (by omega))]
    exact rfl
theorem and127 {b : Nat} (h : b < 2 ^ 31) : nI b &&& (127 : Int32) = nI (b % 128) := pk_andN (by omega) 7 (by decide)
theorem ln_l (hN : 100000 ≤ N) (hD : tp_Rw 10000 g D) (hDl : D.length ≤ 10000) (he : e ≤ D.length) {most bg : Nat} (hm : most ≤ 10000) (fp : Int32) : ∀ (d n k x a pt : Nat), k + d = 5 → d + 1 < n → x < 2 ^ (7 * k) → 127 < pt → pt < 2 ^ 31 → a ≤ e → lnC (tp_it8 (m_BlockReader_readLength_17 N (nI e) (nI D.length) g) n (nI most) (nI bg) (nI pt) (nI k) (nI a) (lN x) 0 fp) (lnf D e bg most d k x a) fp := by
  intro d
  induction d with
  | zero =>
    intro n k x a pt hk hn hx hp hp2 ha
    obtain ⟨n, rfl⟩ : ∃ z, n = z + 1 := ⟨n - 1, by omega⟩
    show lnC (m_BlockReader_readLength_17 N (nI e) (nI D.length) g (tp_it8 (m_BlockReader_readLength_17 N (nI e) (nI D.length) g) n) (nI most) (nI bg) (nI pt) (nI k) (nI a) (lN x) 0 fp) _ _
    have hx2 : 2 ^ (7 * k) ≤ 2 ^ 35 := Nat.pow_le_pow_right (by decide) (by omega)
    rw [m_BlockReader_readLength_17, if_pos (show (5 : Int32) ≤ nI k from nI_le (a := 5) (by omega) (by omega)), lnf]
    exact rl85_ok hm (by omega) _ _ _
  | succ d ih =>
    intro n k x a pt hk hn hx hp hp2 ha
    obtain ⟨n, rfl⟩ : ∃ z, n = z + 1 := ⟨n - 1, by omega⟩
    show lnC (m_BlockReader_readLength_17 N (nI e) (nI D.length) g (tp_it8 (m_BlockReader_readLength_17 N (nI e) (nI D.length) g) n) (nI most) (nI bg) (nI pt) (nI k) (nI a) (lN x) 0 fp) _ _
    obtain ⟨m, rfl⟩ : ∃ z, n = z + 1 := ⟨n - 1, by omega⟩
    rw [m_BlockReader_readLength_17, if_neg (show ¬ (5 : Int32) ≤ nI k from nI_ge (b := 5) (by omega) (by decide)), if_neg (show ¬ nI pt ≤ (127 : Int32) from nI_ge (a := 127) hp hp2), if_pos rfl, lnf]
    by_cases c : e ≤ a
    · rw [if_pos c, next_out c (by omega), tp_b4_s, tp_b0]
      have er : ∀ (q1 q2 : Int32) (l : Int64), lnC (tp_it8 (m_BlockReader_readLength_17 N (nI e) (nI D.length) g) (m + 1) (nI most) (nI bg) q1 q2 (nI a) l 1 (nI e)) (.error (1, e)) fp := fun q1 q2 l => by
        rw [rl_f (by decide)]
        exact ⟨_, _, rfl, Nat.le_of_ble_eq_true rfl, Nat.le_of_ble_eq_true rfl⟩
      split
      · rw [if_pos (by decide)]
        exact er _ _ _
      · exact er _ _ _
    · have hb : gb D a < 256 := rw_lt hD a
      have hp7 : 2 ^ (7 * (k + 1)) = 2 ^ (7 * k) * 128 := by rw [show 7 * (k + 1) = 7 * k + 7 by omega, Nat.pow_add]
      have hp8 : 2 ^ (7 * (k + 1)) ≤ 2 ^ 35 := Nat.pow_le_pow_right (by decide) (by omega)
      have hle : gb D a % 128 * 2 ^ (7 * k) ≤ 127 * 2 ^ (7 * k) := Nat.mul_le_mul_right _ (by omega)
      have hy : lN x ||| (Int32.toInt64 (nI (gb D a) &&& (127 : Int32)) <<< (Int32.toInt64 ((7 : Int32) * nI k) &&& 63)) = lN (x + gb D a % 128 * 2 ^ (7 * k)) := by
        rw [and127 (by omega), nI_l (by omega), show (7 : Int32) * nI k = nI (7 * k) from pk_mul 7 k, wb_shl _ (by omega), g_or' (k := 7 * k) rfl hx (by omega)]
      rw [if_neg c, next_in hD hDl he (by omega), tp_b4_s, hy, tp_b0, show nI k + (1 : Int32) = nI (k + 1) from nI_1 k]
      have go : lnC (tp_it8 (m_BlockReader_readLength_17 N (nI e) (nI D.length) g) (m + 1) (nI most) (nI bg) (nI (gb D a)) (nI (k + 1)) (nI (a + 1)) (lN (x + gb D a % 128 * 2 ^ (7 * k))) 0 fp) (if gb D a < 128 then lnE bg most (x + gb D a % 128 * 2 ^ (7 * k)) (a + 1) else lnf D e bg most d (k + 1) (x + gb D a % 128 * 2 ^ (7 * k)) (a + 1)) fp := by
        by_cases c3 : gb D a < 128
        · rw [if_pos c3]
          show lnC (m_BlockReader_readLength_17 N (nI e) (nI D.length) g (tp_it8 (m_BlockReader_readLength_17 N (nI e) (nI D.length) g) m) (nI most) (nI bg) (nI (gb D a)) (nI (k + 1)) (nI (a + 1)) (lN (x + gb D a % 128 * 2 ^ (7 * k))) 0 fp) _ _
          rw [m_BlockReader_readLength_17]
          split
          · exact rl85_ok hm (by omega) _ _ _
          · rw [if_pos (show nI (gb D a) ≤ (127 : Int32) from nI_le (b := 127) (by omega) (by decide))]
            exact rl85_ok hm (by omega) _ _ _
        · rw [if_neg c3]
          exact ih (m + 1) (k + 1) _ (a + 1) (gb D a) (by omega) (by omega) (by omega) (by omega) (by omega) (by omega)
      by_cases c4 : k = 4
      · rw [if_pos (show nI k = (4 : Int32) by rw [c4]; rfl)]
        by_cases c5 : 15 < gb D a
        · rw [if_pos (show k = 4 ∧ 15 < gb D a from ⟨c4, c5⟩), if_neg (show ¬ nI (gb D a) ≤ (15 : Int32) from nI_ge (a := 15) c5 (by omega)), bfail_0, tp_b2_s, rl_f (by decide)]
          exact ⟨_, _, rfl, Nat.le_of_ble_eq_true rfl, Nat.le_of_ble_eq_true rfl⟩
        · rw [if_neg (show ¬ (k = 4 ∧ 15 < gb D a) from fun z => c5 z.2), if_pos (show nI (gb D a) ≤ (15 : Int32) from nI_le (b := 15) (by omega) (by decide))]
          exact go
      · rw [if_neg (show ¬ nI k = (4 : Int32) from fun z => c4 ((nI_eq (b := 4) (by omega) (by decide)).mp z)), if_neg (show ¬ (k = 4 ∧ 15 < gb D a) from fun z => c4 z.1)]
        exact go
-- ---- the block
def blC (X : Option (Int32 × Int32 × Int32 × Int64 × Int32 × Int32 × Int32 × (Nat → Int32))) (s : Except (Nat × Nat) (List Nat)) : Prop :=
  match s with
  | .error x => ∃ (a1 a2 a3 : Int32) (l : Int64) (T' : List Nat) (t' : Nat → Int32), X = some (a1, a2, a3, l, nI x.1, nI x.2, nI T'.length, t') ∧ T'.length ≤ 10000 ∧ tp_Rw 10000 t' T' ∧ tp_fitsB t' ∧ 1 ≤ x.1 ∧ x.1 ≤ 12
  | .ok T' => ∃ (a1 a2 a3 : Int32) (l : Int64) (fp : Int32) (t' : Nat → Int32), X = some (a1, a2, a3, l, (0 : Int32), fp, nI T'.length, t') ∧ tp_Rw 10000 t' T' ∧ tp_fitsB t'
theorem bl70_f {w : Nat} (hw : 1 ≤ w) (hw2 : w ≤ 12) {p : Nat} (a1 a2 a3 : Int32) (l : Int64) {T : List Nat} {t : Nat → Int32} (hl : T.length ≤ 10000) (h : tp_Rw 10000 t T) (hf : tp_fitsB t) (ic : Int32) : blC (m_BlockReader_readBlock_70 N ic g a1 a2 a3 l (nI w) (nI p) (nI T.length) t) (.error (w, p)) := by
  unfold m_BlockReader_readBlock_70
  rw [if_neg (nI_ne0 hw (by omega))]
  exact ⟨a1, a2, a3, l, T, t, rfl, hl, h, hf, hw, hw2⟩
theorem bl70_ok {a : Nat} {T : List Nat} {t : Nat → Int32} (h1 : tb ≤ T.length) (h3 : tb + len ≤ 10000) (h2 : T.length ≤ tb + len) (h : tp_Rw 10000 t T) (hf : tp_fitsB t) (ic fp : Int32) : blC (m_BlockReader_readBlock_70 N ic g (nI a) (nI e) (nI tb) (lN len) 0 fp (nI T.length) t) (if T.length - tb < len then .error (6, e) else .ok T) := by
  unfold m_BlockReader_readBlock_70 m_BlockReader_made
  rw [if_pos rfl, tp_b1_s, pk_sub h1, nI_l (by omega)]
  by_cases c : T.length - tb < len
  · rw [if_pos c, if_neg (fun z => by have := (lgn_ge (by omega) (by omega)).mp z; omega), bfail_0, tp_b2_s]
    exact ⟨_, _, _, _, T, t, rfl, by omega, h, hf, Nat.le_of_ble_eq_true rfl, Nat.le_of_ble_eq_true rfl⟩
  · rw [if_neg c, if_pos ((lgn_ge (by omega) (by omega)).mpr (by omega))]
    exact ⟨_, _, _, _, _, t, rfl, h, hf⟩
theorem bl_l (hN : 100000 ≤ N) (hD : tp_Rw 10000 g D) (hDl : D.length ≤ 10000) (he : e ≤ D.length) (h3 : tb + len ≤ 10000) (fp : Int32) : ∀ (k n c a : Nat) (T : List Nat) (t : Nat → Int32), e - a < k → k + 1 < n → c ≤ a → a ≤ e → tb ≤ T.length → T.length ≤ tb + len → tp_Rw 10000 t T → tp_fitsB t → blC (tp_it9 (m_BlockReader_readBlock_34 N (nI D.length) g) n (nI c) (nI a) (nI e) (nI tb) (lN len) 0 fp (nI T.length) t) (blf D e tb len k a T) := by
  intro k
  induction k with
  | zero => intro n c a T t h; omega
  | succ k ih =>
    intro n c a T t hk hn hc ha h1 h2 h hf
    obtain ⟨n, rfl⟩ : ∃ z, n = z + 1 := ⟨n - 1, by omega⟩
    show blC (m_BlockReader_readBlock_34 N (nI D.length) g (tp_it9 (m_BlockReader_readBlock_34 N (nI D.length) g) n) (nI c) (nI a) (nI e) (nI tb) (lN len) 0 fp (nI T.length) t) _
    rw [m_BlockReader_readBlock_34, blf]
    by_cases c1 : e ≤ a
    · rw [if_pos c1]
      split
      · exact bl70_ok h1 h3 h2 h hf _ _
      · rw [if_pos rfl, if_pos (nI_le c1 (by omega))]
        exact bl70_ok h1 h3 h2 h hf _ _
    · rw [if_neg c1, if_neg (show ¬ (10000 : Int32) ≤ nI c from nI_ge (b := 10000) (by omega) (by decide)), if_pos rfl, if_neg (nI_ge (by omega) (by omega)), show nI c + (1 : Int32) = nI (c + 1) from nI_1 c]
      have hE := el_ok hN hD hDl he (a := a) (by omega) h1 h2 h3 h hf fp
      cases hx : elS D e tb len a T with
      | error x =>
        rw [hx] at hE
        obtain ⟨a', t', e1, h4, hf4, w1, w2⟩ := hE
        obtain ⟨n, rfl⟩ : ∃ z, n = z + 1 := ⟨n - 1, by omega⟩
        rw [e1, tp_b5_s]
        show blC (m_BlockReader_readBlock_34 N (nI D.length) g (tp_it9 (m_BlockReader_readBlock_34 N (nI D.length) g) n) (nI (c + 1)) a' (nI e) (nI tb) (lN len) (nI x.1) (nI x.2) (nI T.length) t') (.error x)
        rw [m_BlockReader_readBlock_34]
        split
        · exact bl70_f w1 w2 _ _ _ _ (by omega) h4 hf4 _
        · rw [if_neg (nI_ne0 w1 (by omega))]
          exact bl70_f w1 w2 _ _ _ _ (by omega) h4 hf4 _
      | ok x =>
        rw [hx] at hE
        have i1 := elS_in h1 hx
        obtain ⟨t', e1, h4, hf4⟩ := hE
        rw [e1, tp_b5_s]
        exact ih n (c + 1) x.1 x.2 t' (by omega) (by omega) (by omega) (by omega) (by omega) (by omega) h4 hf4
theorem rb_ok (hN : 100000 ≤ N) (hD : tp_Rw 10000 g D) (hDl : D.length ≤ 10000) (he : e ≤ D.length) {a most : Nat} {T : List Nat} {t : Nat → Int32} (ha : a ≤ e) (hm : T.length + most ≤ 10000) (h : tp_Rw 10000 t T) (hf : tp_fitsB t) (b1 b2 b3 b5 fp : Int32) (b4 : Int64) : blC (m_BlockReader_readBlock N (nI a) (nI e) (nI most) b1 b2 b3 b4 b5 fp (nI D.length) g (nI T.length) t) (rbS D a e most T) := by
  have hL := ln_l hN hD hDl he (most := most) (bg := a) (by omega) fp 5 N 0 0 a 128 (by omega) (by omega) (by decide) (by decide) (by decide) ha
  unfold m_BlockReader_readBlock rbS m_BlockReader_readLength
  cases hx : lnf D e a most 5 0 0 a with
  | error x =>
    rw [hx] at hL
    obtain ⟨a', l', e1, w1, w2⟩ := hL
    obtain ⟨n, rfl⟩ : ∃ z, N = z + 1 := ⟨N - 1, by omega⟩
    rw [show tp_it8 (m_BlockReader_readLength_17 (n + 1) (nI e) (nI D.length) g) (n + 1) (nI most) (nI a) (128 : Int32) (0 : Int32) (nI a) (0 : Int64) (0 : Int32) fp = _ from e1, tp_b4_s]
    show blC (m_BlockReader_readBlock_34 (n + 1) (nI D.length) g (tp_it9 (m_BlockReader_readBlock_34 (n + 1) (nI D.length) g) n) 0 a' (nI e) (nI T.length) l' (nI x.1) (nI x.2) (nI T.length) t) (.error x)
    rw [m_BlockReader_readBlock_34, if_neg (by decide), if_neg (nI_ne0 w1 (by omega))]
    exact bl70_f w1 w2 _ _ _ _ (by omega) h hf _
  | ok x =>
    rw [hx] at hL
    have i1 := lnf_in _ _ _ _ _ ha hx
    rw [show tp_it8 (m_BlockReader_readLength_17 N (nI e) (nI D.length) g) N (nI most) (nI a) (128 : Int32) (0 : Int32) (nI a) (0 : Int64) (0 : Int32) fp = _ from hL, tp_b4_s]
    exact bl_l hN hD hDl he (by omega) fp (e - x.2 + 1) N 0 x.2 T t (by omega) (by omega) (by omega) (by omega) (Nat.le_refl _) (by omega) h hf
end
