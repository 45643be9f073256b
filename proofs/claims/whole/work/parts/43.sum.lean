/-! THE SUM: the class puts a byte in at once, the reference bit by bit. -/
theorem bt0 (x : Int32) : bt x 0 = decide (x.toBitVec.toNat % 2 = 1) := by
  unfold bt
  rw [BitVec.getLsbD, Nat.testBit_zero]
theorem and1 (x : Int32) : x &&& 1 = nI (x.toBitVec.toNat % 2) := pk_and x 1 (by decide)
theorem and1_0 (x : Int32) : x &&& 1 = 0 ↔ bt x 0 = false := by
  rw [and1, bt0, show (0 : Int32) = nI 0 from rfl, nI_eq (by omega) (by omega)]
  simp only [decide_eq_false_iff_not]
  omega
theorem and1_1 (x : Int32) : x &&& 1 = 1 ↔ bt x 0 = true := by
  rw [and1, bt0, show (1 : Int32) = nI 1 from rfl, nI_eq (by omega) (by omega)]
  simp only [decide_eq_true_eq]
theorem b_us1 (x : Int32) (i : Nat) : bt (tp_ushr x 1) i = bt x (1 + i) := b_ushr 1 (by decide) x i
theorem us1_xor (x y : Int32) : tp_ushr (x ^^^ y) 1 = tp_ushr x 1 ^^^ tp_ushr y 1 := b_ext (fun i _ => by rw [b_us1, b_xor, b_xor, b_us1, b_us1])
theorem us1_nI {c : Nat} (h : c < 2 ^ 32) : tp_ushr (nI c) 1 = nI (c / 2) := pk_ushrN h 1 1 (by decide)
/-- one bit gone to the right -/
def st1 (r : Int32) : Int32 := if r &&& 1 = 1 then tp_ushr r 1 ^^^ (-2097792136) else tp_ushr r 1
def stn (r : Int32) : Nat → Int32
  | 0 => r
  | n + 1 => stn (st1 r) n
/-- the reference's bit j of a byte -/
def sr1 (r : Int32) (b j : Nat) : Int32 := if (r ^^^ (sb_b b >>> (nI j &&& 31))) &&& 1 = 0 then tp_ushr r 1 else tp_ushr r 1 ^^^ (-2097792136)
theorem bt_sb : ∀ b, b < 256 → ∀ j, j < 8 → bt (sb_b b) j = bt (nI (b / 2 ^ j)) 0 := by decide +kernel
theorem xor_r (x y z : Int32) : (x ^^^ y) ^^^ z = (x ^^^ z) ^^^ y := b_ext (fun i _ => by
  rw [b_xor, b_xor, b_xor, b_xor]
  cases bt x i <;> cases bt y i <;> cases bt z i <;> rfl)
theorem sr1_st (r : Int32) {b j : Nat} (hb : b < 256) (hj : j < 8) : sr1 r b j ^^^ nI (b / 2 ^ (j + 1)) = st1 (r ^^^ nI (b / 2 ^ j)) := by
  have hc : b / 2 ^ j < 2 ^ 32 := Nat.lt_of_le_of_lt (Nat.div_le_self _ _) (by omega)
  have e : b / 2 ^ (j + 1) = b / 2 ^ j / 2 := by rw [Nat.pow_succ, Nat.div_div_eq_div_mul]
  have hbit : bt (r ^^^ (sb_b b >>> (nI j &&& 31))) 0 = bt (r ^^^ nI (b / 2 ^ j)) 0 := by
    rw [b_xor, b_xor, b_sshr j (by omega) _ (by decide), if_pos (by omega), Nat.add_zero, bt_sb b hb j hj]
  unfold sr1 st1
  rw [us1_xor, us1_nI hc, e]
  by_cases h : bt (r ^^^ nI (b / 2 ^ j)) 0 = true
  · rw [if_pos ((and1_1 _).mpr h), if_neg (fun z => by rw [and1_0, hbit, h] at z; cases z), xor_r]
  · rw [if_neg (fun z => h ((and1_1 _).mp z)), if_pos ((and1_0 _).mpr (by rw [hbit]; exact Bool.eq_false_iff.mpr h))]
theorem xor_0 (x : Int32) : x ^^^ nI 0 = x := b_ext (fun i _ => by rw [b_xor, show nI 0 = 0 from rfl, b_0, Bool.xor_false])
/-- the register behind one byte -/
def gr8 (r : Int32) (b : Nat) : Int32 := stn (r ^^^ nI b) 8
theorem goRight_l {N : Nat} : ∀ (d n i : Nat) (r : Int32), i + d = 8 → d < n → tp_it2 (m_Sums_goRight_4 N) n r (nI i) = some (stn r d) := by
  intro d
  induction d with
  | zero =>
    intro n i r hi hn
    obtain ⟨n, rfl⟩ : ∃ z, n = z + 1 := ⟨n - 1, by omega⟩
    show m_Sums_goRight_4 N (tp_it2 (m_Sums_goRight_4 N) n) r (nI i) = _
    unfold m_Sums_goRight_4
    rw [if_pos (show (8 : Int32) ≤ nI i from nI_le (a := 8) (by omega) (by omega)), stn]
  | succ d ih =>
    intro n i r hi hn
    obtain ⟨n, rfl⟩ : ∃ z, n = z + 1 := ⟨n - 1, by omega⟩
    show m_Sums_goRight_4 N (tp_it2 (m_Sums_goRight_4 N) n) r (nI i) = _
    unfold m_Sums_goRight_4
    rw [if_neg (show ¬ (8 : Int32) ≤ nI i from nI_ge (b := 8) (by omega) (by omega)), show nI i + (1 : Int32) = nI (i + 1) from nI_1 i, stn]
    unfold st1
    by_cases h : r &&& 1 = 1
    · rw [if_pos h, if_pos h]
      exact ih n (i + 1) _ (by omega) (by omega)
    · rw [if_neg h, if_neg h]
      exact ih n (i + 1) _ (by omega) (by omega)
theorem goRight_ok {N : Nat} (hN : 100000 ≤ N) (r : Int32) : m_Sums_goRight N r = some (stn r 8) := goRight_l 8 N 0 r (by omega) (by omega)
/-- the register behind d bytes of D from a on -/
def rg (D : List Nat) (r : Int32) (a : Nat) : Nat → Int32
  | 0 => r
  | d + 1 => rg D (gr8 r (gb D a)) (a + 1) d
def sm_end (r : Int32) : Int32 := (((r ^^^ (-1)) <<< ((17 : Int32) &&& 31)) ||| (tp_ushr (r ^^^ (-1)) 15)) + (-1568478504)
/-- THE SUM of d bytes of D from a on -/
def smS (D : List Nat) (a d : Nat) : Int32 := sm_end (rg D (-1) a d)
theorem sumOf_l {N : Nat} (hN : 100000 ≤ N) {D : List Nat} {g : Nat → Int32} (hD : tp_Rw 10000 g D) {b : Nat} (hb : b ≤ D.length) (hb2 : b ≤ 10000) (hDl : D.length < 2 ^ 31) : ∀ (d n a : Nat) (r : Int32), a + d = b → d < n → tp_it3 (m_Sums_sumOf_5 N (nI D.length) g) n (nI b) r (nI a) = some (sm_end (rg D r a d)) := by
  intro d
  induction d with
  | zero =>
    intro n a r hi hn
    obtain ⟨n, rfl⟩ : ∃ z, n = z + 1 := ⟨n - 1, by omega⟩
    show m_Sums_sumOf_5 N (nI D.length) g (tp_it3 (m_Sums_sumOf_5 N (nI D.length) g) n) (nI b) r (nI a) = _
    unfold m_Sums_sumOf_5
    rw [if_pos (nI_le (by omega) (by omega)), rg]
    rfl
  | succ d ih =>
    intro n a r hi hn
    obtain ⟨n, rfl⟩ : ∃ z, n = z + 1 := ⟨n - 1, by omega⟩
    show m_Sums_sumOf_5 N (nI D.length) g (tp_it3 (m_Sums_sumOf_5 N (nI D.length) g) n) (nI b) r (nI a) = _
    unfold m_Sums_sumOf_5
    rw [if_neg (nI_ge (by omega) (by omega)), at_in hD (by omega) (by omega) hDl, tp_b1_s, goRight_ok hN, tp_b1_s, show nI a + (1 : Int32) = nI (a + 1) from nI_1 a, rg]
    exact ih n (a + 1) _ (by omega) (by omega)
theorem sumOf_ok {N : Nat} (hN : 100000 ≤ N) {D : List Nat} {g : Nat → Int32} (hD : tp_Rw 10000 g D) {a b : Nat} (hab : a ≤ b) (hb : b ≤ D.length) (hb2 : b ≤ 10000) (hDl : D.length < 2 ^ 31) : m_Sums_sumOf N (nI a) (nI b) (nI D.length) g = some (smS D a (b - a)) :=
  sumOf_l hN hD hb hb2 hDl (b - a) N a (-1) (by omega) (by omega)
/-- the reference's register behind the bits j .. of a byte -/
def srn (r : Int32) (b : Nat) (j : Nat) : Nat → Int32
  | 0 => r
  | d + 1 => srn (sr1 r b j) b (j + 1) d
theorem srn_st {b : Nat} (hb : b < 256) : ∀ (d j : Nat) (r : Int32), j + d = 8 → srn r b j d = stn (r ^^^ nI (b / 2 ^ j)) d := by
  intro d
  induction d with
  | zero =>
    intro j r hj
    rw [srn, stn, show j = 8 by omega, show b / 2 ^ 8 = 0 from Nat.div_eq_of_lt hb, xor_0]
  | succ d ih =>
    intro j r hj
    rw [srn, stn, ih (j + 1) _ (by omega), sr1_st r hb (by omega)]
theorem srn_gr {b : Nat} (hb : b < 256) (r : Int32) : srn r b 0 8 = gr8 r b := by
  rw [srn_st hb 8 0 r (by omega), gr8, Nat.pow_zero, Nat.div_one]
theorem mbit_l {N cap : Nat} {D : List Nat} {g : Nat → Int32} (hD : tp_Rw cap g D) (hcap : cap < 2 ^ 31) {a : Nat} (ha : a < D.length) (ha2 : a < cap) (rec5 : Int32 → Int32 → Int32 → Option Int32) (x2 : Int32) : ∀ (d n j : Nat) (r : Int32), j + d = 8 → d < n → tp_it4 (m_Mo_sumOf_14 N cap g rec5) n x2 r (nI a) (nI j) = rec5 x2 (srn r (gb D a) j d) (nI (a + 1)) := by
  intro d
  induction d with
  | zero =>
    intro n j r hi hn
    obtain ⟨n, rfl⟩ : ∃ z, n = z + 1 := ⟨n - 1, by omega⟩
    show m_Mo_sumOf_14 N cap g rec5 (tp_it4 (m_Mo_sumOf_14 N cap g rec5) n) x2 r (nI a) (nI j) = _
    unfold m_Mo_sumOf_14
    rw [if_pos (show (8 : Int32) ≤ nI j from nI_le (a := 8) (by omega) (by omega)), srn, show nI a + (1 : Int32) = nI (a + 1) from nI_1 a]
  | succ d ih =>
    intro n j r hi hn
    obtain ⟨n, rfl⟩ : ∃ z, n = z + 1 := ⟨n - 1, by omega⟩
    show m_Mo_sumOf_14 N cap g rec5 (tp_it4 (m_Mo_sumOf_14 N cap g rec5) n) x2 r (nI a) (nI j) = _
    unfold m_Mo_sumOf_14 m_Mo_sumOf_40
    rw [if_neg (show ¬ (8 : Int32) ≤ nI j from nI_ge (b := 8) (by omega) (by omega)), tp_gd_t (tp_inb_nI ha2 hcap), nI_clamp (by omega), hD.1 a ha ha2, show nI j + (1 : Int32) = nI (j + 1) from nI_1 j, srn]
    unfold sr1
    by_cases h : (r ^^^ (sb_b (D.getD a 0) >>> (nI j &&& 31))) &&& 1 = 0
    · rw [if_pos h, if_pos rfl, if_pos h]
      exact ih n (j + 1) _ (by omega) (by omega)
    · rw [if_neg h, if_neg (by decide), if_neg h]
      exact ih n (j + 1) _ (by omega) (by omega)
theorem msumOf_l {N cap : Nat} (hN : 100000 ≤ N) {D : List Nat} {g : Nat → Int32} (hD : tp_Rw cap g D) (hcap : cap < 2 ^ 31) {b : Nat} (hb : b ≤ D.length) (hb2 : b ≤ cap) : ∀ (d n a : Nat) (r : Int32), a + d = b → d < n → tp_it3 (m_Mo_sumOf_5 N cap g) n (nI b) r (nI a) = some (sm_end (rg D r a d)) := by
  intro d
  induction d with
  | zero =>
    intro n a r hi hn
    obtain ⟨n, rfl⟩ : ∃ z, n = z + 1 := ⟨n - 1, by omega⟩
    show m_Mo_sumOf_5 N cap g (tp_it3 (m_Mo_sumOf_5 N cap g) n) (nI b) r (nI a) = _
    unfold m_Mo_sumOf_5
    rw [if_pos (nI_le (by omega) (by omega)), rg]
    rfl
  | succ d ih =>
    intro n a r hi hn
    obtain ⟨n, rfl⟩ : ∃ z, n = z + 1 := ⟨n - 1, by omega⟩
    show m_Mo_sumOf_5 N cap g (tp_it3 (m_Mo_sumOf_5 N cap g) n) (nI b) r (nI a) = _
    unfold m_Mo_sumOf_5
    rw [if_neg (nI_ge (by omega) (by omega)), show (0 : Int32) = nI 0 from rfl, mbit_l hD hcap (by omega) (by omega) _ _ 8 N 0 r (by omega) (by omega), srn_gr (rw_lt hD a), rg]
    exact ih n (a + 1) _ (by omega) (by omega)
theorem msumOf_ok {N cap : Nat} (hN : 100000 ≤ N) {D : List Nat} {g : Nat → Int32} (hD : tp_Rw cap g D) (hcap : cap < 2 ^ 31) {a b : Nat} (hab : a ≤ b) (hb : b ≤ D.length) (hb2 : b ≤ cap) (hb3 : b < 100000) : m_Mo_sumOf N cap (nI a) (nI b) g = some (smS D a (b - a)) :=
  msumOf_l hN hD hcap hb hb2 (b - a) N a (-1) (by omega) (by omega)
