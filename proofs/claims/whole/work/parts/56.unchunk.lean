/-! unpack and unchunk of TagPress. -/
def rdR : Except (Nat × Nat) (List Nat) → Int32
  | .error x => -(nI x.1)
  | .ok T => nI T.length
def rdP (D : List Nat) : Except (Nat × Nat) (List Nat) → Int32
  | .error x => nI x.2
  | .ok _ => nI D.length
def rdO (O : List Nat) : Except (Nat × Nat) (List Nat) → List Nat
  | .error _ => O
  | .ok T => T
theorem endR_er {w : Nat} (hw : 1 ≤ w) (hw2 : w ≤ 12) (p hp ic oc tc : Int32) (o t : Nat → Int32) : m_TP_endReading (nI w) p hp ic oc o tc t = some (-(nI w), p, oc, o) := by
  unfold m_TP_endReading
  rw [if_neg (nI_ne0 hw (by omega))]
theorem endR_ok {T : List Nat} {o t : Nat → Int32} (h : tp_Rw 10000 t T) (hf : tp_fitsB t) (hof : tp_fitsB o) (hl : T.length ≤ 10000) (fp hp ic oc : Int32) : ∃ o', m_TP_endReading 0 fp hp ic oc o (nI T.length) t = some (nI T.length, ic, nI T.length, o') ∧ tp_Rw 10000 o' T ∧ tp_fitsB o' := by
  unfold m_TP_endReading
  obtain ⟨o', e, h1, h2⟩ := become_ok (x := oc) h hf hof hl
  rw [if_pos rfl, e, tp_b2_s]
  exact ⟨o', rfl, h1, h2⟩
def upC (D O : List Nat) (X : Option (Int32 × Int32 × Int32 × (Nat → Int32) × Int32 × (Nat → Int32) × Int32 × Int32 × Int32 × Int64 × Int32 × Int32)) (s : Except (Nat × Nat) (List Nat)) : Prop :=
  ∃ (o' : Nat → Int32) (T' : Nat) (t' : Nat → Int32) (b1 b2 b3 : Int32) (b4 : Int64) (b5 b6 : Int32), X = some (rdR s, rdP D s, nI (rdO O s).length, o', nI T', t', b1, b2, b3, b4, b5, b6) ∧ T' < 2 ^ 31 ∧ tp_Rw 10000 o' (rdO O s) ∧ tp_fitsB o' ∧ tp_fitsB t'
def usC (D O : List Nat) (X : Option (Int32 × Int32 × Int32 × (Nat → Int32) × Int32 × (Nat → Int32) × Int32 × Int32 × Int32 × Int64 × Int32 × Int32 × Int32 × Int32 × Int32 × Int32)) (s : Except (Nat × Nat) (List Nat)) : Prop :=
  ∃ (o' : Nat → Int32) (T' : Nat) (t' : Nat → Int32) (b1 b2 b3 : Int32) (b4 : Int64) (b5 b6 c1 c2 c3 c4 : Int32), X = some (rdR s, rdP D s, nI (rdO O s).length, o', nI T', t', b1, b2, b3, b4, b5, b6, c1, c2, c3, c4) ∧ T' < 2 ^ 31 ∧ tp_Rw 10000 o' (rdO O s) ∧ tp_fitsB o' ∧ tp_fitsB t'
section
variable {N : Nat} {D O : List Nat} {g o : Nat → Int32}
theorem up_ok (hN : 100000 ≤ N) (hD : tp_Rw 10000 g D) (hDl : D.length ≤ 10000) (ho : tp_Rw 10000 o O) (hof : tp_fitsB o) {most T : Nat} {t : Nat → Int32} (hm : most ≤ 10000) (hT : T < 2 ^ 31) (htf : tp_fitsB t) (hp b1 b2 b3 b5 b6 : Int32) (b4 : Int64) : upC D O (m_TP_unpack N (nI most) hp (nI D.length) g (nI O.length) o (nI T) t b1 b2 b3 b4 b5 b6) (rbS D 0 D.length most []) := by
  have hB := rb_ok hN hD hDl (Nat.le_refl _) (a := 0) (most := most) (Nat.zero_le _) (show ([] : List Nat).length + most ≤ 10000 by rw [List.length_nil]; omega) (rw_nil 10000 t) htf b1 b2 b3 b5 b6 b4
  unfold m_TP_unpack m_TP_isNoMost
  rw [if_neg (show ¬ nI most < 0 from nI_pos (by omega)), if_pos (show nI most ≤ (10000 : Int32) from nI_le (b := 10000) hm (by decide)), tp_b1_s, if_pos rfl, show (0 : Int32) = nI 0 from rfl, shorten_ok (Nat.zero_le _) hT, tp_b1_s]
  cases hr : rbS D 0 D.length most [] with
  | error x =>
    rw [hr] at hB
    obtain ⟨c1, c2, c3, l, T', t', e1, hl, h4, hf4, w1, w2⟩ := hB
    rw [show m_BlockReader_readBlock N (nI 0) (nI D.length) (nI most) b1 b2 b3 b4 b5 b6 (nI D.length) g (nI 0) t = _ from e1, tp_b8_s, endR_er w1 w2, tp_b4_s]
    exact ⟨o, T'.length, t', _, _, _, _, _, _, rfl, by omega, ho, hof, hf4⟩
  | ok T' =>
    rw [hr] at hB
    have j := rbS_in (Nat.zero_le _) hr
    obtain ⟨c1, c2, c3, l, c5, t', e1, h4, hf4⟩ := hB
    have hl : T'.length ≤ 10000 := by rw [List.length_nil] at j; omega
    obtain ⟨o', e2, h5, h6⟩ := endR_ok h4 hf4 hof hl c5 hp (nI D.length) (nI O.length)
    rw [show m_BlockReader_readBlock N (nI 0) (nI D.length) (nI most) b1 b2 b3 b4 b5 b6 (nI D.length) g (nI 0) t = _ from e1, tp_b8_s, show (0 : Int32) = nI 0 from rfl] at *
    rw [e2, tp_b4_s]
    exact ⟨o', T'.length, t', _, _, _, _, _, _, rfl, by omega, h5, h6, hf4⟩
theorem us_er {w p : Nat} (hw : 1 ≤ w) (hw2 : w ≤ 12) (ho : tp_Rw 10000 o O) (hof : tp_fitsB o) {T : Nat} {t : Nat → Int32} (hT : T < 2 ^ 31) (hf : tp_fitsB t) (hp b1 b2 b3 b5 b6 c1 c2 : Int32) (b4 : Int64) : usC D O (tp_b4 (m_TP_endReading (nI w) (nI p) hp (nI D.length) (nI O.length) o (nI T) t) fun r11 h_place_12 o_c_13 o_f_14 => some (r11, h_place_12, o_c_13, o_f_14, nI T, t, b1, b2, b3, b4, b5, b6, c1, c2, nI w, nI p)) (.error (w, p)) := by
  rw [endR_er hw hw2, tp_b4_s]
  exact ⟨o, T, t, _, _, _, _, _, _, _, _, _, _, rfl, hT, ho, hof, hf⟩
theorem us_end {T : List Nat} {t : Nat → Int32} (hof : tp_fitsB o) (h : tp_Rw 10000 t T) (hf : tp_fitsB t) (hl : T.length ≤ 10000) (hp fp b1 b2 b3 b5 b6 c1 c2 : Int32) (b4 : Int64) : usC D O (tp_b4 (m_TP_endReading 0 fp hp (nI D.length) (nI O.length) o (nI T.length) t) fun r11 h_place_12 o_c_13 o_f_14 => some (r11, h_place_12, o_c_13, o_f_14, nI T.length, t, b1, b2, b3, b4, b5, b6, c1, c2, 0, fp)) (.ok T) := by
  obtain ⟨o', e2, h5, h6⟩ := endR_ok h hf hof hl fp hp (nI D.length) (nI O.length)
  rw [e2, tp_b4_s]
  exact ⟨o', T.length, t, _, _, _, _, _, _, _, _, _, _, rfl, by omega, h5, h6, hf⟩
theorem us_l (hN : 100000 ≤ N) (hD : tp_Rw 10000 g D) (hDl : D.length ≤ 10000) (ho : tp_Rw 10000 o O) (hof : tp_fitsB o) {most : Nat} (hm : most ≤ 10000) (hp fp : Int32) : ∀ (k n c a : Nat) (T : List Nat) (t : Nat → Int32) (b1 b2 b3 b5 b6 : Int32) (b4 : Int64), D.length - a < k → k + 1 < n → c ≤ a → a < 2 ^ 30 → T.length ≤ most → tp_Rw 10000 t T → tp_fitsB t → usC D O (tp_it16 (m_TP_unchunk_28 N (nI D.length) g) n (nI c) hp (nI O.length) o (nI T.length) t b1 b2 b3 b4 b5 b6 (nI a) (nI most) 0 fp) (unf D most k a T) := by
  intro k
  induction k with
  | zero => intro n c a T t b1 b2 b3 b5 b6 b4 h; omega
  | succ k ih =>
    intro n c a T t b1 b2 b3 b5 b6 b4 hk hn hc ha hT h hf
    obtain ⟨n, rfl⟩ : ∃ z, n = z + 1 := ⟨n - 1, by omega⟩
    show usC D O (m_TP_unchunk_28 N (nI D.length) g (tp_it16 (m_TP_unchunk_28 N (nI D.length) g) n) (nI c) hp (nI O.length) o (nI T.length) t b1 b2 b3 b4 b5 b6 (nI a) (nI most) 0 fp) _
    rw [m_TP_unchunk_28, unf]
    by_cases c1 : D.length ≤ a
    · rw [if_pos c1]
      split
      · exact us_end hof h hf (by omega) _ _ _ _ _ _ _ _ _ _
      · unfold m_StreamReader_hasMore
        rw [if_pos rfl, if_pos (nI_le c1 (by omega)), tp_b1_s, if_pos rfl]
        exact us_end hof h hf (by omega) _ _ _ _ _ _ _ _ _ _
    · have hR := rc_ok hN hD hDl (a := a) (by omega) hm hT h hf fp b1 b2 b3 b5 b6 b4
      rw [if_neg c1, if_neg (show ¬ (10000 : Int32) ≤ nI c from nI_ge (b := 10000) (by omega) (by decide)), show m_StreamReader_hasMore (nI a) 0 (nI D.length) = some 1 by unfold m_StreamReader_hasMore; rw [if_pos rfl, if_neg (nI_ge (by omega) (by omega))], tp_b1_s, if_neg (by decide), show nI c + (1 : Int32) = nI (c + 1) from nI_1 c]
      obtain ⟨n, rfl⟩ : ∃ z, n = z + 1 := ⟨n - 1, by omega⟩
      cases hx : chS D most a T with
      | error x =>
        rw [hx] at hR
        obtain ⟨a', T', t', d1, d2, d3, d4, d5, d6, e1, hl, hf4, w1, w2⟩ := hR
        rw [e1, tp_b11_s]
        show usC D O (m_TP_unchunk_28 N (nI D.length) g (tp_it16 (m_TP_unchunk_28 N (nI D.length) g) n) (nI (c + 1)) hp (nI O.length) o (nI T') t' d1 d2 d3 d4 d5 d6 a' (nI most) (nI x.1) (nI x.2)) (.error x)
        rw [m_TP_unchunk_28]
        split
        · exact us_er w1 w2 ho hof (by omega) hf4 _ _ _ _ _ _ _ _ _
        · unfold m_StreamReader_hasMore
          rw [if_neg (nI_ne0 w1 (by omega)), tp_b1_s, if_pos rfl]
          exact us_er w1 w2 ho hof (by omega) hf4 _ _ _ _ _ _ _ _ _
      | ok x =>
        rw [hx] at hR
        have i := chS_in hT hx
        obtain ⟨t', d1, d2, d3, d4, d5, d6, e1, h4, hf4⟩ := hR
        rw [e1, tp_b11_s]
        exact ih (n + 1) (c + 1) x.1 x.2 t' d1 d2 d3 d5 d6 d4 (by omega) (by omega) (by omega) (by omega) (by omega) h4 hf4
theorem us_ok (hN : 100000 ≤ N) (hD : tp_Rw 10000 g D) (hDl : D.length ≤ 10000) (ho : tp_Rw 10000 o O) (hof : tp_fitsB o) {most T : Nat} {t : Nat → Int32} (hm : most ≤ 10000) (hT : T < 2 ^ 31) (htf : tp_fitsB t) (hp b1 b2 b3 b5 b6 c1 c2 c3 fp : Int32) (b4 : Int64) : usC D O (m_TP_unchunk N (nI most) hp (nI D.length) g (nI O.length) o (nI T) t b1 b2 b3 b4 b5 b6 c1 c2 c3 fp) (unf D most (D.length + 1) 0 []) := by
  unfold m_TP_unchunk m_TP_isNoMost m_StreamReader_begin
  rw [if_neg (show ¬ nI most < 0 from nI_pos (by omega)), if_pos (show nI most ≤ (10000 : Int32) from nI_le (b := 10000) hm (by decide)), tp_b1_s, if_pos rfl, show m_Row_shorten 0 (nI T) = some (nI 0) from shorten_ok (Nat.zero_le _) hT, tp_b1_s, tp_b3_s]
  exact us_l hN hD hDl ho hof hm hp fp (D.length + 1) N 0 0 [] t b1 b2 b3 b5 b6 b4 (by omega) (by omega) (Nat.le_refl _) (by decide) (Nat.zero_le _) (rw_nil 10000 t) htf
end
