/-! The other calls, each of both sides at once. -/
theorem op_byteAt (x : Int32) {O : List Nat} {o jo : Nat → Int32} (hO : O.length ≤ 10000) (ho : tp_Rw 10000 o O) (hjo : tp_Rw 10000 jo O) : ∃ r, m_TP_byteAt x (nI O.length) o = some r ∧ m_Mo_byteAt x (nI O.length) jo = some r := by
  unfold m_TP_byteAt m_Mo_byteAt
  by_cases c : x < 0
  · rw [if_pos c]
    unfold m_Row_at
    rw [if_pos c, tp_b1_s]
    exact ⟨_, rfl, rfl⟩
  · rw [if_neg c]
    obtain ⟨k, hk, rfl⟩ := nI_of c
    by_cases c2 : k < O.length
    · rw [if_pos (nI_lt c2 (by omega)), at_in ho c2 (by omega) (by omega), tp_b1_s, tp_gd_t (tp_inb_nI (by omega) (by decide)), nI_clamp hk, hjo.1 k c2 (by omega), (sb_byte _ (rw_lt hjo k)).1]
      exact ⟨_, rfl, rfl⟩
    · rw [if_neg (nI_nlt (by omega) hk), at_out (by omega) hk, tp_b1_s]
      exact ⟨_, rfl, rfl⟩
theorem op_sum {N : Nat} (hN : 100000 ≤ N) {I : List Nat} {i ji : Nat → Int32} (hI : I.length ≤ 10000) (hi : tp_Rw 10000 i I) (hji : tp_Rw 10000 ji I) : ∃ r, m_TP_sum N (nI I.length) i = some r ∧ m_Mo_sum N (nI I.length) ji = some r := by
  unfold m_TP_sum m_Mo_sum
  rw [show (0 : Int32) = nI 0 from rfl, sumOf_ok hN hi (Nat.zero_le _) (Nat.le_refl _) hI (by omega), msumOf_ok hN hji (by decide) (Nat.zero_le _) (Nat.le_refl _) hI (by omega), tp_b1_s]
  exact ⟨_, rfl, rfl⟩
theorem most_no {x : Int32} (h : ¬ (¬ x < 0 ∧ x ≤ 10000)) : m_TP_isNoMost x = some 1 := by
  unfold m_TP_isNoMost
  by_cases c : x < 0
  · rw [if_pos c]
  · rw [if_neg c, if_neg (fun z => h ⟨c, z⟩)]
theorem rdO_len {O : List Nat} {s : Except (Nat × Nat) (List Nat)} (hO : O.length ≤ 10000) (h : ∀ T, s = .ok T → T.length ≤ 10000) : (rdO O s).length ≤ 10000 := by
  cases s with
  | error x => exact hO
  | ok T => exact h T rfl
theorem op_unpack {N : Nat} (hN : 100000 ≤ N) (x : Int32) {I O : List Nat} {i o t ji jo jm : Nat → Int32} {T : Nat} (hp b1 b2 b3 b5 b6 md a' en f fp : Int32) (b4 : Int64) (hI : I.length ≤ 10000) (hO : O.length ≤ 10000) (hi : tp_Rw 10000 i I) (ho : tp_Rw 10000 o O) (hof : tp_fitsB o) (hT : T < 2 ^ 31) (htf : tp_fitsB t) (hji : tp_Rw 10000 ji I) (hjo : tp_Rw 10000 jo O) : ∃ (r hp' : Int32) (O' : List Nat) (o' : Nat → Int32) (T' : Nat) (t' : Nat → Int32) (d1 d2 d3 : Int32) (d4 : Int64) (d5 d6 md' a2 en' f' fp' : Int32) (jo' jm' : Nat → Int32), m_TP_unpack N x hp (nI I.length) i (nI O.length) o (nI T) t b1 b2 b3 b4 b5 b6 = some (r, hp', nI O'.length, o', nI T', t', d1, d2, d3, d4, d5, d6) ∧ m_Mo_unpack N x (nI I.length) (nI O.length) md hp a' en f fp ji jo jm = some (r, nI O'.length, md', hp', a2, en', f', fp', jo', jm') ∧ O'.length ≤ 10000 ∧ T' < 2 ^ 31 ∧ tp_Rw 10000 o' O' ∧ tp_fitsB o' ∧ tp_fitsB t' ∧ tp_Rw 10000 jo' O' := by
  by_cases c : ¬ x < 0 ∧ x ≤ 10000
  · obtain ⟨most, hm, rfl⟩ : ∃ k : Nat, k ≤ 10000 ∧ x = nI k := nI_of2 (M := 10000) rfl c.1 c.2
    obtain ⟨o', T', t', d1, d2, d3, d4, d5, d6, e1, h1, h2, h3, h4⟩ := up_ok hN hi hI ho hof hm hT htf hp b1 b2 b3 b5 b6 b4
    obtain ⟨md', a2, en', f', fp', jo', jm', e2, h5⟩ := mup_ok hN hji hI hjo hm md hp a' en f fp jm
    exact ⟨_, _, _, o', T', t', d1, d2, d3, d4, d5, d6, md', a2, en', f', fp', jo', jm', e1, e2, rdO_len hO (fun T hx => by have := rbS_in (Nat.zero_le _) hx; rw [List.length_nil] at this; omega), h1, h2, h3, h4, h5⟩
  · refine ⟨-20, hp, O, o, T, t, b1, b2, b3, b4, b5, b6, md, a', en, f, fp, jo, jm, ?_, ?_, hO, hT, ho, hof, htf, hjo⟩
    · unfold m_TP_unpack
      rw [most_no c, tp_b1_s, if_neg (by decide)]
    · unfold m_Mo_unpack
      by_cases z : x < 0
      · rw [if_pos z]
      · rw [if_neg z, if_neg (fun y => c ⟨z, y⟩)]
theorem op_unchunk {N : Nat} (hN : 100000 ≤ N) (x : Int32) {I O : List Nat} {i o t ji jo jm : Nat → Int32} {T : Nat} (hp b1 b2 b3 b5 b6 c1 c2 c3 c4 md a' en f fp : Int32) (b4 : Int64) (hI : I.length ≤ 10000) (hO : O.length ≤ 10000) (hi : tp_Rw 10000 i I) (ho : tp_Rw 10000 o O) (hof : tp_fitsB o) (hT : T < 2 ^ 31) (htf : tp_fitsB t) (hji : tp_Rw 10000 ji I) (hjo : tp_Rw 10000 jo O) : ∃ (r hp' : Int32) (O' : List Nat) (o' : Nat → Int32) (T' : Nat) (t' : Nat → Int32) (d1 d2 d3 : Int32) (d4 : Int64) (d5 d6 q1 q2 q3 q4 md' a2 en' f' fp' : Int32) (jo' jm' : Nat → Int32), m_TP_unchunk N x hp (nI I.length) i (nI O.length) o (nI T) t b1 b2 b3 b4 b5 b6 c1 c2 c3 c4 = some (r, hp', nI O'.length, o', nI T', t', d1, d2, d3, d4, d5, d6, q1, q2, q3, q4) ∧ m_Mo_unchunk N x (nI I.length) (nI O.length) md hp a' en f fp ji jo jm = some (r, nI O'.length, md', hp', a2, en', f', fp', jo', jm') ∧ O'.length ≤ 10000 ∧ T' < 2 ^ 31 ∧ tp_Rw 10000 o' O' ∧ tp_fitsB o' ∧ tp_fitsB t' ∧ tp_Rw 10000 jo' O' := by
  by_cases c : ¬ x < 0 ∧ x ≤ 10000
  · obtain ⟨most, hm, rfl⟩ : ∃ k : Nat, k ≤ 10000 ∧ x = nI k := nI_of2 (M := 10000) rfl c.1 c.2
    obtain ⟨o', T', t', d1, d2, d3, d4, d5, d6, q1, q2, q3, q4, e1, h1, h2, h3, h4⟩ := us_ok hN hi hI ho hof hm hT htf hp b1 b2 b3 b5 b6 c1 c2 c3 c4 b4
    obtain ⟨md', a2, en', f', fp', jo', jm', e2, h5⟩ := mus_ok hN hji hI hjo hm md hp a' en f fp jm
    exact ⟨_, _, _, o', T', t', d1, d2, d3, d4, d5, d6, q1, q2, q3, q4, md', a2, en', f', fp', jo', jm', e1, e2, rdO_len hO (fun T hx => Nat.le_trans (unf_in _ _ _ _ (Nat.zero_le _) hx) hm), h1, h2, h3, h4, h5⟩
  · refine ⟨-20, hp, O, o, T, t, b1, b2, b3, b4, b5, b6, c1, c2, c3, c4, md, a', en, f, fp, jo, jm, ?_, ?_, hO, hT, ho, hof, htf, hjo⟩
    · unfold m_TP_unchunk
      rw [most_no c, tp_b1_s, if_neg (by decide)]
    · unfold m_Mo_unchunk
      by_cases z : x < 0
      · rw [if_pos z]
      · rw [if_neg z, if_neg (fun y => c ⟨z, y⟩)]
