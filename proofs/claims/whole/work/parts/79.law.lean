/-! One step of the law: both sides go on alike. -/
def lwK (hp ic : Int32) (i : Nat → Int32) (oc : Int32) (o : Nat → Int32) (tc : Int32) (t : Nat → Int32) (told jin jout kn : Int32) (ji jo jn jf : Nat → Int32) : Prop :=
  ∃ (I O : List Nat) (T K : Nat), I.length ≤ 10000 ∧ O.length ≤ 10000 ∧ ic = nI I.length ∧ tp_Rw 10000 i I ∧ tp_fitsB i ∧ oc = nI O.length ∧ tp_Rw 10000 o O ∧ tp_fitsB o ∧ tc = nI T ∧ T < 2 ^ 31 ∧ tp_fitsB t ∧ told = hp ∧ jin = nI I.length ∧ jout = nI O.length ∧ kn = nI K ∧ K ≤ 10000 ∧ tp_Rw 10000 ji I ∧ tp_Rw 10000 jo O ∧ tb K jn jf
def lwI (S : TPS) (J : MOS) : Prop := lwK S.1 S.2.1 S.2.2.1 S.2.2.2.1 S.2.2.2.2.1 S.2.2.2.2.2.1 S.2.2.2.2.2.2.1 J.2.2.2.2.2.2.1 J.1 J.2.1 J.2.2.2.1 J.2.2.2.2.2.2.2.2.2.2.2.1 J.2.2.2.2.2.2.2.2.2.2.2.2.1 J.2.2.2.2.2.2.2.2.2.2.2.2.2.2.1 J.2.2.2.2.2.2.2.2.2.2.2.2.2.2.2
set_option maxRecDepth 100000 in
set_option maxHeartbeats 4000000 in
theorem law_step {N : Nat} (hN : 100000 ≤ N) {L i0 : Nat} (hL : L ≤ 2048) (hi0 : 4 * i0 + 4 ≤ L) (xs : Nat → Int32) (rec18 : Int32 → TPS → MOS → Option Int32) (S : TPS) (J : MOS) (hI0 : lwI S J) : ∃ (S' : TPS) (J' : MOS), lwI S' J' ∧ m_La_18 N L xs rec18 (nI (4 * i0)) S J = rec18 (nI (4 * i0) + (4 : Int32)) S' J' := by
  have g0 : tp_inb (nI (4 * i0)) L = true := tp_inb_nI (by omega) (by omega)
  have g1 : tp_inb (nI (4 * i0) + (1 : Int32)) L = true := by rw [show nI (4 * i0) + (1 : Int32) = nI (4 * i0 + 1) from nI_add _ 1]; exact tp_inb_nI (by omega) (by omega)
  have g2 : tp_inb (nI (4 * i0) + (2 : Int32)) L = true := by rw [show nI (4 * i0) + (2 : Int32) = nI (4 * i0 + 2) from nI_add _ 2]; exact tp_inb_nI (by omega) (by omega)
  have g3 : tp_inb (nI (4 * i0) + (3 : Int32)) L = true := by rw [show nI (4 * i0) + (3 : Int32) = nI (4 * i0 + 3) from nI_add _ 3]; exact tp_inb_nI (by omega) (by omega)
  have hgo : ¬ (Int32.ofNat L - (4 : Int32)) < nI (4 * i0) := by
    rw [show Int32.ofNat L - (4 : Int32) = nI (L - 4) from pk_sub (b := 4) (by omega)]
    exact nI_nlt (by omega) (by omega)
  obtain ⟨hp, ic, i, oc, o, tc, t, m1, m2, m3, m4, bef, lat, b1, b2, b3, b4, b5, b6, c1, c2, c3, c4⟩ := S
  obtain ⟨jin, jout, md, kn, fa, fl, told, ja, je, jf2, jfp, ji, jo, jm, jn, jf⟩ := J
  obtain ⟨I, O, T, K, hI, hO, h1, hi, hif, h2, ho, hof, h3, hT, htf, h4, h5, h6, h7, hK, hji, hjo, ht⟩ : lwK hp ic i oc o tc t told jin jout kn ji jo jn jf := hI0
  subst h1 h2 h3 h4 h5 h6 h7
  unfold m_La_18
  rw [if_neg hgo, tp_gd_t g0]
  dsimp only
  generalize xs (Int32.toNatClampNeg (nI (4 * i0))) &&& (15 : Int32) = v
  by_cases v0 : v = (0 : Int32)
  · obtain ⟨r, I', f', g', e1, e2, k1, k2, k3, k4⟩ := op_write hN (((Int32.toInt64 (xs (Int32.toNatClampNeg (nI (4 * i0) + (1 : Int32))))) <<< (Int32.toInt64 (32 : Int32) &&& 63)) ||| ((Int32.toInt64 (xs (Int32.toNatClampNeg (nI (4 * i0) + (2 : Int32))))) &&& (4294967295 : Int64))) (xs (Int32.toNatClampNeg (nI (4 * i0) + (3 : Int32)))) hI hi hif hji
    rw [if_pos v0, tp_gd_t g1, tp_gd_t g2, tp_gd_t g3, e1, tp_b3_s, tp_gd_t g1, tp_gd_t g2, tp_gd_t g3, e2, tp_b3_s, if_pos rfl]
    refine ⟨_, _, ?_, rfl⟩
    exact ⟨I', O, T, K, k1, hO, rfl, k2, k3, rfl, ho, hof, rfl, hT, htf, rfl, rfl, rfl, rfl, hK, k4, hjo, ht⟩
  rw [if_neg v0]
  by_cases v1 : v = (1 : Int32)
  · obtain ⟨r, I', f', g', e1, e2, k1, k2, k3, k4⟩ := op_again hN (xs (Int32.toNatClampNeg (nI (4 * i0) + (1 : Int32)))) (xs (Int32.toNatClampNeg (nI (4 * i0) + (2 : Int32)))) hI hi hif hji
    rw [if_pos v1, tp_gd_t g1, tp_gd_t g2, e1, tp_b3_s, tp_gd_t g1, tp_gd_t g2, e2, tp_b3_s, if_pos rfl]
    refine ⟨_, _, ?_, rfl⟩
    exact ⟨I', O, T, K, k1, hO, rfl, k2, k3, rfl, ho, hof, rfl, hT, htf, rfl, rfl, rfl, rfl, hK, k4, hjo, ht⟩
  rw [if_neg v1]
  by_cases v2 : v = (2 : Int32)
  · have e1 : m_TP_clear (nI I.length) = some (nI 0) := by unfold m_TP_clear; rw [show (0 : Int32) = nI 0 from rfl, shorten_ok (Nat.zero_le _) (by omega), tp_b1_s]
    rw [if_pos v2, e1, tp_b1_s, show m_Mo_clear (nI I.length) = some (nI 0) from rfl, tp_b1_s]
    refine ⟨_, _, ?_, rfl⟩
    exact ⟨[], O, T, K, (Nat.zero_le _), hO, rfl, (rw_nil 10000 i), hif, rfl, ho, hof, rfl, hT, htf, rfl, rfl, rfl, rfl, hK, (rw_nil 10000 ji), hjo, ht⟩
  rw [if_neg v2]
  by_cases v3 : v = (3 : Int32)
  · obtain ⟨f', e1, k1, k2⟩ := become_ok (x := nI I.length) ho hof hif hO
    obtain ⟨g', e2, k3⟩ := mturn_ok hN (f := ji) hjo hO (nI I.length)
    rw [if_pos v3, show m_TP_turn (nI I.length) i (nI O.length) o = some (nI O.length, f') by unfold m_TP_turn; rw [e1, tp_b2_s], tp_b2_s, e2, tp_b2_s]
    refine ⟨_, _, ?_, rfl⟩
    exact ⟨O, O, T, K, hO, hO, rfl, k1, k2, rfl, ho, hof, rfl, hT, htf, rfl, rfl, rfl, rfl, hK, k3, hjo, ht⟩
  rw [if_neg v3]
  by_cases v4 : v = (4 : Int32)
  · obtain ⟨r, O', w1, w2, k0⟩ := op_pack (bef := bef) (lat := lat) (jm := jm) hN (xs (Int32.toNatClampNeg (nI (4 * i0) + (1 : Int32)))) m1 m2 m3 m4 md fa fl hI hO hi ho hof hT htf hji hjo hK ht
    obtain ⟨o', T', t', a1, a2, a3, a4, bef', lat', e1, k1, k2, k3, k4⟩ := w1
    obtain ⟨md', K', fa', fl', jo', jm', jn', jf', e2, k5, k6, k7⟩ := w2
    rw [if_pos v4, tp_gd_t g1, e1, tp_b11_s, tp_gd_t g1, e2, tp_b10_s, if_pos rfl]
    refine ⟨_, _, ?_, rfl⟩
    exact ⟨I, O', T', K', hI, k0, rfl, hi, hif, rfl, k2, k3, rfl, k1, k4, rfl, rfl, rfl, rfl, k6, hji, k5, k7⟩
  rw [if_neg v4]
  by_cases v5 : v = (5 : Int32)
  · obtain ⟨r, hp', O', o', T', t', d1, d2, d3, d4, d5, d6, md', a2, en', f', fp', jo', jm', e1, e2, k0, k1, k2, k3, k4, k5⟩ := op_unpack (jm := jm) hN (xs (Int32.toNatClampNeg (nI (4 * i0) + (1 : Int32)))) told b1 b2 b3 b5 b6 md ja je jf2 jfp b4 hI hO hi ho hof hT htf hji hjo
    rw [if_pos v5, tp_gd_t g1, e1, tp_b12_s, tp_gd_t g1, e2, tp_b10_s, if_pos rfl]
    refine ⟨_, _, ?_, rfl⟩
    exact ⟨I, O', T', K, hI, k0, rfl, hi, hif, rfl, k2, k3, rfl, k1, k4, rfl, rfl, rfl, rfl, hK, hji, k5, ht⟩
  rw [if_neg v5]
  by_cases v6 : v = (6 : Int32)
  · obtain ⟨r, O', w1, w2, k0⟩ := op_chunks (bef := bef) (lat := lat) (jm := jm) hN (xs (Int32.toNatClampNeg (nI (4 * i0) + (1 : Int32)))) (xs (Int32.toNatClampNeg (nI (4 * i0) + (2 : Int32)))) (xs (Int32.toNatClampNeg (nI (4 * i0) + (3 : Int32)))) m1 m2 m3 m4 md fa fl hI hO hi ho hof hT htf hji hjo hK ht
    obtain ⟨o', T', t', a1, a2, a3, a4, bef', lat', e1, k1, k2, k3, k4⟩ := w1
    obtain ⟨md', K', fa', fl', jo', jm', jn', jf', e2, k5, k6, k7⟩ := w2
    rw [if_pos v6, tp_gd_t g1, tp_gd_t g2, tp_gd_t g3, e1, tp_b11_s, tp_gd_t g1, tp_gd_t g2, tp_gd_t g3, e2, tp_b10_s, if_pos rfl]
    refine ⟨_, _, ?_, rfl⟩
    exact ⟨I, O', T', K', hI, k0, rfl, hi, hif, rfl, k2, k3, rfl, k1, k4, rfl, rfl, rfl, rfl, k6, hji, k5, k7⟩
  rw [if_neg v6]
  by_cases v7 : v = (7 : Int32)
  · obtain ⟨r, hp', O', o', T', t', d1, d2, d3, d4, d5, d6, q1, q2, q3, q4, md', a2, en', f', fp', jo', jm', e1, e2, k0, k1, k2, k3, k4, k5⟩ := op_unchunk (jm := jm) hN (xs (Int32.toNatClampNeg (nI (4 * i0) + (1 : Int32)))) told b1 b2 b3 b5 b6 c1 c2 c3 c4 md ja je jf2 jfp b4 hI hO hi ho hof hT htf hji hjo
    rw [if_pos v7, tp_gd_t g1, e1, tp_b16_s, tp_gd_t g1, e2, tp_b10_s, if_pos rfl]
    refine ⟨_, _, ?_, rfl⟩
    exact ⟨I, O', T', K, hI, k0, rfl, hi, hif, rfl, k2, k3, rfl, k1, k4, rfl, rfl, rfl, rfl, hK, hji, k5, ht⟩
  rw [if_neg v7]
  by_cases v8 : v = (8 : Int32)
  · rw [if_pos v8, show m_TP_place told = some told from rfl, tp_b1_s, show m_Mo_place told = some told from rfl, tp_b1_s, if_pos rfl]
    refine ⟨_, _, ?_, rfl⟩
    exact ⟨I, O, T, K, hI, hO, rfl, hi, hif, rfl, ho, hof, rfl, hT, htf, rfl, rfl, rfl, rfl, hK, hji, hjo, ht⟩
  rw [if_neg v8]
  by_cases v9 : v = (9 : Int32)
  · obtain ⟨r, e1, e2⟩ := op_sum hN hI hi hji
    rw [if_pos v9, e1, tp_b1_s, e2, tp_b1_s, if_pos rfl]
    refine ⟨_, _, ?_, rfl⟩
    exact ⟨I, O, T, K, hI, hO, rfl, hi, hif, rfl, ho, hof, rfl, hT, htf, rfl, rfl, rfl, rfl, hK, hji, hjo, ht⟩
  rw [if_neg v9]
  by_cases v10 : v = (10 : Int32)
  · rw [if_pos v10, show m_TP_size (nI O.length) = some (nI O.length) from rfl, tp_b1_s, show m_Mo_size (nI O.length) = some (nI O.length) from rfl, tp_b1_s, if_pos rfl]
    refine ⟨_, _, ?_, rfl⟩
    exact ⟨I, O, T, K, hI, hO, rfl, hi, hif, rfl, ho, hof, rfl, hT, htf, rfl, rfl, rfl, rfl, hK, hji, hjo, ht⟩
  rw [if_neg v10]
  by_cases v11 : v = (11 : Int32)
  · obtain ⟨r, e1, e2⟩ := op_byteAt (xs (Int32.toNatClampNeg (nI (4 * i0) + (1 : Int32)))) hO ho hjo
    rw [if_pos v11, tp_gd_t g1, e1, tp_b1_s, tp_gd_t g1, e2, tp_b1_s, if_pos rfl]
    refine ⟨_, _, ?_, rfl⟩
    exact ⟨I, O, T, K, hI, hO, rfl, hi, hif, rfl, ho, hof, rfl, hT, htf, rfl, rfl, rfl, rfl, hK, hji, hjo, ht⟩
  rw [if_neg v11]
  refine ⟨_, _, ?_, rfl⟩
  exact ⟨I, O, T, K, hI, hO, rfl, hi, hif, rfl, ho, hof, rfl, hT, htf, rfl, rfl, rfl, rfl, hK, hji, hjo, ht⟩
theorem law_l {N : Nat} (hN : 100000 ≤ N) {L : Nat} (hL : L ≤ 2048) (xs : Nat → Int32) : ∀ (d n i0 : Nat) (S : TPS) (J : MOS), L ≤ 4 * (i0 + d) → d < n → 4 * i0 ≤ L + 4 → lwI S J → tp_it3 (m_La_18 N L xs) n (nI (4 * i0)) S J = some 1 := by
  have stop : ∀ (R : Int32 → TPS → MOS → Option Int32) (i0 : Nat) (S : TPS) (J : MOS), L < 4 * i0 + 4 → 4 * i0 ≤ L + 4 → m_La_18 N L xs R (nI (4 * i0)) S J = some 1 := by
    intro R i0 S J h1 h2
    have hs : (Int32.ofNat L - (4 : Int32)) < nI (4 * i0) := by
      by_cases c : L < 4
      · exact Int32.lt_of_lt_of_le (neg4 L c) (nI_pos' (by omega))
      · rw [show Int32.ofNat L - (4 : Int32) = nI (L - 4) from pk_sub (b := 4) (by omega)]
        exact nI_lt (by omega) (by omega)
    rw [m_La_18, if_pos hs]
  intro d
  induction d with
  | zero =>
    intro n i0 S J h1 hn h2 hI
    obtain ⟨n, rfl⟩ : ∃ z, n = z + 1 := ⟨n - 1, by omega⟩
    exact stop (tp_it3 (m_La_18 N L xs) n) i0 S J (by omega) h2
  | succ d ih =>
    intro n i0 S J h1 hn h2 hI
    obtain ⟨n, rfl⟩ : ∃ z, n = z + 1 := ⟨n - 1, by omega⟩
    by_cases c : 4 * i0 + 4 ≤ L
    · obtain ⟨S', J', hI', e⟩ := law_step hN hL c xs (tp_it3 (m_La_18 N L xs) n) S J hI
      show m_La_18 N L xs (tp_it3 (m_La_18 N L xs) n) (nI (4 * i0)) S J = some 1
      rw [e, show nI (4 * i0) + (4 : Int32) = nI (4 * (i0 + 1)) from nI_add (4 * i0) 4]
      exact ih n (i0 + 1) S' J' (by omega) (by omega) (by omega) hI'
    · exact stop (tp_it3 (m_La_18 N L xs) n) i0 S J (by omega) h2
theorem tb_0 : tb 0 (fun _ => 0) (fun _ => 0) := by
  intro l hl
  have e : l = 0 := by omega
  subst e
  decide
theorem lwI_0 : lwI tp_S0 tp_J0 := by
  have f0 : tp_fitsB (fun _ => 0) := fun _ => show fits .byte (.int 0) = true by decide
  show lwK 0 0 (fun _ => 0) 0 (fun _ => 0) 0 (fun _ => 0) 0 0 0 0 (fun _ => 0) (fun _ => 0) (fun _ => 0) (fun _ => 0)
  exact ⟨[], [], 0, 0, Nat.zero_le _, Nat.zero_le _, rfl, rw_nil _ _, f0, rfl, rw_nil _ _, f0, rfl, by decide, f0, rfl, rfl, rfl, rfl, Nat.zero_le _, rw_nil _ _, rw_nil _ _, tb_0⟩
