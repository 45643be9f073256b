/-! The reference's copies: its tables of the fewest bytes, and the first copy by them. -/
def tb (K : Nat) (jn jf : Nat → Int32) : Prop := ∀ l, l ≤ K → jn l = nI (cst true l) ∧ jf l = nI (cst false l)
theorem tb_get {K : Nat} {jn jf : Nat → Int32} (h : tb K jn jf) (near : Bool) {l : Nat} (hl : l ≤ K) : (if near = true then jn else jf) l = nI (cst near l) := by
  cases near with
  | true => exact (h l hl).1
  | false => exact (h l hl).2
theorem bytesFor_ok (near : Bool) {n : Nat} (hn : n < 2 ^ 30) : m_Mo_bytesFor (nI n) (nB near) = some (nI (bf near n)) := by
  unfold m_Mo_bytesFor bf
  cases near with
  | false => rw [show nB false = 0 from rfl, if_pos rfl, if_neg (by simp)]; rfl
  | true =>
    rw [show nB true = 1 from rfl, if_neg (by decide)]
    by_cases c1 : 4 ≤ n
    · rw [if_neg (show ¬ nI n < (4 : Int32) from nI_nlt (b := 4) c1 (by omega))]
      by_cases c2 : n ≤ 11
      · rw [if_neg (show ¬ (11 : Int32) < nI n from nI_nlt (a := 11) c2 (by decide)), if_pos ⟨rfl, c1, c2⟩]; rfl
      · rw [if_pos (show (11 : Int32) < nI n from nI_lt (a := 11) (by omega) (by omega)), if_neg (fun z => c2 z.2.2)]; rfl
    · rw [if_pos (show nI n < (4 : Int32) from nI_lt (b := 4) (by omega) (by omega)), if_neg (fun z => c1 z.2.1)]; rfl
theorem fewest_ok (near : Bool) {K l : Nat} {jn jf : Nat → Int32} (h : tb K jn jf) (hl : l ≤ K) (hK : K ≤ 10000) : m_Mo_fewest (nI l) (nB near) jn jf = some (nI (cst near l)) := by
  unfold m_Mo_fewest
  cases near with
  | false => rw [show nB false = 0 from rfl, if_pos rfl, tp_gd_t (tp_inb_nI (by omega) (by decide)), nI_clamp (by omega), (h l hl).2]
  | true => rw [show nB true = 1 from rfl, if_neg (by decide), tp_gd_t (tp_inb_nI (by omega) (by decide)), nI_clamp (by omega), (h l hl).1]
theorem tried_ok (near : Bool) {K l x : Nat} {jn jf : Nat → Int32} (h : tb K jn jf) (hx : 1 ≤ x) (hxl : x ≤ l) (hl : l - x ≤ K) (hl2 : l ≤ 10000) (hK : K ≤ 10000) : m_Mo_tried (nI l) (nI x) (nB near) jn jf = some (nI (bf near x + cst near (l - x))) := by
  unfold m_Mo_tried
  rw [bytesFor_ok near (by omega), tp_b1_s, pk_sub hxl, fewest_ok near h hl hK, tp_b1_s, nI_add]
theorem bf_le (near : Bool) (n : Nat) : bf near n ≤ 3 := by
  unfold bf
  split <;> omega
theorem know_in {N : Nat} {len l : Nat} (hl1 : 1 ≤ l) (hl2 : l ≤ 10000) (rec7 : Int32 → Int32 → Int32 → (Nat → Int32) → (Nat → Int32) → Option (Int32 × (Nat → Int32) × (Nat → Int32))) (kn : Int32) : ∀ (d n x wn wf : Nat) (jn jf : Nat → Int32), x + d = 65 → d < n → 1 ≤ x → tb (l - 1) jn jf → jn l = nI wn → jf l = nI wf → cst true l ≤ wn → cst false l ≤ wf → wn < 2 ^ 31 → wf < 2 ^ 31 → (fst1 true l < x → wn = cst true l) → (fst1 false l < x → wf = cst false l) → ∃ jn' jf', tp_it6 (m_Mo_know_30 N rec7) n (nI len) (nI l) (nI x) kn jn jf = rec7 (nI len) (nI (l + 1)) (nI l) jn' jf' ∧ tb l jn' jf' := by
  have fin : ∀ (x wn wf : Nat) (jn jf : Nat → Int32), (64 < x ∨ l < x) → tb (l - 1) jn jf → jn l = nI wn → jf l = nI wf → (fst1 true l < x → wn = cst true l) → (fst1 false l < x → wf = cst false l) → tb l jn jf := by
    intro x wn wf jn jf hx ht h1 h2 h3 h4 j hj
    have g1 := fst1_in true hl1
    have g2 := fst1_in false hl1
    by_cases e : j = l
    · subst e
      rw [h1, h2, h3 (by omega), h4 (by omega)]
      exact ⟨rfl, rfl⟩
    · exact ht j (by omega)
  intro d
  induction d with
  | zero =>
    intro n x wn wf jn jf hx hn hx1 ht h1 h2 h3 h4 h5 h6 h7 h8
    obtain ⟨n, rfl⟩ : ∃ z, n = z + 1 := ⟨n - 1, by omega⟩
    refine ⟨jn, jf, ?_, fin x wn wf jn jf (by omega) ht h1 h2 h7 h8⟩
    show m_Mo_know_30 N rec7 (tp_it6 (m_Mo_know_30 N rec7) n) (nI len) (nI l) (nI x) kn jn jf = _
    rw [m_Mo_know_30, if_pos (show (64 : Int32) < nI x from nI_lt (a := 64) (by omega) (by omega)), show nI l + (1 : Int32) = nI (l + 1) from nI_1 l]
  | succ d ih =>
    intro n x wn wf jn jf hx hn hx1 ht h1 h2 h3 h4 h5 h6 h7 h8
    obtain ⟨n, rfl⟩ : ∃ z, n = z + 1 := ⟨n - 1, by omega⟩
    show ∃ jn' jf', m_Mo_know_30 N rec7 (tp_it6 (m_Mo_know_30 N rec7) n) (nI len) (nI l) (nI x) kn jn jf = _ ∧ _
    rw [m_Mo_know_30, if_neg (show ¬ (64 : Int32) < nI x from nI_nlt (a := 64) (by omega) (by decide))]
    by_cases c : l < x
    · rw [if_pos (nI_lt c (by omega)), show nI l + (1 : Int32) = nI (l + 1) from nI_1 l]
      exact ⟨jn, jf, rfl, fin x wn wf jn jf (Or.inr c) ht h1 h2 h7 h8⟩
    rw [if_neg (nI_nlt (by omega) (by omega))]
    have tr : ∀ (near : Bool) (jn jf : Nat → Int32), tb (l - 1) jn jf → m_Mo_tried (nI l) (nI x) (nB near) jn jf = some (nI (bf near x + cst near (l - x))) := fun near jn jf ht => tried_ok near ht hx1 (by omega) (by omega) hl2 (by omega)
    have low : ∀ near : Bool, cst near l ≤ bf near x + cst near (l - x) := fun near => cst_le near hx1 (by omega) (by omega)
    have up : ∀ near : Bool, bf near x + cst near (l - x) < 2 ^ 31 := fun near => by
      have := bf_le near x
      have := cst_lt near (l := l - x) (by omega)
      omega
    have eqn : ∀ near : Bool, fst1 near l = x → bf near x + cst near (l - x) = cst near l := fun near e => by
      have := cst_eq near hl1
      rw [e] at this
      exact this
    have tbU1 : ∀ (v : Int32) (jn jf : Nat → Int32), tb (l - 1) jn jf → tb (l - 1) (upd jn l v) jf := fun v jn jf h j hj => by
      rw [pk_un (show j ≠ l by omega)]
      exact h j hj
    have tbU2 : ∀ (v : Int32) (jn jf : Nat → Int32), tb (l - 1) jn jf → tb (l - 1) jn (upd jf l v) := fun v jn jf h j hj => by
      rw [pk_un (show j ≠ l by omega)]
      exact h j hj
    -- the second half: the far table
    have half : ∀ (wn : Nat) (jn : Nat → Int32), tb (l - 1) jn jf → jn l = nI wn → cst true l ≤ wn → wn < 2 ^ 31 → (fst1 true l < x + 1 → wn = cst true l) → ∃ jn' jf', m_Mo_know_70 N rec7 (tp_it6 (m_Mo_know_30 N rec7) n) (nI len) (nI l) (nI x) kn jn jf = rec7 (nI len) (nI (l + 1)) (nI l) jn' jf' ∧ tb l jn' jf' := by
      intro wn jn ht h1 h3 h5 h7
      rw [m_Mo_know_70, show (0 : Int32) = nB false from rfl, tr false jn jf ht, tp_b1_s, tp_gd_t (tp_inb_nI (by omega) (by decide)), nI_clamp (by omega), h2, show nI x + (1 : Int32) = nI (x + 1) from nI_1 x]
      by_cases c2 : wf ≤ bf false x + cst false (l - x)
      · rw [if_pos (nI_le c2 (up false))]
        refine ih n (x + 1) wn wf jn jf (by omega) (by omega) (by omega) ht h1 h2 h3 h4 h5 h6 h7 (fun z => ?_)
        by_cases e : fst1 false l < x
        · exact h8 e
        · have := eqn false (by omega)
          omega
      · rw [if_neg (nI_ge (by omega) h6), tp_b1_s, tp_gd_t (tp_inb_nI (by omega) (by decide))]
        refine ih n (x + 1) wn (bf false x + cst false (l - x)) jn _ (by omega) (by omega) (by omega) (tbU2 _ _ _ ht) h1 (pk_us) h3 (low false) h5 (up false) h7 (fun z => ?_)
        by_cases e : fst1 false l < x
        · have := h8 e; have := low false; omega
        · exact eqn false (by omega)
    rw [show (1 : Int32) = nB true from rfl, tr true jn jf ht, tp_b1_s, tp_gd_t (tp_inb_nI (by omega) (by decide)), nI_clamp (by omega), h1]
    by_cases c2 : wn ≤ bf true x + cst true (l - x)
    · rw [if_pos (nI_le c2 (up true))]
      refine half wn jn ht h1 h3 h5 (fun z => ?_)
      by_cases e : fst1 true l < x
      · exact h7 e
      · have := eqn true (by omega)
        omega
    · rw [if_neg (nI_ge (by omega) h5), tp_b1_s, tp_gd_t (tp_inb_nI (by omega) (by decide))]
      refine half (bf true x + cst true (l - x)) _ (tbU1 _ _ _ ht) pk_us (low true) (up true) (fun z => ?_)
      by_cases e : fst1 true l < x
      · have := h7 e; have := low true; omega
      · exact eqn true (by omega)
theorem know_l {N : Nat} (hN : 100000 ≤ N) {len : Nat} (hlen : len ≤ 10000) : ∀ (d n K : Nat) (jn jf : Nat → Int32), len - K = d → d < n → K ≤ 10000 → tb K jn jf → ∃ (K' : Nat) (jn' jf' : Nat → Int32), tp_it5 (m_Mo_know_7 N) n (nI len) (nI (K + 1)) (nI K) jn jf = some (nI K', jn', jf') ∧ len ≤ K' ∧ K' ≤ 10000 ∧ tb K' jn' jf' := by
  intro d
  induction d with
  | zero =>
    intro n K jn jf hd hn hK ht
    obtain ⟨n, rfl⟩ : ∃ z, n = z + 1 := ⟨n - 1, by omega⟩
    show ∃ (K' : Nat) (jn' jf' : Nat → Int32), m_Mo_know_7 N (tp_it5 (m_Mo_know_7 N) n) (nI len) (nI (K + 1)) (nI K) jn jf = _ ∧ _
    rw [m_Mo_know_7, if_pos (nI_lt (by omega) (by omega))]
    exact ⟨K, jn, jf, rfl, by omega, hK, ht⟩
  | succ d ih =>
    intro n K jn jf hd hn hK ht
    obtain ⟨n, rfl⟩ : ∃ z, n = z + 1 := ⟨n - 1, by omega⟩
    show ∃ (K' : Nat) (jn' jf' : Nat → Int32), m_Mo_know_7 N (tp_it5 (m_Mo_know_7 N) n) (nI len) (nI (K + 1)) (nI K) jn jf = _ ∧ _
    rw [m_Mo_know_7, if_neg (nI_nlt (by omega) (by omega)), tp_gd_t (tp_inb_nI (by omega) (by decide)), tp_gd_t (tp_inb_nI (by omega) (by decide)), nI_clamp (by omega)]
    have c1 := cst_lt true (l := K + 1) (by omega)
    have c2 := cst_lt false (l := K + 1) (by omega)
    have g1 := fst1_in true (l := K + 1) (by omega)
    have g2 := fst1_in false (l := K + 1) (by omega)
    obtain ⟨jn', jf', e, ht'⟩ := know_in (N := N) (len := len) (l := K + 1) (by omega) (by omega) (tp_it5 (m_Mo_know_7 N) n) (nI K) 64 N 1 2147483647 2147483647 (upd jn (K + 1) 2147483647) (upd jf (K + 1) 2147483647) (by omega) (by omega) (by omega) (fun j hj => by rw [pk_un (show j ≠ K + 1 by omega), pk_un (show j ≠ K + 1 by omega)]; exact ht j (by omega)) pk_us pk_us (by omega) (by omega) (by omega) (by omega) (fun z => by omega) (fun z => by omega)
    rw [show (1 : Int32) = nI 1 from rfl, e]
    exact ih n (K + 1) jn' jf' (by omega) (by omega) (by omega) ht'
theorem know_ok {N : Nat} (hN : 100000 ≤ N) {len K : Nat} (hlen : len ≤ 10000) (hK : K ≤ 10000) {jn jf : Nat → Int32} (ht : tb K jn jf) : ∃ (K' : Nat) (jn' jf' : Nat → Int32), m_Mo_know N (nI len) (nI K) jn jf = some (nI K', jn', jf') ∧ len ≤ K' ∧ K' ≤ 10000 ∧ tb K' jn' jf' := by
  unfold m_Mo_know
  rw [show nI K + (1 : Int32) = nI (K + 1) from nI_1 K]
  exact know_l hN hlen (len - K) N K jn jf rfl (by omega) hK ht
theorem mone {N : Nat} (hN : 100000 ≤ N) {near : Bool} {d : Nat} (hd : d ≤ 10000) (hnr : near = true → d < 2048) {K l : Nat} {jn jf : Nat → Int32} (ht : tb K jn jf) (hK : K ≤ 10000) (hl : l ≤ K) (hl1 : 1 ≤ l) (kn : Int32) (rec21 : Int32 → Int32 → Int32 → Int32 → Int32 → (Nat → Int32) → (Nat → Int32) → (Nat → Int32) → Option (Int32 × Int32 × (Nat → Int32) × (Nat → Int32) × (Nat → Int32))) {f : Nat → Int32} {L : List Nat} (h : tp_Rw 20000 f L) (hL : L.length < 2 ^ 28) : ∀ (j n x : Nat), x - fst1 near l = j → j < n → fst1 near l ≤ x → x ≤ l → x ≤ 64 → ∃ f', tp_it9 (m_Mo_putCopies_42 N rec21) n (nI d) (nB near) (nI l) (nI x) (nI L.length) kn f jn jf = rec21 (nI d) (nB near) (nI (l - fst1 near l)) (nI (L ++ e1c near d (fst1 near l)).length) kn f' jn jf ∧ tp_Rw 20000 f' (L ++ e1c near d (fst1 near l)) := by
  intro j
  induction j with
  | zero =>
    intro n x hj hn h1 h2 h3
    obtain ⟨n, rfl⟩ : ∃ z, n = z + 1 := ⟨n - 1, by omega⟩
    obtain rfl : x = fst1 near l := by omega
    obtain ⟨g1, g2, g3⟩ := fst1_in near hl1
    show ∃ f', m_Mo_putCopies_42 N rec21 (tp_it9 (m_Mo_putCopies_42 N rec21) n) (nI d) (nB near) (nI l) (nI (fst1 near l)) (nI L.length) kn f jn jf = _ ∧ _
    have hb := bf_le near (fst1 near l)
    have hc := cst_lt near (l := l) (by omega)
    rw [m_Mo_putCopies_42, tried_ok near ht g1 g2 (by omega) (by omega) hK, tp_b1_s, fewest_ok near ht hl hK, tp_b1_s, if_pos (nI_le (by rw [cst_eq near hl1]; exact Nat.le_refl _) (by omega)), bytesFor_ok near (by omega), tp_b1_s, pk_sub g2, e1c]
    by_cases c : near = true ∧ 4 ≤ fst1 near l ∧ fst1 near l ≤ 11
    · rw [if_pos (by unfold bf; rw [if_pos c]; rfl), if_pos c]
      obtain ⟨c0, c1, c2⟩ := c
      have hd2 := hnr c0
      rw [show nI (fst1 near l) - (4 : Int32) = nI (fst1 near l - 4) from pk_sub (b := 4) c1, show nI d / (256 : Int32) = nI (d / 256) from pk_div (d := 256) (by omega) (by decide) (by decide), show (8 : Int32) * nI (d / 256) = nI (8 * (d / 256)) from pk_mul 8 _, nI_add, show (4 : Int32) * nI (fst1 near l - 4 + 8 * (d / 256)) = nI (4 * (fst1 near l - 4 + 8 * (d / 256))) from pk_mul 4 _, show (1 : Int32) + nI (4 * (fst1 near l - 4 + 8 * (d / 256))) = nI (1 + 4 * (fst1 near l - 4) + 32 * (d / 256)) by rw [show (1 : Int32) = nI 1 from rfl, nI_add]; congr 1; omega]
      obtain ⟨f1, e1, h1'⟩ := mput_ok (nI (1 + 4 * (fst1 near l - 4) + 32 * (d / 256))) h (by omega)
      rw [tp_by_nI (by omega)] at e1 h1'
      obtain ⟨f2, e2, h2'⟩ := mput_ok (nI d) h1' (by rw [List.length_append, List.length_singleton]; omega)
      rw [tp_by_mod (by omega)] at e2 h2'
      rw [e1, tp_b2_s, e2, tp_b2_s]
      rw [app2] at h2' ⊢
      exact ⟨f2, rfl, h2'⟩
    · rw [if_neg (by unfold bf; rw [if_neg c]; decide), if_neg c]
      rw [show nI (fst1 near l) - (1 : Int32) = nI (fst1 near l - 1) from pk_sub (b := 1) (by omega), show (4 : Int32) * nI (fst1 near l - 1) = nI (4 * (fst1 near l - 1)) from pk_mul 4 _, show (2 : Int32) + nI (4 * (fst1 near l - 1)) = nI (2 + 4 * (fst1 near l - 1)) from nI_add 2 _]
      obtain ⟨f1, e1, h1'⟩ := mput_ok (nI (2 + 4 * (fst1 near l - 1))) h (by omega)
      rw [tp_by_nI (by omega)] at e1 h1'
      obtain ⟨f2, e2, h2'⟩ := mputNumber_ok hN (nI d) (k := 2) (by decide) h1' (by rw [List.length_append, List.length_singleton]; omega)
      rw [e1, tp_b2_s, show (2 : Int32) = nI 2 from rfl, e2, tp_b2_s]
      rw [app2] at h2' ⊢
      exact ⟨f2, rfl, h2'⟩
  | succ j ih =>
    intro n x hj hn h1 h2 h3
    obtain ⟨n, rfl⟩ : ∃ z, n = z + 1 := ⟨n - 1, by omega⟩
    obtain ⟨g1, g2, g3⟩ := fst1_in near hl1
    show ∃ f', m_Mo_putCopies_42 N rec21 (tp_it9 (m_Mo_putCopies_42 N rec21) n) (nI d) (nB near) (nI l) (nI x) (nI L.length) kn f jn jf = _ ∧ _
    have hb := bf_le near x
    have hc := cst_lt near (l := l) (by omega)
    have hc2 := cst_lt near (l := l - x) (by omega)
    rw [m_Mo_putCopies_42, tried_ok near ht (by omega) h2 (by omega) (by omega) hK, tp_b1_s, fewest_ok near ht hl hK, tp_b1_s, if_neg (nI_ge (cst_gt near (by omega) h2 h3) (by omega)), sb_m1 (by omega)]
    exact ih n (x - 1) (by omega) (by omega) (by omega) (by omega) (by omega)
theorem mpc_l {N : Nat} (hN : 100000 ≤ N) {near : Bool} {d : Nat} (hd : d ≤ 10000) (hnr : near = true → d < 2048) {K : Nat} {jn jf : Nat → Int32} (ht : tb K jn jf) (hK : K ≤ 10000) (kn : Int32) : ∀ (k n l : Nat) (f : Nat → Int32) (L : List Nat), l ≤ k → k < n → l ≤ K → tp_Rw 20000 f L → L.length + 3 * k < 2 ^ 28 → ∃ f', tp_it8 (m_Mo_putCopies_21 N) n (nI d) (nB near) (nI l) (nI L.length) kn f jn jf = some (nI (L ++ emf near d k l).length, kn, f', jn, jf) ∧ tp_Rw 20000 f' (L ++ emf near d k l) := by
  intro k
  induction k with
  | zero =>
    intro n l f L h1 h2 h3 h hl
    obtain ⟨n, rfl⟩ : ∃ z, n = z + 1 := ⟨n - 1, by omega⟩
    obtain rfl : l = 0 := by omega
    show ∃ f', m_Mo_putCopies_21 N (tp_it8 (m_Mo_putCopies_21 N) n) (nI d) (nB near) (nI 0) (nI L.length) kn f jn jf = _ ∧ _
    rw [m_Mo_putCopies_21, if_pos (by decide), emf, List.append_nil]
    exact ⟨f, rfl, h⟩
  | succ k ih =>
    intro n l f L h1 h2 h3 h hl
    obtain ⟨n, rfl⟩ : ∃ z, n = z + 1 := ⟨n - 1, by omega⟩
    show ∃ f', m_Mo_putCopies_21 N (tp_it8 (m_Mo_putCopies_21 N) n) (nI d) (nB near) (nI l) (nI L.length) kn f jn jf = _ ∧ _
    rw [m_Mo_putCopies_21, emf]
    by_cases c0 : l = 0
    · subst c0
      rw [if_pos (by decide), if_pos rfl, List.append_nil]
      exact ⟨f, rfl, h⟩
    rw [if_neg (nI_nle (by omega) (by omega)), if_neg c0]
    obtain ⟨g1, g2, g3⟩ := fst1_in near (l := l) (by omega)
    have go : ∀ x : Nat, fst1 near l ≤ x → x ≤ l → x ≤ 64 → ∃ f', tp_it9 (m_Mo_putCopies_42 N (tp_it8 (m_Mo_putCopies_21 N) n)) N (nI d) (nB near) (nI l) (nI x) (nI L.length) kn f jn jf = some (nI (L ++ (e1c near d (fst1 near l) ++ emf near d k (l - fst1 near l))).length, kn, f', jn, jf) ∧ tp_Rw 20000 f' (L ++ (e1c near d (fst1 near l) ++ emf near d k (l - fst1 near l))) := by
      intro x hx1 hx2 hx3
      obtain ⟨f1, e1, h1'⟩ := mone hN hd hnr ht hK h3 (by omega) kn (tp_it8 (m_Mo_putCopies_21 N) n) h (by omega) (x - fst1 near l) N x rfl (by omega) hx1 hx2 hx3
      have := e1c_len near d (fst1 near l)
      obtain ⟨f2, e2, h2'⟩ := ih n (l - fst1 near l) f1 _ (by omega) (by omega) (by omega) h1' (by rw [List.length_append]; omega)
      rw [List.append_assoc] at e2 h2'
      exact ⟨f2, e1.trans e2, h2'⟩
    have g4 : fst1 near l ≤ (if l < 64 then l else 64) := by split <;> omega
    by_cases c : 64 ≤ l
    · rw [if_pos (show (64 : Int32) ≤ nI l from nI_le (a := 64) c (by omega))]
      exact go 64 (by omega) c (by omega)
    · rw [if_neg (show ¬ (64 : Int32) ≤ nI l from nI_ge (b := 64) (by omega) (by omega))]
      exact go l g2 (Nat.le_refl l) (by omega)
theorem mpc_ok {N : Nat} (hN : 100000 ≤ N) {d l K : Nat} (hd : d ≤ 10000) (hl : l ≤ 10000) (hK : K ≤ 10000) {jn jf : Nat → Int32} (ht : tb K jn jf) {f : Nat → Int32} {L : List Nat} (h : tp_Rw 20000 f L) (hL : L.length + 3 * l < 2 ^ 28) : ∃ (K' : Nat) (f' jn' jf' : Nat → Int32), m_Mo_putCopies N (nI l) (nI d) (nI L.length) (nI K) f jn jf = some (nI (L ++ em d l).length, nI K', f', jn', jf') ∧ tp_Rw 20000 f' (L ++ em d l) ∧ K' ≤ 10000 ∧ tb K' jn' jf' := by
  unfold m_Mo_putCopies em
  obtain ⟨K', jn', jf', e, hk1, hk2, ht'⟩ := know_ok hN hl hK ht
  rw [e, tp_b3_s]
  by_cases c : d < 2048
  · rw [if_neg (show ¬ (2048 : Int32) ≤ nI d from nI_ge (b := 2048) c (by decide)), decide_eq_true c]
    obtain ⟨f', e', h'⟩ := mpc_l (near := true) hN hd (fun _ => c) ht' hk2 (nI K') l N l f L (Nat.le_refl l) (by omega) hk1 h hL
    exact ⟨K', f', jn', jf', e', h', hk2, ht'⟩
  · rw [if_pos (show (2048 : Int32) ≤ nI d from nI_le (a := 2048) (by omega) (by omega)), decide_eq_false c]
    obtain ⟨f', e', h'⟩ := mpc_l (near := false) hN hd (fun z => by cases z) ht' hk2 (nI K') l N l f L (Nat.le_refl l) (by omega) hk1 h hL
    exact ⟨K', f', jn', jf', e', h', hk2, ht'⟩
