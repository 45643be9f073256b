/-! The block that is WRITTEN: both sides write the same one; pack. -/
/-- the elements from p on, literals waiting since a -/
def ebf (D : List Nat) (fr to way : Nat) : Nat → Nat → Nat → List Nat
  | 0, _, _ => []
  | k + 1, a, p => if to ≤ p then elit D a to else match mtS D fr p to way with
    | none => ebf D fr to way k a (p + 1)
    | some (q, n) => elit D a p ++ (em (p - q) n ++ ebf D fr to way k (p + n) (p + n))
/-- the block for D's bytes fr .. to -/
def eblk (D : List Nat) (fr to way : Nat) : List Nat := elen (to - fr) ++ ebf D fr to way (to - fr + 1) fr fr
theorem app4 (A B C E : List Nat) : A ++ B ++ C ++ E = A ++ (B ++ (C ++ E)) := by simp
theorem em_len (d l : Nat) : (em d l).length ≤ 3 * l := emf_len _ d l l
theorem ebf_len (D : List Nat) {fr to way : Nat} : ∀ (k a p : Nat), a ≤ p → p ≤ to → (ebf D fr to way k a p).length ≤ 4 * (to - a) := by
  intro k
  induction k with
  | zero => intro a p _ _; exact Nat.zero_le _
  | succ k ih =>
    intro a p ha hp
    rw [ebf]
    by_cases c : to ≤ p
    · rw [if_pos c]; exact elit_len D a to
    · rw [if_neg c]
      cases hm : mtS D fr p to way with
      | none => exact ih a (p + 1) (by omega) (by omega)
      | some qn =>
        obtain ⟨q, n⟩ := qn
        obtain ⟨m1, m2, m3, m4⟩ := mtS_in hm
        have hml := ml_le D q p to
        dsimp only
        rw [List.length_append, List.length_append]
        have := elit_len D a p
        have := em_len (p - q) n
        have := ih (p + n) (p + n) (Nat.le_refl _) (by omega)
        omega
theorem eblk_len (D : List Nat) {fr to way : Nat} (h : fr ≤ to) : (eblk D fr to way).length ≤ 5 + 4 * (to - fr) := by
  unfold eblk elen
  rw [List.length_append]
  have := ef_len 4 (to - fr)
  have := ebf_len D (fr := fr) (to := to) (way := way) (to - fr + 1) fr fr (Nat.le_refl _) h
  omega
section
variable {N : Nat} {D : List Nat} {g bef : Nat → Int32} {fr to way : Nat}
theorem blk_l (hN : 100000 ≤ N) (hD : tp_Rw 10000 g D) (hDl : D.length ≤ 10000) (hc : chn D bef) (hto : to ≤ D.length) (hw : way ≤ 3) : ∀ (k n a p : Nat) (f : Nat → Int32) (L : List Nat) (le di : Int32), to - p < k → k < n → fr ≤ p → a ≤ p → p ≤ to → tp_Rw 10000 f L → tp_fitsB f → L.length + 4 * (to - a) < 2 ^ 27 → ∃ (f' : Nat → Int32) (le' di' : Int32), tp_it10 (m_BlockWriter_putBlock_22 N (nI D.length) g bef) n (nI to) (nI way) (nI a) (nI p) (nI L.length) f (nI fr) (nI to) le di = some (nI (L ++ ebf D fr to way k a p).length, f', nI fr, nI to, le', di') ∧ tp_Rw 10000 f' (L ++ ebf D fr to way k a p) ∧ tp_fitsB f' := by
  intro k
  induction k with
  | zero => intro n a p f L le di h1; omega
  | succ k ih =>
    intro n a p f L le di h1 h2 h3 h4 h5 h hf hL
    obtain ⟨n, rfl⟩ : ∃ z, n = z + 1 := ⟨n - 1, by omega⟩
    show ∃ (f' : Nat → Int32) (le' di' : Int32), m_BlockWriter_putBlock_22 N (nI D.length) g bef (tp_it10 (m_BlockWriter_putBlock_22 N (nI D.length) g bef) n) (nI to) (nI way) (nI a) (nI p) (nI L.length) f (nI fr) (nI to) le di = _ ∧ _
    rw [m_BlockWriter_putBlock_22, ebf]
    by_cases c : to ≤ p
    · obtain ⟨f1, e1, h1', hf1⟩ := plit_ok hN hD hDl (show a ≤ to by omega) hto h hf (by omega)
      rw [if_pos (nI_le c (by omega)), if_pos c, e1, tp_b2_s]
      exact ⟨f1, le, di, rfl, h1', hf1⟩
    · rw [if_neg (nI_ge (by omega) (by omega)), if_neg c]
      obtain ⟨l1, d1, e1, hm⟩ := findAt_ok hN hD hDl hc hto h3 (show p < to by omega) hw le di
      rw [e1, tp_b2_s]
      cases hmt : mtS D fr p to way with
      | none =>
        rw [hmt] at hm
        dsimp only at hm
        subst hm
        rw [if_neg (by decide), show nI p + (1 : Int32) = nI (p + 1) from nI_1 p]
        exact ih n a (p + 1) f L _ _ (by omega) (by omega) (by omega) (by omega) (by omega) h hf hL
      | some qn =>
        obtain ⟨q, m⟩ := qn
        rw [hmt] at hm
        obtain ⟨hm1, hm2⟩ := hm
        subst hm1
        subst hm2
        obtain ⟨m1, m2, m3, m4⟩ := mtS_in hmt
        have hml := ml_le D q p to
        have len1 := elit_len D a p
        have len2 := em_len (p - q) m
        obtain ⟨f1, e2, h1', hf1⟩ := plit_ok hN hD hDl h4 (show p ≤ D.length by omega) h hf (by omega)
        obtain ⟨f2, e3, h2', hf2⟩ := pm_ok hN (d := p - q) (l := m) (by omega) (by omega) h1' hf1 (by rw [List.length_append]; omega)
        rw [if_pos (show (0 : Int32) < nI m from nI_lt (a := 0) (by omega) (by omega)), e2, tp_b2_s, e3, tp_b2_s, nI_add]
        obtain ⟨f3, le', di', e4, h3', hf3⟩ := ih n (p + m) (p + m) f2 _ (nI m) (nI (p - q)) (by omega) (by omega) (by omega) (Nat.le_refl _) (by omega) h2' hf2 (by rw [List.length_append, List.length_append]; omega)
        rw [app4] at e4 h3'
        exact ⟨f3, le', di', e4, h3', hf3⟩
theorem putBlock_ok (hN : 100000 ≤ N) (hD : tp_Rw 10000 g D) (hDl : D.length ≤ 10000) (hc : chn D bef) (hfr : fr ≤ to) (hto : to ≤ D.length) (hw : way ≤ 3) {f : Nat → Int32} {L : List Nat} (a b le di : Int32) (h : tp_Rw 10000 f L) (hf : tp_fitsB f) (hL : L.length < 2 ^ 26) : ∃ (f' : Nat → Int32) (a' b' le' di' : Int32), m_BlockWriter_putBlock N (nI fr) (nI to) (nI way) (nI D.length) g (nI L.length) f a b le di bef = some (nI (L ++ eblk D fr to way).length, f', a', b', le', di') ∧ tp_Rw 10000 f' (L ++ eblk D fr to way) ∧ tp_fitsB f' := by
  unfold m_BlockWriter_putBlock eblk
  have kw : m_Matches_keepWithin (nI fr) (nI to) a b (nI D.length) = some (nI fr, nI to) := by
    unfold m_Matches_keepWithin
    rw [if_neg (show ¬ nI fr < (0 : Int32) from nI_pos (by omega)), if_neg (nI_nlt hto (by omega))]
    rfl
  have hle := ef_len 4 (to - fr)
  obtain ⟨f1, e1, h1, hf1⟩ := plen_ok hN (show to - fr ≤ 10000 by omega) h hf (by omega)
  obtain ⟨f2, le', di', e2, h2, hf2⟩ := blk_l hN hD hDl hc hto hw (to - fr + 1) N fr fr f1 _ le di (by omega) (by omega) (Nat.le_refl _) (Nat.le_refl _) hfr h1 hf1 (by rw [List.length_append]; unfold elen; omega)
  rw [kw, tp_b2_s, pk_sub hfr, e1, tp_b2_s]
  rw [List.append_assoc] at e2 h2
  exact ⟨f2, _, _, le', di', e2, h2, hf2⟩
theorem mblk_l (hN : 100000 ≤ N) (hD : tp_Rw 10000 g D) (hDl : D.length ≤ 10000) (hto : to ≤ D.length) (hw : way ≤ 3) : ∀ (k n a p K : Nat) (f jn jf : Nat → Int32) (L : List Nat) (fa fl : Int32), to - p < k → k < n → fr ≤ p → a ≤ p → p ≤ to → tp_Rw 20000 f L → K ≤ 10000 → tb K jn jf → L.length + 4 * (to - a) < 2 ^ 27 → ∃ (K' : Nat) (f' jn' jf' : Nat → Int32) (fa' fl' : Int32), tp_it12 (m_Mo_putBlock_50 N g) n (nI fr) (nI to) (nI way) (nI a) (nI p) (nI L.length) (nI K) fa fl f jn jf = some (nI (L ++ ebf D fr to way k a p).length, nI K', fa', fl', f', jn', jf') ∧ tp_Rw 20000 f' (L ++ ebf D fr to way k a p) ∧ K' ≤ 10000 ∧ tb K' jn' jf' := by
  intro k
  induction k with
  | zero => intro n a p K f jn jf L fa fl h1; omega
  | succ k ih =>
    intro n a p K f jn jf L fa fl h1 h2 h3 h4 h5 h hK ht hL
    obtain ⟨n, rfl⟩ : ∃ z, n = z + 1 := ⟨n - 1, by omega⟩
    show ∃ (K' : Nat) (f' jn' jf' : Nat → Int32) (fa' fl' : Int32), m_Mo_putBlock_50 N g (tp_it12 (m_Mo_putBlock_50 N g) n) (nI fr) (nI to) (nI way) (nI a) (nI p) (nI L.length) (nI K) fa fl f jn jf = _ ∧ _
    rw [m_Mo_putBlock_50, ebf]
    by_cases c : to ≤ p
    · obtain ⟨f1, e1, h1'⟩ := mplit_ok hN hD hDl (show a ≤ to by omega) hto h (by omega)
      rw [if_pos (nI_le c (by omega)), if_pos c, e1, tp_b2_s]
      exact ⟨K, f1, jn, jf, fa, fl, rfl, h1', hK, ht⟩
    · rw [if_neg (nI_ge (by omega) (by omega)), if_neg c]
      obtain ⟨a1, l1, e1, hm⟩ := mmatch_ok hN hD hDl hto h3 (show p < to by omega) hw fa fl
      rw [e1, tp_b2_s]
      cases hmt : mtS D fr p to way with
      | none =>
        rw [hmt] at hm
        dsimp only at hm
        subst hm
        rw [if_pos rfl, show nI p + (1 : Int32) = nI (p + 1) from nI_1 p]
        exact ih n a (p + 1) K f jn jf L _ _ (by omega) (by omega) (by omega) (by omega) (by omega) h hK ht hL
      | some qn =>
        obtain ⟨q, m⟩ := qn
        rw [hmt] at hm
        obtain ⟨hm1, hm2⟩ := hm
        subst hm1
        subst hm2
        obtain ⟨m1, m2, m3, m4⟩ := mtS_in hmt
        have hml := ml_le D q p to
        have len1 := elit_len D a p
        have len2 := em_len (p - q) m
        obtain ⟨f1, e2, h1'⟩ := mplit_ok hN hD hDl h4 (show p ≤ D.length by omega) h (by omega)
        obtain ⟨K1, f2, jn1, jf1, e3, h2', hK1, ht1⟩ := mpc_ok hN (d := p - q) (l := m) (by omega) (by omega) hK ht h1' (by rw [List.length_append]; omega)
        rw [if_neg (nI_ne0 (by omega) (by omega)), e2, tp_b2_s, pk_sub (show q ≤ p by omega), e3, tp_b5_s, nI_add]
        obtain ⟨K2, f3, jn2, jf2, fa', fl', e4, h3', hK2, ht2⟩ := ih n (p + m) (p + m) K1 f2 jn1 jf1 _ (nI q) (nI m) (by omega) (by omega) (by omega) (Nat.le_refl _) (by omega) h2' hK1 ht1 (by rw [List.length_append, List.length_append]; omega)
        rw [app4] at e4 h3'
        exact ⟨K2, f3, jn2, jf2, fa', fl', e4, h3', hK2, ht2⟩
theorem mlen_l (hN : 100000 ≤ N) (hD : tp_Rw 10000 g D) (hDl : D.length ≤ 10000) (hfr : fr ≤ to) (hto : to ≤ D.length) (hw : way ≤ 3) {K : Nat} {jn jf : Nat → Int32} (hK : K ≤ 10000) (ht : tb K jn jf) (fa fl : Int32) : ∀ (k n m : Nat) (f : Nat → Int32) (L : List Nat), k < n → m < 128 * 128 ^ k → m < 2 ^ 30 → tp_Rw 20000 f L → L.length + k + 1 + 4 * (to - fr) < 2 ^ 27 → ∃ (K' : Nat) (f' jn' jf' : Nat → Int32) (fa' fl' : Int32), tp_it11 (m_Mo_putBlock_5 N g) n (nI fr) (nI to) (nI way) (nI m) (nI L.length) (nI K) fa fl f jn jf = some (nI (L ++ (ef k m ++ ebf D fr to way (to - fr + 1) fr fr)).length, nI K', fa', fl', f', jn', jf') ∧ tp_Rw 20000 f' (L ++ (ef k m ++ ebf D fr to way (to - fr + 1) fr fr)) ∧ K' ≤ 10000 ∧ tb K' jn' jf' := by
  have last : ∀ (n m : Nat) (f : Nat → Int32) (L : List Nat), m < 128 → tp_Rw 20000 f L → L.length + 1 + 4 * (to - fr) < 2 ^ 27 → ∃ (K' : Nat) (f' jn' jf' : Nat → Int32) (fa' fl' : Int32), m_Mo_putBlock_5 N g (tp_it11 (m_Mo_putBlock_5 N g) n) (nI fr) (nI to) (nI way) (nI m) (nI L.length) (nI K) fa fl f jn jf = some (nI (L ++ ([m] ++ ebf D fr to way (to - fr + 1) fr fr)).length, nI K', fa', fl', f', jn', jf') ∧ tp_Rw 20000 f' (L ++ ([m] ++ ebf D fr to way (to - fr + 1) fr fr)) ∧ K' ≤ 10000 ∧ tb K' jn' jf' := by
    intro n m f L hm h hL
    obtain ⟨f1, e1, h1⟩ := mput_ok (nI m) h (by omega)
    rw [tp_by_nI (by omega)] at e1 h1
    rw [m_Mo_putBlock_5, if_pos (show nI m < (128 : Int32) from nI_lt (b := 128) hm (by decide)), e1, tp_b2_s]
    obtain ⟨K', f2, jn', jf', fa', fl', e2, h2, hK', ht'⟩ := mblk_l hN hD hDl hto hw (fr := fr) (to - fr + 1) N fr fr K f1 jn jf _ fa fl (by omega) (by omega) (Nat.le_refl _) (Nat.le_refl _) hfr h1 hK ht (by rw [List.length_append, List.length_singleton]; omega)
    rw [List.append_assoc] at e2 h2
    exact ⟨K', f2, jn', jf', fa', fl', e2, h2, hK', ht'⟩
  intro k
  induction k with
  | zero =>
    intro n m f L hn hm hm2 h hL
    obtain ⟨n, rfl⟩ : ∃ z, n = z + 1 := ⟨n - 1, by omega⟩
    show ∃ (K' : Nat) (f' jn' jf' : Nat → Int32) (fa' fl' : Int32), m_Mo_putBlock_5 N g (tp_it11 (m_Mo_putBlock_5 N g) n) (nI fr) (nI to) (nI way) (nI m) (nI L.length) (nI K) fa fl f jn jf = _ ∧ _
    exact last n m f L (by omega) h (by omega)
  | succ k ih =>
    intro n m f L hn hm hm2 h hL
    obtain ⟨n, rfl⟩ : ∃ z, n = z + 1 := ⟨n - 1, by omega⟩
    show ∃ (K' : Nat) (f' jn' jf' : Nat → Int32) (fa' fl' : Int32), m_Mo_putBlock_5 N g (tp_it11 (m_Mo_putBlock_5 N g) n) (nI fr) (nI to) (nI way) (nI m) (nI L.length) (nI K) fa fl f jn jf = _ ∧ _
    by_cases c : m < 128
    · rw [ef, if_pos c]
      exact last n m f L c h (by omega)
    · obtain ⟨f1, e1, h1⟩ := mput_ok (nI (m % 128 + 128)) h (by omega)
      rw [tp_by_nI (by omega)] at e1 h1
      rw [ef, if_neg c, m_Mo_putBlock_5, if_neg (show ¬ nI m < (128 : Int32) from nI_nlt (b := 128) (by omega) (by omega)), show nI m - nI m / (128 : Int32) * (128 : Int32) = nI (m % 128) from pk_rem (d := 128) (by omega) (by decide) (by decide), show nI (m % 128) + (128 : Int32) = nI (m % 128 + 128) from nI_add _ 128, e1, tp_b2_s, show nI m / (128 : Int32) = nI (m / 128) from pk_div (d := 128) (by omega) (by decide) (by decide)]
      obtain ⟨K', f2, jn', jf', fa', fl', e2, h2, hK', ht'⟩ := ih n (m / 128) f1 _ (by omega) (by rw [Nat.pow_succ, Nat.mul_comm (128 ^ k) 128] at hm; exact Nat.div_lt_of_lt_mul hm) (by omega) h1 (by rw [List.length_append, List.length_singleton]; omega)
      rw [List.append_assoc] at e2 h2
      exact ⟨K', f2, jn', jf', fa', fl', e2, h2, hK', ht'⟩
theorem mputBlock_ok (hN : 100000 ≤ N) (hD : tp_Rw 10000 g D) (hDl : D.length ≤ 10000) (hfr : fr ≤ to) (hto : to ≤ D.length) (hw : way ≤ 3) {K : Nat} {jn jf : Nat → Int32} (hK : K ≤ 10000) (ht : tb K jn jf) (fa fl : Int32) {f : Nat → Int32} {L : List Nat} (h : tp_Rw 20000 f L) (hL : L.length < 2 ^ 26) : ∃ (K' : Nat) (f' jn' jf' : Nat → Int32) (fa' fl' : Int32), m_Mo_putBlock N (nI fr) (nI to) (nI way) (nI L.length) (nI K) fa fl g f jn jf = some (nI (L ++ eblk D fr to way).length, nI K', fa', fl', f', jn', jf') ∧ tp_Rw 20000 f' (L ++ eblk D fr to way) ∧ K' ≤ 10000 ∧ tb K' jn' jf' := by
  unfold m_Mo_putBlock eblk elen
  rw [pk_sub hfr]
  exact mlen_l hN hD hDl hfr hto hw hK ht fa fl 4 N (to - fr) f L (by omega) (by omega) (by omega) h (by omega)
end
