/-! pack and chunks: the same answer, the same OUT. -/
def wR (E : List Nat) : Int32 := if E.length ≤ 10000 then nI E.length else -1
def wO (O E : List Nat) : List Nat := if E.length ≤ 10000 then E else O
theorem wR_le {E : List Nat} (h : E.length ≤ 10000) : wR E = nI E.length := if_pos h
theorem wR_gt {E : List Nat} (h : 10000 < E.length) : wR E = -1 := if_neg (by omega)
theorem wO_le {O E : List Nat} (h : E.length ≤ 10000) : wO O E = E := if_pos h
theorem wO_gt {O E : List Nat} (h : 10000 < E.length) : wO O E = O := if_neg (by omega)
theorem wO_len {O E : List Nat} (h : O.length ≤ 10000) : (wO O E).length ≤ 10000 := by
  unfold wO
  split
  · assumption
  · exact h
theorem endW_ok {O E : List Nat} {o t : Nat → Int32} (ho : tp_Rw 10000 o O) (hof : tp_fitsB o) (ht : tp_Rw 10000 t E) (htf : tp_fitsB t) (hl : E.length < 2 ^ 31) : ∃ o', m_TP_endWriting (nI O.length) o (nI E.length) t = some (wR E, nI (wO O E).length, o') ∧ tp_Rw 10000 o' (wO O E) ∧ tp_fitsB o' := by
  unfold m_TP_endWriting
  by_cases c : E.length ≤ 10000
  · obtain ⟨o', e, h1, h2⟩ := become_ok (x := nI O.length) ht htf hof c
    rw [fits_ok c, tp_b1_s, if_neg (by decide), e, tp_b2_s, wR_le c, wO_le c]
    exact ⟨o', rfl, h1, h2⟩
  · rw [fits_no (by omega) hl, tp_b1_s, if_pos (by decide), wR_gt (by omega), wO_gt (by omega)]
    exact ⟨o, rfl, ho, hof⟩
/-- the ends of both writers -/
def wrC (x : Option (Int32 × Int32 × (Nat → Int32) × Int32 × (Nat → Int32) × Int32 × Int32 × Int32 × Int32 × (Nat → Int32) × (Nat → Int32))) (r : Int32) (O' : List Nat) : Prop :=
  ∃ (o : Nat → Int32) (T : Nat) (t : Nat → Int32) (a b c d : Int32) (bef lat : Nat → Int32), x = some (r, nI O'.length, o, nI T, t, a, b, c, d, bef, lat) ∧ T < 2 ^ 31 ∧ tp_Rw 10000 o O' ∧ tp_fitsB o ∧ tp_fitsB t
def wrM (x : Option (Int32 × Int32 × Int32 × Int32 × Int32 × Int32 × (Nat → Int32) × (Nat → Int32) × (Nat → Int32) × (Nat → Int32))) (r : Int32) (O' : List Nat) : Prop :=
  ∃ (made : Int32) (K : Nat) (fa fl : Int32) (jo jm jn jf : Nat → Int32), x = some (r, nI O'.length, made, nI K, fa, fl, jo, jm, jn, jf) ∧ tp_Rw 10000 jo O' ∧ K ≤ 10000 ∧ tb K jn jf
theorem endM_ok {N : Nat} (hN : 100000 ≤ N) {O E : List Nat} {jo jm jn jf : Nat → Int32} {K : Nat} {fa fl : Int32} (ho : tp_Rw 10000 jo O) (hm : tp_Rw 20000 jm E) (hl : E.length < 2 ^ 31) (hK : K ≤ 10000) (ht : tb K jn jf) : wrM (if nI E.length ≤ (10000 : Int32) then tp_b3 (m_Mo_settle N (nI O.length) (nI E.length) jo jm) fun r21 j_out_22 jo_f_23 => some (r21, j_out_22, nI E.length, nI K, fa, fl, jo_f_23, jm, jn, jf) else some ((-1 : Int32), nI O.length, nI E.length, nI K, fa, fl, jo, jm, jn, jf)) (wR E) (wO O E) := by
  by_cases c : E.length ≤ 10000
  · obtain ⟨o', e, h1⟩ := msettle_ok hN (f := jo) hm c (nI O.length)
    rw [if_pos (show nI E.length ≤ (10000 : Int32) from nI_le (b := 10000) c (by decide)), e, tp_b3_s, wR_le c, wO_le c]
    exact ⟨_, K, fa, fl, o', jm, jn, jf, rfl, h1, hK, ht⟩
  · rw [if_neg (show ¬ nI E.length ≤ (10000 : Int32) from nI_ge (a := 10000) (by omega) hl), wR_gt (by omega), wO_gt (by omega)]
    exact ⟨_, K, fa, fl, jo, jm, jn, jf, rfl, ho, hK, ht⟩
theorem way_no {x : Int32} (h : ¬ (¬ x < 0 ∧ x ≤ 3)) : m_TP_isNoWay x = some 1 := by
  unfold m_TP_isNoWay
  by_cases c : x < 0
  · rw [if_pos c]
  · rw [if_neg c, if_neg (fun z => h ⟨c, z⟩)]
theorem way_ok {x : Int32} (h1 : ¬ x < 0) (h2 : x ≤ 3) : m_TP_isNoWay x = some 0 := by
  unfold m_TP_isNoWay
  rw [if_neg h1, if_pos h2]
theorem op_pack {N : Nat} (hN : 100000 ≤ N) (x : Int32) {I O : List Nat} {i o t ji jo jm jn jf bef lat : Nat → Int32} {T K : Nat} (a b c d made fa fl : Int32) (hI : I.length ≤ 10000) (hO : O.length ≤ 10000) (hi : tp_Rw 10000 i I) (ho : tp_Rw 10000 o O) (hof : tp_fitsB o) (hT : T < 2 ^ 31) (htf : tp_fitsB t) (hji : tp_Rw 10000 ji I) (hjo : tp_Rw 10000 jo O) (hK : K ≤ 10000) (ht : tb K jn jf) : ∃ (r : Int32) (O' : List Nat), wrC (m_TP_pack N x (nI I.length) i (nI O.length) o (nI T) t a b c d bef lat) r O' ∧ wrM (m_Mo_pack N x (nI I.length) (nI O.length) made (nI K) fa fl ji jo jm jn jf) r O' ∧ O'.length ≤ 10000 := by
  unfold m_TP_pack m_Mo_pack
  by_cases h0 : x < 0
  · rw [way_no (fun z => z.1 h0), tp_b1_s, if_neg (by decide), if_pos h0]
    exact ⟨-1, O, ⟨o, T, t, a, b, c, d, bef, lat, rfl, hT, ho, hof, htf⟩, ⟨made, K, fa, fl, jo, jm, jn, jf, rfl, hjo, hK, ht⟩, hO⟩
  by_cases h3 : x ≤ 3
  · obtain ⟨way, hw, rfl⟩ : ∃ k : Nat, k ≤ 3 ∧ x = nI k := nI_of2 (M := 3) (by decide) h0 h3
    rw [way_ok h0 h3, tp_b1_s, if_pos rfl, if_neg h0, if_pos h3]
    obtain ⟨bef', lat', e1, hc⟩ := index_ok hN hi hI bef lat
    obtain ⟨t1, a1, b1, c1, d1, e2, h2, hf2⟩ := putBlock_ok hN hi hI hc (Nat.zero_le I.length) (Nat.le_refl _) hw a b c d (rw_nil 10000 t) htf (by decide)
    obtain ⟨K', m1, jn', jf', fa', fl', e3, h4, hK', ht'⟩ := mputBlock_ok hN hji hI (Nat.zero_le I.length) (Nat.le_refl _) hw hK ht fa fl (rw_nil 20000 jm) (by decide)
    have hl := eblk_len I (way := way) (Nat.zero_le I.length)
    rw [List.nil_append] at e2 h2 e3 h4
    obtain ⟨o', e4, h5, h6⟩ := endW_ok ho hof h2 hf2 (by omega)
    rw [show (0 : Int32) = nI 0 from rfl, shorten_ok (Nat.zero_le T) hT, tp_b1_s, e1, tp_b2_s, show nI 0 = nI ([] : List Nat).length from rfl]
    refine ⟨wR (eblk I 0 I.length way), wO O (eblk I 0 I.length way), ?_, ?_, wO_len hO⟩
    rotate_left
    · rw [show m_Mo_putBlock N (nI ([] : List Nat).length) (nI I.length) (nI way) (nI ([] : List Nat).length) (nI K) fa fl ji jm jn jf = _ from e3, tp_b7_s]
      exact endM_ok hN hjo h4 (by omega) hK' ht'
    · rw [show m_BlockWriter_putBlock N (nI ([] : List Nat).length) (nI I.length) (nI way) (nI I.length) i (nI ([] : List Nat).length) t a b c d bef' = _ from e2, tp_b6_s, e4, tp_b3_s]
      exact ⟨o', _, t1, a1, b1, c1, d1, bef', lat', rfl, by omega, h5, h6, hf2⟩
  · rw [way_no (fun z => h3 z.2), tp_b1_s, if_neg (by decide), if_neg h0, if_neg h3]
    exact ⟨-1, O, ⟨o, T, t, a, b, c, d, bef, lat, rfl, hT, ho, hof, htf⟩, ⟨made, K, fa, fl, jo, jm, jn, jf, rfl, hjo, hK, ht⟩, hO⟩
-- ---- the mark and the spare chunk
def mkl (i : Nat) : Nat → List Nat
  | 0 => []
  | d + 1 => tp_by (tp_mark i) :: mkl (i + 1) d
theorem mkl_len : ∀ d i, (mkl i d).length = d := by
  intro d
  induction d with
  | zero => intro i; rfl
  | succ d ih => intro i; rw [mkl, List.length_cons, ih]
theorem mmark : ∀ i, i < 6 → m_Mo_mark (nI i) = some (tp_mark i) := by decide +kernel
def mkL : List Nat := 255 :: (nbf 6 0 3 ++ mkl 0 6)
theorem mkL_len : mkL.length = 10 := by
  unfold mkL
  rw [List.length_cons, List.length_append, nbf_len, mkl_len]
theorem cmark_l {N : Nat} : ∀ (d n i : Nat) (f : Nat → Int32) (L : List Nat), i + d = 6 → d < n → tp_Rw 10000 f L → tp_fitsB f → L.length + d < 2 ^ 30 → ∃ f', tp_it4 (m_StreamWriter_putMark_31 N) n (6 : Int32) (nI i) (nI L.length) f = some (nI (L ++ mkl i d).length, f') ∧ tp_Rw 10000 f' (L ++ mkl i d) ∧ tp_fitsB f' := by
  intro d
  induction d with
  | zero =>
    intro n i f L hi hn h hf hl
    obtain ⟨n, rfl⟩ : ∃ z, n = z + 1 := ⟨n - 1, by omega⟩
    show ∃ f', m_StreamWriter_putMark_31 N (tp_it4 (m_StreamWriter_putMark_31 N) n) (6 : Int32) (nI i) (nI L.length) f = _ ∧ _
    rw [m_StreamWriter_putMark_31, if_pos (show (6 : Int32) ≤ nI i from nI_le (a := 6) (by omega) (by omega)), mkl, List.append_nil]
    exact ⟨f, rfl, h, hf⟩
  | succ d ih =>
    intro n i f L hi hn h hf hl
    obtain ⟨n, rfl⟩ : ∃ z, n = z + 1 := ⟨n - 1, by omega⟩
    show ∃ f', m_StreamWriter_putMark_31 N (tp_it4 (m_StreamWriter_putMark_31 N) n) (6 : Int32) (nI i) (nI L.length) f = _ ∧ _
    obtain ⟨f1, e1, h1, hf1⟩ := put_ok (tp_mark i) h hf (by omega)
    rw [m_StreamWriter_putMark_31, if_neg (show ¬ (6 : Int32) ≤ nI i from nI_ge (b := 6) (by omega) (by omega)), tp_gd_t (tp_inb_nI (by omega) (by decide)), nI_clamp (by omega), tp_b0, e1, tp_b2_s, show nI i + (1 : Int32) = nI (i + 1) from nI_1 i]
    obtain ⟨f2, e2, h2, hf2⟩ := ih n (i + 1) f1 _ (by omega) (by omega) h1 hf1 (by rw [List.length_append, List.length_singleton]; omega)
    rw [List.append_assoc] at e2 h2
    exact ⟨f2, e2, h2, hf2⟩
theorem cmark_ok {N : Nat} (hN : 100000 ≤ N) {f : Nat → Int32} {L : List Nat} (h : tp_Rw 10000 f L) (hf : tp_fitsB f) (hl : L.length < 2 ^ 28) : ∃ f', m_StreamWriter_putMark N (nI L.length) f = some (nI (L ++ mkL).length, f') ∧ tp_Rw 10000 f' (L ++ mkL) ∧ tp_fitsB f' := by
  unfold m_StreamWriter_putMark mkL
  obtain ⟨f1, e1, h1, hf1⟩ := put_ok (255 : Int32) h hf (by omega)
  rw [show tp_by 255 = 255 from by decide] at e1 h1
  obtain ⟨f2, e2, h2, hf2⟩ := putNumber_ok hN (6 : Int32) (k := 3) (by decide) h1 hf1 (by rw [List.length_append, List.length_singleton]; omega)
  obtain ⟨f3, e3, h3, hf3⟩ := cmark_l (N := N) 6 N 0 f2 _ (by omega) (by omega) h2 hf2 (by rw [List.length_append, List.length_append, List.length_singleton, nbf_len]; omega)
  rw [fin4b] at e3 h3
  rw [e1, tp_b2_s, show (3 : Int32) = nI 3 from rfl, e2, tp_b2_s]
  exact ⟨f3, e3, h3, hf3⟩
def spr (sp : Nat) : List Nat := if sp = 0 then [] else 254 :: (nbf (nI sp) 0 3 ++ List.replicate sp 0)
theorem spr_len (sp : Nat) : (spr sp).length ≤ 4 + sp := by
  unfold spr
  split
  · exact Nat.zero_le _
  · rw [List.length_cons, List.length_append, nbf_len, List.length_replicate]; omega
theorem cspare_l {N : Nat} {sp : Nat} (hsp : sp ≤ 255) : ∀ (d n i : Nat) (f : Nat → Int32) (L : List Nat), i + d = sp → d < n → tp_Rw 10000 f L → tp_fitsB f → L.length + d < 2 ^ 30 → ∃ f', tp_it4 (m_StreamWriter_putSpare_21 N) n (nI sp) (nI i) (nI L.length) f = some (nI (L ++ List.replicate d 0).length, f') ∧ tp_Rw 10000 f' (L ++ List.replicate d 0) ∧ tp_fitsB f' := by
  intro d
  induction d with
  | zero =>
    intro n i f L hi hn h hf hl
    obtain ⟨n, rfl⟩ : ∃ z, n = z + 1 := ⟨n - 1, by omega⟩
    show ∃ f', m_StreamWriter_putSpare_21 N (tp_it4 (m_StreamWriter_putSpare_21 N) n) (nI sp) (nI i) (nI L.length) f = _ ∧ _
    rw [m_StreamWriter_putSpare_21, if_pos (nI_le (by omega) (by omega)), List.replicate_zero, List.append_nil]
    exact ⟨f, rfl, h, hf⟩
  | succ d ih =>
    intro n i f L hi hn h hf hl
    obtain ⟨n, rfl⟩ : ∃ z, n = z + 1 := ⟨n - 1, by omega⟩
    show ∃ f', m_StreamWriter_putSpare_21 N (tp_it4 (m_StreamWriter_putSpare_21 N) n) (nI sp) (nI i) (nI L.length) f = _ ∧ _
    obtain ⟨f1, e1, h1, hf1⟩ := put_ok (0 : Int32) h hf (by omega)
    rw [show tp_by 0 = 0 from by decide] at e1 h1
    rw [m_StreamWriter_putSpare_21, if_neg (nI_ge (by omega) (by omega)), e1, tp_b2_s, show nI i + (1 : Int32) = nI (i + 1) from nI_1 i]
    obtain ⟨f2, e2, h2, hf2⟩ := ih n (i + 1) f1 _ (by omega) (by omega) h1 hf1 (by rw [List.length_append, List.length_singleton]; omega)
    rw [List.append_assoc] at e2 h2
    exact ⟨f2, e2, h2, hf2⟩
theorem cspare_ok {N : Nat} (hN : 100000 ≤ N) {sp : Nat} (hsp : sp ≤ 255) (hs : sp ≠ 0) {f : Nat → Int32} {L : List Nat} (h : tp_Rw 10000 f L) (hf : tp_fitsB f) (hl : L.length < 2 ^ 28) : ∃ f', m_StreamWriter_putSpare N (nI sp) (nI L.length) f = some (nI (L ++ spr sp).length, f') ∧ tp_Rw 10000 f' (L ++ spr sp) ∧ tp_fitsB f' := by
  unfold m_StreamWriter_putSpare spr
  rw [if_neg hs]
  obtain ⟨f1, e1, h1, hf1⟩ := put_ok (254 : Int32) h hf (by omega)
  rw [show tp_by 254 = 254 from by decide] at e1 h1
  obtain ⟨f2, e2, h2, hf2⟩ := putNumber_ok hN (nI sp) (k := 3) (by decide) h1 hf1 (by rw [List.length_append, List.length_singleton]; omega)
  obtain ⟨f3, e3, h3, hf3⟩ := cspare_l (N := N) hsp sp N 0 f2 _ (by omega) (by omega) h2 hf2 (by rw [List.length_append, List.length_append, List.length_singleton, nbf_len]; omega)
  rw [fin4b] at e3 h3
  rw [e1, tp_b2_s, show (3 : Int32) = nI 3 from rfl, e2, tp_b2_s]
  exact ⟨f3, e3, h3, hf3⟩
/-- the rows of a stream from fr on -/
def cks (D : List Nat) (cut way sp : Nat) : Nat → Nat → List Nat
  | 0, _ => []
  | k + 1, fr => if D.length ≤ fr then [] else crow D fr (if D.length < fr + cut then D.length else fr + cut) way ++ (spr sp ++ cks D cut way sp k (fr + cut))
theorem cks_len (D : List Nat) {cut way sp : Nat} (hc : 1 ≤ cut) (hs : sp ≤ 255) : ∀ k fr, (cks D cut way sp k fr).length ≤ 300 * (D.length - fr) := by
  intro k
  induction k with
  | zero => intro fr; exact Nat.zero_le _
  | succ k ih =>
    intro fr
    rw [cks]
    by_cases c : D.length ≤ fr
    · rw [if_pos c]; exact Nat.zero_le _
    · rw [if_neg c, List.length_append, List.length_append, crow_len]
      have h1 := cbody_len D fr (if D.length < fr + cut then D.length else fr + cut) way
      have h2 := spr_len sp
      have h3 := ih (fr + cut)
      by_cases e : D.length < fr + cut
      · rw [if_pos e] at h1 ⊢; omega
      · rw [if_neg e] at h1 ⊢; omega
section
variable {N : Nat} {D O : List Nat} {g : Nat → Int32} {cut way sp : Nat}
theorem app5 (L A B C : List Nat) : L ++ A ++ B ++ C = L ++ (A ++ (B ++ C)) := by simp
theorem cch_l (hN : 100000 ≤ N) {bef lat : Nat → Int32} (hD : tp_Rw 10000 g D) (hDl : D.length ≤ 10000) (hc : chn D bef) (hcut : 1 ≤ cut) (hcut2 : cut ≤ 10000) (hw : way ≤ 3) (hs : sp ≤ 255) {o : Nat → Int32} (ho : tp_Rw 10000 o O) (hof : tp_fitsB o) : ∀ (k n fr : Nat) (t : Nat → Int32) (L : List Nat) (a b c d : Int32), D.length - fr < k → k < n → fr < 2 ^ 29 → tp_Rw 10000 t L → tp_fitsB t → L.length + 300 * (D.length - fr) < 2 ^ 25 → wrC (tp_it14 (m_TP_chunks_57 N (nI D.length) g) n (nI cut) (nI way) (nI sp) (nI fr) (nI O.length) o (nI L.length) t a b c d bef lat) (wR (L ++ cks D cut way sp k fr)) (wO O (L ++ cks D cut way sp k fr)) := by
  intro k
  induction k with
  | zero => intro n fr t L a b c d h1; omega
  | succ k ih =>
    intro n fr t L a b c d h1 h2 h3 h hf hl
    obtain ⟨n, rfl⟩ : ∃ z, n = z + 1 := ⟨n - 1, by omega⟩
    show wrC (m_TP_chunks_57 N (nI D.length) g (tp_it14 (m_TP_chunks_57 N (nI D.length) g) n) (nI cut) (nI way) (nI sp) (nI fr) (nI O.length) o (nI L.length) t a b c d bef lat) _ _
    rw [m_TP_chunks_57]
    by_cases c1 : D.length ≤ fr
    · obtain ⟨o', e, h4, h5⟩ := endW_ok ho hof h hf (by omega)
      rw [if_pos (nI_le c1 (by omega)), e, tp_b3_s, cks, if_pos c1, List.append_nil]
      exact ⟨o', _, t, a, b, c, d, bef, lat, rfl, by omega, h4, h5, hf⟩
    · rw [if_neg (nI_ge (by omega) (by omega))]
      by_cases c2 : L.length ≤ 10000
      · have hmn : (if nI D.length < nI (fr + cut) then nI D.length else nI (fr + cut)) = nI (if D.length < fr + cut then D.length else fr + cut) := by
          by_cases e : D.length < fr + cut
          · rw [if_pos e, if_pos (nI_lt e (by omega))]
          · rw [if_neg e, if_neg (nI_nlt (by omega) (by omega))]
        have hm1 : fr ≤ (if D.length < fr + cut then D.length else fr + cut) := by split <;> omega
        have hm2 : (if D.length < fr + cut then D.length else fr + cut) ≤ D.length := by split <;> omega
        obtain ⟨t1, a1, b1, c1', d1, e1, h4, hf1⟩ := putData_ok hN hD hDl hc hm1 hm2 hw a b c d h hf (by omega)
        rw [fits_ok c2, tp_b1_s, if_neg (by decide), nI_add, hmn, e1, tp_b6_s, cks, if_neg c1]
        have hb := cbody_len D fr (if D.length < fr + cut then D.length else fr + cut) way
        have hr := crow_len D fr (if D.length < fr + cut then D.length else fr + cut) way
        have hm3 : (if D.length < fr + cut then D.length else fr + cut) - fr + (D.length - (fr + cut)) ≤ D.length - fr := by split <;> omega
        have hm4 : 1 ≤ D.length - fr - (D.length - (fr + cut)) := by omega
        by_cases c3 : sp = 0
        · subst c3
          rw [if_pos (show nI 0 ≤ (0 : Int32) by decide)]
          have := ih n (fr + cut) t1 _ a1 b1 c1' d1 (by omega) (by omega) (by omega) h4 hf1 (by rw [List.length_append]; omega)
          rw [List.append_assoc] at this
          exact this
        · obtain ⟨t2, e2, h5, hf2⟩ := cspare_ok hN hs c3 h4 hf1 (by rw [List.length_append]; omega)
          have hsl := spr_len sp
          rw [if_neg (show ¬ nI sp ≤ (0 : Int32) from nI_ge (a := 0) (by omega) (by omega)), e2, tp_b2_s]
          have := ih n (fr + cut) t2 _ a1 b1 c1' d1 (by omega) (by omega) (by omega) h5 hf2 (by rw [List.length_append, List.length_append]; omega)
          rw [app5] at this
          exact this
      · obtain ⟨o', e, h4, h5⟩ := endW_ok ho hof h hf (by omega)
        have hg : 10000 < (L ++ cks D cut way sp (k + 1) fr).length := by rw [List.length_append]; omega
        rw [fits_no (by omega) (by omega), tp_b1_s, if_pos (by decide), e, tp_b3_s, wR_gt hg, wO_gt hg]
        rw [wR_gt (by omega), wO_gt (by omega)]
        rw [wO_gt (by omega)] at h4
        exact ⟨o', _, t, a, b, c, d, bef, lat, rfl, by omega, h4, h5, hf⟩
theorem mspare_l (hN : 100000 ≤ N) (hs : sp ≤ 255) (rec81 : Int32 → Int32 → Int32 → Int32 → Int32 → Int32 → Int32 → Int32 → Int32 → (Nat → Int32) → (Nat → Int32) → (Nat → Int32) → (Nat → Int32) → Option (Int32 × Int32 × Int32 × Int32 × Int32 × Int32 × (Nat → Int32) × (Nat → Int32) × (Nat → Int32) × (Nat → Int32))) (jin x1 x2 x4 jout kn fa fl : Int32) (jo jn jf : Nat → Int32) : ∀ (d n i : Nat) (t : Nat → Int32) (L : List Nat), i + d = sp → d < n → tp_Rw 20000 t L → L.length + d < 2 ^ 30 → ∃ t', tp_it14 (m_Mo_chunks_139 N jin g rec81) n x1 x2 (nI sp) x4 (nI i) jout (nI L.length) kn fa fl jo t jn jf = rec81 x1 x2 (nI sp) (x4 + x1) jout (nI (L ++ List.replicate d 0).length) kn fa fl jo t' jn jf ∧ tp_Rw 20000 t' (L ++ List.replicate d 0) := by
  intro d
  induction d with
  | zero =>
    intro n i t L hi hn h hl
    obtain ⟨n, rfl⟩ : ∃ z, n = z + 1 := ⟨n - 1, by omega⟩
    show ∃ t', m_Mo_chunks_139 N jin g rec81 (tp_it14 (m_Mo_chunks_139 N jin g rec81) n) x1 x2 (nI sp) x4 (nI i) jout (nI L.length) kn fa fl jo t jn jf = _ ∧ _
    rw [m_Mo_chunks_139, if_pos (nI_le (by omega) (by omega)), List.replicate_zero, List.append_nil]
    exact ⟨t, rfl, h⟩
  | succ d ih =>
    intro n i t L hi hn h hl
    obtain ⟨n, rfl⟩ : ∃ z, n = z + 1 := ⟨n - 1, by omega⟩
    show ∃ t', m_Mo_chunks_139 N jin g rec81 (tp_it14 (m_Mo_chunks_139 N jin g rec81) n) x1 x2 (nI sp) x4 (nI i) jout (nI L.length) kn fa fl jo t jn jf = _ ∧ _
    obtain ⟨f1, e1, h1⟩ := mput_ok (0 : Int32) h (by omega)
    rw [show tp_by 0 = 0 from by decide] at e1 h1
    rw [m_Mo_chunks_139, if_neg (nI_ge (by omega) (by omega)), e1, tp_b2_s, show nI i + (1 : Int32) = nI (i + 1) from nI_1 i]
    obtain ⟨f2, e2, h2⟩ := ih n (i + 1) f1 _ (by omega) (by omega) h1 (by rw [List.length_append, List.length_singleton]; omega)
    rw [List.append_assoc] at e2 h2
    exact ⟨f2, e2, h2⟩
theorem mch_l (hN : 100000 ≤ N) (hD : tp_Rw 10000 g D) (hDl : D.length ≤ 10000) (hcut : 1 ≤ cut) (hcut2 : cut ≤ 10000) (hw : way ≤ 3) (hs : sp ≤ 255) {jo : Nat → Int32} (ho : tp_Rw 10000 jo O) : ∀ (k n fr K : Nat) (t jn jf : Nat → Int32) (L : List Nat) (fa fl : Int32), D.length - fr < k → k < n → fr < 2 ^ 29 → tp_Rw 20000 t L → K ≤ 10000 → tb K jn jf → L.length + 300 * (D.length - fr) < 2 ^ 25 → wrM (tp_it13 (m_Mo_chunks_81 N (nI D.length) g) n (nI cut) (nI way) (nI sp) (nI fr) (nI O.length) (nI L.length) (nI K) fa fl jo t jn jf) (wR (L ++ cks D cut way sp k fr)) (wO O (L ++ cks D cut way sp k fr)) := by
  intro k
  induction k with
  | zero => intro n fr K t jn jf L fa fl h1; omega
  | succ k ih =>
    intro n fr K t jn jf L fa fl h1 h2 h3 h hK ht hl
    obtain ⟨n, rfl⟩ : ∃ z, n = z + 1 := ⟨n - 1, by omega⟩
    show wrM (m_Mo_chunks_81 N (nI D.length) g (tp_it13 (m_Mo_chunks_81 N (nI D.length) g) n) (nI cut) (nI way) (nI sp) (nI fr) (nI O.length) (nI L.length) (nI K) fa fl jo t jn jf) _ _
    rw [m_Mo_chunks_81]
    by_cases c1 : D.length ≤ fr
    · rw [if_pos (nI_le c1 (by omega)), cks, if_pos c1, List.append_nil]
      exact endM_ok hN ho h (by omega) hK ht
    · have hm1 : fr ≤ (if D.length < fr + cut then D.length else fr + cut) := by split <;> omega
      have hm2 : (if D.length < fr + cut then D.length else fr + cut) ≤ D.length := by split <;> omega
      have hm3 : (if D.length < fr + cut then D.length else fr + cut) - fr + (D.length - (fr + cut)) ≤ D.length - fr := by split <;> omega
      have key : wrM (m_Mo_chunks_115 N (nI D.length) g (tp_it13 (m_Mo_chunks_81 N (nI D.length) g) n) (nI cut) (nI way) (nI sp) (nI fr) (nI fr) (nI (if D.length < fr + cut then D.length else fr + cut)) (nI O.length) (nI L.length) (nI K) fa fl jo t jn jf) (wR (L ++ cks D cut way sp (k + 1) fr)) (wO O (L ++ cks D cut way sp (k + 1) fr)) := by
        obtain ⟨K', t1, jn', jf', fa', fl', e1, h4, hK', ht'⟩ := mputRow_ok hN hD hDl hm1 hm2 hw hK ht fa fl h (by omega)
        rw [m_Mo_chunks_115, e1, tp_b7_s, cks, if_neg c1]
        have hb := cbody_len D fr (if D.length < fr + cut then D.length else fr + cut) way
        have hr := crow_len D fr (if D.length < fr + cut then D.length else fr + cut) way
        have hm4 : 1 ≤ D.length - fr - (D.length - (fr + cut)) := by omega
        by_cases c3 : sp = 0
        · subst c3
          rw [if_pos (show nI 0 ≤ (0 : Int32) by decide), nI_add]
          have := ih n (fr + cut) K' t1 jn' jf' _ fa' fl' (by omega) (by omega) (by omega) h4 hK' ht' (by rw [List.length_append]; omega)
          rw [List.append_assoc] at this
          exact this
        · have hsl := spr_len sp
          obtain ⟨t2, e2, h5⟩ := mput_ok (254 : Int32) h4 (by rw [List.length_append]; omega)
          rw [show tp_by 254 = 254 from by decide] at e2 h5
          obtain ⟨t3, e3, h6⟩ := mputNumber_ok hN (nI sp) (k := 3) (by decide) h5 (by rw [List.length_append, List.length_append, List.length_singleton]; omega)
          obtain ⟨t4, e4, h7⟩ := mspare_l (g := g) hN hs (tp_it13 (m_Mo_chunks_81 N (nI D.length) g) n) (nI D.length) (nI cut) (nI way) (nI fr) (nI O.length) (nI K') fa' fl' jo jn' jf' sp N 0 t3 _ (by omega) (by omega) h6 (by rw [List.length_append, List.length_append, List.length_append, List.length_singleton, nbf_len]; omega)
          rw [fin4b] at e4 h7
          rw [if_neg (show ¬ nI sp ≤ (0 : Int32) from nI_ge (a := 0) (by omega) (by omega)), e2, tp_b2_s, show (3 : Int32) = nI 3 from rfl, e3, tp_b2_s, show (0 : Int32) = nI 0 from rfl, e4, nI_add]
          have es : (254 :: (nbf (nI sp) 0 3 ++ List.replicate sp 0)) = spr sp := by rw [spr, if_neg c3]
          rw [es] at h7 ⊢
          have := ih n (fr + cut) K' t4 jn' jf' _ fa' fl' (by omega) (by omega) (by omega) h7 hK' ht' (by rw [List.length_append, List.length_append]; omega)
          rw [app5] at this
          exact this
      rw [if_neg (nI_ge (by omega) (by omega)), nI_add]
      by_cases e : D.length < fr + cut
      · rw [if_pos (nI_le (by omega) (by omega))]
        rw [if_pos e] at key
        exact key
      · rw [if_neg e] at key
        by_cases e2 : D.length = fr + cut
        · rw [if_pos (nI_le (by omega) (by omega)), show nI (fr + cut) = nI D.length by rw [e2]] at *
          exact key
        · rw [if_neg (nI_ge (by omega) (by omega))]
          exact key
theorem mmk_l (hN : 100000 ≤ N) (x1 x2 x3 jout kn fa fl : Int32) (jo jn jf : Nat → Int32) : ∀ (d n i : Nat) (t : Nat → Int32) (L : List Nat), i + d = 6 → d < n → tp_Rw 20000 t L → L.length + d < 2 ^ 30 → ∃ t', tp_it13 (m_Mo_chunks_56 N (nI D.length) g) n x1 x2 x3 (nI i) jout (nI L.length) kn fa fl jo t jn jf = tp_it13 (m_Mo_chunks_81 N (nI D.length) g) N x1 x2 x3 (0 : Int32) jout (nI (L ++ mkl i d).length) kn fa fl jo t' jn jf ∧ tp_Rw 20000 t' (L ++ mkl i d) := by
  intro d
  induction d with
  | zero =>
    intro n i t L hi hn h hl
    obtain ⟨n, rfl⟩ : ∃ z, n = z + 1 := ⟨n - 1, by omega⟩
    show ∃ t', m_Mo_chunks_56 N (nI D.length) g (tp_it13 (m_Mo_chunks_56 N (nI D.length) g) n) x1 x2 x3 (nI i) jout (nI L.length) kn fa fl jo t jn jf = _ ∧ _
    rw [m_Mo_chunks_56, if_pos (show (6 : Int32) ≤ nI i from nI_le (a := 6) (by omega) (by omega)), mkl, List.append_nil]
    exact ⟨t, rfl, h⟩
  | succ d ih =>
    intro n i t L hi hn h hl
    obtain ⟨n, rfl⟩ : ∃ z, n = z + 1 := ⟨n - 1, by omega⟩
    show ∃ t', m_Mo_chunks_56 N (nI D.length) g (tp_it13 (m_Mo_chunks_56 N (nI D.length) g) n) x1 x2 x3 (nI i) jout (nI L.length) kn fa fl jo t jn jf = _ ∧ _
    obtain ⟨f1, e1, h1⟩ := mput_ok (tp_mark i) h (by omega)
    rw [m_Mo_chunks_56, if_neg (show ¬ (6 : Int32) ≤ nI i from nI_ge (b := 6) (by omega) (by omega)), mmark i (by omega), tp_b1_s, e1, tp_b2_s, show nI i + (1 : Int32) = nI (i + 1) from nI_1 i]
    obtain ⟨f2, e2, h2⟩ := ih n (i + 1) f1 _ (by omega) (by omega) h1 (by rw [List.length_append, List.length_singleton]; omega)
    rw [List.append_assoc] at e2 h2
    exact ⟨f2, e2, h2⟩
end
theorem op_chunks {N : Nat} (hN : 100000 ≤ N) (x1 x2 x3 : Int32) {I O : List Nat} {i o t ji jo jm jn jf bef lat : Nat → Int32} {T K : Nat} (a b c d made fa fl : Int32) (hI : I.length ≤ 10000) (hO : O.length ≤ 10000) (hi : tp_Rw 10000 i I) (ho : tp_Rw 10000 o O) (hof : tp_fitsB o) (hT : T < 2 ^ 31) (htf : tp_fitsB t) (hji : tp_Rw 10000 ji I) (hjo : tp_Rw 10000 jo O) (hK : K ≤ 10000) (ht : tb K jn jf) : ∃ (r : Int32) (O' : List Nat), wrC (m_TP_chunks N x1 x2 x3 (nI I.length) i (nI O.length) o (nI T) t a b c d bef lat) r O' ∧ wrM (m_Mo_chunks N x1 x2 x3 (nI I.length) (nI O.length) made (nI K) fa fl ji jo jm jn jf) r O' ∧ O'.length ≤ 10000 := by
  have no : ∀ (X : Option (Int32 × Int32 × (Nat → Int32) × Int32 × (Nat → Int32) × Int32 × Int32 × Int32 × Int32 × (Nat → Int32) × (Nat → Int32))) (Y : Option (Int32 × Int32 × Int32 × Int32 × Int32 × Int32 × (Nat → Int32) × (Nat → Int32) × (Nat → Int32) × (Nat → Int32))), X = some (-1, nI O.length, o, nI T, t, a, b, c, d, bef, lat) → Y = some (-1, nI O.length, made, nI K, fa, fl, jo, jm, jn, jf) → ∃ (r : Int32) (O' : List Nat), wrC X r O' ∧ wrM Y r O' ∧ O'.length ≤ 10000 := fun X Y h1 h2 => ⟨-1, O, ⟨o, T, t, a, b, c, d, bef, lat, h1, hT, ho, hof, htf⟩, ⟨made, K, fa, fl, jo, jm, jn, jf, h2, hjo, hK, ht⟩, hO⟩
  unfold m_TP_chunks m_Mo_chunks
  by_cases c1 : x1 < 1
  · rw [if_pos c1, if_pos c1]
    exact no _ _ rfl rfl
  rw [if_neg c1, if_neg c1]
  by_cases c2 : (10000 : Int32) < x1
  · rw [if_pos c2, if_pos c2]
    exact no _ _ rfl rfl
  rw [if_neg c2, if_neg c2]
  by_cases w : ¬ x2 < 0 ∧ x2 ≤ 3
  · rw [way_ok w.1 w.2, tp_b1_s, if_pos rfl]
    by_cases c3 : x3 < 0
    · rw [if_pos c3, if_pos c3]
      exact no _ _ rfl rfl
    rw [if_neg c3, if_neg c3]
    by_cases c4 : (255 : Int32) < x3
    · rw [if_pos c4, if_neg (fun z => Int32.not_lt.mpr z c4)]
      exact no _ _ rfl rfl
    rw [if_neg c4, if_pos (Int32.not_lt.mp c4), if_neg w.1, if_pos w.2]
    obtain ⟨way, hw, rfl⟩ : ∃ k : Nat, k ≤ 3 ∧ x2 = nI k := nI_of2 (M := 3) (by decide) w.1 w.2
    obtain ⟨cut, hcut, rfl⟩ : ∃ k : Nat, k ≤ 10000 ∧ x1 = nI k := nI_of2 (M := 10000) rfl (fun z => c1 (Int32.lt_trans z (by decide))) (Int32.not_lt.mp c2)
    obtain ⟨sp, hsp, rfl⟩ : ∃ k : Nat, k ≤ 255 ∧ x3 = nI k := nI_of2 (M := 255) (by decide) c3 (Int32.not_lt.mp c4)
    have hc1 : 1 ≤ cut := by
      rcases Nat.eq_zero_or_pos cut with z | z
      · subst z; exact absurd (by decide) c1
      · exact z
    obtain ⟨bef', lat', e1, hc⟩ := index_ok hN hi hI bef lat
    obtain ⟨t1, e2, h2, hf2⟩ := cmark_ok hN (rw_nil 10000 t) htf (by decide)
    rw [List.nil_append] at e2 h2
    have hml := mkL_len
    have hC := cch_l hN (lat := lat') hi hI hc hc1 hcut hw hsp ho hof (I.length + 1) N 0 t1 mkL a b c d (by omega) (by omega) (by omega) h2 hf2 (by omega)
    obtain ⟨m1, e3, h3⟩ := mput_ok (255 : Int32) (rw_nil 20000 jm) (by decide)
    rw [show tp_by 255 = 255 from by decide] at e3 h3
    obtain ⟨m2, e4, h4⟩ := mputNumber_ok hN (6 : Int32) (k := 3) (by decide) h3 (by decide)
    obtain ⟨m3, e5, h5⟩ := mmk_l (D := I) (g := ji) hN (nI cut) (nI way) (nI sp) (nI O.length) (nI K) fa fl jo jn jf 6 N 0 m2 _ (by omega) (by omega) h4 (by rw [List.length_append, nbf_len]; decide)
    rw [fin4b] at e5 h5
    have hM := mch_l hN hji hI hc1 hcut hw hsp hjo (I.length + 1) N 0 K m3 jn jf mkL fa fl (by omega) (by omega) (by omega) h5 hK ht (by omega)
    refine ⟨wR (mkL ++ cks I cut way sp (I.length + 1) 0), wO O (mkL ++ cks I cut way sp (I.length + 1) 0), ?_, ?_, wO_len hO⟩
    rotate_left
    · rw [show m_Mo_put (255 : Int32) (0 : Int32) jm = _ from e3, tp_b2_s, show (3 : Int32) = nI 3 from rfl, e4, tp_b2_s, show (0 : Int32) = nI 0 from rfl, e5]
      exact hM
    · rw [show (0 : Int32) = nI 0 from rfl, shorten_ok (Nat.zero_le T) hT, tp_b1_s, e1, tp_b2_s, show m_StreamWriter_putMark N (nI 0) t = _ from e2, tp_b2_s]
      exact hC
  · rw [way_no w, tp_b1_s, if_neg (by decide)]
    by_cases c3 : x3 < 0
    · rw [if_pos c3]
      exact no _ _ rfl rfl
    rw [if_neg c3]
    by_cases c4 : (255 : Int32) < x3
    · rw [if_pos c4]
      exact no _ _ rfl rfl
    rw [if_neg c4]
    by_cases c5 : x2 < 0
    · rw [if_pos c5]
      exact no _ _ rfl rfl
    rw [if_neg c5, if_neg (fun z => w ⟨c5, z⟩)]
    exact no _ _ rfl rfl
