/-! Chunks that are written. -/
theorem rw_pre {cap : Nat} {f : Nat → Int32} {P R : List Nat} (h : tp_Rw cap f (P ++ R)) : tp_Rw cap f P :=
  ⟨fun j hj hm => by rw [← gd_app_lt (M := R) hj]; exact h.1 j (by rw [List.length_append]; omega) hm, fun x hx => h.2 x (List.mem_append_left _ hx)⟩
theorem gd_mid {P R : List Nat} {x y j : Nat} (h : j ≠ P.length) : (P ++ x :: R).getD j 0 = (P ++ y :: R).getD j 0 := by
  by_cases c : j < P.length
  · rw [gd_app_lt c, gd_app_lt c]
  · rw [gd_app_ge (by omega), gd_app_ge (by omega)]
    obtain ⟨k, hk⟩ : ∃ k, j - P.length = k + 1 := ⟨j - P.length - 1, by omega⟩
    rw [hk, List.getD_cons_succ, List.getD_cons_succ]
theorem gd_at {P R : List Nat} {y : Nat} : (P ++ y :: R).getD P.length 0 = y := by
  rw [gd_app_ge (Nat.le_refl _), Nat.sub_self, List.getD_cons_zero]
theorem mid_in {P R : List Nat} {x y : Nat} (h : ∀ z ∈ P ++ x :: R, z < 256) (hy : y < 256) : ∀ z ∈ P ++ y :: R, z < 256 := by
  intro z hz
  rcases List.mem_append.mp hz with hz | hz
  · exact h z (List.mem_append_left _ hz)
  · rcases List.mem_cons.mp hz with rfl | hz
    · exact hy
    · exact h z (List.mem_append_right _ (List.mem_cons_of_mem _ hz))
theorem rw_at {cap : Nat} {f : Nat → Int32} {P R : List Nat} {x y : Nat} (h : tp_Rw cap f (P ++ x :: R)) (hy : y < 256) : tp_Rw cap (upd f P.length (sb_b y)) (P ++ y :: R) := by
  refine ⟨fun j hj hm => ?_, mid_in h.2 hy⟩
  by_cases e : j = P.length
  · subst e; rw [pk_us, gd_at]
  · rw [pk_un e, gd_mid (y := x) e]
    exact h.1 j (by rw [List.length_append, List.length_cons] at hj ⊢; exact hj) hm
theorem rw_at2 {cap : Nat} {f : Nat → Int32} {P R : List Nat} {x y : Nat} (h : tp_Rw cap f (P ++ x :: R)) (hy : y < 256) (hc : cap ≤ P.length) : tp_Rw cap f (P ++ y :: R) := by
  refine ⟨fun j hj hm => ?_, mid_in h.2 hy⟩
  rw [gd_mid (y := x) (by omega)]
  exact h.1 j (by rw [List.length_append, List.length_cons] at hj ⊢; exact hj) hm
theorem set_ok {f : Nat → Int32} {P R : List Nat} {x : Nat} (v : Int32) (h : tp_Rw 10000 f (P ++ x :: R)) (hf : tp_fitsB f) (hP : P.length < 2 ^ 30) : ∃ f', m_Row_set (nI P.length) v f = some f' ∧ tp_Rw 10000 f' (P ++ tp_by v :: R) ∧ tp_fitsB f' := by
  unfold m_Row_set
  simp only [li]
  rw [if_neg (nI_nlt (Nat.zero_le _) (by omega))]
  by_cases c : P.length < 10000
  · rw [if_neg (nI_ge c (by decide)), tp_gd_t (tp_inb_nI c (by decide)), nI_clamp (by omega), pk_vb, tp_by_sb]
    exact ⟨_, rfl, rw_at h (tp_by_lt v), ft_u hf _ _⟩
  · rw [if_pos (nI_le (by omega) (by omega))]
    exact ⟨_, rfl, rw_at2 h (tp_by_lt v) (by omega), hf⟩
theorem setN_l {N : Nat} (v : Int32) {k b : Nat} (hk : k < 100) : ∀ (xs : List Nat) (n i : Nat) (f : Nat → Int32) (P R : List Nat), i + xs.length = k → xs.length < n → P.length = b + i → tp_Rw 10000 f (P ++ (xs ++ R)) → tp_fitsB f → P.length + xs.length < 2 ^ 29 → ∃ f', tp_it5 (m_Row_setNumber_3 N) n (nI b) v (nI k) (nI i) f = some f' ∧ tp_Rw 10000 f' (P ++ (nbf v i xs.length ++ R)) ∧ tp_fitsB f' := by
  intro xs
  induction xs with
  | nil =>
    intro n i f P R hi hn hP h hf hl
    obtain ⟨n, rfl⟩ : ∃ z, n = z + 1 := ⟨n - 1, by omega⟩
    show ∃ f', m_Row_setNumber_3 N (tp_it5 (m_Row_setNumber_3 N) n) (nI b) v (nI k) (nI i) f = _ ∧ _
    rw [List.length_nil] at hi
    rw [m_Row_setNumber_3, if_pos (nI_le (by omega) (by omega))]
    exact ⟨f, rfl, h, hf⟩
  | cons x xs ih =>
    intro n i f P R hi hn hP h hf hl
    obtain ⟨n, rfl⟩ : ∃ z, n = z + 1 := ⟨n - 1, by omega⟩
    show ∃ f', m_Row_setNumber_3 N (tp_it5 (m_Row_setNumber_3 N) n) (nI b) v (nI k) (nI i) f = _ ∧ _
    rw [List.length_cons] at hi hn hl
    obtain ⟨f1, e1, h1, hf1⟩ := set_ok (tp_ushr v ((8 : Int32) * nI i)) (show tp_Rw 10000 f (P ++ x :: (xs ++ R)) from h) hf (by omega)
    rw [hP] at e1
    rw [m_Row_setNumber_3, if_neg (nI_ge (by omega) (by omega)), nI_add, e1, tp_b1_s, show nI i + (1 : Int32) = nI (i + 1) from nI_1 i]
    obtain ⟨f2, e2, h2, hf2⟩ := ih n (i + 1) f1 (P ++ [tp_by (tp_ushr v ((8 : Int32) * nI i))]) R (by omega) (by omega) (by rw [List.length_append, List.length_singleton]; omega) (by rw [List.append_assoc]; exact h1) hf1 (by rw [List.length_append, List.length_singleton]; omega)
    rw [List.append_assoc] at h2
    exact ⟨f2, e2, h2, hf2⟩
theorem mput_at {f : Nat → Int32} {P R : List Nat} {x : Nat} (v : Int32) (h : tp_Rw 20000 f (P ++ x :: R)) (hP : P.length < 2 ^ 30) : ∃ f', m_Mo_put v (nI P.length) f = some (nI (P.length + 1), f') ∧ tp_Rw 20000 f' (P ++ tp_by v :: R) := by
  unfold m_Mo_put
  simp only [li]
  by_cases c : P.length < 20000
  · rw [if_neg (nI_ge c (by decide)), tp_gd_t (tp_inb_nI c (by decide)), nI_clamp (by omega), pk_vb, tp_by_sb, nI_add]
    exact ⟨_, rfl, rw_at h (tp_by_lt v)⟩
  · rw [if_pos (nI_le (by omega) (by omega)), nI_add]
    exact ⟨_, rfl, rw_at2 h (tp_by_lt v) (by omega)⟩
theorem mputN_at {N : Nat} (v : Int32) {k : Nat} (hk : k < 100) : ∀ (xs : List Nat) (n i : Nat) (f : Nat → Int32) (P R : List Nat), i + xs.length = k → xs.length < n → tp_Rw 20000 f (P ++ (xs ++ R)) → P.length + xs.length < 2 ^ 29 → ∃ f', tp_it5 (m_Mo_putNumber_2 N) n v (nI k) (nI i) (nI P.length) f = some (nI (P.length + xs.length), f') ∧ tp_Rw 20000 f' (P ++ (nbf v i xs.length ++ R)) := by
  intro xs
  induction xs with
  | nil =>
    intro n i f P R hi hn h hl
    obtain ⟨n, rfl⟩ : ∃ z, n = z + 1 := ⟨n - 1, by omega⟩
    show ∃ f', m_Mo_putNumber_2 N (tp_it5 (m_Mo_putNumber_2 N) n) v (nI k) (nI i) (nI P.length) f = _ ∧ _
    rw [List.length_nil] at hi
    rw [m_Mo_putNumber_2, if_pos (nI_le (by omega) (by omega))]
    exact ⟨f, rfl, h⟩
  | cons x xs ih =>
    intro n i f P R hi hn h hl
    obtain ⟨n, rfl⟩ : ∃ z, n = z + 1 := ⟨n - 1, by omega⟩
    show ∃ f', m_Mo_putNumber_2 N (tp_it5 (m_Mo_putNumber_2 N) n) v (nI k) (nI i) (nI P.length) f = _ ∧ _
    rw [List.length_cons] at hi hn hl
    obtain ⟨f1, e1, h1⟩ := mput_at (tp_ushr v ((8 : Int32) * nI i)) (show tp_Rw 20000 f (P ++ x :: (xs ++ R)) from h) (by omega)
    rw [m_Mo_putNumber_2, if_neg (nI_ge (by omega) (by omega)), e1, tp_b2_s, show nI i + (1 : Int32) = nI (i + 1) from nI_1 i]
    obtain ⟨f2, e2, h2⟩ := ih n (i + 1) f1 (P ++ [tp_by (tp_ushr v ((8 : Int32) * nI i))]) R (by omega) (by omega) (by rw [List.append_assoc]; exact h1) (by rw [List.length_append, List.length_singleton]; omega)
    rw [List.append_assoc] at h2
    rw [List.length_append, List.length_singleton] at e2
    rw [List.length_cons, show P.length + (xs.length + 1) = P.length + 1 + xs.length by omega]
    exact ⟨f2, e2, h2⟩
/-- one row of a stream: kind, size, sum, and the block or the bytes themselves -/
def cbody (D : List Nat) (a b way : Nat) : List Nat := if (eblk D a b way).length < b - a then eblk D a b way else sl D a (b - a)
def ckind (D : List Nat) (a b way : Nat) : Nat := if (eblk D a b way).length < b - a then 0 else 1
def crow (D : List Nat) (a b way : Nat) : List Nat := ckind D a b way :: (nbf (nI (4 + (cbody D a b way).length)) 0 3 ++ (nbf (smS D a (b - a)) 0 4 ++ cbody D a b way))
theorem cbody_len (D : List Nat) (a b way : Nat) : (cbody D a b way).length ≤ b - a := by
  unfold cbody
  split
  · omega
  · rw [sl_len]; exact Nat.le_refl _
theorem crow_len (D : List Nat) (a b way : Nat) : (crow D a b way).length = 8 + (cbody D a b way).length := by
  unfold crow
  rw [List.length_cons, List.length_append, List.length_append, nbf_len, nbf_len]
  omega
theorem fin4 (P : List Nat) (k : Nat) (A B C : List Nat) : P ++ [k] ++ A ++ B ++ C = P ++ k :: (A ++ (B ++ C)) := by simp
theorem fin4b (P : List Nat) (k : Nat) (A B : List Nat) : P ++ [k] ++ A ++ B = P ++ k :: (A ++ B) := by simp
theorem fin5 (P : List Nat) (k : Nat) (A : List Nat) : P ++ k :: A = P ++ [k] ++ A := by simp
section
variable {N : Nat} {D : List Nat} {g bef : Nat → Int32} {a b way : Nat}
/-- the last step of a row, in the class: its size -/
theorem pd_end (hN : 100000 ≤ N) {P : List Nat} {k : Nat} {S B : List Nat} {f : Nat → Int32} (h : tp_Rw 10000 f (P ++ k :: (nbf 0 0 3 ++ (S ++ B)))) (hS : S.length = 4) (hf : tp_fitsB f) (hL : P.length + B.length < 2 ^ 28) (ic : Int32) (x1 x2 x3 x4 : Int32) : ∃ f', m_StreamWriter_putData_110 N ic g bef (nI P.length) (nI (P ++ k :: (nbf 0 0 3 ++ (S ++ B))).length) f x1 x2 x3 x4 = some (nI (P ++ k :: (nbf (nI (4 + B.length)) 0 3 ++ (S ++ B))).length, f', x1, x2, x3, x4) ∧ tp_Rw 10000 f' (P ++ k :: (nbf (nI (4 + B.length)) 0 3 ++ (S ++ B))) ∧ tp_fitsB f' := by
  have l1 : ∀ v : Int32, (P ++ k :: (nbf v 0 3 ++ (S ++ B))).length = P.length + 8 + B.length := fun v => by
    rw [List.length_append, List.length_cons, List.length_append, List.length_append, nbf_len, hS]; omega
  rw [m_StreamWriter_putData_110, show nI P.length + (1 : Int32) = nI (P.length + 1) from nI_1 _, l1, pk_sub (by omega), show nI (P.length + 8 + B.length - P.length) - (4 : Int32) = nI (4 + B.length) by rw [show (4 : Int32) = nI 4 from rfl, pk_sub (by omega)]; congr 1; omega]
  obtain ⟨f', e, h', hf'⟩ := setN_l (N := N) (nI (4 + B.length)) (k := 3) (b := P.length + 1) (by decide) (nbf 0 0 3) N 0 f (P ++ [k]) (S ++ B) (by rw [nbf_len]) (by rw [nbf_len]; omega) (by rw [List.length_append, List.length_singleton]) (by rw [← fin5]; exact h) hf (by rw [List.length_append, List.length_singleton, nbf_len]; omega)
  rw [nbf_len, ← fin5] at h'
  rw [show m_Row_setNumber N (nI (P.length + 1)) (nI (4 + B.length)) 3 f = some f' from e, tp_b1_s, l1]
  exact ⟨f', rfl, h', hf'⟩
theorem putData_ok (hN : 100000 ≤ N) (hD : tp_Rw 10000 g D) (hDl : D.length ≤ 10000) (hc : chn D bef) (hab : a ≤ b) (hb : b ≤ D.length) (hw : way ≤ 3) {f : Nat → Int32} {P : List Nat} (y1 y2 y3 y4 : Int32) (h : tp_Rw 10000 f P) (hf : tp_fitsB f) (hL : P.length < 2 ^ 25) : ∃ (f' : Nat → Int32) (z1 z2 z3 z4 : Int32), m_StreamWriter_putData N (nI a) (nI b) (nI way) (nI D.length) g (nI P.length) f y1 y2 y3 y4 bef = some (nI (P ++ crow D a b way).length, f', z1, z2, z3, z4) ∧ tp_Rw 10000 f' (P ++ crow D a b way) ∧ tp_fitsB f' := by
  unfold m_StreamWriter_putData crow cbody ckind
  have hbl := eblk_len D (way := way) hab
  obtain ⟨f1, e1, h1, hf1⟩ := put_ok (0 : Int32) h hf (by omega)
  rw [show tp_by 0 = 0 from by decide] at e1 h1
  obtain ⟨f2, e2, h2, hf2⟩ := putNumber_ok hN (0 : Int32) (k := 3) (by decide) h1 hf1 (by rw [List.length_append, List.length_singleton]; omega)
  obtain ⟨f3, e3, h3, hf3⟩ := putNumber_ok hN (smS D a (b - a)) (k := 4) (by decide) h2 hf2 (by rw [List.length_append, List.length_append, List.length_singleton, nbf_len]; omega)
  have l3 : (P ++ [0] ++ nbf 0 0 3 ++ nbf (smS D a (b - a)) 0 4).length = P.length + 8 := by
    rw [List.length_append, List.length_append, List.length_append, List.length_singleton, nbf_len, nbf_len]
  obtain ⟨f4, z1, z2, z3, z4, e4, h4, hf4⟩ := putBlock_ok hN hD hDl hc hab hb hw y1 y2 y3 y4 h3 hf3 (by rw [l3]; omega)
  have l4 : (P ++ [0] ++ nbf 0 0 3 ++ nbf (smS D a (b - a)) 0 4 ++ eblk D a b way).length = P.length + 8 + (eblk D a b way).length := by rw [List.length_append, l3]
  rw [e1, tp_b2_s, show (3 : Int32) = nI 3 from rfl, e2, tp_b2_s, sumOf_ok hN hD hab hb (by omega) (by omega), tp_b1_s, show (4 : Int32) = nI 4 from rfl, e3, tp_b2_s, e4, tp_b6_s, l4, l3, pk_sub (by omega), pk_sub hab, show P.length + 8 + (eblk D a b way).length - (P.length + 8) = (eblk D a b way).length by omega]
  by_cases c : (eblk D a b way).length < b - a
  · rw [if_pos (nI_lt c (by omega)), if_pos c, if_pos c]
    rw [fin4] at h4
    obtain ⟨f5, e5, h5, hf5⟩ := pd_end (g := g) (bef := bef) hN h4 (nbf_len _ _ _) hf4 (by omega) (nI D.length) z1 z2 z3 z4
    rw [← fin4, l4] at e5
    exact ⟨f5, z1, z2, z3, z4, e5, h5, hf5⟩
  · rw [if_neg (nI_nlt (by omega) (by omega)), if_neg c, if_neg c, shorten_ok (by omega) (by omega), tp_b1_s]
    have h5 := rw_pre h4
    rw [fin4b] at h5
    obtain ⟨f6, e6, h6, hf6⟩ := set_ok (1 : Int32) h5 hf4 (by omega)
    rw [show tp_by 1 = 1 from by decide, ← fin4b] at h6
    rw [e6, tp_b1_s]
    have l6 : (P ++ [1] ++ nbf 0 0 3 ++ nbf (smS D a (b - a)) 0 4).length = P.length + 8 := by
      rw [List.length_append, List.length_append, List.length_append, List.length_singleton, nbf_len, nbf_len]
    obtain ⟨f7, e7, h7, hf7⟩ := putFrom_ok hN hD hDl hab hb h6 hf6 (by rw [l6]; omega)
    rw [l6] at e7
    rw [e7, tp_b2_s]
    rw [fin4] at h7
    obtain ⟨f8, e8, h8, hf8⟩ := pd_end (g := g) (bef := bef) hN h7 (nbf_len _ _ _) hf7 (by rw [sl_len]; omega) (nI D.length) z1 z2 z3 z4
    rw [← fin4] at e8
    exact ⟨f8, z1, z2, z3, z4, e8, h8, hf8⟩
/-- the last step of a row, in the reference: kind and size -/
theorem mpd_end (hN : 100000 ≤ N) {P : List Nat} {k : Nat} {S B : List Nat} {f : Nat → Int32} (h : tp_Rw 20000 f (P ++ (nbf 0 0 4 ++ (S ++ B)))) (hk : k < 256) (hL : P.length < 2 ^ 28) (size : Int32) (md kn fa fl : Int32) (jn jf : Nat → Int32) : ∃ f', m_Mo_putRow_102 N g (nI P.length) size (nI k) md kn fa fl f jn jf = some (md, kn, fa, fl, f', jn, jf) ∧ tp_Rw 20000 f' (P ++ k :: (nbf size 0 3 ++ (S ++ B))) := by
  obtain ⟨f1, e1, h1⟩ := mput_at (nI k) (show tp_Rw 20000 f (P ++ _ :: (nbf 0 1 3 ++ (S ++ B))) from h) (by omega)
  rw [tp_by_nI hk, fin5] at h1
  obtain ⟨f2, e2, h2⟩ := mputN_at (N := N) size (k := 3) (by decide) (nbf 0 1 3) N 0 f1 (P ++ [k]) (S ++ B) (by rw [nbf_len]) (by rw [nbf_len]; omega) h1 (by rw [List.length_append, List.length_singleton, nbf_len]; omega)
  rw [nbf_len, ← fin5] at h2
  rw [List.length_append, List.length_singleton] at e2
  rw [m_Mo_putRow_102, e1, tp_b2_s, show m_Mo_putNumber N size 3 (nI (P.length + 1)) f1 = _ from e2, tp_b2_s]
  exact ⟨f2, rfl, h2⟩
theorem mrow_l (hN : 100000 ≤ N) (hD : tp_Rw 10000 g D) (hDl : D.length ≤ 10000) (hb : b ≤ D.length) {P : List Nat} {S : List Nat} (hS : S.length = 4) (size : Int32) (kn fa fl : Int32) (jn jf : Nat → Int32) (hP : P.length < 2 ^ 27) : ∀ (d n i : Nat) (B : List Nat) (f : Nat → Int32), i + d = b → d < n → tp_Rw 20000 f (P ++ (nbf 0 0 4 ++ (S ++ B))) → B.length + d < 2 ^ 27 → ∃ f', tp_it12 (m_Mo_putRow_79 N g) n (nI b) (nI P.length) size 1 (nI i) (nI (P.length + 8 + B.length)) kn fa fl f jn jf = some (nI (P.length + 8 + B.length + d), kn, fa, fl, f', jn, jf) ∧ tp_Rw 20000 f' (P ++ 1 :: (nbf size 0 3 ++ (S ++ (B ++ sl D i d)))) := by
  intro d
  induction d with
  | zero =>
    intro n i B f hi hn h hl
    obtain ⟨n, rfl⟩ : ∃ z, n = z + 1 := ⟨n - 1, by omega⟩
    show ∃ f', m_Mo_putRow_79 N g (tp_it12 (m_Mo_putRow_79 N g) n) (nI b) (nI P.length) size 1 (nI i) (nI (P.length + 8 + B.length)) kn fa fl f jn jf = _ ∧ _
    rw [m_Mo_putRow_79, if_pos (nI_le (by omega) (by omega)), sl, List.append_nil, Nat.add_zero]
    exact mpd_end (k := 1) hN h (by decide) (by omega) size _ kn fa fl jn jf
  | succ d ih =>
    intro n i B f hi hn h hl
    obtain ⟨n, rfl⟩ : ∃ z, n = z + 1 := ⟨n - 1, by omega⟩
    show ∃ f', m_Mo_putRow_79 N g (tp_it12 (m_Mo_putRow_79 N g) n) (nI b) (nI P.length) size 1 (nI i) (nI (P.length + 8 + B.length)) kn fa fl f jn jf = _ ∧ _
    have l0 : (P ++ (nbf 0 0 4 ++ (S ++ B))).length = P.length + 8 + B.length := by
      rw [List.length_append, List.length_append, List.length_append, nbf_len, hS]; omega
    obtain ⟨f1, e1, h1⟩ := mput_ok (sb_b (gb D i)) h (by rw [l0]; omega)
    rw [tp_by_b _ (rw_lt hD i)] at e1 h1
    rw [show (P ++ (nbf 0 0 4 ++ (S ++ B))) ++ [gb D i] = P ++ (nbf 0 0 4 ++ (S ++ (B ++ [gb D i]))) by simp] at e1 h1
    have l1 : (P ++ (nbf 0 0 4 ++ (S ++ (B ++ [gb D i])))).length = P.length + 8 + (B ++ [gb D i]).length := by
      rw [List.length_append, List.length_append, List.length_append, nbf_len, hS]; omega
    rw [l0, l1] at e1
    rw [m_Mo_putRow_79, if_neg (nI_ge (by omega) (by omega)), tp_gd_t (tp_inb_nI (by omega) (by decide)), nI_clamp (by omega), hD.1 i (by omega) (by omega), e1, tp_b2_s, show nI i + (1 : Int32) = nI (i + 1) from nI_1 i]
    obtain ⟨f2, e2, h2⟩ := ih n (i + 1) (B ++ [gb D i]) f1 (by omega) (by omega) h1 (by rw [List.length_append, List.length_singleton]; omega)
    rw [List.append_assoc] at h2
    refine ⟨f2, e2.trans ?_, h2⟩
    rw [List.length_append, List.length_singleton, show P.length + 8 + (B.length + 1) + d = P.length + 8 + B.length + (d + 1) by omega]
theorem mputRow_ok (hN : 100000 ≤ N) (hD : tp_Rw 10000 g D) (hDl : D.length ≤ 10000) (hab : a ≤ b) (hb : b ≤ D.length) (hw : way ≤ 3) {K : Nat} {jn jf : Nat → Int32} (hK : K ≤ 10000) (ht : tb K jn jf) (fa fl : Int32) {f : Nat → Int32} {P : List Nat} (h : tp_Rw 20000 f P) (hL : P.length < 2 ^ 25) : ∃ (K' : Nat) (f' jn' jf' : Nat → Int32) (fa' fl' : Int32), m_Mo_putRow N (nI a) (nI b) (nI way) (nI P.length) (nI K) fa fl g f jn jf = some (nI (P ++ crow D a b way).length, nI K', fa', fl', f', jn', jf') ∧ tp_Rw 20000 f' (P ++ crow D a b way) ∧ K' ≤ 10000 ∧ tb K' jn' jf' := by
  unfold m_Mo_putRow crow cbody ckind
  have hbl := eblk_len D (way := way) hab
  obtain ⟨f1, e1, h1⟩ := mputNumber_ok hN (0 : Int32) (k := 4) (by decide) h (by omega)
  obtain ⟨f2, e2, h2⟩ := mputNumber_ok hN (smS D a (b - a)) (k := 4) (by decide) h1 (by rw [List.length_append, nbf_len]; omega)
  have l2 : (P ++ nbf 0 0 4 ++ nbf (smS D a (b - a)) 0 4).length = P.length + 8 := by
    rw [List.length_append, List.length_append, nbf_len, nbf_len]
  obtain ⟨K', f3, jn', jf', fa', fl', e3, h3, hK', ht'⟩ := mputBlock_ok hN hD hDl hab hb hw hK ht fa fl h2 (by rw [l2]; omega)
  have l3 : (P ++ nbf 0 0 4 ++ nbf (smS D a (b - a)) 0 4 ++ eblk D a b way).length = P.length + 8 + (eblk D a b way).length := by rw [List.length_append, l2]
  rw [show (4 : Int32) = nI 4 from rfl, e1, tp_b2_s, msumOf_ok hN hD (by decide) hab hb (by omega) (by omega), tp_b1_s, e2, tp_b2_s, e3, tp_b7_s, l3, pk_sub (by omega), pk_sub (by omega), pk_sub hab, tp_b0, show P.length + 8 + (eblk D a b way).length - P.length - 4 = 4 + (eblk D a b way).length by omega]
  show ∃ (K'' : Nat) (f' jn'' jf'' : Nat → Int32) (fa'' fl'' : Int32), (if nI (4 + (eblk D a b way).length) - nI 4 < nI (b - a) then m_Mo_putRow_102 N g (nI P.length) (nI (4 + (eblk D a b way).length)) 0 (nI (P.length + 8 + (eblk D a b way).length)) (nI K') fa' fl' f3 jn' jf' else tp_b0 (nI (b - a) + nI 4) fun y19 => tp_it12 (m_Mo_putRow_79 N g) N (nI b) (nI P.length) y19 1 (nI a) (nI P.length + 8) (nI K') fa' fl' f3 jn' jf') = _ ∧ _
  rw [pk_sub (by omega), show 4 + (eblk D a b way).length - 4 = (eblk D a b way).length by omega]
  rw [app4] at h3
  by_cases c : (eblk D a b way).length < b - a
  · rw [if_pos (nI_lt c (by omega)), if_pos c, if_pos c]
    obtain ⟨f4, e4, h4⟩ := mpd_end (g := g) (k := 0) hN h3 (by decide) (by omega) (nI (4 + (eblk D a b way).length)) (nI (P.length + 8 + (eblk D a b way).length)) (nI K') fa' fl' jn' jf'
    refine ⟨K', f4, jn', jf', fa', fl', e4.trans ?_, h4, hK', ht'⟩
    rw [List.length_append, List.length_cons, List.length_append, List.length_append, nbf_len, nbf_len, show P.length + (3 + (4 + (eblk D a b way).length) + 1) = P.length + 8 + (eblk D a b way).length by omega]
  · rw [if_neg (nI_nlt (by omega) (by omega)), if_neg c, if_neg c, nI_add, show nI P.length + (8 : Int32) = nI (P.length + 8 + ([] : List Nat).length) from nI_add P.length 8]
    obtain ⟨f4, e4, h4⟩ := mrow_l hN hD hDl hb (P := P) (S := nbf (smS D a (b - a)) 0 4) (nbf_len _ _ _) (nI (b - a + 4)) (nI K') fa' fl' jn' jf' (by omega) (b - a) N a [] f3 (by omega) (by omega) (by have := rw_pre (P := P ++ (nbf 0 0 4 ++ nbf (smS D a (b - a)) 0 4)) (R := eblk D a b way) (by rw [List.append_assoc, List.append_assoc]; exact h3); rw [List.append_nil]; exact this) (by rw [List.length_nil]; omega)
    rw [List.nil_append, show b - a + 4 = 4 + (sl D a (b - a)).length by rw [sl_len]; omega] at h4
    refine ⟨K', f4, jn', jf', fa', fl', e4.trans ?_, h4, hK', ht'⟩
    rw [List.length_append, List.length_cons, List.length_append, List.length_append, nbf_len, nbf_len, sl_len, List.length_nil, show P.length + (3 + (4 + (b - a)) + 1) = P.length + 8 + 0 + (b - a) by omega]
end
