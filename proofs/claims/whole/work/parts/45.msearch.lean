/-! The match of a way: what it is, and that the reference finds it. -/
def Mq (D : List Nat) (p to least : Nat) : Nat → Bool := fun q => decide (least ≤ ml D q p to)
/-- the longest from place i - 1 down: (where, how long), the nearest of the longest -/
def lgs (D : List Nat) (p to fr : Nat) : Nat → Option Nat × Nat → Option Nat × Nat
  | 0, b => b
  | q + 1, b => if q < fr then b else if 4 ≤ ml D q p to ∧ b.2 < ml D q p to then lgs D p to fr q (some q, ml D q p to) else lgs D p to fr q b
/-- the match at p in a way: (where, how long) -/
def mtS (D : List Nat) (fr p to way : Nat) : Option (Nat × Nat) :=
  if way = 0 then (nr (Mq D p to 4) fr p).map (fun q => (q, ml D q p to))
  else if way = 1 then (match nr (Mq D p to 8) fr p with
    | some q => some (q, ml D q p to)
    | none => (nr (Mq D p to 4) fr p).map (fun q => (q, ml D q p to)))
  else match (lgs D p to fr p (none, 0)).1 with
    | none => none
    | some q => if way = 3 ∧ (lgs D p to fr p (none, 0)).2 < (lgs D (p + 1) to fr (p + 1) (none, 0)).2 then none else some (q, (lgs D p to fr p (none, 0)).2)
theorem ml_le (D : List Nat) (q p to : Nat) : ml D q p to ≤ to - p := mlf_le D _ _ _
theorem lgs_le {D : List Nat} {p to fr : Nat} : ∀ (i : Nat) (b : Option Nat × Nat), b.2 ≤ to - p → (lgs D p to fr i b).2 ≤ to - p := by
  intro i
  induction i with
  | zero => intro b h; exact h
  | succ q ih =>
    intro b h
    rw [lgs]
    split
    · exact h
    · split
      · exact ih _ (ml_le D q p to)
      · exact ih _ h
theorem lgs_in {D : List Nat} {p to fr : Nat} : ∀ (i : Nat) (b : Option Nat × Nat), (b = (none, 0) ∨ ∃ q, b.1 = some q ∧ fr ≤ q ∧ q < p ∧ b.2 = ml D q p to ∧ 4 ≤ b.2) → i ≤ p → (lgs D p to fr i b = (none, 0) ∨ ∃ q, (lgs D p to fr i b).1 = some q ∧ fr ≤ q ∧ q < p ∧ (lgs D p to fr i b).2 = ml D q p to ∧ 4 ≤ (lgs D p to fr i b).2) := by
  intro i
  induction i with
  | zero => intro b h _; exact h
  | succ q ih =>
    intro b h hi
    rw [lgs]
    split
    · exact h
    · split
      · rename_i h1 h2
        exact ih _ (Or.inr ⟨q, rfl, by omega, by omega, rfl, h2.1⟩) (by omega)
      · exact ih _ h (by omega)
/-- what a match is -/
theorem mtS_in {D : List Nat} {fr p to way q n : Nat} (h : mtS D fr p to way = some (q, n)) : fr ≤ q ∧ q < p ∧ n = ml D q p to ∧ 4 ≤ n := by
  have key : ∀ (least q' : Nat), 4 ≤ least → nr (Mq D p to least) fr p = some q' → fr ≤ q' ∧ q' < p ∧ 4 ≤ ml D q' p to := by
    intro least q' h4 e
    obtain ⟨a, b, c⟩ := nr_lt e
    have := of_decide_eq_true c
    exact ⟨b, a, by omega⟩
  unfold mtS at h
  split at h
  · cases hn : nr (Mq D p to 4) fr p with
    | none => rw [hn] at h; cases h
    | some q' =>
      rw [hn] at h
      cases h
      obtain ⟨a, b, c⟩ := key 4 _ (by omega) hn
      exact ⟨a, b, rfl, c⟩
  · split at h
    · cases h8 : nr (Mq D p to 8) fr p with
      | some q' =>
        rw [h8] at h
        cases h
        obtain ⟨a, b, c⟩ := key 8 _ (by omega) h8
        exact ⟨a, b, rfl, c⟩
      | none =>
        rw [h8] at h
        cases hn : nr (Mq D p to 4) fr p with
        | none => rw [hn] at h; cases h
        | some q' =>
          rw [hn] at h
          cases h
          obtain ⟨a, b, c⟩ := key 4 _ (by omega) hn
          exact ⟨a, b, rfl, c⟩
    · rcases lgs_in (D := D) (p := p) (to := to) (fr := fr) p (none, 0) (Or.inl rfl) (Nat.le_refl p) with e | ⟨q', e1, e2, e3, e4, e5⟩
      · rw [e] at h; cases h
      · rw [e1] at h
        dsimp only at h
        split at h
        · cases h
        · cases h
          exact ⟨e2, e3, e4, e5⟩
/-- the place before i -/
def px (i : Nat) : Int32 := nI i - 1
theorem px_s (i : Nat) : px (i + 1) = nI i := nI_pred i
theorem px_m (i : Nat) : px (i + 1) + (-1) = px i := by
  rw [px_s]
  exact (Int32.sub_eq_add_neg _ _).symm
theorem px_0 {k : Nat} (h : k < 2 ^ 31) : px 0 < nI k := by
  rw [Int32.lt_iff_toInt_lt, nI_toInt h, show (px 0).toInt = -1 by decide]
  omega
def fat_of (fat : Int32) : Option Nat → Int32
  | none => fat
  | some q => nI q
section
variable {N : Nat} {D : List Nat} {f : Nat → Int32} {fr p to : Nat}
theorem mnear_done (x1 x2 x3 x4 x5 fa : Int32) {fl : Int32} (hfl : fl ≠ 0) (n : Nat) : tp_it7 (m_Mo_nearest_10 N f) (n + 1) x1 x2 x3 x4 x5 fa fl = some (fa, fl) := by
  show m_Mo_nearest_10 N f (tp_it7 (m_Mo_nearest_10 N f) n) x1 x2 x3 x4 x5 fa fl = _
  unfold m_Mo_nearest_10
  by_cases c : x5 < x1
  · rw [if_pos c]
  · rw [if_neg c, if_neg hfl]
theorem mnear_l (hN : 100000 ≤ N) (h : tp_Rw 10000 f D) (hl : D.length ≤ 10000) (hto : to ≤ D.length) (hfr : fr < 2 ^ 30) (hp : p ≤ 10000) {least : Nat} (hle : 1 ≤ least) (hle2 : least < 100) (fat : Int32) : ∀ (i n : Nat), i ≤ p → i < n → tp_it7 (m_Mo_nearest_10 N f) n (nI fr) (nI p) (nI to) (nI least) (px i) fat 0 = some (match nr (Mq D p to least) fr i with
    | none => (fat, 0)
    | some q => (nI q, nI (ml D q p to))) := by
  intro i
  induction i with
  | zero =>
    intro n hi hn
    obtain ⟨n, rfl⟩ : ∃ z, n = z + 1 := ⟨n - 1, by omega⟩
    show m_Mo_nearest_10 N f (tp_it7 (m_Mo_nearest_10 N f) n) (nI fr) (nI p) (nI to) (nI least) (px 0) fat 0 = _
    unfold m_Mo_nearest_10
    rw [if_pos (px_0 (by omega)), nr]
  | succ q ih =>
    intro n hi hn
    obtain ⟨n, rfl⟩ : ∃ z, n = z + 1 := ⟨n - 1, by omega⟩
    show m_Mo_nearest_10 N f (tp_it7 (m_Mo_nearest_10 N f) n) (nI fr) (nI p) (nI to) (nI least) (px (q + 1)) fat 0 = _
    have hml := ml_le D q p to
    unfold m_Mo_nearest_10
    rw [px_m, px_s, nr]
    by_cases c : q < fr
    · rw [if_pos (nI_lt c (by omega)), if_pos c]
    · rw [if_neg (nI_nlt (by omega) (by omega)), if_neg c, if_pos rfl, malike_ok hN h hl (by omega) (by omega) hto, tp_b1_s]
      by_cases c2 : least ≤ ml D q p to
      · rw [if_neg (nI_nlt c2 (by omega)), if_pos (show Mq D p to least q = true from decide_eq_true c2)]
        obtain ⟨n, rfl⟩ : ∃ z, n = z + 1 := ⟨n - 1, by omega⟩
        exact mnear_done _ _ _ _ _ _ (nI_ne0 (by omega) (by omega)) n
      · rw [if_pos (nI_lt (by omega) (by omega)), if_neg (show ¬ Mq D p to least q = true from fun z => c2 (of_decide_eq_true z))]
        exact ih n (by omega) (by omega)
theorem mnear_ok (hN : 100000 ≤ N) (h : tp_Rw 10000 f D) (hl : D.length ≤ 10000) (hto : to ≤ D.length) (hfr : fr < 2 ^ 30) (hp : p ≤ 10000) {least : Nat} (hle : 1 ≤ least) (hle2 : least < 100) (fat flong : Int32) : m_Mo_nearest N (nI fr) (nI p) (nI to) (nI least) fat flong f = some (match nr (Mq D p to least) fr p with
    | none => (fat, 0)
    | some q => (nI q, nI (ml D q p to))) := mnear_l hN h hl hto hfr hp hle hle2 fat p N (Nat.le_refl p) (by omega)
theorem mlong_l (hN : 100000 ≤ N) (h : tp_Rw 10000 f D) (hl : D.length ≤ 10000) (hto : to ≤ D.length) (hfr : fr < 2 ^ 30) (hp : p ≤ 10001) (fat : Int32) : ∀ (i n : Nat) (b : Option Nat × Nat), i ≤ p → i < n → b.2 ≤ 10000 → tp_it6 (m_Mo_longest_10 N f) n (nI fr) (nI p) (nI to) (px i) (fat_of fat b.1) (nI b.2) = some (fat_of fat (lgs D p to fr i b).1, nI (lgs D p to fr i b).2) := by
  intro i
  induction i with
  | zero =>
    intro n b hi hn hb
    obtain ⟨n, rfl⟩ : ∃ z, n = z + 1 := ⟨n - 1, by omega⟩
    show m_Mo_longest_10 N f (tp_it6 (m_Mo_longest_10 N f) n) (nI fr) (nI p) (nI to) (px 0) (fat_of fat b.1) (nI b.2) = _
    unfold m_Mo_longest_10
    rw [if_pos (px_0 (by omega)), lgs]
  | succ q ih =>
    intro n b hi hn hb
    obtain ⟨n, rfl⟩ : ∃ z, n = z + 1 := ⟨n - 1, by omega⟩
    show m_Mo_longest_10 N f (tp_it6 (m_Mo_longest_10 N f) n) (nI fr) (nI p) (nI to) (px (q + 1)) (fat_of fat b.1) (nI b.2) = _
    have hml := ml_le D q p to
    unfold m_Mo_longest_10
    rw [px_m, px_s, lgs]
    by_cases c : q < fr
    · rw [if_pos (nI_lt c (by omega)), if_pos c]
    · rw [if_neg (nI_nlt (by omega) (by omega)), if_neg c, malike_ok hN h hl (by omega) (by omega) hto, tp_b1_s]
      by_cases c2 : 4 ≤ ml D q p to
      · rw [if_neg (show ¬ nI (ml D q p to) < (4 : Int32) from nI_nlt (b := 4) c2 (by omega))]
        by_cases c3 : b.2 < ml D q p to
        · rw [if_neg (nI_ge c3 (by omega)), if_pos ⟨c2, c3⟩]
          exact ih n (some q, ml D q p to) (by omega) (by omega) (by show ml D q p to ≤ 10000; omega)
        · rw [if_pos (nI_le (by omega) (by omega)), if_neg (fun z => c3 z.2)]
          exact ih n b (by omega) (by omega) hb
      · rw [if_pos (show nI (ml D q p to) < (4 : Int32) from nI_lt (b := 4) (by omega) (by omega)), if_neg (fun z => c2 z.1)]
        exact ih n b (by omega) (by omega) hb
theorem mlong_ok (hN : 100000 ≤ N) (h : tp_Rw 10000 f D) (hl : D.length ≤ 10000) (hto : to ≤ D.length) (hfr : fr < 2 ^ 30) (hp : p ≤ 10001) (fat flong : Int32) : m_Mo_longest N (nI fr) (nI p) (nI to) fat flong f = some (fat_of fat (lgs D p to fr p (none, 0)).1, nI (lgs D p to fr p (none, 0)).2) :=
  mlong_l hN h hl hto hfr hp fat p N (none, 0) (Nat.le_refl p) (by omega) (by decide)
/-- the reference's match -/
theorem mmatch_ok (hN : 100000 ≤ N) (h : tp_Rw 10000 f D) (hl : D.length ≤ 10000) (hto : to ≤ D.length) (hfr : fr ≤ p) (hp : p < to) {way : Nat} (hw : way ≤ 3) (fat flong : Int32) : ∃ fa fl, m_Mo_match N (nI fr) (nI p) (nI to) (nI way) fat flong f = some (fa, fl) ∧ (match mtS D fr p to way with
    | none => fl = 0
    | some (q, n) => fa = nI q ∧ fl = nI n) := by
  have near := fun (least : Nat) (a : 1 ≤ least) (b : least < 100) (fat flong : Int32) => mnear_ok hN h hl hto (show fr < 2 ^ 30 by omega) (show p ≤ 10000 by omega) a b fat flong
  have h4 := fun fat flong => near 4 (by decide) (by decide) fat flong
  have h8 := fun fat flong => near 8 (by decide) (by decide) fat flong
  have lo := fun fat flong => mlong_ok hN h hl hto (show fr < 2 ^ 30 by omega) (show p ≤ 10001 by omega) fat flong
  have lo1 := fun fat flong => mlong_ok hN h hl hto (show fr < 2 ^ 30 by omega) (show p + 1 ≤ 10001 by omega) fat flong
  have e34 : (4 : Int32) = nI 4 := rfl
  have e38 : (8 : Int32) = nI 8 := rfl
  have b1 := lgs_le (D := D) (p := p) (to := to) (fr := fr) p (none, 0) (Nat.zero_le _)
  have b2 := lgs_le (D := D) (p := p + 1) (to := to) (fr := fr) (p + 1) (none, 0) (Nat.zero_le _)
  rcases (show way = 0 ∨ way = 1 ∨ way = 2 ∨ way = 3 by omega) with rfl | rfl | rfl | rfl
  · unfold m_Mo_match m_Mo_match_15 m_Mo_match_33 m_Mo_match_41 m_Mo_match_56 m_Mo_match_75 mtS
    rw [if_neg (by decide), if_pos (by decide), e34, h4, tp_b2_s, if_neg (by decide), if_pos (by decide), if_neg (by decide), if_pos rfl]
    cases hn : nr (Mq D p to 4) fr p with
    | none => exact ⟨_, _, rfl, rfl⟩
    | some q => exact ⟨_, _, rfl, rfl, rfl⟩
  · unfold m_Mo_match m_Mo_match_15 m_Mo_match_33 m_Mo_match_41 m_Mo_match_56 m_Mo_match_75 mtS
    rw [if_pos (by decide), e38, h8, if_neg (by decide), if_pos rfl]
    cases hn : nr (Mq D p to 8) fr p with
    | some q =>
      have hq := nr_lt hn
      have hm : 8 ≤ ml D q p to := of_decide_eq_true hq.2.2
      have hml := ml_le D q p to
      rw [tp_b2_s, if_neg (by decide), if_pos (by decide), if_neg (nI_ne0 (by omega) (by omega)), if_neg (by decide), if_pos (by decide), if_neg (by decide)]
      exact ⟨_, _, rfl, rfl, rfl⟩
    | none =>
      rw [tp_b2_s, if_neg (by decide), if_pos (by decide), if_pos rfl, e34, h4, tp_b2_s, if_neg (by decide), if_pos (by decide), if_neg (by decide)]
      cases hn4 : nr (Mq D p to 4) fr p with
      | none => exact ⟨_, _, rfl, rfl⟩
      | some q => exact ⟨_, _, rfl, rfl, rfl⟩
  · unfold m_Mo_match m_Mo_match_15 m_Mo_match_33 m_Mo_match_41 m_Mo_match_56 m_Mo_match_75 mtS
    rw [if_neg (by decide), if_neg (by decide), if_neg (by decide), if_neg (by decide), if_neg (by decide), lo, tp_b2_s, if_neg (by decide), if_neg (by decide), if_neg (by decide)]
    rcases lgs_in (D := D) (p := p) (to := to) (fr := fr) p (none, 0) (Or.inl rfl) (Nat.le_refl p) with e | ⟨q, e1, e2, e3, e4, e5⟩
    · rw [e]; exact ⟨_, _, rfl, rfl⟩
    · rw [e1]; exact ⟨_, _, rfl, rfl, rfl⟩
  · unfold m_Mo_match m_Mo_match_15 m_Mo_match_33 m_Mo_match_41 m_Mo_match_56 m_Mo_match_75 mtS
    rw [if_neg (by decide), if_neg (by decide), if_neg (by decide), if_pos (by decide), show nI p + (1 : Int32) = nI (p + 1) from nI_1 p, lo1, tp_b2_s, if_neg (by decide), lo, tp_b2_s, if_pos (by decide), if_neg (show ¬ (3 : Nat) = 0 by decide), if_neg (show ¬ (3 : Nat) = 1 by decide)]
    rcases lgs_in (D := D) (p := p) (to := to) (fr := fr) p (none, 0) (Or.inl rfl) (Nat.le_refl p) with e | ⟨q, e1, e2, e3, e4, e5⟩
    · rw [e]
      by_cases c : nI (lgs D (p + 1) to fr (p + 1) (none, 0)).2 ≤ nI 0
      · rw [if_pos c]; exact ⟨_, _, rfl, rfl⟩
      · rw [if_neg c]; exact ⟨_, _, rfl, rfl⟩
    · rw [e1]
      by_cases c : (lgs D p to fr p (none, 0)).2 < (lgs D (p + 1) to fr (p + 1) (none, 0)).2
      · rw [if_neg (nI_ge c (by omega))]
        dsimp only
        rw [if_pos ⟨rfl, c⟩]
        exact ⟨_, _, rfl, rfl⟩
      · rw [if_pos (nI_le (by omega) (by omega))]
        dsimp only
        rw [if_neg (fun z => c z.2)]
        exact ⟨_, _, rfl, rfl, rfl⟩
end
