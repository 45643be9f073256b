/-! The class finds the same match: chains of places with the same bucket. -/
def encO : Option Nat → Int32
  | none => -1
  | some q => nI q
theorem m1_lt {k : Nat} (h : k < 2 ^ 31) : (-1 : Int32) < nI k := by
  rw [Int32.lt_iff_toInt_lt, nI_toInt h, show (-1 : Int32).toInt = -1 by decide]
  omega
def hB (v : Nat) : Nat := (tp_ushr (nI v * (-1640531535)) 21 &&& 2047).toNatClampNeg
theorem hB_eq (v : Nat) : tp_ushr (nI v * (-1640531535)) 21 &&& 2047 = nI (hB v) ∧ hB v < 2048 := by
  obtain ⟨j, hj, e⟩ := pk_andE (tp_ushr (nI v * (-1640531535)) 21) (m := 2047) 11 (by decide)
  have : hB v = j := by unfold hB; rw [e, nI_clamp (by omega)]
  rw [this]
  exact ⟨e, hj⟩
/-- the bucket of place q -/
def kb (D : List Nat) (q : Nat) : Nat := hB (nvA D q 4)
def Pq (D : List Nat) (c : Nat) : Nat → Bool := fun q => decide (kb D q = c)
/-- the chains lead to the nearest earlier place of the same bucket -/
def chn (D : List Nat) (bef : Nat → Int32) : Prop := ∀ p, p + 4 ≤ D.length → bef p = encO (nr (Pq D (kb D p)) 0 p)
theorem fill_l {N : Nat} (v : Int32) : ∀ (d n i : Nat) (f : Nat → Int32), i + d = 2048 → d < n → (∀ j, j < i → f j = v) → ∃ f', tp_it4 (m_Ar_fill_5 N) n v (nI i) (nI 2048) f = some f' ∧ ∀ j, j < 2048 → f' j = v := by
  intro d
  induction d with
  | zero =>
    intro n i f hi hn h
    obtain ⟨n, rfl⟩ : ∃ z, n = z + 1 := ⟨n - 1, by omega⟩
    show ∃ f', m_Ar_fill_5 N (tp_it4 (m_Ar_fill_5 N) n) v (nI i) (nI 2048) f = _ ∧ _
    rw [m_Ar_fill_5]
    rw [if_pos (nI_le (by omega) (by omega))]
    exact ⟨f, rfl, fun j hj => h j (by omega)⟩
  | succ d ih =>
    intro n i f hi hn h
    obtain ⟨n, rfl⟩ : ∃ z, n = z + 1 := ⟨n - 1, by omega⟩
    show ∃ f', m_Ar_fill_5 N (tp_it4 (m_Ar_fill_5 N) n) v (nI i) (nI 2048) f = _ ∧ _
    rw [m_Ar_fill_5]
    rw [if_neg (nI_ge (by omega) (by omega)), tp_gd_t (tp_inb_nI (by omega) (by decide)), nI_clamp (by omega), show nI i + (1 : Int32) = nI (i + 1) from nI_1 i]
    refine ih n (i + 1) _ (by omega) (by omega) (fun j hj => ?_)
    by_cases e : j = i
    · subst e; rw [pk_us]
    · rw [pk_un e]; exact h j (by omega)
theorem fill_ok {N : Nat} (hN : 100000 ≤ N) (v : Int32) (f : Nat → Int32) : ∃ f', m_Ar_fill N v f = some f' ∧ ∀ j, j < 2048 → f' j = v :=
  fill_l v 2048 N 0 f (by omega) (by omega) (fun j h => absurd h (Nat.not_lt_zero j))
theorem nr_s {P : Nat → Bool} (i : Nat) : nr P 0 (i + 1) = if P i then some i else nr P 0 i := by rw [nr, if_neg (Nat.not_lt_zero i)]
theorem index_l {N : Nat} (hN : 100000 ≤ N) {D : List Nat} {f : Nat → Int32} (h : tp_Rw 10000 f D) (hl : D.length ≤ 10000) : ∀ (d n p : Nat) (bef lat : Nat → Int32), p + d = 10000 → d < n → (∀ q, q < p → q + 4 ≤ D.length → bef q = encO (nr (Pq D (kb D q)) 0 q)) → (∀ c, c < 2048 → lat c = encO (nr (Pq D c) 0 p)) → ∃ bef' lat', tp_it3 (m_Matches_index_10 N (nI D.length) f) n (nI p) bef lat = some (bef', lat') ∧ chn D bef' := by
  intro d
  induction d with
  | zero =>
    intro n p bef lat hp hn h1 h2
    obtain ⟨n, rfl⟩ : ∃ z, n = z + 1 := ⟨n - 1, by omega⟩
    show ∃ bef' lat', m_Matches_index_10 N (nI D.length) f (tp_it3 (m_Matches_index_10 N (nI D.length) f) n) (nI p) bef lat = _ ∧ _
    rw [m_Matches_index_10]
    rw [if_pos (show (10000 : Int32) ≤ nI p from nI_le (a := 10000) (by omega) (by omega))]
    exact ⟨bef, lat, rfl, fun q hq => h1 q (by omega) hq⟩
  | succ d ih =>
    intro n p bef lat hp hn h1 h2
    obtain ⟨n, rfl⟩ : ∃ z, n = z + 1 := ⟨n - 1, by omega⟩
    show ∃ bef' lat', m_Matches_index_10 N (nI D.length) f (tp_it3 (m_Matches_index_10 N (nI D.length) f) n) (nI p) bef lat = _ ∧ _
    rw [m_Matches_index_10]
    rw [if_neg (show ¬ (10000 : Int32) ≤ nI p from nI_ge (b := 10000) (by omega) (by omega)), show nI p + (4 : Int32) = nI (p + 4) from nI_add p 4]
    by_cases c : D.length < p + 4
    · rw [if_pos (nI_lt c (by omega))]
      exact ⟨bef, lat, rfl, fun q hq => h1 q (by omega) hq⟩
    · have hb : m_Matches_bucketOf N (nI p) (nI D.length) f = some (tp_ushr (nI (nvA D p 4) * (-1640531535)) 21) := by
        unfold m_Matches_bucketOf
        rw [show (4 : Int32) = nI 4 from rfl, numberAt_ok hN h hl (by omega) (by omega), tp_b1_s, show Int64.toInt32 (lN (nvA D p 4)) = nI (nvA D p 4) from lN_i _]
      obtain ⟨e1, e2⟩ := hB_eq (nvA D p 4)
      rw [if_neg (nI_nlt (by omega) (by omega)), hb, tp_b1_s, e1, tp_gd_t (tp_inb_nI e2 (by decide)), tp_gd_t (tp_inb_nI (by omega) (by decide)), tp_gd_t (tp_inb_nI e2 (by decide)), nI_clamp (by omega), nI_clamp (by omega), show nI p + (1 : Int32) = nI (p + 1) from nI_1 p]
      refine ih n (p + 1) _ _ (by omega) (by omega) (fun q hq hq4 => ?_) (fun c hc => ?_)
      · by_cases e : q = p
        · subst e
          rw [pk_us]
          exact h2 _ e2
        · rw [pk_un e]
          exact h1 q (by omega) hq4
      · rw [nr_s]
        by_cases e : c = hB (nvA D p 4)
        · subst e
          rw [pk_us, if_pos (show Pq D (hB (nvA D p 4)) p = true from decide_eq_true rfl)]
          rfl
        · rw [pk_un e, if_neg (show ¬ Pq D c p = true from fun z => e (of_decide_eq_true z).symm)]
          exact h2 c hc
theorem index_ok {N : Nat} (hN : 100000 ≤ N) {D : List Nat} {f : Nat → Int32} (h : tp_Rw 10000 f D) (hl : D.length ≤ 10000) (bef lat : Nat → Int32) : ∃ bef' lat', m_Matches_index N (nI D.length) f bef lat = some (bef', lat') ∧ chn D bef' := by
  unfold m_Matches_index
  obtain ⟨f', e, hf'⟩ := fill_ok hN (-1) lat
  rw [e, tp_b1_s]
  exact index_l hN h hl 10000 N 0 bef f' (by omega) (by omega) (fun q hq => absurd hq (Nat.not_lt_zero q)) (fun c hc => hf' c hc)
theorem nr_skip2 {M P : Nat → Bool} {lo : Nat} : ∀ (i : Nat), (∀ q, q < i → M q = true → P q = true) → nr M lo i = match nr P 0 i with
    | none => none
    | some q => if q < lo then none else if M q then some q else nr M lo q := by
  intro i
  induction i with
  | zero => intro _; rfl
  | succ i ih =>
    intro hMP
    rw [nr, nr, if_neg (Nat.not_lt_zero i)]
    by_cases hP : P i = true
    · rw [if_pos hP]
    · rw [if_neg hP]
      have hM : ¬ M i = true := fun h => hP (hMP i (by omega) h)
      rw [if_neg hM, ← ih (fun q hq => hMP q (by omega))]
      split
      · rename_i h
        cases i with
        | zero => rfl
        | succ j =>
          rw [nr]
          by_cases hj : j < lo
          · rw [if_pos hj]
          · omega
      · rfl
section
variable {N : Nat} {D : List Nat} {f bef : Nat → Int32} {fr p to : Nat}
theorem kb_eq {q : Nat} (hq : q < p) (hto : to ≤ D.length) (hm : 4 ≤ ml D q p to) : kb D q = kb D p := by
  have hml := ml_le D q p to
  have e : ∀ j, j < 4 → bA D (q + j) = bA D (p + j) := fun j hj => by
    rw [bA_in (by omega), bA_in (by omega)]
    exact mlf_eq D (to - p) q p j (Nat.lt_of_lt_of_le hj hm)
  unfold kb
  rw [show nvA D q 4 = nvA D p 4 by
    show (((0 + bA D (q + 0) * _) + bA D (q + 1) * _) + bA D (q + 2) * _) + bA D (q + 3) * _ = (((0 + bA D (p + 0) * _) + bA D (p + 1) * _) + bA D (p + 2) * _) + bA D (p + 3) * _
    rw [e 0 (by omega), e 1 (by omega), e 2 (by omega), e 3 (by omega)]]
theorem ml_cut {q least : Nat} (h : p + least ≤ to) : ml D q p (p + least) = least ↔ least ≤ ml D q p to := by
  unfold ml
  rw [show p + least - p = least by omega]
  constructor
  · intro e
    refine mlf_ge D _ q p least (by omega) (fun i hi => mlf_eq D least q p i (by omega))
  · intro e
    refine Nat.le_antisymm (mlf_le D _ _ _) (mlf_ge D _ q p least (Nat.le_refl _) (fun i hi => mlf_eq D (to - p) q p i (by omega)))
theorem earlier_in (hc : chn D bef) (hto : to ≤ D.length) (hl : D.length ≤ 10000) (hp : p + 4 ≤ to) : m_Matches_earlier (nI p) (nI to) bef = some (encO (nr (Pq D (kb D p)) 0 p)) := by
  unfold m_Matches_earlier
  rw [if_neg (nI_pos (by omega)), if_neg (show ¬ (10000 : Int32) ≤ nI p from nI_ge (b := 10000) (by omega) (by omega)), show nI p + (4 : Int32) = nI (p + 4) from nI_add p 4, if_neg (nI_nlt hp (by omega)), tp_gd_t (tp_inb_nI (by omega) (by decide)), nI_clamp (by omega), hc p (by omega)]
theorem earlier_out (hp : to < p + 4) (hp2 : p < 2 ^ 30) : m_Matches_earlier (nI p) (nI to) bef = some (-1) := by
  unfold m_Matches_earlier
  rw [if_neg (nI_pos (by omega))]
  by_cases c : (10000 : Int32) ≤ nI p
  · rw [if_pos c]
  · rw [if_neg c, show nI p + (4 : Int32) = nI (p + 4) from nI_add p 4, if_pos (nI_lt hp (by omega))]
theorem fn_l (hN : 100000 ≤ N) (h : tp_Rw 10000 f D) (hl : D.length ≤ 10000) (hc : chn D bef) (hto : to ≤ D.length) (hfr : fr ≤ p) {least : Nat} (h4 : 4 ≤ least) (hle : p + least ≤ to) (dist : Int32) : ∀ (k i n lk : Nat), i ≤ k → lk + i ≤ 10000 → i < n → i ≤ p → tp_it6 (m_Matches_findNearest_25 N (nI fr) (nI to) f bef) n (nI p) (nI least) (encO (nr (Pq D (kb D p)) 0 i)) (nI lk) (nI 0) dist = some (match nr (Mq D p to least) fr i with
    | none => (nI 0, dist)
    | some q => (nI (ml D q p to), nI (p - q))) := by
  intro k
  induction k with
  | zero =>
    intro i n lk hi h1 h2 h3
    obtain ⟨n, rfl⟩ : ∃ z, n = z + 1 := ⟨n - 1, by omega⟩
    obtain rfl : i = 0 := by omega
    show m_Matches_findNearest_25 N (nI fr) (nI to) f bef (tp_it6 (m_Matches_findNearest_25 N (nI fr) (nI to) f bef) n) (nI p) (nI least) (encO (nr (Pq D (kb D p)) 0 0)) (nI lk) (nI 0) dist = _
    rw [m_Matches_findNearest_25]
    rw [nr, nr]
    by_cases c : (10000 : Int32) ≤ nI lk
    · rw [if_pos c]
    · rw [if_neg c, if_pos (show encO none < nI fr from m1_lt (by omega))]
  | succ k ih =>
    intro i n lk hi h1 h2 h3
    obtain ⟨n, rfl⟩ : ∃ z, n = z + 1 := ⟨n - 1, by omega⟩
    show m_Matches_findNearest_25 N (nI fr) (nI to) f bef (tp_it6 (m_Matches_findNearest_25 N (nI fr) (nI to) f bef) n) (nI p) (nI least) (encO (nr (Pq D (kb D p)) 0 i)) (nI lk) (nI 0) dist = _
    have sk := nr_skip2 (M := Mq D p to least) (P := Pq D (kb D p)) (lo := fr) i (fun q hq hm => decide_eq_true (kb_eq (by omega) hto (Nat.le_trans h4 (of_decide_eq_true hm))))
    cases hn : nr (Pq D (kb D p)) 0 i with
    | none =>
      rw [hn] at sk
      rw [sk]
      rw [m_Matches_findNearest_25]
      by_cases c : (10000 : Int32) ≤ nI lk
      · rw [if_pos c]
      · rw [if_neg c, if_pos (show encO none < nI fr from m1_lt (by omega))]
    | some q =>
      obtain ⟨q1, q2, q3⟩ := nr_lt hn
      have q3 : kb D q = kb D p := of_decide_eq_true q3
      rw [hn] at sk
      dsimp only at sk
      rw [sk]
      rw [m_Matches_findNearest_25]
      rw [if_neg (show ¬ (10000 : Int32) ≤ nI lk from nI_ge (b := 10000) (by omega) (by omega))]
      show (if nI q < nI fr then some (nI 0, dist) else _) = _
      by_cases c1 : q < fr
      · rw [if_pos (nI_lt c1 (by omega)), if_pos c1]
      · rw [if_neg (nI_nlt (by omega) (by omega)), if_neg c1]
        show tp_b1 (m_Matches_alike N (nI q) (nI p) (nI p + nI least) f) _ = _
        rw [nI_add, alike_ok hN h hl (by omega) (by omega) (by omega), tp_b1_s]
        have hml := ml_le D q p (p + least)
        by_cases c2 : least ≤ ml D q p to
        · rw [if_pos (by rw [(ml_cut hle).mpr c2]), if_pos (show Mq D p to least q = true from decide_eq_true c2)]
          show tp_b1 (m_Matches_alike N (nI q) (nI p) (nI to) f) (fun r11 => some (r11, nI p - nI q)) = _
          rw [alike_ok hN h hl (by omega) (by omega) hto, tp_b1_s, pk_sub (by omega)]
        · rw [if_neg (fun z => c2 ((ml_cut hle).mp ((nI_eq (by omega) (by omega)).mp z))), if_neg (show ¬ Mq D p to least q = true from fun z => c2 (of_decide_eq_true z))]
          show tp_b1 (m_Matches_earlier (nI q) (nI to) bef) _ = _
          rw [earlier_in hc hto hl (by omega), tp_b1_s, q3, show nI lk + (1 : Int32) = nI (lk + 1) from nI_1 lk]
          exact ih q n (lk + 1) (by omega) (by omega) (by omega) (by omega)
theorem fn_ok (hN : 100000 ≤ N) (h : tp_Rw 10000 f D) (hl : D.length ≤ 10000) (hc : chn D bef) (hto : to ≤ D.length) (hfr : fr ≤ p) (hp : p < to) {least : Nat} (h4 : 4 ≤ least) (h5 : least < 100) (len dist : Int32) : m_Matches_findNearest N (nI p) (nI least) (nI fr) (nI to) len dist f bef = some (match nr (Mq D p to least) fr p with
    | none => (nI 0, dist)
    | some q => (nI (ml D q p to), nI (p - q))) := by
  unfold m_Matches_findNearest
  rw [nI_add]
  by_cases c : p + least ≤ to
  · rw [if_pos (nI_le c (by omega)), earlier_in hc hto hl (by omega), tp_b1_s]
    exact fn_l hN h hl hc hto hfr h4 c dist p p N 0 (Nat.le_refl p) (by omega) (by omega) (Nat.le_refl p)
  · rw [if_neg (nI_ge (by omega) (by omega))]
    cases hn : nr (Mq D p to least) fr p with
    | none => rfl
    | some q =>
      have := (nr_lt hn).2.2
      have hm : least ≤ ml D q p to := of_decide_eq_true this
      have := ml_le D q p to
      omega
theorem lgs_lo : ∀ (i : Nat) (b : Option Nat × Nat), i ≤ fr → lgs D p to fr i b = b := by
  intro i b h
  cases i with
  | zero => rfl
  | succ q => rw [lgs, if_pos (by omega)]
theorem lgs_full : ∀ (i : Nat) (b : Option Nat × Nat), to - p ≤ b.2 → lgs D p to fr i b = b := by
  intro i
  induction i with
  | zero => intro b _; rfl
  | succ q ih =>
    intro b h
    have := ml_le D q p to
    rw [lgs]
    split
    · rfl
    · rw [if_neg (fun z => by omega)]
      exact ih b h
theorem lgs_skip {P : Nat → Bool} : ∀ (i : Nat) (b : Option Nat × Nat), (∀ q, q < i → 4 ≤ ml D q p to → P q = true) → lgs D p to fr i b = match nr P 0 i with
    | none => b
    | some q => lgs D p to fr (q + 1) b := by
  intro i
  induction i with
  | zero => intro b _; rfl
  | succ i ih =>
    intro b hP
    rw [nr_s]
    by_cases c : P i = true
    · rw [if_pos c]
    · rw [if_neg c, ← ih b (fun q hq => hP q (by omega)), lgs]
      by_cases c2 : i < fr
      · rw [if_pos c2, lgs_lo i b (by omega)]
      · rw [if_neg c2, if_neg (fun z => c (hP i (by omega) z.1))]
def dist_of (d : Int32) (p : Nat) : Option Nat → Int32
  | none => d
  | some q => nI (p - q)
theorem fl_l (hN : 100000 ≤ N) (h : tp_Rw 10000 f D) (hl : D.length ≤ 10000) (hc : chn D bef) (hto : to ≤ D.length) (hfr : fr ≤ p) (hp4 : p + 4 ≤ to) (dist : Int32) : ∀ (k i n lk : Nat) (b : Option Nat × Nat), i ≤ k → lk + i ≤ 10000 → i < n → i ≤ p → b.2 ≤ to - p → tp_it5 (m_Matches_findLongest_13 N (nI fr) (nI to) (nI D.length) f bef) n (nI p) (encO (nr (Pq D (kb D p)) 0 i)) (nI lk) (nI b.2) (dist_of dist p b.1) = some (nI (lgs D p to fr i b).2, dist_of dist p (lgs D p to fr i b).1) := by
  intro k
  induction k with
  | zero =>
    intro i n lk b hi h1 h2 h3 hb
    obtain ⟨n, rfl⟩ : ∃ z, n = z + 1 := ⟨n - 1, by omega⟩
    obtain rfl : i = 0 := by omega
    show m_Matches_findLongest_13 N (nI fr) (nI to) (nI D.length) f bef (tp_it5 (m_Matches_findLongest_13 N (nI fr) (nI to) (nI D.length) f bef) n) (nI p) (encO (nr (Pq D (kb D p)) 0 0)) (nI lk) (nI b.2) (dist_of dist p b.1) = _
    rw [m_Matches_findLongest_13]
    rw [nr, lgs]
    by_cases c : (10000 : Int32) ≤ nI lk
    · rw [if_pos c]
    · rw [if_neg c, if_pos (show encO none < nI fr from m1_lt (by omega))]
  | succ k ih =>
    intro i n lk b hi h1 h2 h3 hb
    obtain ⟨n, rfl⟩ : ∃ z, n = z + 1 := ⟨n - 1, by omega⟩
    show m_Matches_findLongest_13 N (nI fr) (nI to) (nI D.length) f bef (tp_it5 (m_Matches_findLongest_13 N (nI fr) (nI to) (nI D.length) f bef) n) (nI p) (encO (nr (Pq D (kb D p)) 0 i)) (nI lk) (nI b.2) (dist_of dist p b.1) = _
    have sk := lgs_skip (D := D) (p := p) (to := to) (fr := fr) (P := Pq D (kb D p)) i b (fun q hq hm => decide_eq_true (kb_eq (by omega) hto hm))
    cases hn : nr (Pq D (kb D p)) 0 i with
    | none =>
      rw [hn] at sk
      dsimp only at sk
      rw [sk]
      rw [m_Matches_findLongest_13]
      by_cases c : (10000 : Int32) ≤ nI lk
      · rw [if_pos c]
      · rw [if_neg c, if_pos (show encO none < nI fr from m1_lt (by omega))]
    | some q =>
      obtain ⟨q1, q2, q3⟩ := nr_lt hn
      have q3 : kb D q = kb D p := of_decide_eq_true q3
      rw [hn] at sk
      dsimp only at sk
      have hml := ml_le D q p to
      have nx : ∀ b' : Option Nat × Nat, b'.2 ≤ to - p → tp_b1 (m_Matches_earlier (nI q) (nI to) bef) (fun r => tp_it5 (m_Matches_findLongest_13 N (nI fr) (nI to) (nI D.length) f bef) n (nI p) r (nI lk + 1) (nI b'.2) (dist_of dist p b'.1)) = some (nI (lgs D p to fr q b').2, dist_of dist p (lgs D p to fr q b').1) := by
        intro b' hb'
        rw [earlier_in hc hto hl (by omega), tp_b1_s, q3, show nI lk + (1 : Int32) = nI (lk + 1) from nI_1 lk]
        exact ih q n (lk + 1) b' (by omega) (by omega) (by omega) (by omega) hb'
      rw [m_Matches_findLongest_13]
      rw [if_neg (show ¬ (10000 : Int32) ≤ nI lk from nI_ge (b := 10000) (by omega) (by omega)), sk, lgs]
      show (if nI q < nI fr then some (nI b.2, dist_of dist p b.1) else _) = _
      by_cases c1 : q < fr
      · rw [if_pos (nI_lt c1 (by omega)), if_pos c1]
      · rw [if_neg (nI_nlt (by omega) (by omega)), if_neg c1, nI_add]
        by_cases c2 : to ≤ p + b.2
        · rw [if_pos (nI_le c2 (by omega)), if_neg (fun z => by omega), lgs_full q b (by omega)]
        · rw [if_neg (nI_ge (by omega) (by omega))]
          show tp_b1 (m_Row_at (nI q + nI b.2) (nI D.length) f) _ = _
          have g1 := rw_lt h (q + b.2)
          have g2 := rw_lt h (p + b.2)
          rw [nI_add, at_in h (by omega) (by omega) (by omega), tp_b1_s, at_in h (by omega) (by omega) (by omega), tp_b1_s]
          by_cases c3 : gb D (q + b.2) = gb D (p + b.2)
          · rw [if_pos (by rw [show D.getD (q + b.2) 0 = D.getD (p + b.2) 0 from c3])]
            show tp_b1 (m_Matches_alike N (nI q) (nI p) (nI to) f) _ = _
            rw [alike_ok hN h hl (by omega) (by omega) hto, tp_b1_s]
            by_cases c4 : 4 ≤ ml D q p to
            · rw [if_neg (show ¬ nI (ml D q p to) < (4 : Int32) from nI_nlt (b := 4) c4 (by omega))]
              by_cases c5 : b.2 < ml D q p to
              · rw [if_neg (nI_ge c5 (by omega)), if_pos ⟨c4, c5⟩]
                show tp_b1 (m_Matches_earlier (nI q) (nI to) bef) (fun r => tp_it5 (m_Matches_findLongest_13 N (nI fr) (nI to) (nI D.length) f bef) n (nI p) r (nI lk + 1) (nI (ml D q p to)) (nI p - nI q)) = _
                rw [pk_sub (show q ≤ p by omega)]
                exact nx (some q, ml D q p to) hml
              · rw [if_pos (nI_le (by omega) (by omega)), if_neg (fun z => c5 z.2)]
                exact nx b hb
            · rw [if_pos (show nI (ml D q p to) < (4 : Int32) from nI_lt (b := 4) (by omega) (by omega)), if_neg (fun z => c4 z.1)]
              exact nx b hb
          · rw [if_neg (fun z => c3 ((nI_eq (a := D.getD (q + b.2) 0) (b := D.getD (p + b.2) 0) (by omega) (by omega)).mp z)), if_neg (fun z => c3 (mlf_eq D _ q p b.2 z.2))]
            exact nx b hb
theorem fl_m1 (hfr : fr < 2 ^ 31) (lk : Nat) (hlk : lk < 10000) (len dist : Int32) : ∀ n, 0 < n → tp_it5 (m_Matches_findLongest_13 N (nI fr) (nI to) (nI D.length) f bef) n (nI p) (encO none) (nI lk) len dist = some (len, dist) := by
  intro n hn
  cases n with
  | zero => omega
  | succ n =>
    show m_Matches_findLongest_13 N (nI fr) (nI to) (nI D.length) f bef (tp_it5 (m_Matches_findLongest_13 N (nI fr) (nI to) (nI D.length) f bef) n) (nI p) (encO none) (nI lk) len dist = _
    rw [m_Matches_findLongest_13, if_neg (show ¬ (10000 : Int32) ≤ nI lk from nI_ge (b := 10000) hlk (by omega)), if_pos (show encO none < nI fr from m1_lt hfr)]
theorem fl_ok (hN : 100000 ≤ N) (h : tp_Rw 10000 f D) (hl : D.length ≤ 10000) (hc : chn D bef) (hto : to ≤ D.length) (hfr : fr ≤ p) (hp : p ≤ to) (len dist : Int32) : m_Matches_findLongest N (nI p) (nI fr) (nI to) len dist (nI D.length) f bef = some (nI (lgs D p to fr p (none, 0)).2, dist_of dist p (lgs D p to fr p (none, 0)).1) := by
  unfold m_Matches_findLongest
  by_cases c : p + 4 ≤ to
  · rw [earlier_in hc hto hl c, tp_b1_s]
    exact fl_l hN h hl hc hto hfr c dist p p N 0 (none, 0) (Nat.le_refl p) (by omega) (by omega) (Nat.le_refl p) (Nat.zero_le _)
  · rw [earlier_out (by omega) (by omega), tp_b1_s]
    have e : lgs D p to fr p (none, 0) = (none, 0) := by
      rcases lgs_in (D := D) (p := p) (to := to) (fr := fr) p (none, 0) (Or.inl rfl) (Nat.le_refl p) with e | ⟨q, e1, e2, e3, e4, e5⟩
      · exact e
      · have := ml_le D q p to
        omega
    rw [e]
    exact fl_m1 (by omega) 0 (by decide) 0 dist N (by omega)
/-- the class's match -/
theorem findAt_ok (hN : 100000 ≤ N) (h : tp_Rw 10000 f D) (hl : D.length ≤ 10000) (hc : chn D bef) (hto : to ≤ D.length) (hfr : fr ≤ p) (hp : p < to) {way : Nat} (hw : way ≤ 3) (len dist : Int32) : ∃ le di, m_Matches_findAt N (nI p) (nI way) (nI fr) (nI to) len dist (nI D.length) f bef = some (le, di) ∧ (match mtS D fr p to way with
    | none => le = nI 0
    | some (q, n) => le = nI n ∧ di = nI (p - q)) := by
  have h4 := fun len dist => fn_ok (least := 4) hN h hl hc hto hfr hp (by decide) (by decide) len dist
  have h8 := fun len dist => fn_ok (least := 8) hN h hl hc hto hfr hp (by decide) (by decide) len dist
  have lo := fun len dist => fl_ok hN h hl hc hto hfr (show p ≤ to by omega) len dist
  have lo1 := fun len dist => fl_ok (p := p + 1) (fr := fr) hN h hl hc hto (by omega) (show p + 1 ≤ to by omega) len dist
  have e34 : (4 : Int32) = nI 4 := rfl
  have e38 : (8 : Int32) = nI 8 := rfl
  have b1 := lgs_le (D := D) (p := p) (to := to) (fr := fr) p (none, 0) (Nat.zero_le _)
  have b2 := lgs_le (D := D) (p := p + 1) (to := to) (fr := fr) (p + 1) (none, 0) (Nat.zero_le _)
  rcases (show way = 0 ∨ way = 1 ∨ way = 2 ∨ way = 3 by omega) with rfl | rfl | rfl | rfl
  · unfold m_Matches_findAt mtS
    rw [if_pos (by decide), e34, h4, if_pos rfl]
    cases hn : nr (Mq D p to 4) fr p with
    | none => exact ⟨_, _, rfl, rfl⟩
    | some q => exact ⟨_, _, rfl, rfl, rfl⟩
  · unfold m_Matches_findAt mtS
    rw [if_neg (by decide), if_pos (by decide), e38, h8, if_neg (show ¬ (1 : Nat) = 0 by decide), if_pos rfl]
    cases hn : nr (Mq D p to 8) fr p with
    | some q =>
      have hm : 8 ≤ ml D q p to := of_decide_eq_true (nr_lt hn).2.2
      have hml := ml_le D q p to
      dsimp only
      rw [tp_b2_s, if_neg (nI_ne0 (by omega) (by omega))]
      exact ⟨_, _, rfl, rfl, rfl⟩
    | none =>
      dsimp only
      rw [tp_b2_s, if_pos (show nI 0 = 0 from rfl), e34, h4]
      cases hn4 : nr (Mq D p to 4) fr p with
      | none => exact ⟨_, _, rfl, rfl⟩
      | some q => exact ⟨_, _, rfl, rfl, rfl⟩
  · unfold m_Matches_findAt mtS
    rw [if_neg (by decide), if_neg (by decide), lo, tp_b2_s, if_neg (by decide), if_neg (show ¬ (2 : Nat) = 0 by decide), if_neg (show ¬ (2 : Nat) = 1 by decide)]
    rcases lgs_in (D := D) (p := p) (to := to) (fr := fr) p (none, 0) (Or.inl rfl) (Nat.le_refl p) with e | ⟨q, e1, e2, e3, e4, e5⟩
    · rw [e]; exact ⟨_, _, rfl, rfl⟩
    · rw [e1]; exact ⟨_, _, rfl, rfl, rfl⟩
  · unfold m_Matches_findAt m_Matches_dropIfNextIsLonger mtS
    rw [if_neg (by decide), if_neg (by decide), lo, tp_b2_s, if_pos (by decide), if_neg (show ¬ (3 : Nat) = 0 by decide), if_neg (show ¬ (3 : Nat) = 1 by decide)]
    rcases lgs_in (D := D) (p := p) (to := to) (fr := fr) p (none, 0) (Or.inl rfl) (Nat.le_refl p) with e | ⟨q, e1, e2, e3, e4, e5⟩
    · rw [e, if_pos (by decide)]; exact ⟨_, _, rfl, rfl⟩
    · rw [e1, if_neg (show ¬ nI (lgs D p to fr p (none, 0)).2 ≤ 0 from nI_nle (by omega) (by omega)), show nI p + (1 : Int32) = nI (p + 1) from nI_1 p, lo1, tp_b2_s]
      by_cases c : (lgs D p to fr p (none, 0)).2 < (lgs D (p + 1) to fr (p + 1) (none, 0)).2
      · rw [if_neg (nI_ge c (by omega))]
        dsimp only
        rw [if_pos ⟨rfl, c⟩]
        exact ⟨_, _, rfl, rfl⟩
      · rw [if_pos (nI_le (by omega) (by omega))]
        dsimp only
        rw [if_neg (fun z => c z.2)]
        exact ⟨_, _, rfl, rfl, rfl⟩
end
