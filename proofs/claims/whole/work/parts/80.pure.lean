theorem law_pure {L : Nat} (hL : L ≤ 2048) (xs : Nat → Int32) : tp_it3 (m_La_18 1000000 L xs) 1000000 0 tp_S0 tp_J0 = some 1 :=
  law_l (N := 1000000) (by decide) hL xs 1000 1000000 0 tp_S0 tp_J0 (by omega) (by decide) (by omega) lwI_0
