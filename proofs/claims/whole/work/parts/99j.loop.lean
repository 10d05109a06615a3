/-! THE LAW: its loop -/
theorem len_6 {L j : Nat} (hL : L ≤ 3072) (hj : j ≤ 4000) (h : ¬ (Int32.ofNat L - 6 < nI j)) : j + 6 ≤ L := by
  rcases Nat.lt_or_ge L 6 with z | z
  · exfalso
    have hc : ∀ n, n < 6 → (Int32.ofNat n - 6).toInt < 0 := by decide
    refine h (Int32.lt_iff_toInt_lt.mpr ?_)
    have h1 := hc L z
    rw [nI_toInt (by omega)]
    omega
  · rcases Nat.lt_or_ge L (j + 6) with w | w
    · exfalso
      have e : Int32.ofNat L - 6 = nI (L - 6) := by
        have h2 : nI (L - 6) + 6 = nI L := by
          have := nI_add (L - 6) 6
          rw [show L - 6 + 6 = L by omega] at this
          exact this
        show nI L - 6 = _
        rw [← h2, Int32.add_sub_cancel]
      rw [e] at h
      exact h (nI_lt (by omega) (by omega))
    · exact w
