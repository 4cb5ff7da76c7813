/-! pure words of mine (tz_) -/
theorem tz_in {i : Int32} {n : Nat} (h0 : ¬ i < 0) (h : ¬ nI n ≤ i) (hn : n < 2 ^ 31) : vp_in i n := by
  obtain ⟨j, hj, rfl, -⟩ := pk_mu h0 h hn
  exact vp_in_nI hj hn
/-- Bytes.get: f the bytes of a row of n, k the length -/
def tz_gb (n : Nat) (f : Nat → Int32) (k i : Int32) : Int32 := if ¬ i < 0 ∧ ¬ k ≤ i ∧ ¬ nI n ≤ i then f i.toNatClampNeg &&& 255 else -1
theorem tz_fill {i : Nat} {g : Nat → Int32} {x : Int32} (hi : i < 2 ^ 31) (hg : ∀ j, j < i → g j = x) : ∀ j, j < i + 1 → upd g (nI i).toNatClampNeg x j = x := by
  intro j hj
  rw [nI_clamp hi]
  by_cases h : j = i
  · rw [h, pk_us]
  · rw [pk_un h]; exact hg j (by omega)
theorem tz_inc {i : Nat} {x : Int32} (hi : i < 2 ^ 31) (h : ¬ x ≤ nI i) : i + 1 < 2 ^ 31 := by
  have h1 := Int32.toInt_lt x
  have h2 : ¬ x.toInt ≤ (nI i).toInt := fun q => h (Int32.le_iff_toInt_le.mpr q)
  rw [nI_toInt hi] at h2
  omega
