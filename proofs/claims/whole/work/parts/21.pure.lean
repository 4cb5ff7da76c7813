/-! pure words of mine (tz_) -/
theorem tz_in {i : Int32} {n : Nat} (h0 : ¬ i < 0) (h : ¬ nI n ≤ i) (hn : n < 2 ^ 31) : vp_in i n := by
  obtain ⟨j, hj, rfl, -⟩ := pk_mu h0 h hn
  exact vp_in_nI hj hn
/-- Bytes.get: f the bytes of a row of n, k the length -/
def tz_gb (n : Nat) (f : Nat → Int32) (k i : Int32) : Int32 := if ¬ i < 0 ∧ ¬ k ≤ i ∧ ¬ nI n ≤ i then f i.toNatClampNeg &&& 255 else -1
theorem tz_fill {i : Nat} {g : Nat → Int32} {x : Int32} (hi : i < 2 ^ 31) (hg : ∀ j, j < i → g j = x) : ∀ j, j < i + 1 → upd g (nI i).toNatClampNeg x j = x := by
  intro j hj
  rw [nI_clamp hi]
  by_cases h : j = i
  · rw [h, pk_us]
  · rw [pk_un h]; exact hg j (by omega)
theorem tz_inc {i : Nat} {x : Int32} (hi : i < 2 ^ 31) (h : ¬ x ≤ nI i) : i + 1 < 2 ^ 31 := by
  have h1 := Int32.toInt_lt x
  have h2 : ¬ x.toInt ≤ (nI i).toInt := fun q => h (Int32.le_iff_toInt_le.mpr q)
  rw [nI_toInt hi] at h2
  omega
/-- the rows of names: a bucket begins a falling chain -/
def tz_inv (sn : Nat) (nxf buf : Nat → Int32) : Prop := (∀ j, j < sn → ∃ q, q ≤ j ∧ nxf j = nI q - 1) ∧ ∀ b, b < 256 → ∃ q, q ≤ sn ∧ buf b = nI q - 1
theorem tz_inv_add {sn b : Nat} {nxf buf : Nat → Int32} (hs : sn < 64) (hb : b < 256) (h : tz_inv sn nxf buf) : tz_inv (sn + 1) (upd nxf (nI sn).toNatClampNeg (buf (nI b).toNatClampNeg)) (upd buf (nI b).toNatClampNeg (nI sn)) := by
  rw [nI_clamp (n := sn) (by omega), nI_clamp (n := b) (by omega)]
  refine ⟨fun j hj => ?_, fun c hc => ?_⟩
  · by_cases e : j = sn
    · obtain ⟨q, h1, h2⟩ := h.2 b hb
      exact ⟨q, by omega, by rw [e, pk_us]; exact h2⟩
    · obtain ⟨q, h1, h2⟩ := h.1 j (by omega)
      exact ⟨q, h1, by rw [pk_un e]; exact h2⟩
  · by_cases e : c = b
    · exact ⟨sn + 1, Nat.le_refl _, by rw [e, pk_us, nI_pred]⟩
    · obtain ⟨q, h1, h2⟩ := h.2 c hc
      exact ⟨q, by omega, by rw [pk_un e]; exact h2⟩
theorem tz_q {q : Nat} (h : ¬ nI q - 1 < 0) : ∃ j, q = j + 1 := by
  cases q with
  | zero => exact absurd (by decide) h
  | succ j => exact ⟨j, rfl⟩
