/-! pure words of mine (tz_) -/
theorem tz_in {i : Int32} {n : Nat} (h0 : ¬ i < 0) (h : ¬ nI n ≤ i) (hn : n < 2 ^ 31) : vp_in i n := by
  obtain ⟨j, hj, rfl, -⟩ := pk_mu h0 h hn
  exact vp_in_nI hj hn
/-- Bytes.get: f the bytes of a row of n, k the length -/
def tz_gb (n : Nat) (f : Nat → Int32) (k i : Int32) : Int32 := if ¬ i < 0 ∧ ¬ k ≤ i ∧ ¬ nI n ≤ i then f i.toNatClampNeg &&& 255 else -1
theorem tz_fill {i : Nat} {g : Nat → Int32} {x : Int32} (hi : i < 2 ^ 31) (hg : ∀ j, j < i → g j = x) : ∀ j, j < i + 1 → upd g (nI i).toNatClampNeg x j = x := by
  intro j hj
  rw [nI_clamp hi]
  by_cases h : j = i
  · rw [h, pk_us]
  · rw [pk_un h]; exact hg j (by omega)
theorem tz_inc {i : Nat} {x : Int32} (hi : i < 2 ^ 31) (h : ¬ x ≤ nI i) : i + 1 < 2 ^ 31 := by
  have h1 := Int32.toInt_lt x
  have h2 : ¬ x.toInt ≤ (nI i).toInt := fun q => h (Int32.le_iff_toInt_le.mpr q)
  rw [nI_toInt hi] at h2
  omega
/-- the rows of names: a bucket begins a falling chain -/
def tz_inv (sn : Nat) (nxf buf : Nat → Int32) : Prop := (∀ j, j < sn → ∃ q, q ≤ j ∧ nxf j = nI q - 1) ∧ ∀ b, b < 256 → ∃ q, q ≤ sn ∧ buf b = nI q - 1
theorem tz_inv_add {sn b : Nat} {nxf buf : Nat → Int32} (hs : sn < 64) (hb : b < 256) (h : tz_inv sn nxf buf) : tz_inv (sn + 1) (upd nxf (nI sn).toNatClampNeg (buf (nI b).toNatClampNeg)) (upd buf (nI b).toNatClampNeg (nI sn)) := by
  rw [nI_clamp (n := sn) (by omega), nI_clamp (n := b) (by omega)]
  refine ⟨fun j hj => ?_, fun c hc => ?_⟩
  · by_cases e : j = sn
    · obtain ⟨q, h1, h2⟩ := h.2 b hb
      exact ⟨q, by omega, by rw [e, pk_us]; exact h2⟩
    · obtain ⟨q, h1, h2⟩ := h.1 j (by omega)
      exact ⟨q, h1, by rw [pk_un e]; exact h2⟩
  · by_cases e : c = b
    · exact ⟨sn + 1, Nat.le_refl _, by rw [e, pk_us, nI_pred]⟩
    · obtain ⟨q, h1, h2⟩ := h.2 c hc
      exact ⟨q, by omega, by rw [pk_un e]; exact h2⟩
theorem tz_q {q : Nat} (h : ¬ nI q - 1 < 0) : ∃ j, q = j + 1 := by
  cases q with
  | zero => exact absurd (by decide) h
  | succ j => exact ⟨j, rfl⟩
/-- the kept words, letter by letter; behind them a blank -/
def tz_wl : List Int32 := [68, 69, 70, 73, 78, 73, 84, 73, 79, 78, 83, 32, 69, 88, 80, 76, 73, 67, 73, 84, 32, 73, 77, 80, 76, 73, 67, 73, 84, 32, 65, 85, 84, 79, 77, 65, 84, 73, 67, 32, 84, 65, 71, 83, 32, 66, 69, 71, 73, 78, 32, 69, 78, 68, 32, 85, 78, 73, 86, 69, 82, 83, 65, 76, 32, 65, 80, 80, 76, 73, 67, 65, 84, 73, 79, 78, 32, 80, 82, 73, 86, 65, 84, 69, 32, 73, 78, 84, 69, 71, 69, 82, 32, 69, 78, 85, 77, 69, 82, 65, 84, 69, 68, 32, 66, 73, 84, 32, 83, 84, 82, 73, 78, 71, 32, 79, 67, 84, 69, 84, 32, 79, 66, 74, 69, 67, 84, 32, 73, 68, 69, 78, 84, 73, 70, 73, 69, 82, 32, 83, 69, 81, 85, 69, 78, 67, 69, 32, 83, 69, 84, 32, 79, 70, 32, 67, 72, 79, 73, 67, 69, 32, 83, 73, 90, 69, 32, 79, 80, 84, 73, 79, 78, 65, 76, 32, 68, 69, 70, 65, 85, 76, 84, 32, 66, 79, 79, 76, 69, 65, 78, 32, 84, 82, 85, 69, 32, 70, 65, 76, 83, 69, 32, 78, 85, 76, 76, 32, 77, 73, 78, 32, 77, 65, 88, 32, 85, 84, 70, 56, 83, 116, 114, 105, 110, 103, 32, 80, 114, 105, 110, 116, 97, 98, 108, 101, 83, 116, 114, 105, 110, 103, 32, 73, 65, 53, 83, 116, 114, 105, 110, 103, 32, 78, 117, 109, 101, 114, 105, 99, 83, 116, 114, 105, 110, 103, 32, 86, 105, 115, 105, 98, 108, 101, 83, 116, 114, 105, 110, 103]
def tz_wb (i : Nat) : Int32 := tz_wl.getD i 32
def tz_cnt : Nat → Nat
  | 0 => 0
  | i + 1 => tz_cnt i + if tz_wb i = 32 then 1 else 0
theorem tz_wb_b : ∀ i, i < 281 → tz_wb i &&& 255 = tz_wb i := by decide +kernel
theorem tz_cnt_35 : tz_cnt 281 = 35 := by decide +kernel
theorem tz_cnt_mono (a : Nat) : ∀ d, tz_cnt a ≤ tz_cnt (a + d)
  | 0 => Nat.le_refl _
  | d + 1 => Nat.le_trans (tz_cnt_mono a d) (Nat.le_add_right _ _)
theorem tz_cnt_le {i : Nat} (h : i ≤ 281) : tz_cnt i ≤ 35 := by
  have h1 := tz_cnt_mono i (281 - i)
  rw [show i + (281 - i) = 281 by omega, tz_cnt_35] at h1
  exact h1
theorem tz_cnt_s {i : Nat} (h : tz_wb i = 32) : tz_cnt (i + 1) = tz_cnt i + 1 := by
  show tz_cnt i + (if tz_wb i = 32 then 1 else 0) = _
  rw [if_pos h]
theorem tz_cnt_m (i : Nat) : tz_cnt i ≤ tz_cnt (i + 1) := tz_cnt_mono i 1
theorem tz_gw {wf : Nat → Int32} (hw : ∀ j, j < 280 → wf j = tz_wb j) {i : Nat} (hi : i < 280) : tz_gb 280 wf (nI 280) (nI i) = tz_wb i := by
  have h : ¬ nI i < 0 ∧ ¬ nI 280 ≤ nI i ∧ ¬ nI 280 ≤ nI i := ⟨nI_pos (by omega), nI_ge hi (by decide), nI_ge hi (by decide)⟩
  unfold tz_gb
  rw [if_pos h, nI_clamp (by omega), hw i hi, tz_wb_b i (by omega)]
theorem tz_inv_0 {f g : Nat → Int32} (h : ∀ j, j < 256 → g j = -1) : tz_inv 0 f g := ⟨fun j hj => absurd hj (Nat.not_lt_zero j), fun b hb => ⟨0, Nat.le_refl _, by rw [h b hb]; rfl⟩⟩
theorem tz_ch0 : ∀ i, i < 280 → ((tz_wb i &&& 255 : Int32).toUInt32 % 65536).toInt32 = tz_wb i := by decide +kernel
theorem tz_ch {i : Nat} (h : i < 280) : (((tz_wb (nI i).toNatClampNeg) &&& 255 : Int32).toUInt32 % 65536).toInt32 = tz_wb i := by rw [nI_clamp (by omega)]; exact tz_ch0 i h
theorem tz_pt0 : ∀ i, i < 280 → vp_nar .byte ((tz_wb i : Int32).toInt8.toInt32) = tz_wb i := by decide +kernel
theorem tz_pt {i : Nat} {g : Nat → Int32} (h : i < 280) (hg : ∀ j, j < i → g j = tz_wb j) : ∀ j, j < i + 1 → upd g (nI i).toNatClampNeg (vp_nar .byte ((tz_wb i : Int32).toInt8.toInt32)) j = tz_wb j := by
  intro j hj
  rw [nI_clamp (by omega), tz_pt0 i h]
  by_cases e : j = i
  · rw [e, pk_us]
  · rw [pk_un e]; exact hg j (by omega)
