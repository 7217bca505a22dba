/-! sets of acts as numbers: facts about their bits, looked through -/
theorem q_sh : ∀ m, m < 128 → ∀ k, k < 7 → nI m ||| nI 1 <<< (nI k &&& 31) = nI (m ||| 2 ^ k) := by decide +kernel
theorem q_or : ∀ m, m < 128 → ∀ k, k < 7 → m ||| 2 ^ k < 128 := by decide +kernel
theorem q_bit : ∀ m, m < 128 → ∀ k, k < 7 → nI m >>> (nI k &&& 31) &&& nI 1 = (if m.testBit k = true then nI 1 else nI 0) := by decide +kernel
theorem q_sub : ∀ m, m < 128 → ∀ s, s < 128 → (nI m &&& (nI s ^^^ (-1)) = 0 ↔ ∀ i, i < 7 → m.testBit i = true → s.testBit i = true) := by decide +kernel
theorem q_in : ∀ m, m < 128 → ∀ s, s < 128 → (nI s &&& nI m = nI m ↔ ∀ i, i < 7 → m.testBit i = true → s.testBit i = true) := by decide +kernel
theorem q_v : ∀ m, m < 16 → ∀ w, w < 4 → nI m ||| nI 1 <<< (nI w &&& 31) = nI (m ||| 2 ^ w) := by decide +kernel
theorem q_vt : ∀ m, m < 16 → ∀ k, k < 16 → ∀ t, t < 10 → nI m ||| nI k &&& nI 1 <<< (nI t &&& 31) = nI (m ||| k &&& 2 ^ t) := by decide +kernel
theorem q_v16 : ∀ m, m < 16 → ∀ w, w < 4 → m ||| 2 ^ w < 16 := by decide +kernel
theorem q_vt16 : ∀ m, m < 16 → ∀ k, k < 16 → ∀ t, t < 10 → m ||| k &&& 2 ^ t < 16 := by decide +kernel
theorem q_2p : ∀ n, n < 8 → nI 1 <<< (nI n &&& 31) = nI (2 ^ n) := by decide +kernel
theorem q_v0 : ∀ m, m < 16 → (nI m = 0 ↔ ¬ ∃ v, v < 4 ∧ m.testBit v = true) := by decide +kernel

