/-! the step that ends a read: what is kept, what is told -/
def mS1 (m : Sx) (p : Nat) : Sx := (m.sP p 2 (nI 0)).sP p 1 (m.P p 1 + nI 1)
def mSr (m : Sx) (p : Nat) (x : Int32) : Sx := if p < wrs m then (mS1 m p).sP p 4 (mx (m.P p 4) x) else mRdS (mS1 m p) p (m.P p 1) x
def mTr (m : Sx) (p : Nat) (x : Int32) : Int32 := if p < wrs m then -1 else mRdT (mS1 m p) p (m.P p 1) x
theorem mEr_eq {m : Sx} {p : Nat} {ch : Int32} : mEr m p ch = if mTr m p (mGot m p ch) = -1 then mSr m p (mGot m p ch) else mEnd (mSr m p (mGot m p ch)) p (mTr m p (mGot m p ch)) := by
  unfold mEr mTr mSr mS1
  dsimp only
  by_cases h : p < wrs m
  · rw [if_pos h, if_pos h, if_pos h, if_pos rfl]
  · rw [if_neg h, if_neg h, if_neg h]
section FF
variable {b po ba r n t u N p : Nat} {m c : Sx} {x : Int32}
theorem mS1_k {k : Nat} (h1 : ¬ k = 1) (h2 : ¬ k = 2) : (mS1 m p).P p k = m.P p k := by
  unfold mS1
  rw [sP_nk h1, sP_nk h2]
theorem mS1_H : (mS1 m p).H = m.H := rfl
theorem mRdS_k {s : Sx} {k : Nat} {y z : Int32} (h3 : ¬ k = 3) (h4 : ¬ k = 4) : (mRdS s p y z).P p k = s.P p k := by
  unfold mRdS
  repeat' split
  all_goals simp only [sP_nk h3, sP_nk h4]
theorem mRdS_n {s : Sx} {q k : Nat} {y z : Int32} (h : ¬ q = p) : (mRdS s p y z).P q k = s.P q k := by
  unfold mRdS
  repeat' split
  all_goals simp only [sP_na h]
theorem mRdS_H {s : Sx} {y z : Int32} : (mRdS s p y z).H = s.H := by
  unfold mRdS
  repeat' split
  all_goals rfl
theorem mRdS_C {s : Sx} {y z : Int32} : (mRdS s p y z).C = s.C := by
  unfold mRdS
  repeat' split
  all_goals rfl
theorem mRdS_A {s : Sx} {y z : Int32} : (mRdS s p y z).A = s.A := by
  unfold mRdS
  repeat' split
  all_goals rfl
theorem mSr_H : (mSr m p x).H = m.H := by
  unfold mSr
  split
  · rfl
  · rw [mRdS_H]; rfl
theorem mSr_C : (mSr m p x).C = m.C := by
  unfold mSr
  split
  · rfl
  · rw [mRdS_C]; rfl
theorem mSr_A : (mSr m p x).A = m.A := by
  unfold mSr
  split
  · rfl
  · rw [mRdS_A]; rfl
theorem mSr_n {q k : Nat} (h : ¬ q = p) : (mSr m p x).P q k = m.P q k := by
  unfold mSr mS1
  split
  · rw [sP_na h, sP_na h, sP_na h]
  · rw [mRdS_n h, sP_na h, sP_na h]
theorem mSr_k {k : Nat} (h1 : ¬ k = 1) (h2 : ¬ k = 2) (h3 : ¬ k = 3) (h4 : ¬ k = 4) : (mSr m p x).P p k = m.P p k := by
  unfold mSr
  split
  · rw [sP_nk h4, mS1_k h1 h2]
  · rw [mRdS_k h3 h4, mS1_k h1 h2]
theorem mSr_1 : (mSr m p x).P p 1 = m.P p 1 + nI 1 := by
  unfold mSr mS1
  split
  · rw [sP_nk (by decide), sP_eq]
  · rw [mRdS_k (by decide) (by decide), sP_eq]
theorem mSr_2 : (mSr m p x).P p 2 = nI 0 := by
  unfold mSr mS1
  split
  · rw [sP_nk (by decide), sP_nk (by decide), sP_eq]
  · rw [mRdS_k (by decide) (by decide), sP_nk (by decide), sP_eq]
theorem rd_b {kp gt k al v y : Nat} (ok : okSh b po ba r n) (sh : shH b po ba r n m) (shc : shH b po ba r n c) (ht : t ≤ 77) (hp : p < wN b + n) (hv : v < r) (hk : k < al) (hal : al = accN b po r n p v) (hnw : ¬ wtN b n p k al)
    (e1 : m.P p 1 = nI k) (e5 : m.P p 5 = nI al) (e3 : m.P p 3 = nI kp) (k3 : kp < bnd b t) (k3b : p < wN b → 3 ≤ b → kp ≤ t) (e4 : m.P p 4 = nI gt) (k4 : gt < bnd b t) (hx : x = nI y) (hy : y < bnd b t)
    (c1 : c.P p 1 = nI k) (c4 : c.P p 4 = nI kp) (c5 : c.P p 5 = nI al) (c64 : b = 4 → ¬ p < wN b → c.P p 6 = mx (nI kp) (nI gt)) (c65 : b = 5 → c.P p 6 = nI gt) :
    ∃ kp' gt' pl : Nat, (mSr m p x).P p 3 = nI kp' ∧ kp' < bnd b t ∧ (p < wN b → 3 ≤ b → kp' ≤ t) ∧ (mSr m p x).P p 4 = nI gt' ∧ gt' < bnd b t ∧ (b = 4 → ¬ p < wN b → n ≤ k + 1 → gt' ≤ kp') ∧
      (tkIn c p x).P p 4 = nI kp' ∧ (b = 4 → ¬ p < wN b → (tkIn c p x).P p 6 = mx (nI kp') (nI gt')) ∧ (b = 5 → (tkIn c p x).P p 6 = nI gt') ∧ (tkIn c p x).P p 5 = nI pl ∧
      ((mTr m p x = -1 ∧ pl = al ∧ k + 1 < al) ∨ (¬ p < wN b ∧ pl ≤ k + 1 ∧ ∃ z, z < 10 ∧ mTr m p x = nI z ∧ mTr m p x = md10 ((tkIn c p x).P p 6))) := by
  have hal5 := acc_le (q := p) ok hv
  obtain ⟨hb, hpo, hba, hr2, hr4, hn1, hn3, -, hb3, -, -⟩ := ok
  have hw := wrs_b (m := m) sh.1 hb
  have hbb : bnd b t ≤ 10000 := by
    unfold bnd
    split <;> omega
  subst hx
  have c6 : b = 0 ∨ b = 1 ∨ b = 2 ∨ b = 3 ∨ b = 4 ∨ b = 5 := by omega
  have b01 : b < 2 → ∃ kp' gt' pl : Nat, (mSr m p (nI y)).P p 3 = nI kp' ∧ kp' < bnd b t ∧ (p < wN b → 3 ≤ b → kp' ≤ t) ∧ (mSr m p (nI y)).P p 4 = nI gt' ∧ gt' < bnd b t ∧ (b = 4 → ¬ p < wN b → n ≤ k + 1 → gt' ≤ kp') ∧
      (tkIn c p (nI y)).P p 4 = nI kp' ∧ (b = 4 → ¬ p < wN b → (tkIn c p (nI y)).P p 6 = mx (nI kp') (nI gt')) ∧ (b = 5 → (tkIn c p (nI y)).P p 6 = nI gt') ∧ (tkIn c p (nI y)).P p 5 = nI pl ∧
      ((mTr m p (nI y) = -1 ∧ pl = al ∧ k + 1 < al) ∨ (¬ p < wN b ∧ pl ≤ k + 1 ∧ ∃ z, z < 10 ∧ mTr m p (nI y) = nI z ∧ mTr m p (nI y) = md10 ((tkIn c p (nI y)).P p 6))) := by
    intro hb2
    have n2 : ¬ nI b = nI 2 := nI_n (by omega) (by omega) (by omega)
    have n3 : ¬ nI b = nI 3 := nI_n (by omega) (by omega) (by omega)
    have n4 : ¬ nI b = nI 4 := nI_n (by omega) (by omega) (by omega)
    have n5 : ¬ nI b = nI 5 := nI_n (by omega) (by omega) (by omega)
    have hpw : ¬ p < wN b := by
      intro z
      unfold wtN at hnw
      rw [if_pos z] at hnw
      exact hnw (Or.inl (by omega))
    have hal1 : al = 1 := by
      unfold accN at hal
      rw [if_neg (by omega), if_neg (by omega), if_neg (by omega)] at hal
      exact hal
    rw [bnd_lo (by omega)] at hy
    have tk : tkIn c p (nI y) = c.sP p 6 (nI y) := by
      unfold tkIn
      rw [shc.1, if_neg n2, if_neg n3, if_neg n4, if_neg n5]
    have sS : mSr m p (nI y) = mS1 m p := by
      unfold mSr mRdS
      rw [hw, if_neg hpw, mS1_H, sh.1, if_neg n3, if_neg n4, if_neg n5]
    have sT : mTr m p (nI y) = nI y := by
      unfold mTr mRdT
      rw [hw, if_neg hpw, mS1_H, sh.1, if_neg n2, if_neg n3, if_neg n4, if_neg n5]
    refine ⟨kp, gt, al, by rw [sS, mS1_k (by omega) (by omega)]; exact e3, k3, k3b, by rw [sS, mS1_k (by omega) (by omega)]; exact e4, k4, fun z => by omega, by rw [tk, sP_nk (by omega)]; exact c4, fun z => by omega, fun z => by omega, by rw [tk, sP_nk (by omega)]; exact c5, Or.inr ⟨hpw, by omega, y, by omega, sT, ?_⟩⟩
    rw [sT, tk, sP_eq, md10_n (by omega), Nat.mod_eq_of_lt (by omega)]
  rcases c6 with rfl | rfl | rfl | rfl | rfl | rfl
  · exact b01 (by omega)
  · exact b01 (by omega)
  · -- a row of bits
    have hw1 : wN 2 = 1 := rfl
    have hpw : ¬ p < wN 2 := by
      intro z
      unfold wtN at hnw
      rw [if_pos z] at hnw
      exact hnw (Or.inl (by omega))
    have hal1 : al = r := by
      unfold accN at hal
      rw [if_pos rfl, if_neg (fun z => hpw z.1)] at hal
      exact hal
    have sS : mSr m p (nI y) = mS1 m p := by
      unfold mSr mRdS
      rw [hw, if_neg hpw, mS1_H, sh.1, if_neg (by decide), if_neg (by decide), if_neg (by decide)]
    have sT : mTr m p (nI y) = if nI y = nI 1 then nI k else if nI k = nI al - nI 1 then nI k else -1 := by
      unfold mTr mRdT
      rw [hw, if_neg hpw, mS1_H, sh.1, if_pos rfl, e1, mS1_k (by omega) (by omega), e5]
    have tk : tkIn c p (nI y) = if nI y = nI 1 then (c.sP p 6 (nI k)).sP p 5 (nI k + nI 1) else c.sP p 6 (nI k) := by
      unfold tkIn
      rw [shc.1, if_pos rfl, c1]
    have t4 : (tkIn c p (nI y)).P p 4 = nI kp := by
      rw [tk]
      split
      · rw [sP_nk (by omega), sP_nk (by omega)]; exact c4
      · rw [sP_nk (by omega)]; exact c4
    have t6 : (tkIn c p (nI y)).P p 6 = nI k := by
      rw [tk]
      split
      · rw [sP_nk (by omega), sP_eq]
      · rw [sP_eq]
    have mk : md10 (nI k) = nI k := by rw [md10_n (by omega), Nat.mod_eq_of_lt (by omega)]
    by_cases y1 : nI y = nI 1
    · refine ⟨kp, gt, k + 1, by rw [sS, mS1_k (by omega) (by omega)]; exact e3, k3, k3b, by rw [sS, mS1_k (by omega) (by omega)]; exact e4, k4, fun z => by omega, t4, fun z => by omega, fun z => by omega, ?_, Or.inr ⟨hpw, by omega, k, by omega, by rw [sT, if_pos y1], by rw [sT, if_pos y1, t6, mk]⟩⟩
      rw [tk, if_pos y1, sP_eq, nI_add]
    · have t5 : (tkIn c p (nI y)).P p 5 = nI al := by
        rw [tk, if_neg y1, sP_nk (by omega)]; exact c5
      rw [pk_sub (by omega)] at sT
      by_cases l : k = al - 1
      · refine ⟨kp, gt, al, by rw [sS, mS1_k (by omega) (by omega)]; exact e3, k3, k3b, by rw [sS, mS1_k (by omega) (by omega)]; exact e4, k4, fun z => by omega, t4, fun z => by omega, fun z => by omega, t5, Or.inr ⟨hpw, by omega, k, by omega, by rw [sT, if_neg y1, if_pos (by rw [l])], by rw [sT, if_neg y1, if_pos (by rw [l]), t6, mk]⟩⟩
      · exact ⟨kp, gt, al, by rw [sS, mS1_k (by omega) (by omega)]; exact e3, k3, k3b, by rw [sS, mS1_k (by omega) (by omega)]; exact e4, k4, fun z => by omega, t4, fun z => by omega, fun z => by omega, t5, Or.inl ⟨by rw [sT, if_neg y1, if_neg (nI_n (by omega) (by omega) l)], rfl, by omega⟩⟩
  · -- stamps, a reader who remembers
    have hw1 : wN 3 = 1 := rfl
    have hpw : ¬ p < wN 3 := by
      intro z
      unfold wtN at hnw
      rw [if_pos z] at hnw
      exact hnw (Or.inl (by omega))
    have hal1 : al = 1 := by
      unfold accN at hal
      rw [if_neg (by omega), if_neg (by omega), if_neg (by omega)] at hal
      exact hal
    by_cases p1 : po = 1
    · subst p1
      have sS : mSr m p (nI y) = mS1 m p := by
        unfold mSr mRdS
        rw [hw, if_neg hpw, mS1_H, sh.1, if_pos rfl, sh.2.1, if_pos rfl]
      have sT : mTr m p (nI y) = md10 (nI y) := by
        unfold mTr mRdT
        rw [hw, if_neg hpw, mS1_H, sh.1, if_neg (by decide), if_pos rfl, sh.2.1, if_pos rfl]
      have tk : tkIn c p (nI y) = c.sP p 6 (nI y) := by
        unfold tkIn
        rw [shc.1, if_neg (by decide), if_pos rfl, shc.2.1, if_pos rfl]
      exact ⟨kp, gt, al, by rw [sS, mS1_k (by omega) (by omega)]; exact e3, k3, k3b, by rw [sS, mS1_k (by omega) (by omega)]; exact e4, k4, fun z => by omega, by rw [tk, sP_nk (by omega)]; exact c4, fun z => by omega, fun z => by omega, by rw [tk, sP_nk (by omega)]; exact c5, Or.inr ⟨hpw, by omega, y % 10, Nat.mod_lt _ (by omega), by rw [sT, md10_n (by omega)], by rw [sT, tk, sP_eq]⟩⟩
    · have n1 : ¬ nI po = nI 1 := nI_n (by omega) (by omega) p1
      have d1 : nI kp / nI 100 = nI (kp / 100) := pk_div (by omega) (by omega) (by omega)
      have d2 : nI y / nI 100 = nI (y / 100) := pk_div (by omega) (by omega) (by omega)
      have sS : mSr m p (nI y) = (mS1 m p).sP p 3 (if kp / 100 ≤ y / 100 then nI y else nI kp) := by
        unfold mSr mRdS
        rw [hw, if_neg hpw, mS1_H, sh.1, if_pos rfl, sh.2.1, if_neg n1, mS1_k (by omega) (by omega), e3, d1, d2]
        by_cases l : kp / 100 ≤ y / 100
        · rw [if_pos l, if_pos (nI_le l (by omega))]
        · rw [if_neg l, if_neg (nI_ge (by omega) (by omega))]
      have tk4 : (tkIn c p (nI y)).P p 4 = (if kp / 100 ≤ y / 100 then nI y else nI kp) ∧ (tkIn c p (nI y)).P p 6 = (if kp / 100 ≤ y / 100 then nI y else nI kp) ∧ (tkIn c p (nI y)).P p 5 = c.P p 5 := by
        unfold tkIn kpNw
        rw [shc.1, if_neg (by decide), if_pos rfl, shc.2.1, if_neg n1, c4, d1, d2]
        by_cases l : kp / 100 ≤ y / 100
        · rw [if_pos l, if_pos (nI_le l (by omega))]
          refine ⟨?_, ?_, ?_⟩
          · rw [sP_nk (by omega), sP_eq]
          · rw [sP_eq, sP_eq]
          · rw [sP_nk (by omega), sP_nk (by omega)]
        · rw [if_neg l, if_neg (nI_ge (by omega) (by omega))]
          refine ⟨?_, ?_, ?_⟩
          · rw [sP_nk (by omega)]; exact c4
          · rw [sP_eq]; exact c4
          · rw [sP_nk (by omega)]
      have sT : mTr m p (nI y) = md10 (if kp / 100 ≤ y / 100 then nI y else nI kp) := by
        have e : mTr m p (nI y) = md10 ((mSr m p (nI y)).P p 3) := by
          unfold mTr mRdT mSr
          rw [hw, if_neg hpw, if_neg hpw, mS1_H, sh.1, if_neg (by decide), if_pos rfl, sh.2.1, if_neg n1]
        rw [e, sS, sP_eq]
      have ik : ∃ kp', (if kp / 100 ≤ y / 100 then nI y else nI kp) = nI kp' ∧ kp' < bnd 3 t := by
        split
        · exact ⟨y, rfl, hy⟩
        · exact ⟨kp, rfl, k3⟩
      obtain ⟨kp', ek, hk'⟩ := ik
      rw [ek] at sS tk4 sT
      exact ⟨kp', gt, al, by rw [sS, sP_eq], hk', fun z => absurd z hpw, by rw [sS, sP_nk (by omega), mS1_k (by omega) (by omega)]; exact e4, k4, fun z => by omega, tk4.1, fun z => by omega, fun z => by omega, tk4.2.2.trans c5, Or.inr ⟨hpw, by omega, kp' % 10, Nat.mod_lt _ (by omega), by rw [sT, md10_n (by omega)], by rw [sT, tk4.2.1]⟩⟩
  · -- readers who tell one another
    have hw1 : wN 4 = 1 := rfl
    have hpw : ¬ p < wN 4 := by
      intro z
      unfold wtN at hnw
      rw [if_pos z] at hnw
      exact hnw (Or.inl (by omega))
    have hkn : k < n := by
      unfold wtN at hnw
      rw [if_neg hpw] at hnw
      by_cases z : k < n
      · exact z
      · exact absurd ⟨rfl, by omega⟩ hnw
    have hal1 : al = if po = 1 then 1 else 2 * n - 1 := by
      unfold accN at hal
      rw [if_neg (by omega), if_pos rfl, if_neg hpw] at hal
      exact hal
    have c64 := c64 rfl hpw
    have hlast : (po = 1 ∨ k = n - 1) ↔ (k = al - 1 ∨ k = n - 1) := by
      rw [hal1]
      split
      · rename_i z
        constructor
        · rintro (_ | z2)
          · exact Or.inl (by rw [hal1, if_pos z] at hk; omega)
          · exact Or.inr z2
        · intro _; exact Or.inl z
      · rename_i z
        constructor
        · rintro (z2 | z2)
          · exact absurd z2 z
          · exact Or.inr z2
        · rintro (z2 | z2)
          · exact Or.inr (by omega)
          · exact Or.inr z2
    have gt' : mx (nI gt) (nI y) = nI (if gt < y then y else gt) := mx_n (by omega) (by omega)
    have hgt' : (if gt < y then y else gt) < bnd 4 t := by split <;> omega
    generalize hG : (if gt < y then y else gt) = G at gt' hgt'
    have kp' : mx (nI kp) (nI G) = nI (if kp < G then G else kp) := mx_n (by omega) (by omega)
    have hkp' : (if kp < G then G else kp) < bnd 4 t := by split <;> omega
    generalize hKP : (if kp < G then G else kp) = KP at kp' hkp'
    have best : mx (nI y) (mx (nI kp) (nI gt)) = nI KP := by
      rw [mx_n (by omega) (by omega), mx_n (by omega) (by split <;> omega), ← hKP, ← hG]
      congr 1
      repeat' split
      all_goals omega
    have eal : (nI k = nI al - nI 1) ↔ k = al - 1 := by rw [pk_sub (by omega)]; exact nI_eq (by omega) (by omega)
    have enl : (nI k = nI n - nI 1) ↔ k = n - 1 := by rw [pk_sub (by omega)]; exact nI_eq (by omega) (by omega)
    have epo : (nI po = nI 1) ↔ po = 1 := nI_eq (by omega) (by omega)
    have sS : mSr m p (nI y) = if k = al - 1 ∨ k = n - 1 then ((mS1 m p).sP p 4 (nI G)).sP p 3 (nI KP) else (mS1 m p).sP p 4 (nI G) := by
      unfold mSr mRdS
      rw [hw, if_neg hpw, mS1_H, sh.1, if_neg (by decide), if_pos rfl, mS1_k (by omega) (by omega), mS1_k (by omega) (by omega), mS1_k (by omega) (by omega), e1, e3, e4, e5, sh.2.2.2.2, gt', kp']
      by_cases l : k = al - 1 ∨ k = n - 1
      · rw [if_pos l, if_pos (l.imp eal.mpr enl.mpr)]
      · rw [if_neg l, if_neg (fun z => l (z.imp eal.mp enl.mp))]
    have tk : tkIn c p (nI y) = if po = 1 ∨ k = n - 1 then (c.sP p 6 (nI KP)).sP p 4 (nI KP) else c.sP p 6 (nI KP) := by
      unfold tkIn
      rw [shc.1, if_neg (by decide), if_neg (by decide), if_pos rfl, shc.2.1, shc.2.2.2.2, c1, c64, best]
      by_cases l : po = 1 ∨ k = n - 1
      · rw [if_pos l, if_pos (l.imp epo.mpr enl.mpr)]
      · rw [if_neg l, if_neg (fun z => l (z.imp epo.mp enl.mp))]
    have sT : mTr m p (nI y) = if k = al - 1 then md10 ((mSr m p (nI y)).P p 3) else -1 := by
      unfold mTr mRdT mSr
      rw [hw, if_neg hpw, if_neg hpw, mS1_H, sh.1, if_neg (by decide), if_neg (by decide), if_pos rfl, mS1_k (by omega) (by omega), e5, e1]
      by_cases l : k = al - 1
      · rw [if_pos l, if_pos (eal.mpr l)]
      · rw [if_neg l, if_neg (fun z => l (eal.mp z))]
    by_cases l : po = 1 ∨ k = n - 1
    · rw [if_pos l] at tk
      rw [if_pos (hlast.mp l)] at sS
      have s3 : (mSr m p (nI y)).P p 3 = nI KP := by rw [sS, sP_eq]
      have s4 : (mSr m p (nI y)).P p 4 = nI G := by rw [sS, sP_nk (by omega), sP_eq]
      have t4 : (tkIn c p (nI y)).P p 4 = nI KP := by rw [tk, sP_eq]
      have t6 : (tkIn c p (nI y)).P p 6 = nI KP := by rw [tk, sP_nk (by omega), sP_eq]
      have t5 : (tkIn c p (nI y)).P p 5 = nI al := by rw [tk, sP_nk (by omega), sP_nk (by omega)]; exact c5
      have hGK : G ≤ KP := by
        rw [← hKP]
        split <;> omega
      refine ⟨KP, G, al, s3, hkp', fun z => absurd z hpw, s4, hgt', fun _ _ _ => hGK, t4, fun _ _ => ?_, fun z => by omega, t5, ?_⟩
      · rw [t6, mx_n (by omega) (by omega), if_neg (by omega)]
      · by_cases l2 : k = al - 1
        · rw [if_pos l2, s3] at sT
          exact Or.inr ⟨hpw, by omega, KP % 10, Nat.mod_lt _ (by omega), by rw [sT, md10_n (by omega)], by rw [sT, t6]⟩
        · rw [if_neg l2] at sT
          exact Or.inl ⟨sT, rfl, by omega⟩
    · rw [if_neg l] at tk
      rw [if_neg (fun z => l (hlast.mpr z))] at sS
      have s3 : (mSr m p (nI y)).P p 3 = nI kp := by rw [sS, sP_nk (by omega), mS1_k (by omega) (by omega)]; exact e3
      have s4 : (mSr m p (nI y)).P p 4 = nI G := by rw [sS, sP_eq]
      have t4 : (tkIn c p (nI y)).P p 4 = nI kp := by rw [tk, sP_nk (by omega)]; exact c4
      have t6 : (tkIn c p (nI y)).P p 6 = nI KP := by rw [tk, sP_eq]
      have t5 : (tkIn c p (nI y)).P p 5 = nI al := by rw [tk, sP_nk (by omega)]; exact c5
      have l2 : ¬ k = al - 1 := fun z => l (hlast.mpr (Or.inl z))
      rw [if_neg l2] at sT
      exact ⟨kp, G, al, s3, k3, fun z => absurd z hpw, s4, hgt', fun _ _ z => absurd (Or.inr (by omega)) l, t4, fun _ _ => by rw [t6, kp'], fun z => by omega, t5, Or.inl ⟨sT, rfl, by omega⟩⟩
  · -- writers who look at all stamps
    have hw1 : wN 5 = 2 := rfl
    have gt' : mx (nI gt) (nI y) = nI (if gt < y then y else gt) := mx_n (by omega) (by omega)
    have hgt' : (if gt < y then y else gt) < bnd 5 t := by split <;> omega
    have best : mx (nI y) (nI gt) = nI (if gt < y then y else gt) := by
      rw [mx_n (by omega) (by omega)]
      congr 1
      repeat' split
      all_goals omega
    generalize hG : (if gt < y then y else gt) = G at gt' hgt' best
    have tk : tkIn c p (nI y) = c.sP p 6 (nI G) := by
      unfold tkIn
      rw [shc.1, if_neg (by decide), if_neg (by decide), if_neg (by decide), if_pos rfl, c65 rfl, best]
    have sS : mSr m p (nI y) = (mS1 m p).sP p 4 (nI G) := by
      unfold mSr mRdS
      rw [hw, mS1_H, sh.1, if_neg (show ¬ nI 5 = nI 3 by decide), if_neg (show ¬ nI 5 = nI 4 by decide), if_pos (show nI 5 = nI 5 from rfl), mS1_k (by omega) (by omega), e4, gt', ite_self]
    have s3 : (mSr m p (nI y)).P p 3 = nI kp := by rw [sS, sP_nk (by omega), mS1_k (by omega) (by omega)]; exact e3
    have s4 : (mSr m p (nI y)).P p 4 = nI G := by rw [sS, sP_eq]
    have t4 : (tkIn c p (nI y)).P p 4 = nI kp := by rw [tk, sP_nk (by omega)]; exact c4
    have t6 : (tkIn c p (nI y)).P p 6 = nI G := by rw [tk, sP_eq]
    have t5 : (tkIn c p (nI y)).P p 5 = nI al := by rw [tk, sP_nk (by omega)]; exact c5
    refine ⟨kp, G, al, s3, k3, k3b, s4, hgt', fun z => by omega, t4, fun z => by omega, fun _ => t6, t5, ?_⟩
    by_cases hpw : p < wN 5
    · have sT : mTr m p (nI y) = -1 := by
        unfold mTr
        rw [hw, if_pos hpw]
      unfold wtN at hnw
      rw [if_pos hpw] at hnw
      exact Or.inl ⟨sT, rfl, by
        by_cases z : k = al - 1
        · exact absurd (Or.inr z) hnw
        · omega⟩
    · have eal : (nI k = nI al - nI 1) ↔ k = al - 1 := by rw [pk_sub (by omega)]; exact nI_eq (by omega) (by omega)
      have sT : mTr m p (nI y) = if k = al - 1 then md10 ((mSr m p (nI y)).P p 4) else -1 := by
        unfold mTr mRdT mSr
        rw [hw, if_neg hpw, if_neg hpw, mS1_H, sh.1, if_neg (show ¬ nI 5 = nI 2 by decide), if_neg (show ¬ nI 5 = nI 3 by decide), if_neg (show ¬ nI 5 = nI 4 by decide), if_pos (show nI 5 = nI 5 from rfl), mS1_k (by omega) (by omega), e5, e1]
        by_cases l : k = al - 1
        · rw [if_pos l, if_pos (eal.mpr l)]
        · rw [if_neg l, if_neg (fun z => l (eal.mp z))]
      by_cases l2 : k = al - 1
      · rw [if_pos l2, s4] at sT
        exact Or.inr ⟨hpw, by omega, G % 10, Nat.mod_lt _ (by omega), by rw [sT, md10_n (by omega)], by rw [sT, t6]⟩
      · rw [if_neg l2] at sT
        exact Or.inl ⟨sT, rfl, by omega⟩
end FF
