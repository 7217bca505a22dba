/-! ALL WAYS, PURE: the walk over the model's states -/
abbrev WX : Type := Nat × (Nat → Sx) × (Nat → Nat) × (Nat → Nat) × Nat × Nat × Int32 × Nat × Sx × Nat
def mkW (d : Nat) (rs : Nat → Sx) (np nc : Nat → Nat) (ct bd : Nat) (fb : Int32) (fd : Nat) (fs : Sx) (lg : Nat) : WX := (d, rs, np, nc, ct, bd, fb, fd, fs, lg)
def wDp (X : WX) : Nat := X.1
def wRw (X : WX) : Nat → Sx := X.2.1
def wNp (X : WX) : Nat → Nat := X.2.2.1
def wNc (X : WX) : Nat → Nat := X.2.2.2.1
def wCt (X : WX) : Nat := X.2.2.2.2.1
def wBd (X : WX) : Nat := X.2.2.2.2.2.1
def wFb (X : WX) : Int32 := X.2.2.2.2.2.2.1
def wFd (X : WX) : Nat := X.2.2.2.2.2.2.2.1
def wFs (X : WX) : Sx := X.2.2.2.2.2.2.2.2.1
def wLg (X : WX) : Nat := X.2.2.2.2.2.2.2.2.2
/-- the next step from process p and choice j on; e: how many processes are left -/
def fnS (m : Sx) : Nat → Nat → Nat → Option (Nat × Nat)
  | 0, _, _ => none
  | e + 1, p, j => if j < ix (mChs m p) then some (p, j) else fnS m e (p + 1) 0
def wLf (X : WX) (d : Nat) (m : Sx) (ok : Bool) : WX :=
  mkW d (wRw X) (wNp X) (wNc X) (wCt X + 1) (if ok = true then wBd X else wBd X + 1) (if ok = true then wFb X else if wBd X = 0 then nI (wCt X) else wFb X)
    (if ok = true then wFd X else if wBd X = 0 then d else wFd X) (if ok = true then wFs X else if wBd X = 0 then m else wFs X) (if wLg X < d then d else wLg X)
def wPop (X : WX) (d : Nat) : WX := mkW d (wRw X) (wNp X) (wNc X) (wCt X) (wBd X) (wFb X) (wFd X) (wFs X) (wLg X)
def wPsh (X : WX) (d : Nat) (s : Sx) (p j : Nat) : WX := mkW (d + 2) (upf (wRw X) (d + 1) s) (upf (upf (wNp X) d p) (d + 1) 0) (upf (upf (wNc X) d (j + 1)) (d + 1) 0) (wCt X) (wBd X) (wFb X) (wFd X) (wFs X) (wLg X)
noncomputable def wOk (m : Sx) (N : Nat) : Bool := if b2c (hAt (hyM m) N) = nI 1 then true else false
def wGo (np : Nat) (X : WX) (d : Nat) (m : Sx) : Option (Nat × Nat) → WX
  | none => wPop X d
  | some q => wPsh X d (mStp m q.1 np (nI q.2)) q.1 q.2
noncomputable def wStep (np N : Nat) (X : WX) : WX :=
  if lst (wRw X (wDp X - 1)) = 5 then wLf X (wDp X - 1) (wRw X (wDp X - 1)) (wOk (wRw X (wDp X - 1)) N)
  else wGo np X (wDp X - 1) (wRw X (wDp X - 1)) (fnS (wRw X (wDp X - 1)) (np - wNp X (wDp X - 1)) (wNp X (wDp X - 1)) (wNc X (wDp X - 1)))
abbrev wEx (X : WX) : Prop := wDp X = 0 ∨ 500 ≤ wCt X
noncomputable def wFin (np N : Nat) : Nat → WX → WX
  | 0, X => X
  | k + 1, X => if wEx X then X else wFin np N k (wStep np N X)
def wSt (m : Sx) : WX := mkW 1 (fun _ => m) (fun _ => 0) (fun _ => 0) 0 0 (-1) 0 m 0
def WI (b po bs r n N : Nat) (X : WX) : Prop :=
  wDp X ≤ 41 ∧ (∀ e, e < wDp X → (∃ t, Iv b po bs r n t N (wRw X e) ∧ ∃ c, Rl c (wRw X e)) ∧ sum5 (evm bs (wRw X e)) + e ≤ 40 ∧ wNp X e ≤ wN b + n ∧ wNc X e ≤ 8) ∧
  (∀ e, e + 1 < wDp X → 1 ≤ wNc X e) ∧ wBd X ≤ wCt X ∧ wCt X ≤ 500 ∧ wLg X ≤ 40 ∧ (wBd X = 0 → wFb X = -1) ∧
  (1 ≤ wBd X → (∃ j, j < 500 ∧ wFb X = nI j) ∧ wFd X ≤ 40 ∧ GS b po bs r n (wFs X))
def wPsi (X : WX) : Nat := 81 * wCt X + (if wDp X = 0 then 41 else if wNp X (wDp X - 1) = 0 ∧ wNc X (wDp X - 1) = 0 then 41 + (wDp X - 1) else 40 - (wDp X - 1))
section RR
variable {b po bs r n t N : Nat} {m : Sx} {X : WX} {np : Nat}
theorem fnS_some : ∀ e p j {q1 q2 : Nat}, fnS m e p j = some (q1, q2) → p ≤ q1 ∧ q1 < p + e ∧ q2 < ix (mChs m q1)
  | 0, p, j, q1, q2, h => by
    unfold fnS at h
    exact absurd h (by simp only [reduceCtorEq, not_false_eq_true])
  | e + 1, p, j, q1, q2, h => by
    unfold fnS at h
    by_cases c : j < ix (mChs m p)
    · rw [if_pos c] at h
      have h2 := Option.some.inj h
      have e1 : p = q1 := congrArg Prod.fst h2
      have e2 : j = q2 := congrArg Prod.snd h2
      subst e1
      subst e2
      exact ⟨Nat.le_refl _, by omega, c⟩
    · rw [if_neg c] at h
      have := fnS_some e (p + 1) 0 h
      omega
theorem fnS_has : ∀ e p, (∃ q, p ≤ q ∧ q < p + e ∧ 0 < ix (mChs m q)) → ¬ fnS m e p 0 = none
  | 0, p, h => by
    obtain ⟨q, h1, h2, -⟩ := h
    omega
  | e + 1, p, h => by
    unfold fnS
    by_cases c : 0 < ix (mChs m p)
    · rw [if_pos c]
      simp only [reduceCtorEq, not_false_eq_true]
    · rw [if_neg c]
      refine fnS_has e (p + 1) ?_
      obtain ⟨q, h1, h2, h3⟩ := h
      have : ¬ q = p := fun z => c (by rw [← z]; exact h3)
      exact ⟨q, by omega, by omega, h3⟩
theorem ev_pos (I : Iv b po bs r n t N m) {p : Nat} (hp : p < 5) (hu : ¬ m.P p 0 = -1) : 1 ≤ sum5 (evm bs m) := by
  have := dep_lt (x := nI 0) (n' := 0) I hp hu
  omega
theorem chs_ix (I : Iv b po bs r n t N m) (R : ∃ c, Rl c m) {p : Nat} (hp : p < 5) : ∃ kk, kk ≤ 7 ∧ mChs m p = nI kk ∧ ix (mChs m p) = kk ∧ (0 < kk ↔ ¬ m.P p 0 = -1) := by
  obtain ⟨c, R⟩ := R
  obtain ⟨-, h1, h2⟩ := chs_ok I R hp
  by_cases hu : m.P p 0 = -1
  · exact ⟨0, by omega, h1 hu, by rw [h1 hu, ix_nI (by omega)], by omega, fun z => absurd hu z⟩
  · obtain ⟨kk, k1, k7, e⟩ := h2 hu
    exact ⟨kk, k7, e, by rw [e, ix_nI (by omega)], fun _ => hu, fun _ => by omega⟩
theorem psi_lo (h : wDp X ≤ 41) : 81 * wCt X ≤ wPsi X ∧ wPsi X ≤ 81 * wCt X + 81 := by
  unfold wPsi
  split
  · omega
  · split <;> omega
theorem WI_step (W : WI b po bs r n N X) (hx : ¬ wEx X) : WI b po bs r n N (wStep (wN b + n) N X) ∧ wPsi X + 1 ≤ wPsi (wStep (wN b + n) N X) := by
  have W0 := W
  obtain ⟨w1, w2, w3, w4, w5, w6, w7, w8⟩ := W
  have hd : ¬ wDp X = 0 := fun z => hx (Or.inl z)
  have hc : ¬ 500 ≤ wCt X := fun z => hx (Or.inr z)
  obtain ⟨⟨t, I, R⟩, he, hnp, hnc⟩ := w2 (wDp X - 1) (by omega)
  have h5 := np_le I.1.1
  have pX : wPsi X = 81 * wCt X + (if wDp X = 0 then 41 else if wNp X (wDp X - 1) = 0 ∧ wNc X (wDp X - 1) = 0 then 41 + (wDp X - 1) else 40 - (wDp X - 1)) := rfl
  rw [if_neg hd] at pX
  have hb1 : wPsi X ≤ 81 * wCt X + 41 + (wDp X - 1) := by
    rw [pX]
    split <;> omega
  unfold wStep
  by_cases hl : lst (wRw X (wDp X - 1)) = 5
  · rw [if_pos hl]
    generalize wOk (wRw X (wDp X - 1)) N = ok
    refine ⟨⟨by show wDp X - 1 ≤ 41; omega, fun e h => ?_, fun e h => ?_, ?_, ?_, ?_, fun h => ?_, fun h => ?_⟩, ?_⟩
    · have h : e < wDp X - 1 := h
      exact w2 e (by omega)
    · have h : e + 1 < wDp X - 1 := h
      exact w3 e (by omega)
    · show (if ok = true then wBd X else wBd X + 1) ≤ wCt X + 1
      split <;> omega
    · show wCt X + 1 ≤ 500
      omega
    · show (if wLg X < wDp X - 1 then wDp X - 1 else wLg X) ≤ 40
      split <;> omega
    · have h : (if ok = true then wBd X else wBd X + 1) = 0 := h
      show (if ok = true then wFb X else if wBd X = 0 then nI (wCt X) else wFb X) = -1
      by_cases c : ok = true
      · rw [if_pos c] at h ⊢
        exact w7 h
      · rw [if_neg c] at h
        omega
    · have h : 1 ≤ (if ok = true then wBd X else wBd X + 1) := h
      show (∃ j, j < 500 ∧ (if ok = true then wFb X else if wBd X = 0 then nI (wCt X) else wFb X) = nI j) ∧ (if ok = true then wFd X else if wBd X = 0 then wDp X - 1 else wFd X) ≤ 40 ∧ GS b po bs r n (if ok = true then wFs X else if wBd X = 0 then wRw X (wDp X - 1) else wFs X)
      by_cases c : ok = true
      · rw [if_pos c] at h
        rw [if_pos c, if_pos c, if_pos c]
        exact w8 h
      · rw [if_neg c, if_neg c, if_neg c]
        by_cases c2 : wBd X = 0
        · rw [if_pos c2, if_pos c2, if_pos c2]
          exact ⟨⟨wCt X, by omega, rfl⟩, by omega, t, N, I, R⟩
        · rw [if_neg c2, if_neg c2, if_neg c2]
          exact w8 (by omega)
    · show _ ≤ 81 * (wCt X + 1) + (if wDp X - 1 = 0 then 41 else if wNp X (wDp X - 1 - 1) = 0 ∧ wNc X (wDp X - 1 - 1) = 0 then 41 + (wDp X - 1 - 1) else 40 - (wDp X - 1 - 1))
      split
      · omega
      · split <;> omega
  · rw [if_neg hl]
    rcases lst_of (m := wRw X (wDp X - 1)) with ⟨e, -⟩ | ⟨l1, l2, l3⟩
    · exact absurd e hl
    · have hev := ev_pos I l1 l2
      cases hf : fnS (wRw X (wDp X - 1)) (wN b + n - wNp X (wDp X - 1)) (wNp X (wDp X - 1)) (wNc X (wDp X - 1)) with
      | none =>
        refine ⟨⟨by show wDp X - 1 ≤ 41; omega, fun e h => ?_, fun e h => ?_, w4, w5, w6, w7, w8⟩, ?_⟩
        · have h : e < wDp X - 1 := h
          exact w2 e (by omega)
        · have h : e + 1 < wDp X - 1 := h
          exact w3 e (by omega)
        · have nf : ¬ (wNp X (wDp X - 1) = 0 ∧ wNc X (wDp X - 1) = 0) := by
            rintro ⟨z1, z2⟩
            rw [z1, z2] at hf
            refine fnS_has (m := wRw X (wDp X - 1)) (wN b + n - 0) 0 ⟨lst (wRw X (wDp X - 1)), by omega, ?_, ?_⟩ hf
            · have := uw_np I l1 l2
              omega
            · obtain ⟨kk, -, -, e2, e3⟩ := chs_ix I R l1
              rw [e2]
              exact e3.mpr l2
          rw [pX, if_neg nf]
          show _ ≤ 81 * wCt X + (if wDp X - 1 = 0 then 41 else if wNp X (wDp X - 1 - 1) = 0 ∧ wNc X (wDp X - 1 - 1) = 0 then 41 + (wDp X - 1 - 1) else 40 - (wDp X - 1 - 1))
          by_cases z : wDp X - 1 = 0
          · rw [if_pos z]
            omega
          · rw [if_neg z, if_neg (fun z2 => by have := w3 (wDp X - 1 - 1) (by omega); omega)]
            omega
      | some q =>
        obtain ⟨q1, q2⟩ := q
        obtain ⟨f1, f2, f3⟩ := fnS_some _ _ _ hf
        have q5 : q1 < 5 := by omega
        obtain ⟨kk, k7, ek, eix, hpos⟩ := chs_ix I R q5
        rw [eix] at f3
        have hu := hpos.mp (by omega)
        obtain ⟨s1, s2, s3, s4⟩ := st_ok I R q5 hu ek k7 f3
        have g1 : ∀ (f : Nat → Nat) v w e, e < wDp X → ¬ e = wDp X - 1 → upf (upf f (wDp X - 1) v) (wDp X - 1 + 1) w e = f e := by
          intro f v w e h1 h2
          rw [upf_ne (by omega), upf_ne h2]
        have g2 : ∀ (f : Nat → Nat) v w, upf (upf f (wDp X - 1) v) (wDp X - 1 + 1) w (wDp X - 1) = v := by
          intro f v w
          rw [upf_ne (by omega), upf_same]
        refine ⟨⟨by show wDp X - 1 + 2 ≤ 41; omega, fun e h => ?_, fun e h => ?_, w4, w5, w6, w7, w8⟩, ?_⟩
        · have h : e < wDp X - 1 + 2 := h
          show (∃ t, Iv b po bs r n t N (upf (wRw X) (wDp X - 1 + 1) _ e) ∧ ∃ c, Rl c (upf (wRw X) (wDp X - 1 + 1) _ e)) ∧ sum5 (evm bs (upf (wRw X) (wDp X - 1 + 1) _ e)) + e ≤ 40 ∧ upf (upf (wNp X) (wDp X - 1) _) (wDp X - 1 + 1) 0 e ≤ wN b + n ∧ upf (upf (wNc X) (wDp X - 1) _) (wDp X - 1 + 1) 0 e ≤ 8
          by_cases c : e = wDp X - 1 + 1
          · subst c
            rw [upf_same, upf_same, upf_same]
            have s5 : sum5 (evm bs (mStp (wRw X (wDp X - 1)) q1 (wN b + n) (nI q2))) + (wDp X - 1 + 1) ≤ 40 := by omega
            exact ⟨⟨t + 1, s1, s2⟩, s5, by omega, by omega⟩
          · rw [upf_ne c]
            by_cases c2 : e = wDp X - 1
            · subst c2
              rw [g2, g2]
              exact ⟨⟨t, I, R⟩, he, by omega, by omega⟩
            · rw [g1 _ _ _ _ (by omega) c2, g1 _ _ _ _ (by omega) c2]
              exact w2 e (by omega)
        · have h : e + 1 < wDp X - 1 + 2 := h
          show 1 ≤ upf (upf (wNc X) (wDp X - 1) _) (wDp X - 1 + 1) 0 e
          by_cases c2 : e = wDp X - 1
          · subst c2
            rw [g2]
            omega
          · rw [g1 _ _ _ _ (by omega) c2]
            exact w3 e (by omega)
        · have e1 : upf (upf (wNp X) (wDp X - 1) q1) (wDp X - 1 + 1) 0 (wDp X - 1 + 2 - 1) = 0 := by
            rw [show wDp X - 1 + 2 - 1 = wDp X - 1 + 1 by omega, upf_same]
          have e2 : upf (upf (wNc X) (wDp X - 1) (q2 + 1)) (wDp X - 1 + 1) 0 (wDp X - 1 + 2 - 1) = 0 := by
            rw [show wDp X - 1 + 2 - 1 = wDp X - 1 + 1 by omega, upf_same]
          show _ ≤ 81 * wCt X + (if wDp X - 1 + 2 = 0 then 41 else if upf (upf (wNp X) (wDp X - 1) q1) (wDp X - 1 + 1) 0 (wDp X - 1 + 2 - 1) = 0 ∧ upf (upf (wNc X) (wDp X - 1) (q2 + 1)) (wDp X - 1 + 1) 0 (wDp X - 1 + 2 - 1) = 0 then 41 + (wDp X - 1 + 2 - 1) else 40 - (wDp X - 1 + 2 - 1))
          rw [if_neg (by omega), if_pos ⟨e1, e2⟩]
          omega
theorem WI_start (I : Iv b po bs r n t N m) (R : ∃ c, Rl c m) : WI b po bs r n N (wSt m) ∧ wPsi (wSt m) = 41 := by
  refine ⟨⟨by show 1 ≤ 41; omega, fun e h => ?_, fun e h => ?_, Nat.le_refl _, by show 0 ≤ 500; omega, by show 0 ≤ 40; omega, fun _ => rfl, fun h => ?_⟩, rfl⟩
  · have h : e < 1 := h
    have := dep_40 I
    exact ⟨⟨t, I, R⟩, by show sum5 (evm bs m) + e ≤ 40; omega, Nat.zero_le _, Nat.zero_le _⟩
  · have h : e + 1 < 1 := h
    omega
  · have h : 1 ≤ 0 := h
    omega
theorem WI_fin : ∀ k X, WI b po bs r n N X → WI b po bs r n N (wFin (wN b + n) N k X)
  | 0, X, W => W
  | k + 1, X, W => by
    unfold wFin
    by_cases c : wEx X
    · rw [if_pos c]
      exact W
    · rw [if_neg c]
      exact WI_fin k _ (WI_step W c).1
theorem wEx_psi (W : WI b po bs r n N X) (h : 41000 ≤ wPsi X) : wEx X := by
  have := psi_lo W.1
  exact Or.inr (by omega)
end RR
