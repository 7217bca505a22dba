/-! ALL WAYS: what holds of their walk besides -/
def WJ (b po bs r n t0 N : Nat) (X : WX) : Prop :=
  (∀ e, e < wDp X → GV b po bs r n (t0 + e) N (wRw X e)) ∧
  (1 ≤ wBd X → GV b po bs r n (t0 + wFd X) N (wFs X) ∧ lst (wFs X) = 5 ∧ ¬ hAt (hyM (wFs X)) N ∧ wFd X ≤ wLg X ∧ ∃ j, j < wCt X ∧ wFb X = nI j) ∧
  (wCt X = 0 → 1 ≤ wDp X ∧ wNp X (wDp X - 1) = 0 ∧ wNc X (wDp X - 1) = 0)
section WW
variable {b po bs r n t t0 N p kk j : Nat} {m : Sx} {X : WX}
theorem GV_step (G : GV b po bs r n t N m) (hp : p < 5) (hu : ¬ m.P p 0 = -1) (hkk : mChs m p = nI kk) (hk7 : kk ≤ 7) (hj : j < kk) : GV b po bs r n (t + 1) N (mStp m p (wN b + n) (nI j)) := by
  obtain ⟨I, R, V⟩ := G
  obtain ⟨s1, s2, -, -⟩ := st_ok I R hp hu hkk hk7 hj
  exact ⟨s1, s2, VI_step I R V hp hu (by omega) (by rw [hkk]; exact nI_lt hj (by omega))⟩
theorem GV_beg {v : Nat} {x : Int32} (G : GV b po bs r n t N m) (hp : p < wN b + n) (hu : m.P p 0 = -1) (hN7 : N < 7) (hv : v < r) (hx : p < wN b → x = nI v) : GV b po bs r n (t + 1) (N + 1) (mBeg m p x) := by
  obtain ⟨I, R, V⟩ := G
  obtain ⟨h1, h2⟩ := beg_ok I R hp hu hN7 hv hx
  exact ⟨h1, h2, VI_beg (v := v) I V⟩
theorem wOk_f {ok : Bool} (e : wOk m N = ok) (h : ¬ ok = true) : ¬ hAt (hyM m) N := by
  intro z
  apply h
  rw [← e]
  exact if_pos (b2c_t z)
theorem WJ_step (W : WI b po bs r n N X) (J : WJ b po bs r n t0 N X) (hx : ¬ wEx X) : WJ b po bs r n t0 N (wStep (wN b + n) N X) := by
  obtain ⟨w1, w2, w3, w4, w5, w6, w7, w8⟩ := W
  obtain ⟨j1, j2, j3⟩ := J
  have hd : ¬ wDp X = 0 := fun z => hx (Or.inl z)
  have hc : ¬ 500 ≤ wCt X := fun z => hx (Or.inr z)
  have G := j1 (wDp X - 1) (by omega)
  obtain ⟨-, he, hnp, hnc⟩ := w2 (wDp X - 1) (by omega)
  have I := G.1
  have R := G.2.1
  have h5 := np_le I.1.1
  unfold wStep
  by_cases hl : lst (wRw X (wDp X - 1)) = 5
  · rw [if_pos hl]
    generalize hok : wOk (wRw X (wDp X - 1)) N = ok
    refine ⟨fun e h => ?_, fun h => ?_, fun h => ?_⟩
    · have h : e < wDp X - 1 := h
      exact j1 e (by omega)
    · have h : 1 ≤ (if ok = true then wBd X else wBd X + 1) := h
      show GV b po bs r n (t0 + (if ok = true then wFd X else if wBd X = 0 then wDp X - 1 else wFd X)) N (if ok = true then wFs X else if wBd X = 0 then wRw X (wDp X - 1) else wFs X) ∧ lst (if ok = true then wFs X else if wBd X = 0 then wRw X (wDp X - 1) else wFs X) = 5 ∧
        ¬ hAt (hyM (if ok = true then wFs X else if wBd X = 0 then wRw X (wDp X - 1) else wFs X)) N ∧ (if ok = true then wFd X else if wBd X = 0 then wDp X - 1 else wFd X) ≤ (if wLg X < wDp X - 1 then wDp X - 1 else wLg X) ∧
        ∃ j, j < wCt X + 1 ∧ (if ok = true then wFb X else if wBd X = 0 then nI (wCt X) else wFb X) = nI j
      have old : 1 ≤ wBd X → GV b po bs r n (t0 + wFd X) N (wFs X) ∧ lst (wFs X) = 5 ∧ ¬ hAt (hyM (wFs X)) N ∧ wFd X ≤ (if wLg X < wDp X - 1 then wDp X - 1 else wLg X) ∧ ∃ j, j < wCt X + 1 ∧ wFb X = nI j := by
        intro z
        obtain ⟨a1, a2, a3, a4, j, a5, a6⟩ := j2 z
        refine ⟨a1, a2, a3, ?_, j, by omega, a6⟩
        split <;> omega
      by_cases c : ok = true
      · rw [if_pos c] at h
        simp only [if_pos c]
        exact old h
      · simp only [if_neg c]
        by_cases c2 : wBd X = 0
        · simp only [if_pos c2]
          refine ⟨G, hl, wOk_f hok c, ?_, wCt X, by omega, rfl⟩
          split <;> omega
        · simp only [if_neg c2]
          exact old (by omega)
    · have h : wCt X + 1 = 0 := h
      omega
  · rw [if_neg hl]
    rcases lst_of (m := wRw X (wDp X - 1)) with ⟨e, -⟩ | ⟨l1, l2, l3⟩
    · exact absurd e hl
    · cases hf : fnS (wRw X (wDp X - 1)) (wN b + n - wNp X (wDp X - 1)) (wNp X (wDp X - 1)) (wNc X (wDp X - 1)) with
      | none =>
        refine ⟨fun e h => ?_, j2, fun h => ?_⟩
        · have h : e < wDp X - 1 := h
          exact j1 e (by omega)
        · have h : wCt X = 0 := h
          obtain ⟨-, z1, z2⟩ := j3 h
          exfalso
          rw [z1, z2] at hf
          refine fnS_has (m := wRw X (wDp X - 1)) (wN b + n - 0) 0 ⟨lst (wRw X (wDp X - 1)), by omega, ?_, ?_⟩ hf
          · have := uw_np I l1 l2
            omega
          · obtain ⟨kk, -, -, e2, e3⟩ := chs_ix I R l1
            rw [e2]
            exact e3.mpr l2
      | some q =>
        obtain ⟨q1, q2⟩ := q
        obtain ⟨f1, f2, f3⟩ := fnS_some _ _ _ hf
        have q5 : q1 < 5 := by omega
        obtain ⟨kk, k7, ek, eix, hpos⟩ := chs_ix I R q5
        rw [eix] at f3
        have hu := hpos.mp (by omega)
        have G2 := GV_step G q5 hu ek k7 f3
        refine ⟨fun e h => ?_, j2, fun _ => ⟨by show 1 ≤ wDp X - 1 + 2; omega, ?_, ?_⟩⟩
        · have h : e < wDp X - 1 + 2 := h
          show GV b po bs r n (t0 + e) N (upf (wRw X) (wDp X - 1 + 1) _ e)
          by_cases c : e = wDp X - 1 + 1
          · subst c
            rw [upf_same]
            exact G2
          · rw [upf_ne c]
            exact j1 e (by omega)
        · show upf (upf (wNp X) (wDp X - 1) q1) (wDp X - 1 + 1) 0 (wDp X - 1 + 2 - 1) = 0
          rw [show wDp X - 1 + 2 - 1 = wDp X - 1 + 1 by omega, upf_same]
        · show upf (upf (wNc X) (wDp X - 1) (q2 + 1)) (wDp X - 1 + 1) 0 (wDp X - 1 + 2 - 1) = 0
          rw [show wDp X - 1 + 2 - 1 = wDp X - 1 + 1 by omega, upf_same]
theorem WJ_fin : ∀ k X, WI b po bs r n N X → WJ b po bs r n t0 N X → WJ b po bs r n t0 N (wFin (wN b + n) N k X)
  | 0, X, _, J => J
  | k + 1, X, W, J => by
    unfold wFin
    by_cases c : wEx X
    · rw [if_pos c]
      exact J
    · rw [if_neg c]
      exact WJ_fin k _ (WI_step W c).1 (WJ_step W J c)
theorem wFin_ex : ∀ k X, WI b po bs r n N X → 41000 ≤ wPsi X + k → wEx (wFin (wN b + n) N k X)
  | 0, X, W, h => wEx_psi (X := X) W (by omega)
  | k + 1, X, W, h => by
    unfold wFin
    by_cases c : wEx X
    · rw [if_pos c]
      exact c
    · rw [if_neg c]
      obtain ⟨W2, h2⟩ := WI_step W c
      exact wFin_ex k _ W2 (by omega)
theorem wFin_id {np : Nat} (h : wEx X) : ∀ k, wFin np N k X = X
  | 0 => rfl
  | k + 1 => by
    unfold wFin
    rw [if_pos h]
/-- all ways from a good state on -/
theorem wAll_ok (G : GV b po bs r n t N m) : WI b po bs r n N (wAll (wN b + n) N m) ∧ WJ b po bs r n t N (wAll (wN b + n) N m) ∧ 1 ≤ wCt (wAll (wN b + n) N m) ∧ (lst m = 5 → wCt (wAll (wN b + n) N m) = 1 ∧ wLg (wAll (wN b + n) N m) = 0) := by
  obtain ⟨W1, hpsi⟩ := WI_start G.1 G.2.1
  have J1 : WJ b po bs r n t N (wSt m) := by
    refine ⟨fun e h => ?_, fun h => ?_, fun _ => ⟨Nat.le_refl 1, rfl, rfl⟩⟩
    · have h : e < 1 := h
      have : e = 0 := by omega
      subst this
      exact G
    · have h : 1 ≤ 0 := h
      omega
  have W2 : WI b po bs r n N (wAll (wN b + n) N m) := WI_fin 41000 _ W1
  have J2 : WJ b po bs r n t N (wAll (wN b + n) N m) := WJ_fin 41000 _ W1 J1
  have E2 : wEx (wAll (wN b + n) N m) := wFin_ex 41000 _ W1 (by omega)
  refine ⟨W2, J2, ?_, fun hl => ?_⟩
  · by_cases c : wCt (wAll (wN b + n) N m) = 0
    · have := (J2.2.2 c).1
      rcases E2 with e | e <;> omega
    · omega
  · have hn : ¬ wEx (wSt m) := fun z => z.elim (fun z => absurd z (by show ¬ 1 = 0; omega)) (fun z => absurd z (by show ¬ 500 ≤ 0; omega))
    have e1 : wStep (wN b + n) N (wSt m) = wLf (wSt m) 0 m (wOk m N) := by
      unfold wStep
      exact if_pos hl
    have e2 : wAll (wN b + n) N m = wLf (wSt m) 0 m (wOk m N) := by
      show wFin (wN b + n) N (40999 + 1) (wSt m) = _
      unfold wFin
      rw [if_neg hn, e1]
      exact wFin_id (Or.inl rfl) _
    rw [e2]
    exact ⟨rfl, rfl⟩
end WW
