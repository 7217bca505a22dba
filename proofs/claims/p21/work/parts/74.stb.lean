/-! the step that begins an access -/
section FF
variable {b po ba r n t u N p j : Nat} {m c : Sx}
def bg0 (m : Sx) (p : Nat) : Sx := ((m.sP p 2 (nI 1)).sP p 6 (m.C (ix (mCel m p)))).sP p 7 (nI 0)
def cg0 (c : Sx) (p : Nat) : Sx := if c.P p 7 = nI 1 then addN (((c.sP p 2 (nI 1)).sP p 9 (nI 0)).sP p 10 (nI 0)) p (c.C (ix (c.P p 3))) else c.sP p 2 (nI 1)
theorem bg0_n {q k : Nat} (h : ¬ q = p) : (bg0 m p).P q k = m.P q k := by
  unfold bg0
  rw [sP_na h, sP_na h, sP_na h]
theorem bg0_k {k : Nat} (h2 : ¬ k = 2) (h6 : ¬ k = 6) (h7 : ¬ k = 7) : (bg0 m p).P p k = m.P p k := by
  unfold bg0
  rw [sP_nk h7, sP_nk h6, sP_nk h2]
theorem bg0_2 : (bg0 m p).P p 2 = nI 1 := by
  unfold bg0
  rw [sP_nk (by decide), sP_nk (by decide), sP_eq]
theorem bg0_6 : (bg0 m p).P p 6 = m.C (ix (mCel m p)) := by
  unfold bg0
  rw [sP_nk (by decide), sP_eq]
theorem bg0_7 : (bg0 m p).P p 7 = nI 0 := by
  unfold bg0
  rw [sP_eq]
theorem bg0_q {q k : Nat} (h2 : ¬ k = 2) (h6 : ¬ k = 6) (h7 : ¬ k = 7) : (bg0 m p).P q k = m.P q k := by
  by_cases e : q = p
  · subst e; exact bg0_k h2 h6 h7
  · exact bg0_n e
theorem bg0_w {q : Nat} : mWt (bg0 m p) q ↔ mWt m q := mWt_c (fun _ _ => rfl) (bg0_q (by decide) (by decide) (by decide)) (bg0_q (by decide) (by decide) (by decide))
theorem bg0_c {q : Nat} : mCel (bg0 m p) q = mCel m q := mCel_c (fun _ _ => rfl) (bg0_q (by decide) (by decide) (by decide)) (bg0_q (by decide) (by decide) (by decide)) (bg0_q (by decide) (by decide) (by decide)) rfl
theorem bg0_m {q : Nat} : mNm (bg0 m p) q = mNm m q := mNm_c (fun _ _ => rfl) (bg0_q (by decide) (by decide) (by decide)) (bg0_q (by decide) (by decide) (by decide)) (bg0_q (by decide) (by decide) (by decide)) (bg0_q (by decide) (by decide) (by decide)) (bg0_q (by decide) (by decide) (by decide)) rfl
theorem cg0_n {q k : Nat} (h : ¬ q = p) : (cg0 c p).P q k = c.P q k := by
  unfold cg0
  split
  · rw [addN_Pn h, sP_na h, sP_na h, sP_na h]
  · rw [sP_na h]
theorem cg0_k {k : Nat} (h2 : ¬ k = 2) (h9 : k < 9) : (cg0 c p).P p k = c.P p k := by
  unfold cg0
  split
  · rw [addN_P (by omega), sP_nk (by omega), sP_nk (by omega), sP_nk h2]
  · rw [sP_nk h2]
theorem cg0_2 : (cg0 c p).P p 2 = nI 1 := by
  unfold cg0
  split
  · rw [addN_P (by omega), sP_nk (by omega), sP_nk (by omega), sP_eq]
  · rw [sP_eq]
/-- the rows that a write, a read of p finds -/
theorem pv_at (I : Iv b po ba r n t N m) (hp : p < 5) (hu : ¬ m.P p 0 = -1) (hz : ¬ m.P p 5 = nI 0) (hw : mWt m p) : Ix (bnd b (t + 1)) (mNm m p) := by
  have ht := tm_le I.1
  obtain ⟨⟨ok, sh, h6, hN, hC0, hA0, hS, hE, hPI, ⟨-, hev⟩, huw, hK⟩, h5⟩ := I
  obtain ⟨⟨⟨kp, gt, e3, k3, k3b, e4, k4, k4b⟩, e6, o, ho, e7, e8⟩, -, hPU⟩ := hPI p hp
  obtain ⟨hpn, a, ha, e0, ea0, ea3, ea4, v, hv, ev1, ev2, -⟩ := hPU hu
  exact num_bnd ok sh ht hpn hv (val_b e0 (by omega : a < 1000) ev1) e3 k3 k3b e4 k4
theorem inj_at (I : Iv b po ba r n t N m) (hp : p < 5) (hu : ¬ m.P p 0 = -1) (hz : ¬ m.P p 5 = nI 0) (hba : ¬ ba = 2) (hw : mWt m p) {m' : Sx} (hH : ∀ k, k < 5 → m'.H k = m.H k) (h0 : m'.P p 0 = m.P p 0) (h1 : m'.P p 1 = m.P p 1) (h5' : m'.P p 5 = m.P p 5) (h2 : m'.P p 2 = nI 1) (hA : m'.A = m.A) : ¬ pend m' p (mCel m p) := by
  obtain ⟨⟨ok, sh, h6, hN, hC0, hA0, hS, hE, hPI, ⟨-, hev⟩, huw, hK⟩, h5⟩ := I
  obtain ⟨-, -, hPU⟩ := hPI p hp
  obtain ⟨hpn, a, ha, e0, ea0, ea3, ea4, v, hv, ev1, ev2, k, al, g, e1, e5, e2, hg2, hgb, hx⟩ := hPU hu
  have hx := hx.resolve_left (fun z => hz (by rw [e5, z.1]))
  obtain ⟨hk, -, hal, -⟩ := hx
  have hk := hk (by omega)
  have hal5 := acc_le (q := p) ok hv
  have hval := val_b e0 (by omega : a < 1000) ev1
  rintro ⟨-, i, i1, i2, i3, i4⟩
  rw [h1, h2, e1, ix_nI (by omega), ix_nI (by omega)] at i1
  rw [h5', e5, ix_nI (by omega)] at i2
  have s0 : ∀ x, (m'.sP p 1 x).P p 0 = (m.sP p 1 x).P p 0 := fun x => by rw [sP_nk (by decide), sP_nk (by decide), h0]
  have s5 : ∀ x, (m'.sP p 1 x).P p 5 = (m.sP p 1 x).P p 5 := fun x => by rw [sP_nk (by decide), sP_nk (by decide), h5']
  have w1 : mWt (m.sP p 1 (nI i)) p := (mWt_c (m := m.sP p 1 (nI i)) (m' := m'.sP p 1 (nI i)) hH (by rw [sP_eq, sP_eq]) (s5 _)).mp i3
  have c1 : mCel (m'.sP p 1 (nI i)) p = mCel (m.sP p 1 (nI i)) p := mCel_c (m := m.sP p 1 (nI i)) (m' := m'.sP p 1 (nI i)) hH (s0 _) (by rw [sP_eq, sP_eq]) (s5 _) (by show m'.A _ 1 = m.A _ 1; rw [hA])
  have w2 : mWt (m.sP p 1 (nI k)) p := (mWt_c (m := m) (m' := m.sP p 1 (nI k)) (fun _ _ => rfl) (by rw [sP_eq, e1]) (sP_nk (by decide))).mpr hw
  have c2 : mCel (m.sP p 1 (nI k)) p = mCel m p := mCel_c (m := m) (m' := m.sP p 1 (nI k)) (fun _ _ => rfl) (sP_nk (by decide)) (by rw [sP_eq, e1]) (sP_nk (by decide)) rfl
  have := wr_inj ok (fun z => hba (ok.2.2.2.2.2.2.2.2.2.2 z)) sh hpn hv hval e5 hal i2 hk w1 w2 (by rw [← c1, i4, c2])
  omega
theorem pend_at (I : Iv b po ba r n t N m) (hp : p < 5) (hu : ¬ m.P p 0 = -1) (hz : ¬ m.P p 5 = nI 0) (hw : mWt m p) (hg : m.P p 2 = nI 0) : pend m p (mCel m p) := by
  obtain ⟨⟨ok, sh, h6, hN, hC0, hA0, hS, hE, hPI, ⟨-, hev⟩, huw, hK⟩, h5⟩ := I
  obtain ⟨-, -, hPU⟩ := hPI p hp
  obtain ⟨hpn, a, ha, e0, ea0, ea3, ea4, v, hv, ev1, ev2, k, al, g, e1, e5, e2, hg2, hgb, hx⟩ := hPU hu
  have hx := hx.resolve_left (fun z => hz (by rw [e5, z.1]))
  obtain ⟨hk, -, hal, -⟩ := hx
  have hk := hk (by omega)
  have hal5 := acc_le (q := p) ok hv
  refine ⟨hu, k, ?_, ?_, ?_, ?_⟩
  · rw [e1, hg, ix_nI (by omega), ix_nI (by omega)]
    omega
  · rw [e5, ix_nI (by omega)]
    exact hk
  · exact (mWt_c (m := m) (m' := m.sP p 1 (nI k)) (fun _ _ => rfl) (by rw [sP_eq, e1]) (sP_nk (by decide))).mpr hw
  · exact mCel_c (m := m) (m' := m.sP p 1 (nI k)) (fun _ _ => rfl) (sP_nk (by decide)) (by rw [sP_eq, e1]) (sP_nk (by decide)) rfl
/-- the loop's beginning -/
theorem J_start (I : Iv b po ba r n t N m) (R : Rl c m) (hp : p < 5) (hu : ¬ m.P p 0 = -1) (hz : ¬ m.P p 5 = nI 0) (hg : m.P p 2 = nI 0) (hba : ¬ ba = 2) (hcel : ∃ d, d < 9 ∧ mCel m p = nI d) :
    ∃ yy : Nat → Nat, JS b (t + 1) (mWt m p) yy (mCel m p) p (bg0 m p) ∧ JJ b (t + 1) N (mWt m p) yy (mCel m p) p 0 (cg0 c p) (bg0 m p) := by
  have ht := tm_le I.1
  have I' := I
  obtain ⟨⟨ok, sh, h6, hN, hC0, hA0, hS, hE, hPI, ⟨-, hev⟩, huw, hK⟩, h5⟩ := I
  obtain ⟨⟨RH, RCe, RAc⟩, RPq⟩ := R
  have hbm := bnd_m (b := b) (show t ≤ t + 1 by omega)
  have e2or : ∀ q, q < 5 → (m.P q 2 = nI 0 ∨ m.P q 2 = nI 1) ∧ (m.P q 2 = nI 1 → ¬ m.P q 0 = -1 ∧ ¬ m.P q 5 = nI 0) := by
    intro q hq
    obtain ⟨-, g1, g2⟩ := hPI q hq
    by_cases z : m.P q 0 = -1
    · rw [(g1 z).2]
      exact ⟨Or.inl rfl, fun z => absurd z (by decide)⟩
    · obtain ⟨-, a, -, -, -, -, -, v, hv, -, -, k, al, g, -, f5, f2, f3, -, f4⟩ := g2 z
      have hal5 := acc_le (q := q) ok hv
      rw [f2, f5]
      refine ⟨?_, fun z2 => ⟨z, fun z3 => ?_⟩⟩
      · match g, f3 with
        | 0, _ => exact Or.inl rfl
        | 1, _ => exact Or.inr rfl
      · have g1 := (nI_eq (by omega) (by omega)).mp z2
        rcases f4 with f4 | f4
        · omega
        · have := f4.2.2.1
          have := (nI_eq (by omega) (by omega)).mp z3
          omega
  refine ⟨fun q => if ¬ q = p ∧ mBg m q ∧ mCel m q = mCel m p ∧ mWt m q then 1 else 0, ⟨?_, ?_, bg0_2, bg0_w, bg0_c, ?_, ?_⟩, ?_, ?_, ?_⟩
  · intro q hq
    by_cases e : q = p
    · subst e; rw [bg0_2]; exact Or.inr rfl
    · rw [bg0_n e]; exact (e2or q hq).1
  · intro q hq z
    rw [bg0_q (by decide) (by decide) (by decide), bg0_q (by decide) (by decide) (by decide)]
    by_cases e : q = p
    · subst e; exact ⟨hu, hz⟩
    · rw [bg0_n e] at z; exact (e2or q hq).2 z
  · intro q hq z z2
    rw [bg0_m]
    by_cases e : q = p
    · subst e; exact pv_at I' hp hu hz (bg0_w.mp z2)
    · rw [bg0_n e] at z
      obtain ⟨y1, y2⟩ := (e2or q hq).2 z
      exact pv_at I' hq y1 y2 (bg0_w.mp z2)
  · intro q hq e z z2 z3
    unfold mBg at z
    rw [bg0_n e, bg0_n e] at z
    exact if_pos ⟨e, z, by rw [bg0_c] at z2; exact z2, bg0_w.mp z3⟩
  · intro q hq
    by_cases e : q = p
    · subst e
      obtain ⟨⟨a0, a1, a2, a4⟩, rb, rc, rd⟩ := RPq q hp
      obtain ⟨rc5, -, rc3⟩ := rc.2 hu
      obtain ⟨rcc, rc7, rcn⟩ := rc3 hz
      refine ⟨⟨?_, ?_, ?_, ?_⟩, fun _ => ?_, ⟨fun z => ?_, fun _ => ⟨?_, fun z => ?_, fun _ => ⟨?_, ?_, fun z => ?_⟩⟩⟩, fun _ _ z => ?_⟩
      · rw [cg0_k (by decide) (by decide), bg0_k (by decide) (by decide) (by decide)]; exact a0
      · rw [cg0_k (by decide) (by decide), bg0_k (by decide) (by decide) (by decide)]; exact a1
      · rw [cg0_2, bg0_2]
      · rw [cg0_k (by decide) (by decide), bg0_k (by decide) (by decide) (by decide)]; exact a4
      · rw [cg0_k (by decide) (by decide), bg0_k (by decide) (by decide) (by decide), bg0_k (by decide) (by decide) (by decide)]; exact rb hu
      · rw [bg0_k (by decide) (by decide) (by decide)] at z; exact absurd z hu
      · rw [cg0_k (by decide) (by decide), bg0_k (by decide) (by decide) (by decide)]; exact rc5
      · rw [bg0_k (by decide) (by decide) (by decide)] at z; exact absurd z hz
      · rw [cg0_k (by decide) (by decide), bg0_c]; exact rcc
      · rw [cg0_k (by decide) (by decide), rc7]; exact b2_congr (not_congr bg0_w.symm)
      · rw [cg0_k (by decide) (by decide), bg0_m]; exact rcn (bg0_w.mp z)
      · have nw : ¬ mWt m q := fun z2 => z (bg0_w.mpr z2)
        have c7 : c.P q 7 = nI 1 := by rw [rc7]; exact if_pos nw
        obtain ⟨d, hd, ed⟩ := hcel
        have hl : mDd (bg0 m q) q = [m.C d] := by
          unfold mDd
          rw [bg0_7, ix_nI (by omega), ddl_1]
          have : mNum (bg0 m q) q 0 = m.C (ix (mCel m q)) := (if_pos rfl).trans bg0_6
          rw [this, ed, ix_nI (by omega)]
        have cv : c.C (ix (c.P q 3)) = m.C d := by
          rw [rcc, ed, ix_nI (by omega)]
          exact RCe d hd
        have l1 := addN_10 (c := ((c.sP q 2 (nI 1)).sP q 9 (nI 0)).sP q 10 (nI 0)) (i := q) (x := m.C d) (l := []) sP_eq (by decide) (fun j y hy => by cases hy)
        rw [bg0_7, hl]
        unfold cg0
        rw [if_pos c7, cv]
        refine ⟨?_, ?_⟩
        · rw [addN_P (by omega), sP_nk (by omega), sP_eq]
          rfl
        · exact l1
    · exact RP_c (RPq q hq) (fun k => cg0_n e) (fun k => bg0_n e) (fun _ _ => rfl) rfl
  · intro q hq
    by_cases e : q = p
    · subst e
      exact ⟨0, by omega, bg0_7, fun i hi => by omega⟩
    · obtain ⟨⟨-, e6, o, ho, e7, e8⟩, -, -⟩ := hPI q hq
      exact ⟨o, ho, by rw [bg0_n e]; exact e7, fun i hi => by rw [bg0_n e]; exact Ix_m hbm (e8 i hi)⟩
  · intro q hq z1 z2 z3
    rw [bg0_q (by decide) (by decide) (by decide)] at z1
    have pd : ∀ i, i < 5 → ∀ d, pend (bg0 m p) i d → pend m i d := by
      intro i hi d hd
      by_cases e : i = p
      · subst e
        refine pend_s (m := m) (m' := bg0 m i) (fun _ _ => rfl) (bg0_k (by decide) (by decide) (by decide)) (bg0_k (by decide) (by decide) (by decide)) ?_ rfl hd
        rw [bg0_2, bg0_k (by decide) (by decide) (by decide), hg, ix_nI (by omega), ix_nI (by omega)]
        omega
      · exact pend_c (m := m) (m' := bg0 m p) (fun _ _ => rfl) (fun k _ => bg0_n e) rfl hd
    have nopend : ∀ i, i < 5 → ¬ i = p → mBg m i → mWt m i → ¬ pend (bg0 m p) i (mCel m i) := by
      intro i hi e hb hw
      obtain ⟨y1, y2⟩ := (e2or i hi).2 hb.2
      exact inj_at I' hi y1 y2 hba hw (m' := bg0 m p) (fun _ _ => rfl) (bg0_n e) (bg0_n e) (bg0_n e) (by rw [bg0_n e]; exact hb.2) rfl
    by_cases e : q = p
    · subst e
      have nw : ¬ mWt m q := fun z => z3 (bg0_w.mpr z)
      refine ⟨fun i => if i = q then 0 else uwm m i - (if ¬ i = q ∧ mBg m i ∧ mCel m i = mCel m q ∧ mWt m i then 1 else 0), fun i hi ei hd => ?_, sum5 (fun i => if ¬ i = q ∧ mBg m i ∧ mCel m i = mCel m q ∧ mWt m i then 1 else 0), ?_, fun _ => sum5_le (fun i hi => ?_), fun z => absurd rfl z⟩
      · rw [bg0_c] at hd
        dsimp only
        rw [if_neg ei]
        have h1 := pd i hi _ hd
        have uw1 : uwm m i = 1 := if_neg h1.1
        rw [uw1, if_neg (fun z => nopend i hi ei z.2.1 z.2.2.2 (by rw [z.2.2.1]; exact hd))]
        omega
      · rw [bg0_7, ix_nI (by omega)]
        have hh := sum5_eq (f := uwm m) (f' := fun i => if i = q then 0 else uwm m i) q hp (fun i hi ei => if_neg ei)
        rw [if_pos rfl] at hh
        have uwq : uwm m q = 1 := if_neg hu
        have hs : sum5 (fun i => if i = q then 0 else uwm m i - (if ¬ i = q ∧ mBg m i ∧ mCel m i = mCel m q ∧ mWt m i then 1 else 0)) + sum5 (fun i => if ¬ i = q ∧ mBg m i ∧ mCel m i = mCel m q ∧ mWt m i then 1 else 0) ≤ sum5 (fun i => if i = q then 0 else uwm m i) := by
          have add : ∀ f g : Nat → Nat, sum5 f + sum5 g = sum5 (fun i => f i + g i) := by
            intro f g
            unfold sum5
            dsimp only
            omega
          rw [add]
          refine sum5_le (fun i hi => ?_)
          by_cases ei : i = q
          · rw [if_pos ei, if_pos ei, if_neg (fun z => z.1 ei)]
            exact Nat.le_refl _
          · rw [if_neg ei, if_neg ei]
            by_cases c1 : ¬ i = q ∧ mBg m i ∧ mCel m i = mCel m q ∧ mWt m i
            · have uw1 : uwm m i = 1 := if_neg c1.2.1.1
              rw [if_pos c1, uw1]
              exact Nat.le_refl _
            · rw [if_neg c1]
              omega
        omega
      · rw [if_pos (Nat.zero_le _)]
        exact Nat.le_refl _
    · rw [bg0_n e] at z2
      obtain ⟨x, hx, hs⟩ := hK q hq z1 z2 (fun z => z3 (bg0_w.mpr z))
      by_cases cw : mWt m p ∧ mCel m q = mCel m p
      · have hxp : 1 ≤ x p := hx p hp (fun z => e z.symm) (by rw [cw.2]; exact pend_at I' hp hu hz cw.1 hg)
        refine ⟨fun i => if i = p then x p - 1 else x i, fun i hi ei hd => ?_, 1, ?_, fun z => absurd z e, fun _ _ _ _ => Nat.le_refl _⟩
        · rw [bg0_c] at hd
          by_cases ep : i = p
          · subst ep
            rw [cw.2] at hd
            exact absurd hd (inj_at I' hi hu hz hba cw.1 (m' := bg0 m i) (fun _ _ => rfl) (bg0_k (by decide) (by decide) (by decide)) (bg0_k (by decide) (by decide) (by decide)) (bg0_k (by decide) (by decide) (by decide)) bg0_2 rfl)
          · dsimp only
            rw [if_neg ep]
            exact hx i hi ei (pd i hi _ hd)
        · rw [bg0_n e]
          have hh := sum5_eq (f := x) (f' := fun i => if i = p then x p - 1 else x i) p hp (fun i hi ei => if_neg ei)
          rw [if_pos rfl] at hh
          omega
      · refine ⟨x, fun i hi ei hd => hx i hi ei (pd i hi _ (by rw [bg0_c] at hd; exact hd)), 0, by rw [bg0_n e]; omega, fun z => absurd z e, fun _ z _ z4 => ?_⟩
        rw [bg0_c] at z4
        exact absurd ⟨z, z4⟩ cw
theorem itr_stop {f : Sx → Nat → Sx} {s : Sx} {k : Nat} : ∀ d, (∀ j, k ≤ j → j < k + d → f (itr f j s) j = itr f j s) → itr f (k + d) s = itr f k s
  | 0, _ => rfl
  | d + 1, h => by
    have ih := itr_stop (f := f) (s := s) (k := k) d (fun j h1 h2 => h j h1 (by omega))
    rw [← Nat.add_assoc, itr, h (k + d) (by omega) (by omega)]
    exact ih
theorem step_b (I : Iv b po ba r n t N m) (R : Rl c m) (hp : p < 5) (hu : ¬ m.P p 0 = -1) (hz : ¬ m.P p 5 = nI 0) (hg : m.P p 2 = nI 0) (hba : ¬ ba = 2) :
    Iv b po ba r n (t + 1) N ((mBgA m p (wN b + n)).sH 5 ((mBgA m p (wN b + n)).H 5 + nI 1)) ∧ Rl (tick (bgA c p)) ((mBgA m p (wN b + n)).sH 5 ((mBgA m p (wN b + n)).H 5 + nI 1)) ∧ ¬ (bgA c p).P p 5 ≤ (bgA c p).P p 1 ∧ (mBgA m p (wN b + n)).P p 0 = m.P p 0 ∧
    (∀ j, j < wN b + n → ∀ q, q < 5 → ∃ o, o < 10 ∧ (itr (mBgB p (mCel m p) (mWt m p)) j (bg0 m p)).P q 7 = nI o) := by
  have ht := tm_le I.1
  have I' := I
  have R' := R
  obtain ⟨⟨ok, sh, h6, hN, hC0, hA0, hS, hE, hPI, ⟨-, hev⟩, huw, hK⟩, h5⟩ := I
  obtain ⟨-, -, hPU⟩ := hPI p hp
  obtain ⟨hpn, a, ha, e0, ea0, ea3, ea4, v, hv, ev1, ev2, k, al, g, e1, e5, e2, hg2, hgb, hx⟩ := hPU hu
  have hx := hx.resolve_left (fun z => hz (by rw [e5, z.1]))
  obtain ⟨hk, -, hal, -⟩ := hx
  have hk := hk (by omega)
  have hal5 := acc_le (q := p) ok hv
  have hval := val_b e0 (by omega : a < 1000) ev1
  have hcel := cel_b ok sh hpn hv hval e1 e5 hk hal
  obtain ⟨yy, js, jj⟩ := J_start I' R' hp hu hz hg hba ⟨_, hcel.2, hcel.1⟩
  have J := fun j hj => J_loop (hd := inferInstance) hp hN js jj j hj
  have hnp := np_le ok
  have hbm := bnd_m (b := b) (show t ≤ t + 1 by omega)
  obtain ⟨⟨RH, RCe, RAc⟩, RPq⟩ := R
  obtain ⟨⟨a0, a1, a2, a4⟩, rb, rc, rd⟩ := RPq p hp
  obtain ⟨rc5, -, rc3⟩ := rc.2 hu
  obtain ⟨rcc, rc7, rcn⟩ := rc3 hz
  have ecA : bgA c p = itr (bgB p (mCel m p) (b2 (¬ mWt m p))) 5 (cg0 c p) := by
    unfold bgA cg0
    rw [rcc, rc7]
  have emA : mBgA m p (wN b + n) = itr (mBgB p (mCel m p) (mWt m p)) 5 (bg0 m p) := by
    have hstop := itr_stop (f := mBgB p (mCel m p) (mWt m p)) (s := bg0 m p) (k := wN b + n) (5 - (wN b + n)) (fun j h1 h2 => by
      have hj5 : j < 5 := by omega
      refine if_neg (fun z => ?_)
      have hz0 := z.2.1.1
      rw [mIt_P (by omega), bg0_q (by decide) (by decide) (by decide)] at hz0
      have := ((hPI j hj5).2.2 hz0).1
      omega)
    rw [show wN b + n + (5 - (wN b + n)) = 5 by omega] at hstop
    rw [hstop]
    rfl
  obtain ⟨⟨jR, jO, jK⟩, -⟩ := J 5 (Nat.le_refl _)
  rw [ecA, emA]
  have mH : (itr (mBgB p (mCel m p) (mWt m p)) 5 (bg0 m p)).H = m.H := by rw [mIt_H]; rfl
  have mC : (itr (mBgB p (mCel m p) (mWt m p)) 5 (bg0 m p)).C = m.C := by rw [mIt_C]; rfl
  have mA : (itr (mBgB p (mCel m p) (mWt m p)) 5 (bg0 m p)).A = m.A := by rw [mIt_A]; rfl
  have mP : ∀ q k, k < 7 → (itr (mBgB p (mCel m p) (mWt m p)) 5 (bg0 m p)).P q k = (bg0 m p).P q k := fun q k h => mIt_P h 5
  have mPq : ∀ q k, k < 6 → ¬ k = 2 → (itr (mBgB p (mCel m p) (mWt m p)) 5 (bg0 m p)).P q k = m.P q k := fun q k h h2 => (mP q k (by omega)).trans (bg0_q h2 (by omega) (by omega))
  have cH : (itr (bgB p (mCel m p) (b2 (¬ mWt m p))) 5 (cg0 c p)).H = c.H := by
    rw [itrB_H]
    unfold cg0
    split
    · rw [addN_H]; rfl
    · rfl
  have cC : (itr (bgB p (mCel m p) (b2 (¬ mWt m p))) 5 (cg0 c p)).C = c.C := by
    rw [itrB_C]
    unfold cg0
    split
    · rw [addN_C]; rfl
    · rfl
  have cA : (itr (bgB p (mCel m p) (b2 (¬ mWt m p))) 5 (cg0 c p)).A = c.A := by
    rw [itrB_A]
    unfold cg0
    split
    · rw [addN_A]; rfl
    · rfl
  have cP : ∀ k, k < 9 → ¬ k = 2 → (itr (bgB p (mCel m p) (b2 (¬ mWt m p))) 5 (cg0 c p)).P p k = c.P p k := fun k h h2 => (itrB_P h 5).trans (cg0_k h2 h)
  have hO : ∀ j, j < wN b + n → ∀ q, q < 5 → ∃ o, o < 10 ∧ (itr (mBgB p (mCel m p) (mWt m p)) j (bg0 m p)).P q 7 = nI o := by
    intro j hj q hq
    obtain ⟨⟨-, jO, -⟩, -⟩ := J j (by omega)
    obtain ⟨o, ho, e, -⟩ := jO q hq
    exact ⟨o, by omega, e⟩
  generalize itr (mBgB p (mCel m p) (mWt m p)) 5 (bg0 m p) = m1 at jR jO jK mH mC mA mP mPq ⊢
  generalize itr (bgB p (mCel m p) (b2 (¬ mWt m p))) 5 (cg0 c p) = c1 at jR cH cC cA cP ⊢
  have R1 : Rl c1 m1 := ⟨⟨fun k hk => by rw [cH, mH]; exact RH k hk, fun i hi => by rw [cC, mC]; exact RCe i hi, fun y => by rw [cA, mA]; exact RAc y⟩, jR⟩
  have P2n : ∀ q, ¬ q = p → m1.P q 2 = m.P q 2 := fun q h => (mP q 2 (by omega)).trans (bg0_n h)
  have P2p : m1.P p 2 = nI 1 := (mP p 2 (by omega)).trans bg0_2
  have g0 : g = 0 := by
    rw [e2] at hg
    exact (nI_eq (by omega) (by omega)).mp hg
  have PUp : PU b po ba r n N True m1 p := ⟨hpn, a, ha, (mPq p 0 (by omega) (by omega)).trans e0, by rw [mA]; exact ea0, by rw [mA]; exact ea3, by rw [mA]; exact ea4, v, hv, by rw [mA]; exact ev1, by rw [mA]; exact ev2, k, al, 1, (mPq p 1 (by omega) (by omega)).trans e1, (mPq p 5 (by omega) (by omega)).trans e5, P2p, by omega, fun z => absurd z hba, Or.inr ⟨fun _ => hk, by omega, hal, fun _ => hk⟩⟩
  have I1 : Iv0 b po ba r n t (t + 1) N p m1 := by
    refine ⟨ok, ⟨by rw [mH]; exact sh.1, by rw [mH]; exact sh.2.1, by rw [mH]; exact sh.2.2.1, by rw [mH]; exact sh.2.2.2.1, by rw [mH]; exact sh.2.2.2.2⟩, by rw [mH]; exact h6, hN, fun d hd => by rw [mC]; exact Ix_m hbm (hC0 d hd), ?_, ?_, ?_, ?_, ⟨by omega, ?_⟩, ?_, ?_⟩
    · intro y hy
      obtain ⟨q, hq, f0, f1, f2, s, hs, f3, f4⟩ := hA0 y hy
      rw [← mPq q 0 (by omega) (by omega)] at f4
      refine ⟨q, hq, by rw [mA]; exact f0, by rw [mA]; exact f1, by rw [mA]; exact f2, s, hs, by rw [mA]; exact f3, by rw [mA]; exact f4⟩
    · intro y hy z hzy hz
      rw [mA] at hz
      have h := hS y hy z hzy hz
      unfold hAh hyM Hy.E Hy.S at h ⊢
      rw [mA]
      exact h
    · rw [mA]; exact hE
    · intro q hq
      obtain ⟨⟨⟨kp, gt, f3, k3, k3b, f4, k4, k4b⟩, f6, -⟩, g2, g3⟩ := hPI q hq
      obtain ⟨o, ho, f7, f8⟩ := jO q hq
      refine ⟨⟨⟨kp, gt, (mPq q 3 (by omega) (by omega)).trans f3, by omega, fun z1 z2 => by have := k3b z1 z2; omega, (mPq q 4 (by omega) (by omega)).trans f4, by omega, fun z1 z2 z3 z4 => ?_⟩, ?_, o, ho, f7, f8⟩, fun z => ?_, fun z => ?_⟩
      · rw [mPq q 0 (by omega) (by omega)] at z3
        rw [mPq q 1 (by omega) (by omega)] at z4
        exact k4b z1 z2 z3 z4
      · rw [mP q 6 (by omega)]
        by_cases e : q = p
        · subst e
          rw [bg0_6, hcel.1, ix_nI (by omega)]
          exact Ix_m hbm (hC0 _ (by omega))
        · rw [bg0_n e]
          exact Ix_m hbm f6
      · rw [mPq q 0 (by omega) (by omega)] at z
        by_cases e : q = p
        · subst e; exact absurd z hu
        · rw [mPq q 1 (by omega) (by omega), P2n q e]; exact g2 z
      · rw [mPq q 0 (by omega) (by omega)] at z
        by_cases e : q = p
        · subst e
          obtain ⟨f1, a2, f2, f3, f4, f5, f6, v2, f7, f8, f9, k2, al2, g2', f10, f11, f12, f13, f14, f15⟩ := PUp
          exact ⟨f1, a2, f2, f3, f4, f5, f6, v2, f7, f8, f9, k2, al2, g2', f10, f11, f12, f13, f14, f15.imp id (fun ⟨f16, f17⟩ => ⟨fun _ => f16 trivial, f17⟩)⟩
        · obtain ⟨f1, a2, f2, f3, f4, f5, f6, v2, f7, f8, f9, k2, al2, g2', f10, f11, f12, f13, f14, f15⟩ := g3 z
          exact ⟨f1, a2, f2, (mPq q 0 (by omega) (by omega)).trans f3, by rw [mA]; exact f4, by rw [mA]; exact f5, by rw [mA]; exact f6, v2, f7, by rw [mA]; exact f8, by rw [mA]; exact f9, k2, al2, g2', (mPq q 1 (by omega) (by omega)).trans f10, (mPq q 5 (by omega) (by omega)).trans f11, (P2n q e).trans f12, f13, f14, f15.imp id (fun ⟨f16, f17⟩ => ⟨fun _ => f16 (by omega), f17⟩)⟩
    · have hs := sum5_eq (f := evm ba m) (f' := evm ba m1) p hp (fun q hq e => evm_c (mPq q 0 (by omega) (by omega)) (mPq q 1 (by omega) (by omega)) (P2n q e) (mPq q 5 (by omega) (by omega)))
      have e1' : evm ba m1 p + 1 ≤ evm ba m p := by
        unfold evm
        rw [mPq p 0 (by omega) (by omega), mPq p 1 (by omega) (by omega), mPq p 5 (by omega) (by omega), P2p, hg, e1, e5, ix_nI (by omega), ix_nI (by omega), ix_nI (by omega), ix_nI (by omega)]
        simp only [hu, hba, show ¬ al = 0 by omega, if_false]
        omega
      omega
    · have hs : sum5 (uwm m1) ≤ sum5 (uwm m) := sum5_le (fun q hq => by rw [uwm_c (mPq q 0 (by omega) (by omega))]; omega)
      omega
    · intro q hq z1 z2 z3
      obtain ⟨x, hx, e, he, -⟩ := jK q hq z1 z2 z3
      exact ⟨x, hx, by omega⟩
  refine ⟨con_I I1 hp (by rw [mH]; exact h5) (fun _ => PUp), con_R R1, ?_, mPq p 0 (by omega) (by omega), hO⟩
  rw [cP 5 (by omega) (by omega), cP 1 (by omega) (by omega), rc5, a1, e5, e1]
  exact nI_ge hk (by omega)
end FF
