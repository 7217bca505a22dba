/-! TWO HOUSES: what is true of the one is true of the other, the cells exchanged -/
def rfB (sh : Shp) : Prop := ∀ i p, sh.2.2 i = some p → p ≤ 85
theorem rfB_ite {c : Prop} {dc : Decidable c} {a b : Shp} (h : rfB a) (h2 : rfB b) : rfB (if c then a else b) := by
  split
  · exact h
  · exact h2
theorem rfB_0 {a b : Nat} : rfB (a, b, f0) := fun i p h => by cases h
theorem rfB_u {a b k v : Nat} {f : Nat → Option Nat} (hv : v ≤ 85) (h : rfB (a, b, f)) : rfB (a, b, upf f k (some v)) := by
  intro i p hp
  have hp : upf f k (some v) i = some p := hp
  unfold upf at hp
  split at hp
  · cases hp
    exact hv
  · exact h i p hp
theorem rfB_r {a b s n : Nat} (h : s + n ≤ 86) : rfB (a, b, fun i => if i < n then some (s + i) else none) := by
  intro i p hp
  have hp : (if i < n then some (s + i) else none) = some p := hp
  split at hp
  · cases hp
    omega
  · cases hp
theorem S1_B (j : Nat) : rfB (S1 j) := by
  unfold S1
  repeat' apply rfB_ite
  all_goals (repeat' first
    | exact rfB_0
    | exact rfB_r (by decide)
    | refine rfB_u (by decide) ?_)
theorem S1_ref {j i p : Nat} (h : (S1 j).2.2 i = some p) : p ≤ 85 := S1_B j i p h
theorem reS_ext {f g : Nat → Nat} {sh : Shp} (h : ∀ i p, sh.2.2 i = some p → f p = g p) : reS f sh = reS g sh := by
  unfold reS
  refine congrArg (fun q => (sh.1, sh.2.1, q)) (funext fun i => ?_)
  cases e : sh.2.2 i with
  | none => rfl
  | some p => exact congrArg some (h i p e)
theorem reS_id {f : Nat → Nat} {sh : Shp} (h : ∀ i p, sh.2.2 i = some p → f p = p) : reS f sh = sh := by
  unfold reS
  refine congrArg (fun q => (sh.1, sh.2.1, q)) (funext fun i => ?_)
  cases e : sh.2.2 i with
  | none => rfl
  | some p => exact congrArg some (h i p e)
theorem up_sw {p : Nat} (h : p ≤ 85) : sw p = up p := by
  have a := sw_cs p
  have b := up_cs p
  omega
theorem SF_sw {L : Nat} : (fun j => reS sw (SF L (sw j))) = SF L := by
  funext j
  have hj := sw_cs j
  unfold SF
  rcases hj with ⟨c, e⟩ | ⟨c1, c2, e⟩ | ⟨c1, c2, e⟩ | ⟨c, e⟩
  · rw [if_pos e, if_pos c]
    rfl
  · rw [if_neg (by omega), if_neg (by omega), if_pos (by omega), if_neg (by omega), if_pos c2, show sw j - 85 = j by omega]
    have e1 : reS sw (reS up (S1 j)) = reS (fun p => sw (up p)) (S1 j) := by
      unfold reS
      refine congrArg (fun q => ((S1 j).1, (S1 j).2.1, q)) (funext fun i => ?_)
      show (((S1 j).2.2 i).map up).map sw = ((S1 j).2.2 i).map (fun p => sw (up p))
      cases (S1 j).2.2 i <;> rfl
    rw [e1]
    exact reS_id (fun i p hp => by
      rw [← up_sw (S1_ref hp), sw_sw])
  · rw [if_neg (by omega), if_pos (by omega), if_neg (by omega), if_neg (by omega), if_pos c2, e]
    exact reS_ext (fun i p hp => up_sw (S1_ref hp))
  · rw [if_neg (by omega), if_neg (by omega), if_neg (by omega), if_neg (by omega), if_neg (by omega), if_neg (by omega)]
    rfl
theorem reH_sw {L : Nat} {g : Nat → Nat → Int32} : reH Msw (HP L g) = HP L (fun j => g (sw j)) := by
  show ((170 + 0, 0, 0, (fun j => reS sw (SF L (sw j))), fun j => g (sw j)) : Hp) = _
  rw [SF_sw]
  rfl
abbrev sG (g : Nat → Nat → Int32) : Nat → Nat → Int32 := fun j => g (sw j)
theorem sG_sG {g : Nat → Nat → Int32} : sG (sG g) = g := funext fun j => congrArg g (sw_sw j)
/-- nothing but numbers -/
def Ints (As : List Value) : Prop := ∀ f : Nat → Nat, As.map (reV f) = As
theorem KK_fr {s : Hs} {g g' : Nat → Nat → Int32} (h : ∀ i, 1 ≤ i → i ≤ 85 → g' i = g i) (w : KK s g) : KK s g' := by
  obtain ⟨⟨b, po, bs, r, n⟩, t, N, m, k, hs, kp, im, is, sd⟩ := s
  obtain ⟨c, hc, ic, ba, bv, R, H, HM, W, T⟩ := w
  exact ⟨c, hc, ic, ba, bv, R, H, HM, KW_7 W (h 7 (by omega) (by omega)) (h 53 (by omega) (by omega)), KT_fr T (fun i hi => h i (by unfold ktI at hi; omega) (by unfold ktI at hi; omega))⟩
/-- the first house is s, the second one u -/
def Tw (s u : Hs) (g : Nat → Nat → Int32) : Prop := KK s g ∧ KK u (sG g)
theorem Tw_1 {L y : Nat} {As : List Value} {s s' u : Hs} {v : Int32} {g : Nat → Nat → Int32} (o : Op L y As s v s') (w : Tw s u g) : ∃ g', Den y (.ref 1 :: As) (HP L g) = some (some v, HP L g') ∧ Tw s' u g' ∧ g' 0 = g 0 := by
  obtain ⟨g', d, k, F⟩ := o g w.1
  refine ⟨g', d, ⟨k, KK_fr (fun i h1 h2 => ?_) w.2⟩, F 0 (Or.inl rfl)⟩
  show g' (sw i) = g (sw i)
  exact F (sw i) (Or.inr (by rw [sw_lo h1 h2]; omega))
theorem Tw_2 {L y : Nat} {As : List Value} {s u u' : Hs} {v : Int32} {g : Nat → Nat → Int32} (hA : Ints As) (o : Op L y As u v u') (w : Tw s u g) : ∃ g', Den y (.ref 86 :: As) (HP L g) = some (some v, HP L g') ∧ Tw s u' g' ∧ g' 0 = g 0 := by
  obtain ⟨g1, d, k, F⟩ := o (sG g) w.2
  have d2 := (Den_re ren_sw (ht y + 1) y (Nat.lt_succ_self _) _ _ _ _ (show 170 ≤ 170 from Nat.le_refl _) d).2
  rw [reH_sw, reH_sw] at d2
  have e1 : (fun j => sG g (sw j)) = g := sG_sG
  rw [e1] at d2
  have e2 : reL Msw (.ref 1 :: As) = .ref 86 :: As := by
    show .ref (sw 1) :: As.map (reV sw) = _
    rw [hA sw]
    rfl
  rw [e2] at d2
  refine ⟨sG g1, d2, ⟨KK_fr (fun i h1 h2 => ?_) w.1, by rw [sG_sG]; exact k⟩, ?_⟩
  · show g1 (sw i) = g i
    rw [F (sw i) (Or.inr (by rw [sw_lo h1 h2]; omega))]
    show g (sw (sw i)) = g i
    rw [sw_sw]
  · show g1 (sw 0) = g 0
    exact F 0 (Or.inl rfl)
