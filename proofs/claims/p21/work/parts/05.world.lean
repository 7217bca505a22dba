/-! THE WORLD OF THE SMALL MACHINE over the machine's heap: cell k at address base + k - 1, cell 0 the script -/
def ad (b base : Nat) : Nat → Nat := fun p => if p = 0 then b else base + (p - 1)
theorem ad_succ (b base k : Nat) : ad b base (k + 1) = base + k := by simp [ad]
theorem ad_zero (b base : Nat) : ad b base 0 = b := by simp [ad]
def cv (b base : Nat) : Value → Value
  | .ref k => .ref (ad b base k)
  | v => v
theorem cv_cat (b base : Nat) (v : Value) : (cv b base v).category = v.category := by cases v <;> rfl
theorem cv_cats (b base : Nat) (l : List Value) : ((l.map (cv b base)).map fun v => v.category) = l.map fun v => v.category := by
  rw [List.map_map]
  apply List.map_congr_left
  intro v _
  exact cv_cat b base v
theorem cv_rv (b base : Nat) (o : Option Nat) : cv b base (rv o) = va_rf (o.map (ad b base)) := by cases o <;> rfl
def cE (b base : Nat) (cI cII : ClassId) (sh : Shp) (f : Nat → Int32) : va_E :=
  if sh.1 = 0 then .inl (cI, sh.2.1, .inl f)
  else if sh.1 = 1 then .inl (cII, sh.2.1, .inr (.inr (.inr (.inr (fun j => (sh.2.2 j).map (ad b base))))))
  else .inr (sh.1 - 2, (List.range (cNf (sh.1 - 2))).map (fun k => if isI (sh.1 - 2) k then .int (f k) else va_rf ((sh.2.2 k).map (ad b base))))
theorem cE_arr {b base : Nat} {cI cII : ClassId} {sh : Shp} {f : Nat → Int32} (h : sh.1 = 0) : cE b base cI cII sh f = .inl (cI, sh.2.1, .inl f) := if_pos h
theorem cE_rows {b base : Nat} {cI cII : ClassId} {sh : Shp} {f : Nat → Int32} (h : sh.1 = 1) : cE b base cI cII sh f = .inl (cII, sh.2.1, .inr (.inr (.inr (.inr (fun j => (sh.2.2 j).map (ad b base)))))) := by
  unfold cE
  rw [if_neg (by omega), if_pos h]
theorem cE_obj {b base : Nat} {cI cII : ClassId} {sh : Shp} {f : Nat → Int32} {ci : Nat} (h : sh.1 = ci + 2) : cE b base cI cII sh f = .inr (ci, (List.range (cNf ci)).map (fun k => if isI ci k then .int (f k) else va_rf ((sh.2.2 k).map (ad b base)))) := by
  unfold cE
  rw [if_neg (by omega), if_neg (by omega), show sh.1 - 2 = ci by omega]
def wd (b base : Nat) (cI cII : ClassId) (h : Hp) : va_W := (List.range h.1).map (fun k => (base + k, cE b base cI cII (hS h (k + 1)) (hG h (k + 1))))
/-- the heap holds the small machine's cells; the script's shape and numbers -/
def Wl (b base L : Nat) (xs : Nat → Int32) (D : va_G) (cI cII : ClassId) (h : Hp) (H : Heap) : Prop :=
  H.size = base + h.1 ∧ va_P D clss (wd b base cI cII h) H ∧ (hS h 0).1 = 0 ∧ (hS h 0).2.1 = L ∧ hG h 0 = xs
def Ow (base : Nat) : Nat → Prop := fun q => base ≤ q
section WD
variable {b base : Nat} {cI cII : ClassId}
theorem wd_get {h : Hp} {k : Nat} (hk : k < h.1) : (wd b base cI cII h)[k]? = some (base + k, cE b base cI cII (hS h (k + 1)) (hG h (k + 1))) := by
  unfold wd
  rw [List.getElem?_map, List.getElem?_range hk]
  rfl
theorem wd_len {h : Hp} : (wd b base cI cII h).length = h.1 := by simp [wd]
theorem wd_key {h : Hp} {k : Nat} {q : Nat × va_E} (hq : (wd b base cI cII h)[k]? = some q) : q.1 = base + k ∧ k < h.1 := by
  have hk : k < h.1 := by
    have := (List.getElem?_eq_some_iff.mp hq).1
    rw [wd_len] at this
    exact this
  rw [wd_get hk] at hq
  cases hq
  exact ⟨rfl, hk⟩
theorem wd_D (h : Hp) : va_D (Ow base) (wd b base cI cII h) := by
  refine ⟨fun i j x y hi hj e => ?_, fun k q hq => ?_⟩
  · have h1 := (wd_key hi).1
    have h2 := (wd_key hj).1
    omega
  · show base ≤ q.1
    rw [(wd_key hq).1]
    omega
theorem wd_set {h h' : Hp} {k : Nat} (hn : h'.1 = h.1) (hk : k < h.1) (ho : ∀ j, j ≠ k + 1 → hS h' j = hS h j ∧ hG h' j = hG h j) :
    (wd b base cI cII h).set k (base + k, cE b base cI cII (hS h' (k + 1)) (hG h' (k + 1))) = wd b base cI cII h' := by
  apply List.ext_getElem?
  intro i
  by_cases hi : i = k
  · subst hi
    rw [List.getElem?_set_self (by rw [wd_len]; exact hk), wd_get (h := h') (by omega)]
  · rw [List.getElem?_set_ne (Ne.symm hi)]
    by_cases h2 : i < h.1
    · rw [wd_get h2, wd_get (h := h') (by omega), (ho (i + 1) (by omega)).1, (ho (i + 1) (by omega)).2]
    · rw [List.getElem?_eq_none (by rw [wd_len]; omega), List.getElem?_eq_none (by rw [wd_len]; omega)]
theorem wd_push {h h' : Hp} (hn : h'.1 = h.1 + 1) (ho : ∀ j, j ≤ h.1 → hS h' j = hS h j ∧ hG h' j = hG h j) :
    wd b base cI cII h ++ [(base + h.1, cE b base cI cII (hS h' (h.1 + 1)) (hG h' (h.1 + 1)))] = wd b base cI cII h' := by
  unfold wd
  rw [hn, List.range_succ, List.map_append]
  congr 1
  apply List.map_congr_left
  intro k hk
  have hk := List.mem_range.mp hk
  rw [(ho (k + 1) (by omega)).1, (ho (k + 1) (by omega)).2]
theorem wd_congr {h h' : Hp} (hn : h'.1 = h.1) (h1 : h'.2.2.2.1 = h.2.2.2.1) (h2 : h'.2.2.2.2 = h.2.2.2.2) : wd b base cI cII h' = wd b base cI cII h := by
  have e1 : ∀ j, hS h' j = hS h j := fun j => congrFun h1 j
  have e2 : ∀ j, hG h' j = hG h j := fun j => congrFun h2 j
  unfold wd
  simp only [hn, e1, e2]
theorem Wl_congr {L : Nat} {xs : Nat → Int32} {D : va_G} {h h' : Hp} {H : Heap} (hn : h'.1 = h.1) (h1 : h'.2.2.2.1 = h.2.2.2.1) (h2 : h'.2.2.2.2 = h.2.2.2.2) (w : Wl b base L xs D cI cII h H) : Wl b base L xs D cI cII h' H := by
  obtain ⟨a1, a2, a3, a4, a5⟩ := w
  refine ⟨by rw [hn]; exact a1, by rw [wd_congr hn h1 h2]; exact a2, ?_, ?_, ?_⟩
  · show (h'.2.2.2.1 0).1 = 0; rw [h1]; exact a3
  · show (h'.2.2.2.1 0).2.1 = L; rw [h1]; exact a4
  · show h'.2.2.2.2 0 = xs; rw [h2]; exact a5
end WD
/-! locals -/
def LH (b base : Nat) (A : Array Slot) (m : Nat) (ls : List Value) : Prop :=
  A.size = mL m ∧ lv_wf A ∧ ls.length = mL m ∧ (∀ (i : Nat) (v : Value), ls[i]? = some v → (∀ r, v ≠ .retAddr r) → A[i]? = some (.val (cv b base v))) ∧ (noL m = true → ∀ v ∈ ls, v.category = 1)
def lvl1 (b base : Nat) (i : Nat) (v : Value) : Option (Nat × Value) := match v with
  | .retAddr _ => none
  | v => some (i, cv b base v)
def lvl (b base : Nat) (ls : List Value) : List (Nat × Value) := (List.range ls.length).filterMap (fun i => (ls[i]?).bind (lvl1 b base i))
theorem lvl_mem {b base : Nat} {ls : List Value} {i : Nat} {v : Value} (h : ls[i]? = some v) (hr : ∀ r, v ≠ .retAddr r) : (i, cv b base v) ∈ lvl b base ls := by
  refine List.mem_filterMap.mpr ⟨i, List.mem_range.mpr (List.getElem?_eq_some_iff.mp h).1, ?_⟩
  rw [h]
  cases v <;> first | rfl | exact absurd rfl (hr _)
theorem LH.has {b base : Nat} {A : Array Slot} {m : Nat} {ls : List Value} (h : LH b base A m ls) : lv_has A (mL m) (lvl b base ls) := by
  refine ⟨h.1, h.2.1, fun q hq => ?_⟩
  obtain ⟨i, hi, hq⟩ := List.mem_filterMap.mp hq
  cases hv : ls[i]? with
  | none => rw [hv] at hq; cases hq
  | some v =>
    rw [hv] at hq
    have hr : ∀ r, v ≠ .retAddr r := fun r e => by subst e; cases hq
    have h1 := h.2.2.2.1 i v hv hr
    have h2 : q = (i, cv b base v) := by cases v <;> first | (cases hq; rfl) | exact absurd rfl (hr _)
    rw [h2]
    exact h1
theorem LH.set {b base : Nat} {A A' : Array Slot} {m i : Nat} {ls : List Value} {v : Value} (h : LH b base A m ls) (hn : noL m = true) (hv : v.category = 1)
    (h' : lv_has A' (mL m) ((i, cv b base v) :: (lvl b base ls).filter (fun q => !(q.1 == i) && !(q.1 + 1 == i && q.2.category == 2)))) : LH b base A' m (ls.set i v) := by
  refine ⟨h'.1, h'.2.1, by rw [List.length_set]; exact h.2.2.1, fun j w hw hr => ?_, fun hn' w hw => ?_⟩
  · by_cases hj : j = i
    · subst hj
      rw [List.getElem?_set] at hw
      rw [if_pos rfl] at hw
      split at hw
      · cases hw
        exact h'.2.2 (j, cv b base v) List.mem_cons_self
      · cases hw
    · rw [List.getElem?_set_ne (Ne.symm hj)] at hw
      refine h'.2.2 (j, cv b base w) (List.mem_cons_of_mem _ (List.mem_filter.mpr ⟨lvl_mem hw hr, ?_⟩))
      have hc : w.category = 1 := h.2.2.2.2 hn w (List.mem_of_getElem? hw)
      simp [hj, cv_cat, hc]
  · rcases List.mem_or_eq_of_mem_set hw with h1 | h1
    · exact h.2.2.2.2 hn' w h1
    · rw [h1]; exact hv

