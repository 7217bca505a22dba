/-! ROWS OF ROWS MADE: the machine's instruction for a table of N rows of M numbers is what the small machine says -/
def tbV (h0 i : Nat) : Nat → Value := fun j => if j < i then .ref (h0 + 1 + j) else .null
theorem tbV_0 {h0 : Nat} : tbV h0 0 = fun _ => .null := funext fun j => if_neg (Nat.not_lt_zero _)
theorem tbV_up {h0 i : Nat} : updV (tbV h0 i) i (.ref (h0 + 1 + i)) = tbV h0 (i + 1) := by
  funext j
  unfold updV tbV
  by_cases e : j = i
  · rw [if_pos e, if_pos (by omega), e]
  · rw [if_neg e]
    by_cases h : j < i
    · rw [if_pos h, if_pos (by omega)]
    · rw [if_neg h, if_neg (by omega)]
abbrev rwV (cR : ClassId) (M : Nat) : Cell := arrV cR M (fun _ => .int 0)
/-- the table with its first i rows -/
def grw (s : State) (cO cR : ClassId) (N M : Nat) : Nat → State
  | 0 => s.pushCell (arrV cO N (tbV s.heap.size 0))
  | i + 1 => ((grw s cO cR N M i).pushCell (rwV cR M)).setCell s.heap.size (arrV cO N (tbV s.heap.size (i + 1)))
section GR
variable {s : State} {cO cR : ClassId} {N M : Nat}
theorem grw_f : ∀ i, (grw s cO cR N M i).heap.size = s.heap.size + 1 + i ∧ (grw s cO cR N M i).heap[s.heap.size]? = some (arrV cO N (tbV s.heap.size i)) ∧
    (grw s cO cR N M i).vm = s.vm ∧ (grw s cO cR N M i).slotsUsed = s.slotsUsed + N + i * M
  | 0 => ⟨by simp [grw], by simp [grw], rfl, by simp [grw, arrV_size]⟩
  | i + 1 => by
    obtain ⟨h1, h2, h3, h4⟩ := grw_f i
    have hlt : s.heap.size < (grw s cO cR N M i).heap.size := by omega
    have h5 : ((grw s cO cR N M i).pushCell (rwV cR M)).heap[s.heap.size]? = some (arrV cO N (tbV s.heap.size i)) := by
      rw [State.heap_pushCell_of_lt (h := hlt)]
      exact h2
    refine ⟨?_, State.heap_setCell_self h5, by simp [grw, h3], ?_⟩
    · simp [grw, State.setCell, h1]
      omega
    · simp [grw, h4, arrV_size, Nat.succ_mul]
      omega
theorem grw_old {a : Addr} (ha : a < s.heap.size) : ∀ i, (grw s cO cR N M i).heap[a]? = s.heap[a]?
  | 0 => State.heap_pushCell_of_lt _ _ ha
  | i + 1 => by
    have h1 := (grw_f (s := s) (cO := cO) (cR := cR) (N := N) (M := M) i).1
    have hlt : a < (grw s cO cR N M i).heap.size := Nat.lt_of_lt_of_le ha (by rw [h1]; omega)
    show (((grw s cO cR N M i).pushCell (rwV cR M)).setCell s.heap.size _).heap[a]? = _
    rw [State.heap_setCell_other (Nat.ne_of_gt ha), State.heap_pushCell_of_lt (h := hlt)]
    exact grw_old ha i
theorem grw_row : ∀ i j, j < i → (grw s cO cR N M i).heap[s.heap.size + 1 + j]? = some (rwV cR M)
  | 0, j, h => absurd h (Nat.not_lt_zero _)
  | i + 1, j, h => by
    have h1 := (grw_f (s := s) (cO := cO) (cR := cR) (N := N) (M := M) i).1
    show (((grw s cO cR N M i).pushCell (rwV cR M)).setCell s.heap.size _).heap[s.heap.size + 1 + j]? = _
    rw [State.heap_setCell_other (show s.heap.size ≠ s.heap.size + 1 + j by omega)]
    by_cases hj : j < i
    · rw [State.heap_pushCell_of_lt (h := (by omega : s.heap.size + 1 + j < (grw s cO cR N M i).heap.size))]
      exact grw_row i j hj
    · have e : j = i := by omega
      subst e
      rw [← h1]
      exact State.heap_pushCell_size _ _
theorem grw_top (f : JFrame) : ∀ i, grw (s.setTop f) cO cR N M i = (grw s cO cR N M i).setTop f
  | 0 => rfl
  | i + 1 => by simp only [grw, grw_top f i, State.heap_setTop, State.pushCell_setTop, State.setCell_setTop]
end GR
section GW
variable {E : CtlPost} {e : Env} {d : Bool} {acts : List Action} {s : State}
theorem mk_row {cR cc : ClassId} {kR : Class} {k : Int32} (hk : s.vm.classes[cR]? = some kR) (hkd : kR.kind = .array cc .int) (h0 : ¬ k < 0) (hl : ¬ k.toNatClampNeg > e.platform.arrayLengthLimit) (hh : ¬ k.toNatClampNeg * componentBytes .int > e.platform.maxHeapBytes)
    (h1 : s.heap.size < e.platform.maxCells) (h2 : s.slotsUsed + k.toNatClampNeg ≤ e.platform.maxSlots) {Q : Addr → Pre} (hq : ∀ acts', Q s.heap.size d acts' (s.pushCell (rwV cR k.toNatClampNeg))) :
    wp (multianewarray.make cR [k]) Q E e d acts s := by
  rw [multianewarray.make]
  simp only [wp_bind', W.ite, h0, if_false, wp_pure', W.theClass, hk, hkd, Option.some.injEq, exists_eq_left']
  refine W.newArray_of hk hkd hl hh h1 h2 rfl (fun acts' => ?_)
  show Q s.heap.size d acts' (s.pushCell ({ cls := cR, slots := Array.replicate k.toNatClampNeg (.int 0), vm := .none } : Cell))
  rw [arrV_new]
  exact hq acts'
theorem mk_table {cO cR cc : ClassId} {kO kR : Class} {n k : Int32} (hO : s.vm.classes[cO]? = some kO) (hOd : kO.kind = .array cR (.array .int)) (hR : s.vm.classes[cR]? = some kR) (hRd : kR.kind = .array cc .int) (hn : ¬ n < 0) (hk : ¬ k < 0)
    (l1 : ¬ n.toNatClampNeg > e.platform.arrayLengthLimit) (b1 : ¬ n.toNatClampNeg * componentBytes (.array .int) > e.platform.maxHeapBytes) (l2 : ¬ k.toNatClampNeg > e.platform.arrayLengthLimit) (b2 : ¬ k.toNatClampNeg * componentBytes .int > e.platform.maxHeapBytes)
    (hc : s.heap.size + 1 + n.toNatClampNeg ≤ e.platform.maxCells) (hs : s.slotsUsed + n.toNatClampNeg + n.toNatClampNeg * k.toNatClampNeg ≤ e.platform.maxSlots)
    {Q : Addr → Pre} (hq : ∀ d' acts', Q s.heap.size d' acts' (grw s cO cR n.toNatClampNeg k.toNatClampNeg n.toNatClampNeg)) :
    wp (multianewarray.make cO [n, k]) Q E e d acts s := by
  have hf : ([k].find? (· < 0)) = none := by simp [hk]
  rw [multianewarray.make]
  simp only [wp_bind', W.ite, hn, if_false, wp_pure', W.theClass, hO, hOd, Option.some.injEq, exists_eq_left']
  refine W.newArray_of hO hOd l1 b1 (by omega) (by omega) rfl (fun acts1 => ?_)
  simp only [hf]
  rw [ite_self, wp_bind', Std.Legacy.Range.forIn_eq_forIn_range']
  have hz : ([:n.toNatClampNeg] : Std.Legacy.Range).size = n.toNatClampNeg := by simp [Std.Legacy.Range.size]
  rw [hz]
  show wp (forIn (List.range' 0 n.toNatClampNeg 1) PUnit.unit _) _ E e d acts1 _
  refine wp_forIn_inv (fun rest u => ∃ i, i ≤ n.toNatClampNeg ∧ rest = List.range' i (n.toNatClampNeg - i) ∧ u = grw s cO cR n.toNatClampNeg k.toNatClampNeg i) _ _ ⟨0, Nat.zero_le _, rfl, by
    show _ = s.pushCell (arrV cO n.toNatClampNeg (tbV s.heap.size 0))
    rw [tbV_0, ← arrV_new]⟩ ?_ ?_
  · rintro x rest u d' acts' Q' ⟨i, hi, hl, rfl⟩ hnext
    have hlt : i < n.toNatClampNeg := by
      by_cases h : i < n.toNatClampNeg
      · exact h
      · rw [show n.toNatClampNeg - i = 0 by omega] at hl
        simp at hl
    obtain ⟨ex, er⟩ : x = i ∧ rest = List.range' (i + 1) (n.toNatClampNeg - (i + 1)) := by
      rw [show n.toNatClampNeg - i = (n.toNatClampNeg - (i + 1)) + 1 by omega, List.range'_succ] at hl
      exact ⟨(List.cons.inj hl).1, (List.cons.inj hl).2⟩
    subst ex
    obtain ⟨f1, f2, f3, f4⟩ := grw_f (s := s) (cO := cO) (cR := cR) (N := n.toNatClampNeg) (M := k.toNatClampNeg) x
    have hmul : x * k.toNatClampNeg + k.toNatClampNeg ≤ n.toNatClampNeg * k.toNatClampNeg := by
      have := Nat.mul_le_mul_right k.toNatClampNeg (show x + 1 ≤ n.toNatClampNeg from hlt)
      rw [Nat.succ_mul] at this
      exact this
    simp only [wp_bind']
    refine mk_row (by rw [f3]; exact hR) hRd hk l2 b2 (by omega) (by omega) (fun acts2 => ?_)
    have hlt0 : s.heap.size < (grw s cO cR n.toNatClampNeg k.toNatClampNeg x).heap.size := by omega
    simp only [wp_bind', W.writeLoc, wp_pure']
    refine ⟨arrV cO n.toNatClampNeg (tbV s.heap.size x), by rw [State.heap_pushCell_of_lt (h := hlt0)]; exact f2, by simp [arrV], by rw [arrV_size]; exact hlt, ?_, hnext _ _ _ ⟨x + 1, hlt, er, ?_⟩⟩
    · simp [arrV, State.fitsSlot, State.slotType?, f3, hO, hOd]
      rfl
    · rw [f1, arrV_store, tbV_up]
      rfl
  · rintro u d' acts' ⟨i, hi, hl, rfl⟩
    have e : i = n.toNatClampNeg := by
      by_cases h : i < n.toNatClampNeg
      · rw [show n.toNatClampNeg - i = (n.toNatClampNeg - (i + 1)) + 1 by omega, List.range'_succ] at hl
        cases hl
      · omega
    subst e
    simp only [wp_pure']
    exact hq _ _
end GW
section GX
variable {p : Program} {l : Launch} {e : Env} {R : Room} {s : State} {mi : MethodId} {args : Array Value} {below : List Frame} {meth : Method} {c : Code} {T : State} {locs : List Loc} {cells slots : Nat}
theorem grw_X (X : Stand p l e R s mi args below meth c T locs cells slots) (cO cR : ClassId) (N M : Nat) : ∀ i, Stand p l e R s mi args below meth c (grw T cO cR N M i) (locs ++ (List.range i).map fun j => ⟨T.heap.size, j⟩) (cells + 1 + i) (slots + N + i * M)
  | 0 => by
    have h := X.pushed (arrV cO N (tbV T.heap.size 0))
    rw [arrV_size] at h
    simpa [grw] using h
  | i + 1 => by
    have Xi := grw_X X cO cR N M i
    obtain ⟨f1, f2, f3, f4⟩ := grw_f (s := T) (cO := cO) (cR := cR) (N := N) (M := M) i
    have hlt : T.heap.size < (grw T cO cR N M i).heap.size := by omega
    have hcell : ((grw T cO cR N M i).pushCell (rwV cR M)).heap[T.heap.size]? = some (arrV cO N (tbV T.heap.size i)) := by
      rw [State.heap_pushCell_of_lt (h := hlt)]
      exact f2
    have h := (Xi.pushed (rwV cR M)).stored hcell i (.ref (T.heap.size + 1 + i))
    rw [arrV_size, arrV_store, tbV_up] at h
    have e2 : (locs ++ (List.range (i + 1)).map fun j => (⟨T.heap.size, j⟩ : Loc)) = (locs ++ (List.range i).map fun j => (⟨T.heap.size, j⟩ : Loc)) ++ [⟨T.heap.size, i⟩] := by simp [List.range_succ, List.append_assoc]
    have e3 : slots + N + (i + 1) * M = slots + N + i * M + M := by
      rw [Nat.succ_mul]
      omega
    rw [e2, e3]
    exact h
end GX
def mnaT (h : Hp) (N M : Nat) : Nat → Shp := fun j => if j = h.1 + 1 then (1, N, fun i => if i < N then some (h.1 + 2 + i) else none) else if h.1 + 2 ≤ j ∧ j < h.1 + 2 + N then (0, M, fun _ => none) else h.2.2.2.1 j
def mnaH (h : Hp) (N : Nat) : Nat → Nat → Int32 := fun j => if h.1 + 1 ≤ j ∧ j < h.1 + 2 + N then fun _ => 0 else h.2.2.2.2 j
theorem mnaT_o {h : Hp} {N M j : Nat} (c : j ≤ h.1) : mnaT h N M j = h.2.2.2.1 j := by
  unfold mnaT
  rw [if_neg (by omega), if_neg (by omega)]
theorem mnaH_o {h : Hp} {N j : Nat} (c : j ≤ h.1) : mnaH h N j = h.2.2.2.2 j := by
  unfold mnaH
  rw [if_neg (by omega)]
theorem mnaT_t {h : Hp} {N M : Nat} : mnaT h N M (h.1 + 1) = (1, N, fun i => if i < N then some (h.1 + 2 + i) else none) := if_pos rfl
theorem mnaT_r {h : Hp} {N M j : Nat} (c : j < N) : mnaT h N M (h.1 + 1 + j + 1) = (0, M, fun _ => none) := by
  unfold mnaT
  rw [if_neg (by omega), if_pos (by omega)]
theorem mnaH_r {h : Hp} {N j : Nat} (c : j < N) : mnaH h N (h.1 + 1 + j + 1) = fun _ => 0 := by
  unfold mnaH
  rw [if_pos (by omega)]
theorem tb_rows {b base n N : Nat} {sz : Nat} (hz : sz = base + n) : (fun j => va_rf ((if j < N then some (n + 2 + j) else none : Option Nat).map (ad b base))) = tbV sz N := by
  funext j
  unfold tbV
  by_cases c : j < N
  · rw [if_pos c, if_pos c]
    have e1 : ad b base (n + 2 + j) = sz + 1 + j := by
      unfold ad
      rw [if_neg (by omega), hz]
      omega
    show Value.ref (ad b base (n + 2 + j)) = Value.ref (sz + 1 + j)
    rw [e1]
  · rw [if_neg c, if_neg c]
    rfl
theorem Wl_mna {b base L : Nat} {xs : Nat → Int32} {D : va_G} {cI cII : ClassId} {h : Hp} {bc bs N M : Nat} {H H1 : Heap} (w : Wl b base L xs D cI cII h H) (hz : H1.size = H.size + 1 + N) (ho : ∀ q, q < H.size → H1[q]? = H[q]?)
    (ht : H1[H.size]? = some (arrV cII N (tbV H.size N))) (hr : ∀ j, j < N → H1[H.size + 1 + j]? = some (rwV cI M)) :
    Wl b base L xs D cI cII (h.1 + 1 + N, bc, bs, mnaT h N M, mnaH h N) H1 := by
  obtain ⟨a1, a2, a3, a4, a5⟩ := w
  refine ⟨by rw [hz, a1]; show base + h.1 + 1 + N = base + (h.1 + 1 + N); omega, fun k q hq => ?_, ?_, ?_, ?_⟩
  · have hk2 : k < h.1 + 1 + N := (wd_key hq).2
    rw [wd_get (h := (h.1 + 1 + N, bc, bs, mnaT h N M, mnaH h N)) hk2] at hq
    have hq := Option.some.inj hq
    subst hq
    show va_at D clss (base + k, cE b base cI cII (mnaT h N M (k + 1)) (mnaH h N (k + 1))) H1
    by_cases c1 : k < h.1
    · rw [mnaT_o (by omega), mnaH_o (by omega)]
      exact (a2.kept (H1 := H1) (fun k q hq => ho q.1 ((a2 k q hq).lt))) k _ (wd_get c1)
    · by_cases c2 : k = h.1
      · subst c2
        rw [mnaT_t, cE_rows rfl]
        show H1[base + h.1]? = some (vp_cell cII (N, .inr (.inr (.inr (.inr (fun j => (if j < N then some (h.1 + 2 + j) else none : Option Nat).map (ad b base)))))))
        rw [vp_cell_q, tb_rows a1, ← a1]
        exact ht
      · obtain ⟨j, rfl⟩ : ∃ j, k = h.1 + 1 + j := ⟨k - (h.1 + 1), by omega⟩
        rw [mnaT_r (by omega), mnaH_r (by omega), cE_arr rfl]
        show H1[base + (h.1 + 1 + j)]? = some (vp_cell cI (M, .inl (fun _ => 0)))
        rw [vp_cell_i, show base + (h.1 + 1 + j) = H.size + 1 + j by rw [a1]; omega]
        exact hr j (by omega)
  · show (mnaT h N M 0).1 = 0
    rw [mnaT_o (Nat.zero_le _)]
    exact a3
  · show (mnaT h N M 0).2.1 = L
    rw [mnaT_o (Nat.zero_le _)]
    exact a4
  · show mnaH h N 0 = xs
    rw [mnaH_o (Nat.zero_le _)]
    exact a5
