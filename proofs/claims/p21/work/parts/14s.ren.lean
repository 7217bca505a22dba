/-! CELLS RENAMED: what a method does, does not hang on where the cells lie -/
/-- f: the renaming; B: how many cells there are at least; how many more there are; what becomes of shapes, of numbers -/
abbrev Mp : Type := (Nat → Nat) × Nat × Nat × ((Nat → Shp) → Nat → Shp) × ((Nat → Nat → Int32) → Nat → Nat → Int32)
abbrev Mf (M : Mp) : Nat → Nat := M.1
abbrev MB (M : Mp) : Nat := M.2.1
abbrev Md (M : Mp) : Nat := M.2.2.1
abbrev MS (M : Mp) : (Nat → Shp) → Nat → Shp := M.2.2.2.1
abbrev MG (M : Mp) : (Nat → Nat → Int32) → Nat → Nat → Int32 := M.2.2.2.2
def reV (f : Nat → Nat) : Value → Value
  | .ref k => .ref (f k)
  | v => v
def reS (f : Nat → Nat) (sh : Shp) : Shp := (sh.1, sh.2.1, fun i => (sh.2.2 i).map f)
def reH (M : Mp) (h : Hp) : Hp := (h.1 + Md M, h.2.1, h.2.2.1, MS M h.2.2.2.1, MG M h.2.2.2.2)
abbrev reL (M : Mp) (l : List Value) : List Value := l.map (reV (Mf M))
def reX (M : Mp) : Rs ⊕ Cf → Rs ⊕ Cf
  | .inl r => .inl (r.1, reH M r.2)
  | .inr c => .inr (c.1, reL M c.2.1, reL M c.2.2.1, reH M c.2.2.2)
def hpX : Rs ⊕ Cf → Hp
  | .inl r => r.2
  | .inr c => c.2.2.2
def Sw (M : Mp) (x x' : So) : Prop := ∀ z, x = some z → MB M ≤ (hpX z).1 ∧ x' = some (reX M z)
def mnaS (n N k : Nat) (S : Nat → Shp) : Nat → Shp := fun j => if j = n + 1 then (1, N, fun i => if i < N then some (n + 2 + i) else none) else if n + 2 ≤ j ∧ j < n + 2 + N then (0, k, fun _ => none) else S j
def mnaG (n N : Nat) (g : Nat → Nat → Int32) : Nat → Nat → Int32 := fun j => if n + 1 ≤ j ∧ j < n + 2 + N then fun _ => 0 else g j
def Ren (M : Mp) : Prop :=
  (∀ a, Mf M a = 0 ↔ a = 0) ∧ (∀ n a, MB M ≤ n → a ≤ n → Mf M a ≤ n + Md M) ∧ (∀ S a, MS M S (Mf M a) = reS (Mf M) (S a)) ∧ (∀ g a, MG M g (Mf M a) = g a) ∧
  (∀ S a sh, MS M (upf S a sh) = upf (MS M S) (Mf M a) (reS (Mf M) sh)) ∧ (∀ g a v, MG M (upf g a v) = upf (MG M g) (Mf M a) v) ∧ (∀ n k, MB M ≤ n → Mf M (n + 1 + k) = n + Md M + 1 + k) ∧
  (∀ n N k S, MB M ≤ n → MS M (mnaS n N k S) = mnaS (n + Md M) N k (MS M S)) ∧ (∀ n N g, MB M ≤ n → MG M (mnaG n N g) = mnaG (n + Md M) N (MG M g))
section REN
variable {M : Mp} {m pc i k : Nat} {ls st : List Value} {h : Hp} {x x' : So} {E : Nat → List Value → Hp → Option Rs}
theorem re_0 (R : Ren M) {a : Nat} (c : a ≠ 0) : Mf M a ≠ 0 := fun z => c ((R.1 a).mp z)
theorem re_le (R : Ren M) (hb : MB M ≤ h.1) {a : Nat} (c : a ≤ h.1) : Mf M a ≤ (reH M h).1 := R.2.1 h.1 a hb c
theorem re_S (R : Ren M) {a : Nat} : hS (reH M h) (Mf M a) = reS (Mf M) (hS h a) := R.2.2.1 _ a
theorem re_S1 (R : Ren M) {a : Nat} : (hS (reH M h) (Mf M a)).1 = (hS h a).1 := by rw [re_S R]; rfl
theorem re_S2 (R : Ren M) {a : Nat} : (hS (reH M h) (Mf M a)).2.1 = (hS h a).2.1 := by rw [re_S R]; rfl
theorem re_S3 (R : Ren M) {a j : Nat} : (hS (reH M h) (Mf M a)).2.2 j = ((hS h a).2.2 j).map (Mf M) := by rw [re_S R]; rfl
theorem re_G (R : Ren M) {a : Nat} : hG (reH M h) (Mf M a) = hG h a := R.2.2.2.1 _ a
theorem re_setG (R : Ren M) {a : Nat} {v : Nat → Int32} : setG (reH M h) (Mf M a) v = reH M (setG h a v) := by
  unfold setG reH
  rw [R.2.2.2.2.2.1]
theorem re_setS (R : Ren M) {a : Nat} {sh : Shp} : setS (reH M h) (Mf M a) (reS (Mf M) sh) = reH M (setS h a sh) := by
  unfold setS reH
  rw [R.2.2.2.2.1]
theorem re_inst (R : Ren M) (hb : MB M ≤ h.1) {a ci : Nat} (c : inst a h ci) : inst (Mf M a) (reH M h) ci := ⟨re_0 R c.1, re_le R hb c.2.1, (re_S1 R).trans c.2.2⟩
theorem re_rv {o : Option Nat} : rv (o.map (Mf M)) = reV (Mf M) (rv o) := by cases o <;> rfl
theorem re_cat (v : Value) : (reV (Mf M) v).category = v.category := by cases v <;> rfl
theorem re_cats (l : List Value) : ((reL M l).map fun v => v.category) = l.map fun v => v.category := by
  rw [List.map_map]
  exact List.map_congr_left (fun v _ => re_cat v)
theorem w_none : Sw M none x' := fun z hz => by cases hz
theorem w_nx (hb : MB M ≤ h.1) : Sw M (nx pc ls st h) (nx pc (reL M ls) (reL M st) (reH M h)) := fun z hz => by
  cases hz
  exact ⟨hb, rfl⟩
theorem w_if {c c' : Prop} [Decidable c] [Decidable c'] (hc : c → c') (hk : c → Sw M x x') : Sw M (if c then x else none) (if c' then x' else none) := by
  by_cases h : c
  · rw [if_pos h, if_pos (hc h)]
    exact hk h
  · rw [if_neg h]
    exact w_none
theorem w_gd {len : Nat} (hk : Sw M x x') : Sw M (gd len k x) (gd len k x') := w_if id (fun _ => hk)
theorem w_K {v : Option Int32} (hb : MB M ≤ h.1) : Sw M (hK v k pc ls st h) (hK v k pc (reL M ls) (reL M st) (reH M h)) := by
  cases v with
  | none => exact w_none
  | some v => exact w_nx hb
theorem w_Kl {v : Option Int64} (hb : MB M ≤ h.1) : Sw M (hKl v k pc ls st h) (hKl v k pc (reL M ls) (reL M st) (reH M h)) := by
  cases v with
  | none => exact w_none
  | some v => exact w_nx hb
theorem w_ild (hb : MB M ≤ h.1) : Sw M (hIld i k pc ls st h) (hIld i k pc (reL M ls) (reL M st) (reH M h)) := by
  unfold hIld reL
  rw [List.getElem?_map]
  cases ls[i]? with
  | none => exact w_none
  | some v => cases v <;> first | exact w_none | exact w_nx hb
theorem w_lld (hb : MB M ≤ h.1) : Sw M (hLld i k pc ls st h) (hLld i k pc (reL M ls) (reL M st) (reH M h)) := by
  unfold hLld reL
  rw [List.getElem?_map]
  cases ls[i]? with
  | none => exact w_none
  | some v => cases v <;> first | exact w_none | exact w_nx hb
theorem w_ald (hb : MB M ≤ h.1) : Sw M (hAld i k pc ls st h) (hAld i k pc (reL M ls) (reL M st) (reH M h)) := by
  unfold hAld reL
  rw [List.getElem?_map]
  cases ls[i]? with
  | none => exact w_none
  | some v => cases v <;> first | exact w_none | exact w_nx hb
theorem re_set {v : Value} : (reL M ls).set i (reV (Mf M) v) = reL M (ls.set i v) := List.map_set.symm
theorem re_lt (c : i < ls.length) : i < (reL M ls).length := by
  rw [List.length_map]
  exact c
theorem w_ist (hb : MB M ≤ h.1) : Sw M (hIst m i k pc ls st h) (hIst m i k pc (reL M ls) (reL M st) (reH M h)) := by
  intro z hz
  unfold hIst at hz
  split at hz
  · rename_i x st0
    have e := re_set (M := M) (i := i) (ls := ls) (v := .int x)
    have q : Sw M (if noL m = true ∧ i < ls.length then nx (pc + k) (ls.set i (.int x)) st0 h else none) (if noL m = true ∧ i < (reL M ls).length then nx (pc + k) ((reL M ls).set i (reV (Mf M) (.int x))) (reL M st0) (reH M h) else none) := by
      rw [e]
      exact w_if (fun c => ⟨c.1, re_lt c.2⟩) (fun _ => w_nx hb)
    exact q z hz
  · cases hz
theorem w_ast (hb : MB M ≤ h.1) : Sw M (hAst m i k pc ls st h) (hAst m i k pc (reL M ls) (reL M st) (reH M h)) := by
  intro z hz
  unfold hAst at hz
  split at hz
  · rename_i x st0
    have e := re_set (M := M) (i := i) (ls := ls) (v := .ref x)
    have q : Sw M (if noL m = true ∧ i < ls.length then nx (pc + k) (ls.set i (.ref x)) st0 h else none) (if noL m = true ∧ i < (reL M ls).length then nx (pc + k) ((reL M ls).set i (reV (Mf M) (.ref x))) (reL M st0) (reH M h) else none) := by
      rw [e]
      exact w_if (fun c => ⟨c.1, re_lt c.2⟩) (fun _ => w_nx hb)
    exact q z hz
  · cases hz
theorem w_inc {n : Int} (hb : MB M ≤ h.1) : Sw M (hInc m i n pc ls st h) (hInc m i n pc (reL M ls) (reL M st) (reH M h)) := by
  intro z hz
  unfold hInc at hz
  split at hz
  · rename_i x hv
    have e := re_set (M := M) (i := i) (ls := ls) (v := .int (x + Int32.ofInt n))
    have hv2 : (reL M ls)[i]? = some (.int x) := by
      rw [List.getElem?_map, hv]
      rfl
    have q : Sw M (if noL m = true then nx (pc + 3) (ls.set i (.int (x + Int32.ofInt n))) st h else none) (if noL m = true then nx (pc + 3) ((reL M ls).set i (reV (Mf M) (.int (x + Int32.ofInt n)))) (reL M st) (reH M h) else none) := by
      rw [e]
      exact w_if id (fun _ => w_nx hb)
    unfold hInc
    rw [hv2]
    exact q z hz
  · cases hz
theorem w_bin {g : Int32 → Int32 → Int32} (hb : MB M ≤ h.1) : Sw M (hBin g pc ls st h) (hBin g pc (reL M ls) (reL M st) (reH M h)) := by
  intro z hz
  unfold hBin at hz
  split at hz
  · exact w_nx hb z hz
  · cases hz
theorem w_div {g : Int32 → Int32 → Int32} (hb : MB M ≤ h.1) : Sw M (hDiv g pc ls st h) (hDiv g pc (reL M ls) (reL M st) (reH M h)) := by
  intro z hz
  unfold hDiv at hz
  split at hz
  · rename_i y x st0
    split at hz
    · cases hz
    · rename_i c
      have e : hDiv g pc (reL M ls) (reL M (.int y :: .int x :: st0)) (reH M h) = nx (pc + 1) (reL M ls) (reL M (.int (g x y) :: st0)) (reH M h) := if_neg c
      rw [e]
      exact w_nx hb z hz
  · cases hz
theorem w_binL {g : Int64 → Int64 → Int64} (hb : MB M ≤ h.1) : Sw M (hBinL g pc ls st h) (hBinL g pc (reL M ls) (reL M st) (reH M h)) := by
  intro z hz
  unfold hBinL at hz
  split at hz
  · exact w_nx hb z hz
  · cases hz
theorem w_remL (hb : MB M ≤ h.1) : Sw M (hRemL pc ls st h) (hRemL pc (reL M ls) (reL M st) (reH M h)) := by
  intro z hz
  unfold hRemL at hz
  split at hz
  · rename_i y x st0
    split at hz
    · cases hz
    · rename_i c
      have e : hRemL pc (reL M ls) (reL M (.long y :: .long x :: st0)) (reH M h) = nx (pc + 1) (reL M ls) (reL M (.long (x - x / y * y) :: st0)) (reH M h) := if_neg c
      rw [e]
      exact w_nx hb z hz
  · cases hz
theorem w_cmpL (hb : MB M ≤ h.1) : Sw M (hCmpL pc ls st h) (hCmpL pc (reL M ls) (reL M st) (reH M h)) := by
  intro z hz
  unfold hCmpL at hz
  split at hz
  · exact w_nx hb z hz
  · cases hz
theorem w_i2l (hb : MB M ≤ h.1) : Sw M (hI2l pc ls st h) (hI2l pc (reL M ls) (reL M st) (reH M h)) := by
  intro z hz
  unfold hI2l at hz
  split at hz
  · exact w_nx hb z hz
  · cases hz
theorem w_l2i (hb : MB M ≤ h.1) : Sw M (hL2i pc ls st h) (hL2i pc (reL M ls) (reL M st) (reH M h)) := by
  intro z hz
  unfold hL2i at hz
  split at hz
  · exact w_nx hb z hz
  · cases hz
theorem w_dup (hb : MB M ≤ h.1) : Sw M (hDup pc ls st h) (hDup pc (reL M ls) (reL M st) (reH M h)) := by
  intro z hz
  unfold hDup at hz
  split at hz
  · exact w_nx hb z hz
  · exact w_nx hb z hz
  · cases hz
theorem w_dup2 (hb : MB M ≤ h.1) : Sw M (hDup2 pc ls st h) (hDup2 pc (reL M ls) (reL M st) (reH M h)) := by
  intro z hz
  unfold hDup2 at hz
  split at hz
  · exact w_nx hb z hz
  · cases hz
theorem w_pop (hb : MB M ≤ h.1) : Sw M (hPop pc ls st h) (hPop pc (reL M ls) (reL M st) (reH M h)) := by
  intro z hz
  unfold hPop at hz
  split at hz
  · exact w_nx hb z hz
  · cases hz
theorem w_br {off : Int} {c : Prop} [Decidable c] (hb : MB M ≤ h.1) : Sw M (hBr pc off c ls st h) (hBr pc off c (reL M ls) (reL M st) (reH M h)) := w_if id (fun _ => w_nx hb)
theorem w_ifc {op : ClassFile.Cond} {off : Int} (hb : MB M ≤ h.1) : Sw M (hIf op off pc ls st h) (hIf op off pc (reL M ls) (reL M st) (reH M h)) := by
  intro z hz
  unfold hIf at hz
  split at hz
  · cases op <;> exact w_br hb z hz
  · cases hz
theorem w_ic {op : ClassFile.Cond} {off : Int} (hb : MB M ≤ h.1) : Sw M (hIc op off pc ls st h) (hIc op off pc (reL M ls) (reL M st) (reH M h)) := by
  intro z hz
  unfold hIc at hz
  split at hz
  · cases op <;> exact w_br hb z hz
  · cases hz
theorem w_go {off : Int} (hb : MB M ≤ h.1) : Sw M (hGo off pc ls st h) (hGo off pc (reL M ls) (reL M st) (reH M h)) := w_if id (fun _ => w_nx hb)
theorem w_sw {d lo hi : Int} {offs : Array Int} (hb : MB M ≤ h.1) : Sw M (hSw d lo hi offs pc ls st h) (hSw d lo hi offs pc (reL M ls) (reL M st) (reH M h)) := by
  intro z hz
  unfold hSw at hz
  split at hz
  · exact w_if id (fun _ => w_nx hb) z hz
  · cases hz
theorem w_get (R : Ren M) (hb : MB M ≤ h.1) : Sw M (hGet m i pc ls st h) (hGet m i pc (reL M ls) (reL M st) (reH M h)) := by
  intro z hz
  unfold hGet at hz
  split at hz
  · rename_i a st0 ci kk hf
    have e : (if isI ci kk = true then Value.int (hG (reH M h) (Mf M a) kk) else rv ((hS (reH M h) (Mf M a)).2.2 kk)) = reV (Mf M) (if isI ci kk = true then .int (hG h a kk) else rv ((hS h a).2.2 kk)) := by
      rw [re_G R, re_S3 R, re_rv]
      split <;> rfl
    have q : Sw M (if inst a h ci then nx (pc + 3) ls ((if isI ci kk = true then .int (hG h a kk) else rv ((hS h a).2.2 kk)) :: st0) h else none) (if inst (Mf M a) (reH M h) ci then nx (pc + 3) (reL M ls) ((if isI ci kk = true then Value.int (hG (reH M h) (Mf M a) kk) else rv ((hS (reH M h) (Mf M a)).2.2 kk)) :: reL M st0) (reH M h) else none) := by
      rw [e]
      exact w_if (re_inst R hb) (fun _ => w_nx (st := _ :: st0) hb)
    unfold hGet
    rw [hf]
    exact q z hz
  · cases hz
theorem w_put (R : Ren M) (hb : MB M ≤ h.1) : Sw M (hPut m i pc ls st h) (hPut m i pc (reL M ls) (reL M st) (reH M h)) := by
  intro z hz
  unfold hPut at hz
  split at hz
  · rename_i x a st0 ci kk hf
    have q : Sw M (if inst a h ci ∧ isI ci kk = true ∧ (TTT ci kk).2.2.2 = false ∧ (isZ ci kk = true → x = 0 ∨ x = 1) then nx (pc + 3) ls st0 (setG h a (upd (hG h a) kk x)) else none) (if inst (Mf M a) (reH M h) ci ∧ isI ci kk = true ∧ (TTT ci kk).2.2.2 = false ∧ (isZ ci kk = true → x = 0 ∨ x = 1) then nx (pc + 3) (reL M ls) (reL M st0) (setG (reH M h) (Mf M a) (upd (hG (reH M h) (Mf M a)) kk x)) else none) := by
      rw [re_G R, re_setG R]
      exact w_if (fun c => ⟨re_inst R hb c.1, c.2⟩) (fun _ => w_nx (h := setG h a _) hb)
    unfold hPut
    rw [hf]
    exact q z hz
  · rename_i p a st0 ci kk hf
    have e : ((hS (reH M h) (Mf M a)).1, (hS (reH M h) (Mf M a)).2.1, upf (hS (reH M h) (Mf M a)).2.2 kk (some (Mf M p))) = reS (Mf M) ((hS h a).1, (hS h a).2.1, upf (hS h a).2.2 kk (some p)) := by
      rw [re_S R]
      unfold reS
      refine congrArg (fun q => ((hS h a).1, (hS h a).2.1, q)) (funext fun j => ?_)
      show upf (fun i => ((hS h a).2.2 i).map (Mf M)) kk (some (Mf M p)) j = (upf (hS h a).2.2 kk (some p) j).map (Mf M)
      unfold upf
      split <;> rfl
    have q : Sw M (if inst a h ci ∧ isI ci kk = false ∧ (TTT ci kk).2.2.2 = true ∧ kd m = 2 ∧ mK m = ci then nx (pc + 3) ls st0 (setS h a ((hS h a).1, (hS h a).2.1, upf (hS h a).2.2 kk (some p))) else none) (if inst (Mf M a) (reH M h) ci ∧ isI ci kk = false ∧ (TTT ci kk).2.2.2 = true ∧ kd m = 2 ∧ mK m = ci then nx (pc + 3) (reL M ls) (reL M st0) (setS (reH M h) (Mf M a) ((hS (reH M h) (Mf M a)).1, (hS (reH M h) (Mf M a)).2.1, upf (hS (reH M h) (Mf M a)).2.2 kk (some (Mf M p)))) else none) := by
      rw [e, re_setS R]
      exact w_if (fun c => ⟨re_inst R hb c.1, c.2⟩) (fun _ => w_nx (h := setS h a _) hb)
    unfold hPut
    rw [hf]
    exact q z hz
  · cases hz
theorem w_ial (R : Ren M) (hb : MB M ≤ h.1) : Sw M (hIal pc ls st h) (hIal pc (reL M ls) (reL M st) (reH M h)) := by
  intro z hz
  unfold hIal at hz
  split at hz
  · rename_i y a st0
    have q : Sw M (if a ≤ h.1 ∧ (hS h a).1 = 0 ∧ ¬ (y < 0 ∨ (hS h a).2.1 ≤ y.toNatClampNeg) then nx (pc + 1) ls (.int (hG h a y.toNatClampNeg) :: st0) h else none) (if Mf M a ≤ (reH M h).1 ∧ (hS (reH M h) (Mf M a)).1 = 0 ∧ ¬ (y < 0 ∨ (hS (reH M h) (Mf M a)).2.1 ≤ y.toNatClampNeg) then nx (pc + 1) (reL M ls) (.int (hG (reH M h) (Mf M a) y.toNatClampNeg) :: reL M st0) (reH M h) else none) := by
      rw [re_G R, re_S1 R, re_S2 R]
      exact w_if (fun c => ⟨re_le R hb c.1, c.2⟩) (fun _ => w_nx (st := _ :: st0) hb)
    exact q z hz
  · cases hz
theorem w_ias (R : Ren M) (hb : MB M ≤ h.1) : Sw M (hIas pc ls st h) (hIas pc (reL M ls) (reL M st) (reH M h)) := by
  intro z hz
  unfold hIas at hz
  split at hz
  · rename_i x y a st0
    have q : Sw M (if a ≠ 0 ∧ a ≤ h.1 ∧ (hS h a).1 = 0 ∧ ¬ (y < 0 ∨ (hS h a).2.1 ≤ y.toNatClampNeg) then nx (pc + 1) ls st0 (setG h a (upd (hG h a) y.toNatClampNeg x)) else none) (if Mf M a ≠ 0 ∧ Mf M a ≤ (reH M h).1 ∧ (hS (reH M h) (Mf M a)).1 = 0 ∧ ¬ (y < 0 ∨ (hS (reH M h) (Mf M a)).2.1 ≤ y.toNatClampNeg) then nx (pc + 1) (reL M ls) (reL M st0) (setG (reH M h) (Mf M a) (upd (hG (reH M h) (Mf M a)) y.toNatClampNeg x)) else none) := by
      rw [re_G R, re_S1 R, re_S2 R, re_setG R]
      exact w_if (fun c => ⟨re_0 R c.1, re_le R hb c.2.1, c.2.2⟩) (fun _ => w_nx (h := setG h a _) hb)
    exact q z hz
  · cases hz
theorem w_aal (R : Ren M) (hb : MB M ≤ h.1) : Sw M (hAal pc ls st h) (hAal pc (reL M ls) (reL M st) (reH M h)) := by
  intro z hz
  unfold hAal at hz
  split at hz
  · rename_i y a st0
    have q : Sw M (if a ≠ 0 ∧ a ≤ h.1 ∧ (hS h a).1 = 1 ∧ ¬ (y < 0 ∨ (hS h a).2.1 ≤ y.toNatClampNeg) then nx (pc + 1) ls (rv ((hS h a).2.2 y.toNatClampNeg) :: st0) h else none) (if Mf M a ≠ 0 ∧ Mf M a ≤ (reH M h).1 ∧ (hS (reH M h) (Mf M a)).1 = 1 ∧ ¬ (y < 0 ∨ (hS (reH M h) (Mf M a)).2.1 ≤ y.toNatClampNeg) then nx (pc + 1) (reL M ls) (rv ((hS (reH M h) (Mf M a)).2.2 y.toNatClampNeg) :: reL M st0) (reH M h) else none) := by
      rw [re_S1 R, re_S2 R, re_S3 R, re_rv]
      exact w_if (fun c => ⟨re_0 R c.1, re_le R hb c.2.1, c.2.2⟩) (fun _ => w_nx (st := _ :: st0) hb)
    exact q z hz
  · cases hz
theorem w_len (R : Ren M) (hb : MB M ≤ h.1) : Sw M (hLen pc ls st h) (hLen pc (reL M ls) (reL M st) (reH M h)) := by
  intro z hz
  unfold hLen at hz
  split at hz
  · rename_i a st0
    have q : Sw M (if a ≤ h.1 ∧ ((hS h a).1 = 0 ∨ (hS h a).1 = 1 ∧ a ≠ 0) then nx (pc + 1) ls (.int (Int32.ofNat (hS h a).2.1) :: st0) h else none) (if Mf M a ≤ (reH M h).1 ∧ ((hS (reH M h) (Mf M a)).1 = 0 ∨ (hS (reH M h) (Mf M a)).1 = 1 ∧ Mf M a ≠ 0) then nx (pc + 1) (reL M ls) (.int (Int32.ofNat (hS (reH M h) (Mf M a)).2.1) :: reL M st0) (reH M h) else none) := by
      rw [re_S1 R, re_S2 R]
      exact w_if (fun c => ⟨re_le R hb c.1, c.2.imp id (fun c => ⟨c.1, re_0 R c.2⟩)⟩) (fun _ => w_nx (st := _ :: st0) hb)
    exact q z hz
  · cases hz
theorem re_up (R : Ren M) {n : Nat} (hb : MB M ≤ n) : Mf M (n + 1) = n + Md M + 1 := R.2.2.2.2.2.2.1 n 0 hb
theorem w_nwa (R : Ren M) (hb : MB M ≤ h.1) : Sw M (hNwa pc ls st h) (hNwa pc (reL M ls) (reL M st) (reH M h)) := by
  intro z hz
  unfold hNwa at hz
  split at hz
  · rename_i y st0
    obtain ⟨n, bc, bs, S, g⟩ := h
    have e1 := re_up R hb
    have e2 := R.2.2.2.2.1 S (n + 1) (0, y.toNatClampNeg, fun _ => none)
    have e3 := R.2.2.2.2.2.1 g (n + 1) (fun _ => 0)
    rw [e1] at e2 e3
    have q : Sw M (if ¬ y < 0 ∧ 1 ≤ bc ∧ y.toNatClampNeg ≤ bs ∧ y.toNatClampNeg ≤ 100000 then nx (pc + 2) ls (.ref (n + 1) :: st0) (n + 1, bc - 1, bs - y.toNatClampNeg, upf S (n + 1) (0, y.toNatClampNeg, fun _ => none), upf g (n + 1) (fun _ => 0)) else none)
        (if ¬ y < 0 ∧ 1 ≤ bc ∧ y.toNatClampNeg ≤ bs ∧ y.toNatClampNeg ≤ 100000 then nx (pc + 2) (reL M ls) (.ref (n + Md M + 1) :: reL M st0) (n + Md M + 1, bc - 1, bs - y.toNatClampNeg, upf (MS M S) (n + Md M + 1) (reS (Mf M) (0, y.toNatClampNeg, fun _ => none)), upf (MG M g) (n + Md M + 1) (fun _ => 0)) else none) := by
      rw [← e2, ← e3, ← e1]
      refine w_if id (fun _ => fun z hz => ?_)
      cases hz
      refine ⟨Nat.le_succ_of_le hb, ?_⟩
      show some (Sum.inr _) = some (Sum.inr _)
      rw [e1]
      unfold reH reL
      show some (Sum.inr (_, _, _, _)) = some (Sum.inr (_, _, _, (n + 1 + Md M, _, _, _, _)))
      rw [List.map_cons, show n + 1 + Md M = n + Md M + 1 by omega]
      show _ = some (Sum.inr (_, _, Value.ref (Mf M (n + 1)) :: _, _))
      rw [e1]
    exact q z hz
  · cases hz
theorem w_new (R : Ren M) (hb : MB M ≤ h.1) : Sw M (hNew m i pc ls st h) (hNew m i pc (reL M ls) (reL M st) (reH M h)) := by
  intro z hz
  unfold hNew at hz
  split at hz
  · rename_i ci hf
    obtain ⟨n, bc, bs, S, g⟩ := h
    have e1 := re_up R hb
    have e2 := R.2.2.2.2.1 S (n + 1) (ci + 2, 0, fun _ => none)
    have e3 := R.2.2.2.2.2.1 g (n + 1) (fun _ => 0)
    rw [e1] at e2 e3
    have q : Sw M (if 1 ≤ bc ∧ cNf ci ≤ bs then nx (pc + 3) ls (.ref (n + 1) :: st) (n + 1, bc - 1, bs - cNf ci, upf S (n + 1) (ci + 2, 0, fun _ => none), upf g (n + 1) (fun _ => 0)) else none)
        (if 1 ≤ bc ∧ cNf ci ≤ bs then nx (pc + 3) (reL M ls) (.ref (n + Md M + 1) :: reL M st) (n + Md M + 1, bc - 1, bs - cNf ci, upf (MS M S) (n + Md M + 1) (reS (Mf M) (ci + 2, 0, fun _ => none)), upf (MG M g) (n + Md M + 1) (fun _ => 0)) else none) := by
      rw [← e2, ← e3, ← e1]
      refine w_if id (fun _ => fun z hz => ?_)
      cases hz
      refine ⟨Nat.le_succ_of_le hb, ?_⟩
      show some (Sum.inr _) = some (Sum.inr _)
      rw [e1]
      unfold reH reL
      show some (Sum.inr (_, _, _, _)) = some (Sum.inr (_, _, _, (n + 1 + Md M, _, _, _, _)))
      rw [List.map_cons, show n + 1 + Md M = n + Md M + 1 by omega]
      show _ = some (Sum.inr (_, _, Value.ref (Mf M (n + 1)) :: _, _))
      rw [e1]
    unfold hNew
    rw [hf]
    exact q z hz
  · cases hz
theorem w_mna (R : Ren M) (hb : MB M ≤ h.1) : Sw M (hMna m i pc ls st h) (hMna m i pc (reL M ls) (reL M st) (reH M h)) := by
  intro z hz
  unfold hMna at hz
  split at hz
  · rename_i y x st0
    obtain ⟨n, bc, bs, S, g⟩ := h
    have e1 := re_up R hb
    have e2 := R.2.2.2.2.2.2.2.1 n x.toNatClampNeg y.toNatClampNeg S hb
    have e3 := R.2.2.2.2.2.2.2.2 n x.toNatClampNeg g hb
    have q : Sw M (if m = mnaM ∧ i = mnaI ∧ ¬ x < 0 ∧ ¬ y < 0 ∧ 1 + x.toNatClampNeg ≤ bc ∧ x.toNatClampNeg + x.toNatClampNeg * y.toNatClampNeg ≤ bs ∧ x.toNatClampNeg ≤ 100000 ∧ y.toNatClampNeg ≤ 100000 then nx (pc + 4) ls (.ref (n + 1) :: st0) (n + 1 + x.toNatClampNeg, bc - (1 + x.toNatClampNeg), bs - (x.toNatClampNeg + x.toNatClampNeg * y.toNatClampNeg), mnaS n x.toNatClampNeg y.toNatClampNeg S, mnaG n x.toNatClampNeg g) else none)
        (if m = mnaM ∧ i = mnaI ∧ ¬ x < 0 ∧ ¬ y < 0 ∧ 1 + x.toNatClampNeg ≤ bc ∧ x.toNatClampNeg + x.toNatClampNeg * y.toNatClampNeg ≤ bs ∧ x.toNatClampNeg ≤ 100000 ∧ y.toNatClampNeg ≤ 100000 then nx (pc + 4) (reL M ls) (.ref (n + Md M + 1) :: reL M st0) (n + Md M + 1 + x.toNatClampNeg, bc - (1 + x.toNatClampNeg), bs - (x.toNatClampNeg + x.toNatClampNeg * y.toNatClampNeg), mnaS (n + Md M) x.toNatClampNeg y.toNatClampNeg (MS M S), mnaG (n + Md M) x.toNatClampNeg (MG M g)) else none) := by
      rw [← e2, ← e3]
      refine w_if id (fun _ => fun z hz => ?_)
      cases hz
      refine ⟨?_, ?_⟩
      · show MB M ≤ n + 1 + x.toNatClampNeg
        have hb : MB M ≤ n := hb
        omega
      show some (Sum.inr _) = some (Sum.inr _)
      unfold reH reL
      show some (Sum.inr (_, _, _, _)) = some (Sum.inr (_, _, _, (n + 1 + x.toNatClampNeg + Md M, _, _, _, _)))
      rw [List.map_cons, show n + 1 + x.toNatClampNeg + Md M = n + Md M + 1 + x.toNatClampNeg by omega]
      show _ = some (Sum.inr (_, _, Value.ref (Mf M (n + 1)) :: _, _))
      rw [e1]
    exact q z hz
  · cases hz
def EqE (M : Mp) (E : Nat → List Value → Hp → Option Rs) : Prop := ∀ (y : Nat) (As : List Value) (h : Hp) (r : Option Int32) (h' : Hp), MB M ≤ h.1 → E y As h = some (r, h') → MB M ≤ h'.1 ∧ E y (reL M As) (reH M h) = some (r, reH M h')
theorem w_call (hE : EqE M E) (hb : MB M ≤ h.1) {y : Nat} {As rest : List Value} : Sw M (hCall E y As rest pc ls h) (hCall E y (reL M As) (reL M rest) pc (reL M ls) (reH M h)) := by
  refine w_if (fun c => ?_) (fun _ => ?_)
  · rw [re_cats]
    exact c
  · intro z hz
    cases he : E y As (enH y h) with
    | none =>
      rw [he] at hz
      cases hz
    | some q =>
      obtain ⟨r, h2⟩ := q
      rw [he] at hz
      cases hz
      obtain ⟨b2, e2⟩ := hE y As (enH y h) r h2 hb he
      have e3 : E y (reL M As) (enH y (reH M h)) = some (r, reH M h2) := e2
      rw [e3]
      refine ⟨b2, ?_⟩
      show some (Sum.inr (pc + 3, reL M ls, (r.map Value.int).toList ++ reL M rest, _)) = some (Sum.inr (pc + 3, reL M ls, reL M ((r.map Value.int).toList ++ rest), _))
      have e4 : (r.map Value.int).toList ++ reL M rest = reL M ((r.map Value.int).toList ++ rest) := by cases r <;> rfl
      rw [e4]
      rfl
theorem re_take {n : Nat} : ((reL M st).take n).reverse = reL M ((st.take n).reverse) := by
  unfold reL
  rw [← List.map_take, List.map_reverse]
theorem re_takel {n : Nat} : ((reL M st).take n).length = (st.take n).length := by
  unfold reL
  rw [← List.map_take, List.length_map]
theorem re_drop {n : Nat} : (reL M st).drop n = reL M (st.drop n) := List.map_drop.symm
theorem w_vir (R : Ren M) (hE : EqE M E) (hb : MB M ≤ h.1) : Sw M (hVir E m i pc ls st h) (hVir E m i pc (reL M ls) (reL M st) (reH M h)) := by
  unfold hVir
  cases mlk m i with
  | none => exact w_none
  | some y =>
    refine w_if id (fun _ => ?_)
    rw [re_drop, re_take]
    cases hd : st.drop (mP y) with
    | nil => exact w_none
    | cons v rest =>
      cases v <;> first
        | exact w_none
        | exact w_if (fun c => ⟨c.1, re_inst R hb c.2⟩) (fun _ => w_call (As := .ref _ :: _) hE hb)
theorem w_spe (R : Ren M) (hE : EqE M E) (hb : MB M ≤ h.1) : Sw M (hSpe E m i pc ls st h) (hSpe E m i pc (reL M ls) (reL M st) (reH M h)) := by
  unfold hSpe
  cases mlk m i with
  | some y =>
    refine w_if id (fun _ => ?_)
    rw [re_drop, re_take, re_takel]
    cases hd : st.drop (mP y) with
    | nil => exact w_none
    | cons v rest =>
      cases v <;> first
        | exact w_none
        | exact w_if id (fun _ => w_call (As := .ref _ :: _) hE hb)
  | none =>
    cases nsk m i with
    | some q =>
      obtain ⟨y, hst⟩ := q
      refine w_if id (fun _ => ?_)
      rw [re_drop, re_take, re_takel]
      cases hd : st.drop (mP y) with
      | nil => exact w_none
      | cons v rest =>
        cases v <;> first
          | exact w_none
          | exact w_if id (fun _ => w_call (As := .ref _ :: _) hE hb)
    | none =>
      match spk m i with
      | none => exact w_none
      | some (q + 1) => exact w_none
      | some 0 =>
        cases st with
        | nil => exact w_none
        | cons v rest =>
          cases v <;> first
            | exact w_none
            | exact w_if (fun c => by rw [re_cats]; exact c) (fun _ => w_nx hb)
theorem w_sta (R : Ren M) (hE : EqE M E) (hb : MB M ≤ h.1) : Sw M (hSta E m i pc ls st h) (hSta E m i pc (reL M ls) (reL M st) (reH M h)) := by
  unfold hSta
  cases mlk m i with
  | some y =>
    have q : Sw M (if kd y = 1 ∧ (st.take (mP y)).length = mP y then hCall E y (st.take (mP y)).reverse (st.drop (mP y)) pc ls h else none) (if kd y = 1 ∧ ((reL M st).take (mP y)).length = mP y then hCall E y ((reL M st).take (mP y)).reverse ((reL M st).drop (mP y)) pc (reL M ls) (reH M h) else none) := by
      rw [re_drop, re_take, re_takel]
      exact w_if id (fun _ => w_call hE hb)
    exact q
  | none =>
    match spk m i with
    | none => exact w_none
    | some 0 => exact w_none
    | some (q + 4) => exact w_none
    | some 1 =>
      intro z hz
      have hz : (match (generalizing := false) st with
        | .int y :: .int x :: rest => if (rest.map fun v => v.category).sum ≤ 8 then nx (pc + 3) ls (.int (if x < y then y else x) :: rest) h else none
        | _ => none) = some z := hz
      split at hz
      · exact w_if (fun c => by rw [re_cats]; exact c) (fun _ => w_nx hb) z hz
      · cases hz
    | some 2 =>
      intro z hz
      have hz : (match (generalizing := false) st with
        | .int y :: .int x :: rest => if (rest.map fun v => v.category).sum ≤ 8 then nx (pc + 3) ls (.int (if y < x then y else x) :: rest) h else none
        | _ => none) = some z := hz
      split at hz
      · exact w_if (fun c => by rw [re_cats]; exact c) (fun _ => w_nx hb) z hz
      · cases hz
    | some 3 =>
      intro z hz
      have hz : (match (generalizing := false) st with
        | .int n :: .int dp :: .ref a1 :: .int sp :: .ref a0 :: rest =>
          if (rest.map fun v => v.category).sum ≤ 8 ∧ a0 ≠ 0 ∧ a0 ≤ h.1 ∧ a1 ≠ 0 ∧ a1 ≤ h.1 ∧ (hS h a0).1 = 0 ∧ (hS h a1).1 = 0 ∧ ¬ sp < 0 ∧ ¬ dp < 0 ∧ ¬ n < 0 ∧ sp.toNatClampNeg + n.toNatClampNeg ≤ (hS h a0).2.1 ∧ dp.toNatClampNeg + n.toNatClampNeg ≤ (hS h a1).2.1 then
            nx (pc + 3) ls rest (setG h a1 (va_cpy (hG h a0) (hG h a1) sp.toNatClampNeg dp.toNatClampNeg n.toNatClampNeg)) else none
        | _ => none) = some z := hz
      split at hz
      · rename_i n dp a1 sp a0 rest hz0
        have q : Sw M (if (rest.map fun v => v.category).sum ≤ 8 ∧ a0 ≠ 0 ∧ a0 ≤ h.1 ∧ a1 ≠ 0 ∧ a1 ≤ h.1 ∧ (hS h a0).1 = 0 ∧ (hS h a1).1 = 0 ∧ ¬ sp < 0 ∧ ¬ dp < 0 ∧ ¬ n < 0 ∧ sp.toNatClampNeg + n.toNatClampNeg ≤ (hS h a0).2.1 ∧ dp.toNatClampNeg + n.toNatClampNeg ≤ (hS h a1).2.1 then
              nx (pc + 3) ls rest (setG h a1 (va_cpy (hG h a0) (hG h a1) sp.toNatClampNeg dp.toNatClampNeg n.toNatClampNeg)) else none)
            (if ((reL M rest).map fun v => v.category).sum ≤ 8 ∧ Mf M a0 ≠ 0 ∧ Mf M a0 ≤ (reH M h).1 ∧ Mf M a1 ≠ 0 ∧ Mf M a1 ≤ (reH M h).1 ∧ (hS (reH M h) (Mf M a0)).1 = 0 ∧ (hS (reH M h) (Mf M a1)).1 = 0 ∧ ¬ sp < 0 ∧ ¬ dp < 0 ∧ ¬ n < 0 ∧ sp.toNatClampNeg + n.toNatClampNeg ≤ (hS (reH M h) (Mf M a0)).2.1 ∧ dp.toNatClampNeg + n.toNatClampNeg ≤ (hS (reH M h) (Mf M a1)).2.1 then
              nx (pc + 3) (reL M ls) (reL M rest) (setG (reH M h) (Mf M a1) (va_cpy (hG (reH M h) (Mf M a0)) (hG (reH M h) (Mf M a1)) sp.toNatClampNeg dp.toNatClampNeg n.toNatClampNeg)) else none) := by
          rw [re_G R, re_G R, re_S1 R, re_S1 R, re_S2 R, re_S2 R, re_setG R, re_cats]
          exact w_if (fun c => ⟨c.1, re_0 R c.2.1, re_le R hb c.2.2.1, re_0 R c.2.2.2.1, re_le R hb c.2.2.2.2.1, c.2.2.2.2.2⟩) (fun _ => w_nx (h := setG h a1 _) hb)
        exact q z hz
      · cases hz
theorem w_retI (hb : MB M ≤ h.1) : Sw M (hRetI m st h) (hRetI m (reL M st) (reH M h)) := by
  intro z hz
  unfold hRetI at hz
  split at hz
  · refine w_if id (fun _ => fun z hz => ?_) z hz
    cases hz
    exact ⟨hb, rfl⟩
  · cases hz
theorem w_retV (hb : MB M ≤ h.1) : Sw M (hRetV m st h) (hRetV m (reL M st) (reH M h)) := by
  intro z hz
  unfold hRetV at hz
  split at hz
  · refine w_if id (fun _ => fun z hz => ?_) z hz
    cases hz
    exact ⟨hb, rfl⟩
  · cases hz
end REN
