/-! CELLS RENAMED: whole runs, whole methods; the two renamings that are wanted -/
section REN2
variable {M : Mp} {m pc i k : Nat} {ls st : List Value} {h : Hp} {x x' : So} {E : Nat → List Value → Hp → Option Rs}
theorem w_stI (R : Ren M) (hE : EqE M E) (hb : MB M ≤ h.1) (ins : Instr) (len : Nat) : Sw M (stI E m pc ls st h ins len) (stI E m pc (reL M ls) (reL M st) (reH M h) ins len) := by
  cases ins with
  | iconst n => exact w_gd (w_K hb)
  | bipush n => exact w_gd (w_K hb)
  | sipush n => exact w_gd (w_K hb)
  | ldc n => exact w_gd (w_K hb)
  | ldc_w n => exact w_gd (w_K hb)
  | lconst n => exact w_gd (w_Kl hb)
  | ldc2_w n => exact w_gd (w_Kl hb)
  | iload_n n => exact w_gd (w_ild hb)
  | iload n => exact w_gd (w_ild hb)
  | lload_n n => exact w_gd (w_lld hb)
  | lload n => exact w_gd (w_lld hb)
  | aload_n n => exact w_gd (w_ald hb)
  | aload n => exact w_gd (w_ald hb)
  | istore_n n => exact w_gd (w_ist hb)
  | istore n => exact w_gd (w_ist hb)
  | astore_n n => exact w_gd (w_ast hb)
  | astore n => exact w_gd (w_ast hb)
  | iinc i n => exact w_gd (w_inc hb)
  | iadd => exact w_gd (w_bin hb)
  | isub => exact w_gd (w_bin hb)
  | imul => exact w_gd (w_bin hb)
  | iand => exact w_gd (w_bin hb)
  | ior => exact w_gd (w_bin hb)
  | ixor => exact w_gd (w_bin hb)
  | ishl => exact w_gd (w_bin hb)
  | ishr => exact w_gd (w_bin hb)
  | idiv => exact w_gd (w_div hb)
  | irem => exact w_gd (w_div hb)
  | ladd => exact w_gd (w_binL hb)
  | lmul => exact w_gd (w_binL hb)
  | lrem => exact w_gd (w_remL hb)
  | lcmp => exact w_gd (w_cmpL hb)
  | i2l => exact w_gd (w_i2l hb)
  | l2i => exact w_gd (w_l2i hb)
  | dup => exact w_gd (w_dup hb)
  | dup2 => exact w_gd (w_dup2 hb)
  | pop => exact w_gd (w_pop hb)
  | ifCond op off => exact w_gd (w_ifc hb)
  | if_icmp op off => exact w_gd (w_ic hb)
  | goto off => exact w_gd (w_go hb)
  | tableswitch d lo hi offs => exact w_sw hb
  | getfield i => exact w_gd (w_get R hb)
  | putfield i => exact w_gd (w_put R hb)
  | iaload => exact w_gd (w_ial R hb)
  | iastore => exact w_gd (w_ias R hb)
  | aaload => exact w_gd (w_aal R hb)
  | arraylength => exact w_gd (w_len R hb)
  | newarray t => exact w_if id (fun _ => w_gd (w_nwa R hb))
  | multianewarray i d => exact w_if id (fun _ => w_gd (w_mna R hb))
  | new i => exact w_gd (w_new R hb)
  | invokevirtual i => exact w_gd (w_vir R hE hb)
  | invokestatic i => exact w_gd (w_sta R hE hb)
  | invokespecial i => exact w_gd (w_spe R hE hb)
  | ireturn => exact w_gd (w_retI hb)
  | return_ => exact w_gd (w_retV hb)
  | _ => exact w_none
abbrev reC (M : Mp) (c : Cf) : Cf := (c.1, reL M c.2.1, reL M c.2.2.1, reH M c.2.2.2)
theorem w_stp (R : Ren M) (hE : EqE M E) {c : Cf} (hb : MB M ≤ c.2.2.2.1) : Sw M (stp E m c) (stp E m (reC M c)) := by
  unfold stp
  cases hd : decode (mB m) c.1 with
  | error q =>
    intro z hz
    cases hz
  | ok y => exact w_stI R hE hb y.1 y.2
theorem w_rnN (R : Ren M) (hE : EqE M E) : ∀ (n : Nat) (c : Cf) (r : Rs), MB M ≤ c.2.2.2.1 → rnN E m n c = some r → MB M ≤ r.2.1 ∧ rnN E m n (reC M c) = some (r.1, reH M r.2)
  | 0, c, r, _, h => by cases h
  | n + 1, c, r, hb, h => by
    rw [rnN] at h ⊢
    cases hs : stp E m c with
    | none =>
      rw [hs] at h
      cases h
    | some y =>
      rw [hs] at h
      obtain ⟨b2, e2⟩ := w_stp R hE hb y hs
      rw [e2]
      cases y with
      | inl q =>
        cases h
        exact ⟨b2, rfl⟩
      | inr c2 => exact w_rnN R hE n c2 r b2 h
theorem re_flt (as : List Value) : flt (reL M as) = reL M (flt as) := by
  unfold flt reL
  rw [List.flatMap_map, List.map_flatMap]
  congr 1
  funext v
  cases v <;> rfl
theorem re_ent (as : List Value) (n : Nat) : ent (reL M as) n = reL M (ent as n) := by
  unfold ent
  rw [re_flt]
  unfold reL
  rw [List.map_append, List.length_map, List.map_replicate]
  rfl
theorem Den_re (R : Ren M) : ∀ (d m : Nat), ht m < d → ∀ (As : List Value) (h : Hp) (r : Option Int32) (h' : Hp), MB M ≤ h.1 → Den m As h = some (r, h') → MB M ≤ h'.1 ∧ Den m (reL M As) (reH M h) = some (r, reH M h')
  | 0, m, hd => absurd hd (Nat.not_lt_zero _)
  | d + 1, m, hd => by
    intro As h r h' hb hden
    rw [Den_eq] at hden ⊢
    split at hden
    · rename_i hc
      have hc2 : (flt (reL M As)).length ≤ mL m ∧ (noL m = true → ∀ v ∈ reL M As, v.category = 1) := by
        refine ⟨?_, fun hn v hv => ?_⟩
        · rw [re_flt, List.length_map]
          exact hc.1
        · obtain ⟨w, hw, rfl⟩ := List.mem_map.mp hv
          rw [re_cat]
          exact hc.2 hn w hw
      rw [if_pos hc2, re_ent]
      obtain ⟨n, hn⟩ := rn_iff.mp hden
      have hE : EqE M (EE m) := by
        intro y As' h1 r1 h2 hb1 he
        unfold EE at he ⊢
        split at he
        · rename_i hlt
          rw [if_pos hlt]
          exact Den_re R d y (by omega) As' h1 r1 h2 hb1 he
        · cases he
      obtain ⟨b2, e2⟩ := w_rnN R hE n (0, ent As (mL m), [], h) (r, h') hb hn
      exact ⟨b2, rn_iff.mpr ⟨n, e2⟩⟩
    · cases hden
end REN2
/-- cells 1 to 85 and cells 86 to 170 exchanged -/
def sw (j : Nat) : Nat := if j = 0 then 0 else if j ≤ 85 then j + 85 else if j ≤ 170 then j - 85 else j
theorem sw_lo {j : Nat} (h : 1 ≤ j) (h2 : j ≤ 85) : sw j = j + 85 := by unfold sw; rw [if_neg (by omega), if_pos h2]
theorem sw_hi {j : Nat} (h : 86 ≤ j) (h2 : j ≤ 170) : sw j = j - 85 := by unfold sw; rw [if_neg (by omega), if_neg (by omega), if_pos h2]
theorem sw_up {j : Nat} (h : 170 < j) : sw j = j := by unfold sw; rw [if_neg (by omega), if_neg (by omega), if_neg (by omega)]
theorem sw_cs (j : Nat) : (j = 0 ∧ sw j = 0) ∨ (1 ≤ j ∧ j ≤ 85 ∧ sw j = j + 85) ∨ (86 ≤ j ∧ j ≤ 170 ∧ sw j = j - 85) ∨ (170 < j ∧ sw j = j) := by
  rcases (by omega : j = 0 ∨ (1 ≤ j ∧ j ≤ 85) ∨ (86 ≤ j ∧ j ≤ 170) ∨ 170 < j) with c | c | c | c
  · exact Or.inl ⟨c, by rw [c]; rfl⟩
  · exact Or.inr (Or.inl ⟨c.1, c.2, sw_lo c.1 c.2⟩)
  · exact Or.inr (Or.inr (Or.inl ⟨c.1, c.2, sw_hi c.1 c.2⟩))
  · exact Or.inr (Or.inr (Or.inr ⟨c, sw_up c⟩))
theorem sw_sw (j : Nat) : sw (sw j) = j := by
  have a := sw_cs j
  have b := sw_cs (sw j)
  omega
theorem sw_eq {a j : Nat} : sw j = a ↔ j = sw a := ⟨fun h => by rw [← h, sw_sw], fun h => by rw [h, sw_sw]⟩
abbrev Msw : Mp := (sw, 170, 0, fun S j => reS sw (S (sw j)), fun g j => g (sw j))
theorem reS_none {f : Nat → Nat} {a b : Nat} : reS f (a, b, fun _ => none) = (a, b, fun _ => none) := rfl
theorem ren_sw : Ren Msw := by
  refine ⟨fun a => ?_, fun n a h1 h2 => ?_, fun S a => ?_, fun g a => ?_, fun S a sh => funext fun j => ?_, fun g a v => funext fun j => ?_, fun n k h1 => ?_, fun n N k S h1 => funext fun j => ?_, fun n N g h1 => funext fun j => ?_⟩
  · show sw a = 0 ↔ a = 0
    rw [sw_eq]
    rfl
  · have h1 : 170 ≤ n := h1
    have := sw_cs a
    show sw a ≤ n + 0
    omega
  · show reS sw (S (sw (sw a))) = _
    rw [sw_sw]
  · show g (sw (sw a)) = _
    rw [sw_sw]
  · show reS sw (upf S a sh (sw j)) = upf (fun j => reS sw (S (sw j))) (sw a) (reS sw sh) j
    unfold upf
    by_cases c : sw j = a
    · rw [if_pos c, if_pos (sw_eq.mp c)]
    · rw [if_neg c, if_neg (fun z => c (sw_eq.mpr z))]
  · show upf g a v (sw j) = upf (fun j => g (sw j)) (sw a) v j
    unfold upf
    by_cases c : sw j = a
    · rw [if_pos c, if_pos (sw_eq.mp c)]
    · rw [if_neg c, if_neg (fun z => c (sw_eq.mpr z))]
  · have h1 : 170 ≤ n := h1
    show sw (n + 1 + k) = n + 0 + 1 + k
    exact sw_up (by omega)
  · have h1 : 170 ≤ n := h1
    show reS sw (mnaS n N k S (sw j)) = mnaS n N k (fun j => reS sw (S (sw j))) j
    have hj := sw_cs j
    unfold mnaS
    by_cases c1 : j = n + 1
    · have e : sw j = j := sw_up (by omega)
      rw [if_pos (e.trans c1), if_pos c1]
      unfold reS
      refine congrArg (fun q => (1, N, q)) (funext fun i => ?_)
      show (if i < N then some (n + 2 + i) else none).map sw = if i < N then some (n + 2 + i) else none
      split
      · exact congrArg some (sw_up (by omega))
      · rfl
    · rw [if_neg (show ¬ sw j = n + 1 by omega), if_neg c1]
      by_cases c2 : n + 2 ≤ j ∧ j < n + 2 + N
      · rw [if_pos (show n + 2 ≤ sw j ∧ sw j < n + 2 + N by omega), if_pos c2]
        rfl
      · rw [if_neg (show ¬ (n + 2 ≤ sw j ∧ sw j < n + 2 + N) by omega), if_neg c2]
  · have h1 : 170 ≤ n := h1
    show mnaG n N g (sw j) = mnaG n N (fun j => g (sw j)) j
    have hj := sw_cs j
    unfold mnaG
    by_cases c1 : n + 1 ≤ j ∧ j < n + 2 + N
    · rw [if_pos (show n + 1 ≤ sw j ∧ sw j < n + 2 + N by omega), if_pos c1]
    · rw [if_neg (show ¬ (n + 1 ≤ sw j ∧ sw j < n + 2 + N) by omega), if_neg c1]
/-- 85 cells more below: the first object's -/
def up (j : Nat) : Nat := if j = 0 then 0 else j + 85
theorem up_cs (j : Nat) : (j = 0 ∧ up j = 0) ∨ (¬ j = 0 ∧ up j = j + 85) := by
  by_cases c : j = 0
  · exact Or.inl ⟨c, if_pos c⟩
  · exact Or.inr ⟨c, if_neg c⟩
def upS (F : Nat → Shp) (S : Nat → Shp) : Nat → Shp := fun j => if j = 0 then reS up (S 0) else if j ≤ 85 then F j else reS up (S (j - 85))
def upG (F : Nat → Nat → Int32) (g : Nat → Nat → Int32) : Nat → Nat → Int32 := fun j => if j = 0 then g 0 else if j ≤ 85 then F j else g (j - 85)
abbrev Mup (F : Nat → Shp) (G : Nat → Nat → Int32) : Mp := (up, 0, 85, upS F, upG G)
theorem ren_up {F : Nat → Shp} {G : Nat → Nat → Int32} : Ren (Mup F G) := by
  refine ⟨fun a => ?_, fun n a h1 h2 => ?_, fun S a => ?_, fun g a => ?_, fun S a sh => funext fun j => ?_, fun g a v => funext fun j => ?_, fun n k h1 => ?_, fun n N k S h1 => funext fun j => ?_, fun n N g h1 => funext fun j => ?_⟩
  · show up a = 0 ↔ a = 0
    have := up_cs a
    omega
  · have := up_cs a
    show up a ≤ n + 85
    omega
  · show upS F S (up a) = reS up (S a)
    unfold upS
    rcases up_cs a with ⟨c, e⟩ | ⟨c, e⟩
    · rw [e, if_pos rfl, c]
    · rw [e, if_neg (by omega), if_neg (by omega), Nat.add_sub_cancel]
  · show upG G g (up a) = g a
    unfold upG
    rcases up_cs a with ⟨c, e⟩ | ⟨c, e⟩
    · rw [e, if_pos rfl, c]
    · rw [e, if_neg (by omega), if_neg (by omega), Nat.add_sub_cancel]
  · show upS F (upf S a sh) j = upf (upS F S) (up a) (reS up sh) j
    have ha := up_cs a
    unfold upS upf
    dsimp only
    by_cases c0 : j = 0
    · rw [if_pos c0]
      by_cases c : 0 = a
      · rw [if_pos c, if_pos (show j = up a by omega)]
      · rw [if_neg c, if_neg (show ¬ j = up a by omega), if_pos c0]
    · rw [if_neg c0]
      by_cases c1 : j ≤ 85
      · rw [if_pos c1, if_neg (show ¬ j = up a by omega), if_neg c0, if_pos c1]
      · rw [if_neg c1]
        by_cases c : j - 85 = a
        · rw [if_pos c, if_pos (show j = up a by omega)]
        · rw [if_neg c, if_neg (show ¬ j = up a by omega), if_neg c0, if_neg c1]
  · show upG G (upf g a v) j = upf (upG G g) (up a) v j
    have ha := up_cs a
    unfold upG upf
    dsimp only
    by_cases c0 : j = 0
    · rw [if_pos c0]
      by_cases c : 0 = a
      · rw [if_pos c, if_pos (show j = up a by omega)]
      · rw [if_neg c, if_neg (show ¬ j = up a by omega), if_pos c0]
    · rw [if_neg c0]
      by_cases c1 : j ≤ 85
      · rw [if_pos c1, if_neg (show ¬ j = up a by omega), if_neg c0, if_pos c1]
      · rw [if_neg c1]
        by_cases c : j - 85 = a
        · rw [if_pos c, if_pos (show j = up a by omega)]
        · rw [if_neg c, if_neg (show ¬ j = up a by omega), if_neg c0, if_neg c1]
  · show up (n + 1 + k) = n + 85 + 1 + k
    have := up_cs (n + 1 + k)
    omega
  · show upS F (mnaS n N k S) j = mnaS (n + 85) N k (upS F S) j
    unfold upS mnaS
    dsimp only
    by_cases c0 : j = 0
    · rw [if_pos c0, if_neg (by omega), if_neg (by omega), if_neg (by omega), if_neg (by omega), if_pos c0]
    · rw [if_neg c0]
      by_cases c1 : j ≤ 85
      · rw [if_pos c1, if_neg (by omega), if_neg (by omega), if_neg c0, if_pos c1]
      · rw [if_neg c1]
        by_cases c2 : j - 85 = n + 1
        · rw [if_pos c2, if_pos (show j = n + 85 + 1 by omega)]
          unfold reS
          refine congrArg (fun q => (1, N, q)) (funext fun i => ?_)
          show (if i < N then some (n + 2 + i) else none).map up = if i < N then some (n + 85 + 2 + i) else none
          split
          · have := up_cs (n + 2 + i)
            exact congrArg some (by omega)
          · rfl
        · rw [if_neg c2, if_neg (show ¬ j = n + 85 + 1 by omega)]
          by_cases c3 : n + 2 ≤ j - 85 ∧ j - 85 < n + 2 + N
          · rw [if_pos c3, if_pos (show n + 85 + 2 ≤ j ∧ j < n + 85 + 2 + N by omega)]
            rfl
          · rw [if_neg c3, if_neg (show ¬ (n + 85 + 2 ≤ j ∧ j < n + 85 + 2 + N) by omega), if_neg c0, if_neg c1]
  · show upG G (mnaG n N g) j = mnaG (n + 85) N (upG G g) j
    unfold upG mnaG
    dsimp only
    by_cases c0 : j = 0
    · rw [if_pos c0, if_neg (by omega), if_neg (by omega), if_pos c0]
    · rw [if_neg c0]
      by_cases c1 : j ≤ 85
      · rw [if_pos c1, if_neg (by omega), if_neg c0, if_pos c1]
      · rw [if_neg c1]
        by_cases c3 : n + 1 ≤ j - 85 ∧ j - 85 < n + 2 + N
        · rw [if_pos c3, if_pos (show n + 85 + 1 ≤ j ∧ j < n + 85 + 2 + N by omega)]
        · rw [if_neg c3, if_neg (show ¬ (n + 85 + 1 ≤ j ∧ j < n + 85 + 2 + N) by omega), if_neg c0, if_neg c1]
