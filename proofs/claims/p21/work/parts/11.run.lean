/-! THE SMALL MACHINE IS SOUND: a whole run, a whole method -/
def MnaOk : Prop := ∀ (X : Cx) (m pc pc' i : Nat) (ls st ls' st' : List Value) (h h' : Hp), Gx X m → decode (mB m) pc = .ok (.multianewarray i 2, 4) → hMna m i pc ls st h = some (.inr (pc', ls', st', h')) → Rn X m pc' ls' st' h' → Rn X m pc ls st h
def RetK (X : Cx) (m : Nat) (r : Option Int32) (h : Hp) : Prop := match X with
  | (p, l, e, R, s, mi, args, below, meth, c, Q, b, base, L, xs, D, cI, cII) =>
    ∀ (H : Heap) (locs : List Loc) (cells slots pc : Nat) (A : Array Slot), Wl b base L xs D cI cII h H → va_S (Ow base) s.heap H locs → cells ≤ mc m → slots ≤ ms m →
      ((∃ v, r = some v ∧ decode (mB m) pc = .ok (.ireturn, 1) ∧ (mR m = some .int ∨ mR m = some .boolean ∧ (v = 0 ∨ v = 1))) ∨ (r = none ∧ decode (mB m) pc = .ok (.return_, 1) ∧ mR m = none)) →
      W p l e R s mi args below meth c H locs cells slots Q (F0 mi pc A ((r.map Value.int).toList))
section SNR
variable {X : Cx} {E : Nat → List Value → Hp → Option Rs} {m pc pc' : Nat} {ls st ls' st' : List Value} {h h' : Hp}
theorem gd_some {len k : Nat} {x : So} {y : Rs ⊕ Cf} (hs : gd len k x = some y) : len = k ∧ x = some y := by
  unfold gd at hs
  split at hs
  · exact ⟨by assumption, hs⟩
  · cases hs
theorem s_step (HM : MnaOk) (G : Gx X m) (IH : Cs X E m) (hs : stp E m (pc, ls, st, h) = some (.inr (pc', ls', st', h'))) (k : Rn X m pc' ls' st' h') : Rn X m pc ls st h := by
  unfold stp at hs
  cases hd : decode (mB m) pc with
  | error q => simp only [hd] at hs; cases hs
  | ok x =>
    obtain ⟨ins, len⟩ := x
    simp only [hd] at hs
    cases ins with
    | iconst n => obtain ⟨rfl, hs⟩ := gd_some hs; exact s_iconst G hd hs k
    | bipush n => obtain ⟨rfl, hs⟩ := gd_some hs; exact s_bipush G hd hs k
    | sipush n => obtain ⟨rfl, hs⟩ := gd_some hs; exact s_sipush G hd hs k
    | ldc n => obtain ⟨rfl, hs⟩ := gd_some hs; exact s_ldc G hd hs k
    | ldc_w n => obtain ⟨rfl, hs⟩ := gd_some hs; exact s_ldcw G hd hs k
    | lconst n => obtain ⟨rfl, hs⟩ := gd_some hs; exact s_lconst G hd hs k
    | ldc2_w n => obtain ⟨rfl, hs⟩ := gd_some hs; exact s_ldc2 G hd hs k
    | iload_n n => obtain ⟨rfl, hs⟩ := gd_some hs; exact s_iload k hs (fun x => by obtain ⟨p, l, e, R, s, mi, args, below, meth, c, Q, b, base, L, xs, D, cI, cII⟩ := X; intro H locs cells slots A rest hl q; exact lv_iload_n G.1 G.2.1 hd rfl hl q)
    | iload n => obtain ⟨rfl, hs⟩ := gd_some hs; exact s_iload k hs (fun x => by obtain ⟨p, l, e, R, s, mi, args, below, meth, c, Q, b, base, L, xs, D, cI, cII⟩ := X; intro H locs cells slots A rest hl q; exact lv_iload G.1 G.2.1 hd hl q)
    | lload_n n => obtain ⟨rfl, hs⟩ := gd_some hs; exact s_lload k hs (fun x => by obtain ⟨p, l, e, R, s, mi, args, below, meth, c, Q, b, base, L, xs, D, cI, cII⟩ := X; intro H locs cells slots A rest hl q; exact lv_lload_n G.1 G.2.1 hd rfl hl q)
    | lload n => obtain ⟨rfl, hs⟩ := gd_some hs; exact s_lload k hs (fun x => by obtain ⟨p, l, e, R, s, mi, args, below, meth, c, Q, b, base, L, xs, D, cI, cII⟩ := X; intro H locs cells slots A rest hl q; exact lv_lload G.1 G.2.1 hd hl q)
    | aload_n n => obtain ⟨rfl, hs⟩ := gd_some hs; exact s_aload k hs (fun x => by obtain ⟨p, l, e, R, s, mi, args, below, meth, c, Q, b, base, L, xs, D, cI, cII⟩ := X; intro H locs cells slots A rest hl q; exact lv_aload_n G.1 G.2.1 hd rfl hl q)
    | aload n => obtain ⟨rfl, hs⟩ := gd_some hs; exact s_aload k hs (fun x => by obtain ⟨p, l, e, R, s, mi, args, below, meth, c, Q, b, base, L, xs, D, cI, cII⟩ := X; intro H locs cells slots A rest hl q; exact lv_aload G.1 G.2.1 hd hl q)
    | istore_n n => obtain ⟨rfl, hs⟩ := gd_some hs; exact s_istore k hs (fun x => by obtain ⟨p, l, e, R, s, mi, args, below, meth, c, Q, b, base, L, xs, D, cI, cII⟩ := X; intro H locs cells slots A rest nL lv hl hn q; exact lv_istore_n G.1 G.2.1 hd rfl hl hn rfl q)
    | istore n => obtain ⟨rfl, hs⟩ := gd_some hs; exact s_istore k hs (fun x => by obtain ⟨p, l, e, R, s, mi, args, below, meth, c, Q, b, base, L, xs, D, cI, cII⟩ := X; intro H locs cells slots A rest nL lv hl hn q; exact lv_istore G.1 G.2.1 hd hl hn rfl q)
    | astore_n n => obtain ⟨rfl, hs⟩ := gd_some hs; exact s_astore k hs (fun x => by obtain ⟨p, l, e, R, s, mi, args, below, meth, c, Q, b, base, L, xs, D, cI, cII⟩ := X; intro H locs cells slots A rest nL lv hl hn q; exact lv_astore_n G.1 G.2.1 hd rfl hl hn rfl q)
    | astore n => obtain ⟨rfl, hs⟩ := gd_some hs; exact s_astore k hs (fun x => by obtain ⟨p, l, e, R, s, mi, args, below, meth, c, Q, b, base, L, xs, D, cI, cII⟩ := X; intro H locs cells slots A rest nL lv hl hn q; exact lv_astore G.1 G.2.1 hd hl hn rfl q)
    | iinc i n => obtain ⟨rfl, hs⟩ := gd_some hs; exact s_iinc G hd hs k
    | iadd => obtain ⟨rfl, hs⟩ := gd_some hs; exact s_bin k hs (fun x y => by obtain ⟨p, l, e, R, s, mi, args, below, meth, c, Q, b, base, L, xs, D, cI, cII⟩ := X; intro H locs cells slots A rest q; exact lv_iadd G.1 G.2.1 hd q)
    | isub => obtain ⟨rfl, hs⟩ := gd_some hs; exact s_bin k hs (fun x y => by obtain ⟨p, l, e, R, s, mi, args, below, meth, c, Q, b, base, L, xs, D, cI, cII⟩ := X; intro H locs cells slots A rest q; exact lv_isub G.1 G.2.1 hd q)
    | imul => obtain ⟨rfl, hs⟩ := gd_some hs; exact s_bin k hs (fun x y => by obtain ⟨p, l, e, R, s, mi, args, below, meth, c, Q, b, base, L, xs, D, cI, cII⟩ := X; intro H locs cells slots A rest q; exact lv_imul G.1 G.2.1 hd q)
    | iand => obtain ⟨rfl, hs⟩ := gd_some hs; exact s_bin k hs (fun x y => by obtain ⟨p, l, e, R, s, mi, args, below, meth, c, Q, b, base, L, xs, D, cI, cII⟩ := X; intro H locs cells slots A rest q; exact lv_iand G.1 G.2.1 hd q)
    | ior => obtain ⟨rfl, hs⟩ := gd_some hs; exact s_bin k hs (fun x y => by obtain ⟨p, l, e, R, s, mi, args, below, meth, c, Q, b, base, L, xs, D, cI, cII⟩ := X; intro H locs cells slots A rest q; exact lv_ior G.1 G.2.1 hd q)
    | ixor => obtain ⟨rfl, hs⟩ := gd_some hs; exact s_bin k hs (fun x y => by obtain ⟨p, l, e, R, s, mi, args, below, meth, c, Q, b, base, L, xs, D, cI, cII⟩ := X; intro H locs cells slots A rest q; exact lv_ixor G.1 G.2.1 hd q)
    | ishl => obtain ⟨rfl, hs⟩ := gd_some hs; exact s_bin k hs (fun x y => by obtain ⟨p, l, e, R, s, mi, args, below, meth, c, Q, b, base, L, xs, D, cI, cII⟩ := X; intro H locs cells slots A rest q; exact lv_ishl G.1 G.2.1 hd q)
    | ishr => obtain ⟨rfl, hs⟩ := gd_some hs; exact s_bin k hs (fun x y => by obtain ⟨p, l, e, R, s, mi, args, below, meth, c, Q, b, base, L, xs, D, cI, cII⟩ := X; intro H locs cells slots A rest q; exact lv_ishr G.1 G.2.1 hd q)
    | idiv => obtain ⟨rfl, hs⟩ := gd_some hs; exact s_div k hs (fun x y hy => by obtain ⟨p, l, e, R, s, mi, args, below, meth, c, Q, b, base, L, xs, D, cI, cII⟩ := X; intro H locs cells slots A rest q; exact lv_idiv G.1 G.2.1 hd hy q)
    | irem => obtain ⟨rfl, hs⟩ := gd_some hs; exact s_div k hs (fun x y hy => by obtain ⟨p, l, e, R, s, mi, args, below, meth, c, Q, b, base, L, xs, D, cI, cII⟩ := X; intro H locs cells slots A rest q; exact lv_irem G.1 G.2.1 hd hy q)
    | ladd => obtain ⟨rfl, hs⟩ := gd_some hs; exact s_binL k hs (fun x y => by obtain ⟨p, l, e, R, s, mi, args, below, meth, c, Q, b, base, L, xs, D, cI, cII⟩ := X; intro H locs cells slots A rest q; exact lv_ladd G.1 G.2.1 hd q)
    | lmul => obtain ⟨rfl, hs⟩ := gd_some hs; exact s_binL k hs (fun x y => by obtain ⟨p, l, e, R, s, mi, args, below, meth, c, Q, b, base, L, xs, D, cI, cII⟩ := X; intro H locs cells slots A rest q; exact lv_lmul G.1 G.2.1 hd q)
    | lrem => obtain ⟨rfl, hs⟩ := gd_some hs; exact s_lrem G hd hs k
    | lcmp => obtain ⟨rfl, hs⟩ := gd_some hs; exact s_lcmp G hd hs k
    | i2l => obtain ⟨rfl, hs⟩ := gd_some hs; exact s_i2l G hd hs k
    | l2i => obtain ⟨rfl, hs⟩ := gd_some hs; exact s_l2i G hd hs k
    | dup => obtain ⟨rfl, hs⟩ := gd_some hs; exact s_dup G hd hs k
    | dup2 => obtain ⟨rfl, hs⟩ := gd_some hs; exact s_dup2 G hd hs k
    | pop => obtain ⟨rfl, hs⟩ := gd_some hs; exact s_pop G hd hs k
    | ifCond op off => obtain ⟨rfl, hs⟩ := gd_some hs; exact s_if G hd hs k
    | if_icmp op off => obtain ⟨rfl, hs⟩ := gd_some hs; exact s_ic G hd hs k
    | goto off => obtain ⟨rfl, hs⟩ := gd_some hs; exact s_goto G hd hs k
    | tableswitch d lo hi offs => exact s_sw G hd hs k
    | getfield i => obtain ⟨rfl, hs⟩ := gd_some hs; exact s_get G hd hs k
    | putfield i => obtain ⟨rfl, hs⟩ := gd_some hs; exact s_put G hd hs k
    | iaload => obtain ⟨rfl, hs⟩ := gd_some hs; exact s_ial G hd hs k
    | iastore => obtain ⟨rfl, hs⟩ := gd_some hs; exact s_ias G hd hs k
    | aaload => obtain ⟨rfl, hs⟩ := gd_some hs; exact s_aal G hd hs k
    | arraylength => obtain ⟨rfl, hs⟩ := gd_some hs; exact s_len G hd hs k
    | newarray t =>
      have hs : (if t = .int then gd len 2 (hNwa pc ls st h) else none) = some (.inr (pc', ls', st', h')) := hs
      split at hs
      · rename_i ht; subst ht; obtain ⟨rfl, hs⟩ := gd_some hs; exact s_nwa G hd hs k
      · cases hs
    | multianewarray i d =>
      have hs : (if d = 2 then gd len 4 (hMna m i pc ls st h) else none) = some (.inr (pc', ls', st', h')) := hs
      split at hs
      · rename_i ht; subst ht; obtain ⟨rfl, hs⟩ := gd_some hs; exact HM X m pc pc' i ls st ls' st' h h' G hd hs k
      · cases hs
    | new i => obtain ⟨rfl, hs⟩ := gd_some hs; exact s_new G hd hs k
    | invokevirtual i => obtain ⟨rfl, hs⟩ := gd_some hs; exact s_vir G IH hd hs k
    | invokestatic i => obtain ⟨rfl, hs⟩ := gd_some hs; exact s_sta G IH hd hs k
    | invokespecial i => obtain ⟨rfl, hs⟩ := gd_some hs; exact s_spe G IH hd hs k
    | ireturn =>
      obtain ⟨rfl, hs⟩ := gd_some hs
      have hs : hRetI m st h = some (.inr (pc', ls', st', h')) := hs
      unfold hRetI at hs
      (repeat' split at hs) <;> cases hs
    | return_ =>
      obtain ⟨rfl, hs⟩ := gd_some hs
      have hs : hRetV m st h = some (.inr (pc', ls', st', h')) := hs
      unfold hRetV at hs
      (repeat' split at hs) <;> cases hs
    | _ => cases hs
set_option maxHeartbeats 4000000 in
theorem stI_inl {ins : Instr} {len : Nat} {r : Rs} (hs : stI E m pc ls st h ins len = some (.inl r)) : (ins = .ireturn ∧ len = 1 ∧ hRetI m st h = some (.inl r)) ∨ (ins = .return_ ∧ len = 1 ∧ hRetV m st h = some (.inl r)) := by
  cases ins with
  | ireturn => obtain ⟨rfl, hs⟩ := gd_some hs; exact Or.inl ⟨rfl, rfl, hs⟩
  | return_ => obtain ⟨rfl, hs⟩ := gd_some hs; exact Or.inr ⟨rfl, rfl, hs⟩
  | _ =>
    exfalso
    revert hs
    simp only [stI, gd, hK, hKl, hIld, hLld, hAld, hIst, hAst, hInc, hBin, hDiv, hBinL, hRemL, hCmpL, hI2l, hL2i, hDup, hDup2, hPop, hBr, hIf, hIc, hGo, hSw, hGet, hPut, hIal, hIas, hAal, hLen, hNwa, hMna, hNew, hCall, hVir, hSta, hSpe, nx]
    first
      | (intro hs; cases hs; done)
      | ((repeat' split) <;> intro hs <;> cases hs)
end SNR
