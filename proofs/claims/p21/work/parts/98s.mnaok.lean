/-! THE MACHINE'S INSTRUCTION for rows of rows is what the small machine says -/
set_option maxHeartbeats 1000000 in
theorem mna_ok : MnaOk := by
  intro X m pc pc' i ls st ls' st' h h' G hd hh kk
  obtain ⟨p, l, e, R, s, mi, args, below, meth, c, Q, b, base, L, xs, D, cI, cII⟩ := X
  obtain ⟨hx1, hb, hml, hown, hts, hK, h1, h2, h3, h4, h5, h6, h7, h8, hm, hNW, hlk⟩ := G
  unfold hMna at hh
  split at hh
  · rename_i k n st0
    split at hh
    · rename_i hc
      obtain ⟨hm1, hm2, c1, c2, c3, c4, c5, c6⟩ := hc
      cases hh
      intro H locs cells slots A w1 w2 w3 w4 w5
      subst hm1
      subst hm2
      have hown2 : s.vm.findClass "StrongCells$Shelf" = some mi.cls := by
        have e : (mN mnaM).cls = "StrongCells$Shelf" := by decide +kernel
        rw [e] at hown
        exact hown
      have hdg : decode c.code pc = .ok (.multianewarray 15 2, 4) := by
        rw [hb]
        exact hd
      intro T hT X
      obtain ⟨comp, cO, kO, f1, -, f2, f3, f4⟩ := aoa_spec hNW.2
      have fI : s.vm.findClass (FieldType.array .int).toString = some cI := (hK.2 0 _ rfl).2
      have fII : s.vm.findClass ("[" ++ (FieldType.array .int).toString) = some cII := (hK.2 1 _ rfl).2
      have ec1 : comp = cI := Option.some.inj (f1.symm.trans fI)
      have ec2 : cO = cII := Option.some.inj (f4.symm.trans fII)
      subst ec1
      subst ec2
      obtain ⟨-, kR, hkR, cc, hRd⟩ := (hK.2 0 _ rfl).1 0 (fun _ => .int 0)
      have hpl : e.platform.magicAccessors = ({} : Platform).magicAccessors := by rw [X.admits.platform]
      obtain ⟨c0, hfc0, hcl⟩ := Cond.classLink_spec hown2 (hts _ mna_w) e.platform hpl
      have ec0 : c0 = cO := Option.some.inj (hfc0.symm.trans fII)
      subst ec0
      obtain ⟨hg₁, hwarm₁, hready₁⟩ := State.classEntry (e := e) X.warmed hcl
      generalize T.vm.noted mi.cls 15 (.cls c0) = vm₁ at hg₁ hwarm₁ hready₁
      obtain ⟨kO₁, hkO₁, heO⟩ := hwarm₁.alike.2.2 _ _ f2
      obtain ⟨kR₁, hkR₁, heR⟩ := hwarm₁.alike.2.2 _ _ hkR
      have hkindO : kO₁.kind = .array comp (.array .int) := by rw [heO]; exact f3
      have hkindR : kR₁.kind = .array cc .int := by rw [heR]; exact hRd
      have X₁ := X.noted hwarm₁
      have hmul : n.toNatClampNeg * k.toNatClampNeg ≤ h.2.2.1 := by omega
      obtain ⟨hr1, hr2⟩ := X.roomAbove (show cells + (1 + n.toNatClampNeg) ≤ R.cells by omega) (show slots + (n.toNatClampNeg + n.toNatClampNeg * k.toNatClampNeg) ≤ R.slots by omega)
      have b4 : ∀ z : Nat, z * componentBytes (.array .int) = z * 4 := fun z => rfl
      have b5 : ∀ z : Nat, z * componentBytes .int = z * 4 := fun z => rfl
      have l1 : ¬ n.toNatClampNeg > e.platform.arrayLengthLimit := by rw [Launch.admits_arrayLengthLimit X.admits]; omega
      have bb1 : ¬ n.toNatClampNeg * componentBytes (.array .int) > e.platform.maxHeapBytes := by rw [Launch.admits_maxHeapBytes X.admits, b4]; omega
      have l2 : ¬ k.toNatClampNeg > e.platform.arrayLengthLimit := by rw [Launch.admits_arrayLengthLimit X.admits]; omega
      have bb2 : ¬ k.toNatClampNeg * componentBytes .int > e.platform.maxHeapBytes := by rw [Launch.admits_maxHeapBytes X.admits, b5]; omega
      have XG := grw_X X₁ c0 comp n.toNatClampNeg k.toNatClampNeg n.toNatClampNeg
      have XF := XG.dropFresh (fun x hx => by
        obtain ⟨j, -, rfl⟩ := List.mem_map.mp hx
        exact X.heapGrown)
      obtain ⟨g1, g2, g3, g4⟩ := grw_f (s := T.setVm vm₁) (cO := c0) (cR := comp) (N := n.toNatClampNeg) (M := k.toNatClampNeg) n.toNatClampNeg
      have hsz : (T.setVm vm₁).heap.size = H.size := by show T.heap.size = _; rw [hT]
      have z1 : (grw (T.setVm vm₁) c0 comp n.toNatClampNeg k.toNatClampNeg n.toNatClampNeg).heap.size = H.size + 1 + n.toNatClampNeg := by rw [g1, hsz]
      have o1 : ∀ q, q < H.size → (grw (T.setVm vm₁) c0 comp n.toNatClampNeg k.toNatClampNeg n.toNatClampNeg).heap[q]? = H[q]? := fun q hq => by
        rw [grw_old (s := T.setVm vm₁) (by rw [hsz]; exact hq)]
        show T.heap[q]? = _
        rw [hT]
      have t1 : (grw (T.setVm vm₁) c0 comp n.toNatClampNeg k.toNatClampNeg n.toNatClampNeg).heap[H.size]? = some (arrV c0 n.toNatClampNeg (tbV H.size n.toNatClampNeg)) := by
        rw [← hsz]
        exact g2
      have r1 : ∀ j, j < n.toNatClampNeg → (grw (T.setVm vm₁) c0 comp n.toNatClampNeg k.toNatClampNeg n.toNatClampNeg).heap[H.size + 1 + j]? = some (rwV comp k.toNatClampNeg) := fun j hj => by
        rw [← hsz]
        exact grw_row n.toNatClampNeg j hj
      have wl := Wl_mna (bc := h.2.1 - (1 + n.toNatClampNeg)) (bs := h.2.2.1 - (n.toNatClampNeg + n.toNatClampNeg * k.toNatClampNeg)) w1 z1 o1 t1 r1
      have q := kk _ locs (cells + 1 + n.toNatClampNeg) (slots + n.toNatClampNeg + n.toNatClampNeg * k.toNatClampNeg) A wl ⟨Nat.le_trans w2.1 (by omega), fun x y1 y2 => (o1 x (Nat.lt_of_lt_of_le y1 w2.1)).trans (w2.2.1 x y1 y2), w2.2.2⟩
        (by show cells + 1 + n.toNatClampNeg + (h.2.1 - (1 + n.toNatClampNeg)) = _; omega) (by show slots + n.toNatClampNeg + n.toNatClampNeg * k.toNatClampNeg + (h.2.2.1 - (n.toNatClampNeg + n.toNatClampNeg * k.toNatClampNeg)) = _; omega) w5
      have e0 : cv b base (.ref (h.1 + 1)) = .ref H.size := by show Value.ref (ad b base (h.1 + 1)) = _; rw [ad_succ, w1.1]
      rw [List.map_cons, e0] at q
      obtain ⟨t, s1, s2⟩ := q _ rfl XF
      refine ⟨t, ?_, s2⟩
      rw [List.map_cons, List.map_cons]
      show Steps p.tables e below (T.setTop (F0 mi pc A (.int k :: .int n :: st0.map (cv b base)))) t
      jvm_step X.here [hx1, hdg]
      simp only [multianewarray.sem, wp_bind', W.resolveClassAt_links (State.method?_setTop (F0 mi pc A (.int k :: .int n :: st0.map (cv b base))) X.here.top) hg₁]
      rw [W.popN, if_neg (by decide)]
      refine ⟨F0 mi pc A (.int k :: .int n :: st0.map (cv b base)), State.topJava?_setTop' (s := T.setVm vm₁) _ X.here.top, [.int n, .int k], st0.map (cv b base), rfl, rfl, ?_⟩
      simp only [List.mapM_cons, List.mapM_nil, wp_bind', wp_pure']
      refine mk_table (kO := kO₁) (kR := kR₁) (cR := comp) (cc := cc) hkO₁ hkindO hkR₁ hkindR c1 c2 l1 bb1 l2 bb2 (by show T.heap.size + 1 + _ ≤ _; omega) (by show T.slotsUsed + _ + _ ≤ _; omega) (fun d' acts' => ?_)
      have eS : ((T.setTop (F0 mi pc A (.int k :: .int n :: st0.map (cv b base)))).setVm vm₁).setTop (F0 mi pc A (st0.map (cv b base))) = (T.setVm vm₁).setTop (F0 mi pc A (st0.map (cv b base))) := by
        show ((T.setVm vm₁).setTop _).setTop _ = _
        rw [State.setTop_setTop]
      rw [eS, grw_top]
      simp only [wp_bind', W.mark, W.pushRef, State.topJava?_setTop' _ XF.here.top, Option.some.injEq, exists_eq_left', State.setTop_setTop, State.heap_setTop]
      intro acts
      simp [jvm, XF.here.top]
      have hT2 : T.heap.size = H.size := hsz
      first
        | exact s1
        | (rw [hT2]; exact s1)
        | (rw [← hT2] at s1; exact s1)
    · cases hh
  · cases hh
