/-! THE LAW: its loop -/
section RR
variable {L i : Nat} {g g' : Nat → Nat → Int32}
theorem a_0 {L : Nat} {g : Nat → Nat → Int32} : Arr 0 (HP L g) := ⟨Nat.zero_le _, rfl⟩
theorem n_0 {L : Nat} {g : Nat → Nat → Int32} : Lng (HP L g) 0 = L := rfl
theorem l_0 {L : Nat} {g : Nat → Nat → Int32} : ArL 0 (HP L g) := ⟨Nat.zero_le _, Or.inl rfl⟩
noncomputable def lwS (L i : Nat) (pc : Nat) (g : Nat → Nat → Int32) : Option Rs := Rr 199 pc [.ref 0, .ref 1, .ref 86, .int (nI i)] [] (HP L g)
theorem lw_told (w : WW g) (hL : L ≤ 3072) (hi : i + 6 ≤ L) : ∃ g', lwS L i 120 g = lwS L i 584 g' ∧ WW g' ∧ g' 0 = g 0 := by
  obtain ⟨v, g1, g2, d1, f1, d2, w2, f2⟩ := B_told (L := L) (x := g 0 (nI (i + 1)).toNatClampNeg) w
  have q1 : ¬ (nI (i + 1) < 0 ∨ L ≤ (nI (i + 1)).toNatClampNeg) := nI_in (by omega) (by omega)
  refine ⟨g2, ?_, w2, f2⟩
  unfold lwS
  simp only [e199_120, e199_121, e199_122, e199_123, e199_124, e199_125, e199_126, e199_129, e199_130, e199_131, e199_132, e199_133, e199_134, e199_135, e199_138, e199_141, e199_142, en_186, en_198, i_1, i_86, a_0, n_0, Hq_G, nI_add, q1, d1, d2, f1, not_false_eq_true, if_true, lvH_Hq, Option.bind_some, psh_i]
theorem lw_cell (w : WW g) (hL : L ≤ 3072) (hi : i + 6 ≤ L) : ∃ g', lwS L i 143 g = lwS L i 584 g' ∧ WW g' ∧ g' 0 = g 0 := by
  obtain ⟨v, g1, g2, d1, f1, d2, w2, f2⟩ := B_cell (L := L) (x := g 0 (nI (i + 1)).toNatClampNeg) w
  have q1 : ¬ (nI (i + 1) < 0 ∨ L ≤ (nI (i + 1)).toNatClampNeg) := nI_in (by omega) (by omega)
  refine ⟨g2, ?_, w2, f2⟩
  unfold lwS
  simp only [e199_143, e199_144, e199_145, e199_146, e199_147, e199_148, e199_149, e199_152, e199_153, e199_154, e199_155, e199_156, e199_157, e199_158, e199_161, e199_164, e199_165, en_37, en_137, i_1, i_86, a_0, n_0, Hq_G, nI_add, q1, d1, d2, f1, not_false_eq_true, if_true, lvH_Hq, Option.bind_some, psh_i]
theorem lw_process (w : WW g) (hL : L ≤ 3072) (hi : i + 6 ≤ L) : ∃ g', lwS L i 166 g = lwS L i 584 g' ∧ WW g' ∧ g' 0 = g 0 := by
  obtain ⟨v, g1, g2, d1, f1, d2, w2, f2⟩ := B_process (L := L) (x := g 0 (nI (i + 1)).toNatClampNeg) (y := g 0 (nI (i + 2)).toNatClampNeg) w
  have q1 : ¬ (nI (i + 1) < 0 ∨ L ≤ (nI (i + 1)).toNatClampNeg) := nI_in (by omega) (by omega)
  have q2 : ¬ (nI (i + 2) < 0 ∨ L ≤ (nI (i + 2)).toNatClampNeg) := nI_in (by omega) (by omega)
  refine ⟨g2, ?_, w2, f2⟩
  unfold lwS
  simp only [e199_166, e199_167, e199_168, e199_169, e199_170, e199_171, e199_172, e199_173, e199_174, e199_175, e199_176, e199_177, e199_180, e199_181, e199_182, e199_183, e199_184, e199_185, e199_186, e199_187, e199_188, e199_189, e199_190, e199_191, e199_194, e199_197, e199_198, en_155, en_161, i_1, i_86, a_0, n_0, Hq_G, nI_add, q1, q2, d1, d2, f1, not_false_eq_true, if_true, lvH_Hq, Option.bind_some, psh_i]
theorem lw_act (w : WW g) (hL : L ≤ 3072) (hi : i + 6 ≤ L) : ∃ g', lwS L i 199 g = lwS L i 584 g' ∧ WW g' ∧ g' 0 = g 0 := by
  obtain ⟨v, g1, g2, d1, f1, d2, w2, f2⟩ := B_act (L := L) (x := g 0 (nI (i + 1)).toNatClampNeg) (y := g 0 (nI (i + 2)).toNatClampNeg) w
  have q1 : ¬ (nI (i + 1) < 0 ∨ L ≤ (nI (i + 1)).toNatClampNeg) := nI_in (by omega) (by omega)
  have q2 : ¬ (nI (i + 2) < 0 ∨ L ≤ (nI (i + 2)).toNatClampNeg) := nI_in (by omega) (by omega)
  refine ⟨g2, ?_, w2, f2⟩
  unfold lwS
  simp only [e199_199, e199_200, e199_201, e199_202, e199_203, e199_204, e199_205, e199_206, e199_207, e199_208, e199_209, e199_210, e199_213, e199_214, e199_215, e199_216, e199_217, e199_218, e199_219, e199_220, e199_221, e199_222, e199_223, e199_224, e199_227, e199_230, e199_231, en_180, en_182, i_1, i_86, a_0, n_0, Hq_G, nI_add, q1, q2, d1, d2, f1, not_false_eq_true, if_true, lvH_Hq, Option.bind_some, psh_i]
theorem lw_ways (w : WW g) (hL : L ≤ 3072) (hi : i + 6 ≤ L) : ∃ g', lwS L i 232 g = lwS L i 584 g' ∧ WW g' ∧ g' 0 = g 0 := by
  obtain ⟨v, g1, g2, d1, f1, d2, w2, f2⟩ := B_ways (L := L) (x := g 0 (nI (i + 1)).toNatClampNeg) w
  have q1 : ¬ (nI (i + 1) < 0 ∨ L ≤ (nI (i + 1)).toNatClampNeg) := nI_in (by omega) (by omega)
  refine ⟨g2, ?_, w2, f2⟩
  unfold lwS
  simp only [e199_232, e199_233, e199_234, e199_235, e199_236, e199_237, e199_238, e199_241, e199_242, e199_243, e199_244, e199_245, e199_246, e199_247, e199_250, e199_253, e199_254, en_187, en_197, i_1, i_86, a_0, n_0, Hq_G, nI_add, q1, d1, d2, f1, not_false_eq_true, if_true, lvH_Hq, Option.bind_some, psh_i]
theorem lw_build (w : WW g) (hL : L ≤ 3072) (hi : i + 6 ≤ L) : ∃ g', lwS L i 255 g = lwS L i 584 g' ∧ WW g' ∧ g' 0 = g 0 := by
  obtain ⟨v, g1, g2, d1, f1, d2, w2, f2⟩ := B_build (L := L) (x1 := g 0 (nI (i + 1)).toNatClampNeg) (x2 := g 0 (nI (i + 2)).toNatClampNeg) (x3 := g 0 (nI (i + 3)).toNatClampNeg) (x4 := g 0 (nI (i + 4)).toNatClampNeg) (x5 := g 0 (nI (i + 5)).toNatClampNeg) w
  have q1 : ¬ (nI (i + 1) < 0 ∨ L ≤ (nI (i + 1)).toNatClampNeg) := nI_in (by omega) (by omega)
  have q2 : ¬ (nI (i + 2) < 0 ∨ L ≤ (nI (i + 2)).toNatClampNeg) := nI_in (by omega) (by omega)
  have q3 : ¬ (nI (i + 3) < 0 ∨ L ≤ (nI (i + 3)).toNatClampNeg) := nI_in (by omega) (by omega)
  have q4 : ¬ (nI (i + 4) < 0 ∨ L ≤ (nI (i + 4)).toNatClampNeg) := nI_in (by omega) (by omega)
  have q5 : ¬ (nI (i + 5) < 0 ∨ L ≤ (nI (i + 5)).toNatClampNeg) := nI_in (by omega) (by omega)
  refine ⟨g2, ?_, w2, f2⟩
  unfold lwS
  simp only [e199_255, e199_256, e199_257, e199_258, e199_259, e199_260, e199_261, e199_262, e199_263, e199_264, e199_265, e199_266, e199_267, e199_268, e199_269, e199_270, e199_271, e199_272, e199_273, e199_274, e199_275, e199_276, e199_277, e199_278, e199_279, e199_280, e199_281, e199_284, e199_285, e199_286, e199_287, e199_288, e199_289, e199_290, e199_291, e199_292, e199_293, e199_294, e199_295, e199_296, e199_297, e199_298, e199_299, e199_300, e199_301, e199_302, e199_303, e199_304, e199_305, e199_306, e199_307, e199_308, e199_309, e199_310, e199_313, e199_316, e199_317, en_79, en_153, i_1, i_86, a_0, n_0, Hq_G, nI_add, q1, q2, q3, q4, q5, d1, d2, f1, not_false_eq_true, if_true, lvH_Hq, Option.bind_some, psh_i]
theorem lw_clear (w : WW g) (hL : L ≤ 3072) (hi : i + 6 ≤ L) : ∃ g', lwS L i 318 g = lwS L i 584 g' ∧ WW g' ∧ g' 0 = g 0 := by
  obtain ⟨v, g1, g2, d1, f1, d2, w2, f2⟩ := B_clear (L := L) w
  refine ⟨g2, ?_, w2, f2⟩
  unfold lwS
  simp only [e199_318, e199_319, e199_322, e199_323, e199_326, e199_329, e199_330, en_81, en_154, i_1, i_86, a_0, n_0, Hq_G, nI_add, d1, d2, f1, not_false_eq_true, if_true, lvH_Hq, Option.bind_some, psh_i]
theorem lw_begin (w : WW g) (hL : L ≤ 3072) (hi : i + 6 ≤ L) : ∃ g', lwS L i 331 g = lwS L i 584 g' ∧ WW g' ∧ g' 0 = g 0 := by
  obtain ⟨v, g1, g2, d1, f1, d2, w2, f2⟩ := B_begin (L := L) (x := g 0 (nI (i + 1)).toNatClampNeg) (y := g 0 (nI (i + 2)).toNatClampNeg) w
  have q1 : ¬ (nI (i + 1) < 0 ∨ L ≤ (nI (i + 1)).toNatClampNeg) := nI_in (by omega) (by omega)
  have q2 : ¬ (nI (i + 2) < 0 ∨ L ≤ (nI (i + 2)).toNatClampNeg) := nI_in (by omega) (by omega)
  refine ⟨g2, ?_, w2, f2⟩
  unfold lwS
  simp only [e199_331, e199_332, e199_333, e199_334, e199_335, e199_336, e199_337, e199_338, e199_339, e199_340, e199_341, e199_342, e199_345, e199_346, e199_347, e199_348, e199_349, e199_350, e199_351, e199_352, e199_353, e199_354, e199_355, e199_356, e199_359, e199_362, e199_363, en_141, en_166, i_1, i_86, a_0, n_0, Hq_G, nI_add, q1, q2, d1, d2, f1, not_false_eq_true, if_true, lvH_Hq, Option.bind_some, psh_i]
theorem lw_step (w : WW g) (hL : L ≤ 3072) (hi : i + 6 ≤ L) : ∃ g', lwS L i 364 g = lwS L i 584 g' ∧ WW g' ∧ g' 0 = g 0 := by
  obtain ⟨v, g1, g2, d1, f1, d2, w2, f2⟩ := B_step (L := L) (x := g 0 (nI (i + 1)).toNatClampNeg) (y := g 0 (nI (i + 2)).toNatClampNeg) w
  have q1 : ¬ (nI (i + 1) < 0 ∨ L ≤ (nI (i + 1)).toNatClampNeg) := nI_in (by omega) (by omega)
  have q2 : ¬ (nI (i + 2) < 0 ∨ L ≤ (nI (i + 2)).toNatClampNeg) := nI_in (by omega) (by omega)
  refine ⟨g2, ?_, w2, f2⟩
  unfold lwS
  simp only [e199_364, e199_365, e199_366, e199_367, e199_368, e199_369, e199_370, e199_371, e199_372, e199_373, e199_374, e199_375, e199_378, e199_379, e199_380, e199_381, e199_382, e199_383, e199_384, e199_385, e199_386, e199_387, e199_388, e199_389, e199_392, e199_395, e199_396, en_169, en_192, i_1, i_86, a_0, n_0, Hq_G, nI_add, q1, q2, d1, d2, f1, not_false_eq_true, if_true, lvH_Hq, Option.bind_some, psh_i]
theorem lw_run (w : WW g) (hL : L ≤ 3072) (hi : i + 6 ≤ L) : ∃ g', lwS L i 397 g = lwS L i 584 g' ∧ WW g' ∧ g' 0 = g 0 := by
  obtain ⟨v, g1, g2, d1, f1, d2, w2, f2⟩ := B_run (L := L) w
  refine ⟨g2, ?_, w2, f2⟩
  unfold lwS
  simp only [e199_397, e199_398, e199_401, e199_402, e199_405, e199_408, e199_409, en_168, en_195, i_1, i_86, a_0, n_0, Hq_G, nI_add, d1, d2, f1, not_false_eq_true, if_true, lvH_Hq, Option.bind_some, psh_i]
theorem lw_bad (w : WW g) (hL : L ≤ 3072) (hi : i + 6 ≤ L) : ∃ g', lwS L i 410 g = lwS L i 584 g' ∧ WW g' ∧ g' 0 = g 0 := by
  obtain ⟨v, g1, g2, d1, f1, d2, w2, f2⟩ := B_bad (L := L) w
  refine ⟨g2, ?_, w2, f2⟩
  unfold lwS
  simp only [e199_410, e199_411, e199_414, e199_415, e199_418, e199_421, e199_422, en_185, en_193, i_1, i_86, a_0, n_0, Hq_G, nI_add, d1, d2, f1, not_false_eq_true, if_true, lvH_Hq, Option.bind_some, psh_i]
theorem lw_drift (w : WW g) (hL : L ≤ 3072) (hi : i + 6 ≤ L) : ∃ g', lwS L i 423 g = lwS L i 584 g' ∧ WW g' ∧ g' 0 = g 0 := by
  obtain ⟨v, g1, g2, d1, f1, d2, w2, f2⟩ := B_drift (L := L) (x := g 0 (nI (i + 1)).toNatClampNeg) w
  have q1 : ¬ (nI (i + 1) < 0 ∨ L ≤ (nI (i + 1)).toNatClampNeg) := nI_in (by omega) (by omega)
  refine ⟨g2, ?_, w2, f2⟩
  unfold lwS
  simp only [e199_423, e199_424, e199_425, e199_426, e199_427, e199_428, e199_429, e199_432, e199_433, e199_434, e199_435, e199_436, e199_437, e199_438, e199_441, e199_444, e199_445, en_181, en_194, i_1, i_86, a_0, n_0, Hq_G, nI_add, q1, d1, d2, f1, not_false_eq_true, if_true, lvH_Hq, Option.bind_some, psh_i]
theorem lw_undo (w : WW g) (hL : L ≤ 3072) (hi : i + 6 ≤ L) : ∃ g', lwS L i 446 g = lwS L i 584 g' ∧ WW g' ∧ g' 0 = g 0 := by
  obtain ⟨v, g1, g2, d1, f1, d2, w2, f2⟩ := B_undo (L := L) (x := g 0 (nI (i + 1)).toNatClampNeg) w
  have q1 : ¬ (nI (i + 1) < 0 ∨ L ≤ (nI (i + 1)).toNatClampNeg) := nI_in (by omega) (by omega)
  refine ⟨g2, ?_, w2, f2⟩
  unfold lwS
  simp only [e199_446, e199_447, e199_448, e199_449, e199_450, e199_451, e199_452, e199_455, e199_456, e199_457, e199_458, e199_459, e199_460, e199_461, e199_464, e199_467, e199_468, en_49, en_119, i_1, i_86, a_0, n_0, Hq_G, nI_add, q1, d1, d2, f1, not_false_eq_true, if_true, lvH_Hq, Option.bind_some, psh_i]
theorem lw_write (w : WW g) (hL : L ≤ 3072) (hi : i + 6 ≤ L) : ∃ g', lwS L i 469 g = lwS L i 584 g' ∧ WW g' ∧ g' 0 = g 0 := by
  obtain ⟨v, g1, g2, d1, f1, d2, w2, f2⟩ := B_write (L := L) (x := g 0 (nI (i + 1)).toNatClampNeg) (y := g 0 (nI (i + 2)).toNatClampNeg) w
  have q1 : ¬ (nI (i + 1) < 0 ∨ L ≤ (nI (i + 1)).toNatClampNeg) := nI_in (by omega) (by omega)
  have q2 : ¬ (nI (i + 2) < 0 ∨ L ≤ (nI (i + 2)).toNatClampNeg) := nI_in (by omega) (by omega)
  refine ⟨g2, ?_, w2, f2⟩
  unfold lwS
  simp only [e199_469, e199_470, e199_471, e199_472, e199_473, e199_474, e199_475, e199_476, e199_477, e199_478, e199_479, e199_480, e199_483, e199_484, e199_485, e199_486, e199_487, e199_488, e199_489, e199_490, e199_491, e199_492, e199_493, e199_494, e199_497, e199_500, e199_501, en_94, en_120, i_1, i_86, a_0, n_0, Hq_G, nI_add, q1, q2, d1, d2, f1, not_false_eq_true, if_true, lvH_Hq, Option.bind_some, psh_i]
theorem lw_tear (w : WW g) (hL : L ≤ 3072) (hi : i + 6 ≤ L) : ∃ g', lwS L i 502 g = lwS L i 584 g' ∧ WW g' ∧ g' 0 = g 0 := by
  obtain ⟨v, g1, g2, d1, f1, d2, w2, f2⟩ := B_tear (L := L) w
  refine ⟨g2, ?_, w2, f2⟩
  unfold lwS
  simp only [e199_502, e199_503, e199_506, e199_507, e199_510, e199_513, e199_514, en_14, en_77, i_1, i_86, a_0, n_0, Hq_G, nI_add, d1, d2, f1, not_false_eq_true, if_true, lvH_Hq, Option.bind_some, psh_i]
theorem lw_seed (w : WW g) (hL : L ≤ 3072) (hi : i + 6 ≤ L) : ∃ g', lwS L i 515 g = lwS L i 584 g' ∧ WW g' ∧ g' 0 = g 0 := by
  obtain ⟨v, g1, g2, d1, f1, d2, w2, f2⟩ := B_seed (L := L) (x := g 0 (nI (i + 1)).toNatClampNeg) w
  have q1 : ¬ (nI (i + 1) < 0 ∨ L ≤ (nI (i + 1)).toNatClampNeg) := nI_in (by omega) (by omega)
  refine ⟨g2, ?_, w2, f2⟩
  unfold lwS
  simp only [e199_515, e199_516, e199_517, e199_518, e199_519, e199_520, e199_521, e199_524, e199_525, e199_526, e199_527, e199_528, e199_529, e199_530, e199_533, e199_536, e199_537, en_13, en_34, i_1, i_86, a_0, n_0, Hq_G, nI_add, q1, d1, d2, f1, not_false_eq_true, if_true, lvH_Hq, Option.bind_some, psh_i]
theorem lw_keep (w : WW g) (hL : L ≤ 3072) (hi : i + 6 ≤ L) : ∃ g', lwS L i 538 g = lwS L i 584 g' ∧ WW g' ∧ g' 0 = g 0 := by
  obtain ⟨v, g1, g2, d1, f1, d2, w2, f2⟩ := B_keep (L := L) (x := g 0 (nI (i + 1)).toNatClampNeg) w
  have q1 : ¬ (nI (i + 1) < 0 ∨ L ≤ (nI (i + 1)).toNatClampNeg) := nI_in (by omega) (by omega)
  refine ⟨g2, ?_, w2, f2⟩
  unfold lwS
  simp only [e199_538, e199_539, e199_540, e199_541, e199_542, e199_543, e199_544, e199_547, e199_548, e199_549, e199_550, e199_551, e199_552, e199_553, e199_556, e199_559, e199_560, en_43, en_117, i_1, i_86, a_0, n_0, Hq_G, nI_add, q1, d1, d2, f1, not_false_eq_true, if_true, lvH_Hq, Option.bind_some, psh_i]
theorem lw_back (w : WW g) (hL : L ≤ 3072) (hi : i + 6 ≤ L) : ∃ g', lwS L i 561 g = lwS L i 584 g' ∧ WW g' ∧ g' 0 = g 0 := by
  obtain ⟨v, g1, g2, d1, f1, d2, w2, f2⟩ := B_back (L := L) (x := g 0 (nI (i + 1)).toNatClampNeg) w
  have q1 : ¬ (nI (i + 1) < 0 ∨ L ≤ (nI (i + 1)).toNatClampNeg) := nI_in (by omega) (by omega)
  refine ⟨g2, ?_, w2, f2⟩
  unfold lwS
  simp only [e199_561, e199_562, e199_563, e199_564, e199_565, e199_566, e199_567, e199_570, e199_571, e199_572, e199_573, e199_574, e199_575, e199_576, e199_579, e199_582, e199_583, en_38, en_138, i_1, i_86, a_0, n_0, Hq_G, nI_add, q1, d1, d2, f1, not_false_eq_true, if_true, lvH_Hq, Option.bind_some, psh_i]
theorem lt_6 (hL : L ≤ 3072) (hi : i ≤ 4000) : nI L - nI 6 < nI i ↔ L < i + 6 := by
  by_cases h : 6 ≤ L
  · rw [pk_sub h, nI_ltI (by omega) (by omega)]
    omega
  · have z : nI L - nI 6 < 0 := by
      match L, h with
      | 0, _ => decide
      | 1, _ => decide
      | 2, _ => decide
      | 3, _ => decide
      | 4, _ => decide
      | 5, _ => decide
      | L + 6, h => omega
    have z2 : (0 : Int32) ≤ nI i := (nI_leI (a := 0) (by omega) (by omega)).mpr (Nat.zero_le _)
    exact ⟨fun _ => by omega, fun _ => Int32.lt_of_lt_of_le z z2⟩
theorem lw_exit (hL : L ≤ 3072) (hi : i ≤ 4000) (h : L < i + 6) : lwS L i 18 g = some (some 1, HP L g) := by
  have q := (lt_6 hL hi).mpr h
  unfold lwS
  simp only [e199_18, e199_19, e199_20, e199_21, e199_23, e199_24, e199_590, e199_591, l_0, n_0, q, if_true, one_01]
  rfl
theorem lw_next (hL : L ≤ 3072) (hi : i + 6 ≤ L) : lwS L i 584 g = lwS L (i + 6) 18 g := by
  unfold lwS
  simp only [e199_584, e199_587, nI_add]
theorem lw_turn (w : WW g) (hL : L ≤ 3072) (hi : i + 6 ≤ L) : ∃ g', lwS L i 18 g = lwS L i 584 g' ∧ WW g' := by
  have q : ¬ nI L - nI 6 < nI i := fun z => by
    have := (lt_6 hL (by omega)).mp z
    omega
  have q0 : ¬ (nI i < 0 ∨ L ≤ (nI i).toNatClampNeg) := nI_in (by omega) (by omega)
  have key : ∃ g', lwS L i 18 g = lwS L i 584 g' ∧ WW g' ∧ g' 0 = g 0 := by
    unfold lwS
    simp only [e199_18, e199_19, e199_20, e199_21, e199_23, e199_24, e199_27, e199_28, e199_29, e199_30, e199_32, e199_33, l_0, a_0, n_0, q, q0, if_false, Hq_G, not_false_eq_true]
    generalize g 0 (nI i).toNatClampNeg &&& nI 31 = y
    by_cases c0 : y = nI 0
    · rw [if_pos c0]
      exact lw_told w hL hi
    rw [if_neg c0]
    by_cases c1 : y = nI 1
    · rw [if_pos c1]
      exact lw_cell w hL hi
    rw [if_neg c1]
    by_cases c2 : y = nI 2
    · rw [if_pos c2]
      exact lw_process w hL hi
    rw [if_neg c2]
    by_cases c3 : y = nI 3
    · rw [if_pos c3]
      exact lw_act w hL hi
    rw [if_neg c3]
    by_cases c4 : y = nI 4
    · rw [if_pos c4]
      exact lw_ways w hL hi
    rw [if_neg c4]
    by_cases c5 : y = nI 5
    · rw [if_pos c5]
      exact lw_build w hL hi
    rw [if_neg c5]
    by_cases c6 : y = nI 6
    · rw [if_pos c6]
      exact lw_clear w hL hi
    rw [if_neg c6]
    by_cases c7 : y = nI 7
    · rw [if_pos c7]
      exact lw_begin w hL hi
    rw [if_neg c7]
    by_cases c8 : y = nI 8
    · rw [if_pos c8]
      exact lw_step w hL hi
    rw [if_neg c8]
    by_cases c9 : y = nI 9
    · rw [if_pos c9]
      exact lw_run w hL hi
    rw [if_neg c9]
    by_cases c10 : y = nI 10
    · rw [if_pos c10]
      exact lw_bad w hL hi
    rw [if_neg c10]
    by_cases c11 : y = nI 11
    · rw [if_pos c11]
      exact lw_drift w hL hi
    rw [if_neg c11]
    by_cases c12 : y = nI 12
    · rw [if_pos c12]
      exact lw_undo w hL hi
    rw [if_neg c12]
    by_cases c13 : y = nI 13
    · rw [if_pos c13]
      exact lw_write w hL hi
    rw [if_neg c13]
    by_cases c14 : y = nI 14
    · rw [if_pos c14]
      exact lw_tear w hL hi
    rw [if_neg c14]
    by_cases c15 : y = nI 15
    · rw [if_pos c15]
      exact lw_seed w hL hi
    rw [if_neg c15]
    by_cases c16 : y = nI 16
    · rw [if_pos c16]
      exact lw_keep w hL hi
    rw [if_neg c16]
    by_cases c17 : y = nI 17
    · rw [if_pos c17]
      exact lw_back w hL hi
    rw [if_neg c17]
    exact ⟨g, rfl, w, rfl⟩
  obtain ⟨g', h1, h2, -⟩ := key
  exact ⟨g', h1, h2⟩
theorem lw_loop (hL : L ≤ 3072) : ∀ d i g, WW g → L ≤ i + d → i ≤ 4000 → ∃ h', lwS L i 18 g = some (some 1, h')
  | 0, i, g, w, h, hi => ⟨_, lw_exit hL hi (by omega)⟩
  | d + 1, i, g, w, h, hi => by
    by_cases c : L < i + 6
    · exact ⟨_, lw_exit hL hi c⟩
    · obtain ⟨g1, e1, w1⟩ := lw_turn w hL (show i + 6 ≤ L by omega)
      obtain ⟨h', e2⟩ := lw_loop hL d (i + 6) g1 w1 (by omega) (by omega)
      exact ⟨h', by rw [e1, lw_next hL (by omega), e2]⟩
end RR
