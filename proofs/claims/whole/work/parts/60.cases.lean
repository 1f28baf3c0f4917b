section LK
variable {Z : lC} {G : zG} {L : Nat} {xs : Nat → Int32} {M : zM} {d : Int} {n i : Nat}
theorem i_h7 (I : INV d n M) : M.1 (2, 0, 0) 4 = M.1 (6, 0, 0) 5 := by
  obtain ⟨l, h⟩ := I.2.2.2.1
  rw [h.2.1, h.2.2.1]
theorem i_h8 (I : INV d n M) : M.1 (2, 0, 0) 6 = M.1 (6, 0, 0) 6 := by
  obtain ⟨l, h⟩ := I.2.2.2.2
  rw [h.2.1, h.2.2.1]
theorem ty_6 {k : Nat} {l : Int32} : (L_type M k l).2.1 (6, 0, 0) 5 = M.1 (6, 0, 0) 5 := by
  unfold L_type
  split
  · rfl
  · split
    · unfold sc_ap
      dsimp only
      rw [zo (by simp), zo (by simp)]
    · rfl
def lNx (Z : lC) (G : zG) (d : Int) (n i : Nat) : Prop := ∀ M2, INV d (n + 34) M2 → lW Z G 28 (lsL Z G (i + 4)) [] M2
def l56 (G : zG) : Prop := (5, 0, 0) ∈ G.2.2.2.2 ∧ (6, 0, 0) ∈ G.2.2.2.2

theorem k_setClock (ok : l_ok Z G L xs) (h56 : l56 G) (I : INV d n M) (hi : i + 3 < L) (hn : n + 34 < 1000000) (next : lNx Z G d n i) : lW Z G 204 (lsL Z G i) [] M := by
  have T := @t_setClock d n M (xs (i + 1)) (xs (i + 2)) I
  refine l_al ok lat_204 (j := 2) rfl ?_
  refine l_arg ok (i := i) (a := 1) (j := 1) (j2 := 0) ⟨lat_205, lat_206, lat_207, lat_208, lat_209⟩ (by decide) rfl rfl (by omega) ?_
  refine l_arg ok (i := i) (a := 2) (j := 1) (j2 := 0) ⟨lat_210, lat_211, lat_212, lat_213, lat_214⟩ (by decide) rfl rfl (by omega) ?_
  refine l_call ok (idx := 21) (n := 2) (ci := 5) (md2 := md_Le_setClock) (r := (5, 0, 0)) (as := [.inl (xs (i + 1)), .inl (xs (i + 2))]) (rest := []) lat_215 (gw_in1 235 rfl rfl) ca_Le_setClock rfl rfl h56.1 rfl rfl (Nat.le_of_ble_eq_true rfl) (l_lv [(xs (i + 1)), (xs (i + 2))]) (sp_Le_setClock (hG := ok.2.2.1)  ?_)
  refine l_pi ?_
  refine l_al ok lat_218 (j := 3) rfl ?_
  refine l_arg ok (i := i) (a := 1) (j := 1) (j2 := 0) ⟨lat_219, lat_220, lat_221, lat_222, lat_223⟩ (by decide) rfl rfl (by omega) ?_
  refine l_arg ok (i := i) (a := 2) (j := 1) (j2 := 0) ⟨lat_224, lat_225, lat_226, lat_227, lat_228⟩ (by decide) rfl rfl (by omega) ?_
  refine l_call ok (idx := 25) (n := 2) (ci := 6) (md2 := md_Mo_setClock) (r := (6, 0, 0)) (as := [.inl (xs (i + 1)), .inl (xs (i + 2))]) (rest := [_]) lat_229 (gw_in4 5 rfl rfl) ca_Mo_setClock rfl rfl h56.2 rfl rfl (Nat.le_of_ble_eq_true rfl) (l_lv [(xs (i + 1)), (xs (i + 2))]) (sp_Mo_setClock (hG := ok.2.2.1)  ?_)
  refine l_pi ?_
  exact l_eq ok lat_232 (t := 1262) (by decide) T.1 (l_nx ok (next _ T.2))
theorem k_clock (ok : l_ok Z G L xs) (h56 : l56 G) (I : INV d n M) (hi : i + 3 < L) (hn : n + 34 < 1000000) (next : lNx Z G d n i) : lW Z G 237 (lsL Z G i) [] M := by
  have T : _ ∧ _ := ⟨q_clock (a := (xs (i + 1))) (w := (xs (i + 2))) I.1.1.1 I.2.1, INV_up (n' := n + 34) I (by omega)⟩
  refine l_al ok lat_237 (j := 2) rfl ?_
  refine l_arg ok (i := i) (a := 1) (j := 1) (j2 := 0) ⟨lat_238, lat_239, lat_240, lat_241, lat_242⟩ (by decide) rfl rfl (by omega) ?_
  refine l_arg ok (i := i) (a := 2) (j := 1) (j2 := 0) ⟨lat_243, lat_244, lat_245, lat_246, lat_247⟩ (by decide) rfl rfl (by omega) ?_
  refine l_call ok (idx := 26) (n := 2) (ci := 5) (md2 := md_Le_clock) (r := (5, 0, 0)) (as := [.inl (xs (i + 1)), .inl (xs (i + 2))]) (rest := []) lat_248 (gw_in2 5 rfl rfl) ca_Le_clock rfl rfl h56.1 rfl rfl (Nat.le_of_ble_eq_true rfl) (l_lv [(xs (i + 1)), (xs (i + 2))]) (sp_Le_clock (hG := ok.2.2.1)  ?_)
  refine l_pi ?_
  refine l_al ok lat_251 (j := 3) rfl ?_
  refine l_arg ok (i := i) (a := 1) (j := 1) (j2 := 0) ⟨lat_252, lat_253, lat_254, lat_255, lat_256⟩ (by decide) rfl rfl (by omega) ?_
  refine l_arg ok (i := i) (a := 2) (j := 1) (j2 := 0) ⟨lat_257, lat_258, lat_259, lat_260, lat_261⟩ (by decide) rfl rfl (by omega) ?_
  refine l_call ok (idx := 29) (n := 2) (ci := 6) (md2 := md_Mo_clock) (r := (6, 0, 0)) (as := [.inl (xs (i + 1)), .inl (xs (i + 2))]) (rest := [_]) lat_262 (gw_in4 15 rfl rfl) ca_Mo_clock rfl rfl h56.2 rfl rfl (Nat.le_of_ble_eq_true rfl) (l_lv [(xs (i + 1)), (xs (i + 2))]) (sp_Mo_clock (hG := ok.2.2.1)  ?_)
  refine l_pi ?_
  exact l_eq ok lat_265 (t := 1262) (by decide) T.1 (l_nx ok (next _ T.2))
theorem k_pass (ok : l_ok Z G L xs) (h56 : l56 G) (I : INV d n M) (hi : i + 3 < L) (hn : n + 34 < 1000000) (next : lNx Z G d n i) : lW Z G 270 (lsL Z G i) [] M := by
  have T := @t_pass d n M (xs (i + 1)) I
  refine l_al ok lat_270 (j := 2) rfl ?_
  refine l_arg ok (i := i) (a := 1) (j := 1) (j2 := 0) ⟨lat_271, lat_272, lat_273, lat_274, lat_275⟩ (by decide) rfl rfl (by omega) ?_
  refine l_call ok (idx := 30) (n := 1) (ci := 5) (md2 := md_Le_pass) (r := (5, 0, 0)) (as := [.inl (xs (i + 1))]) (rest := []) lat_276 (gw_in2 21 rfl rfl) ca_Le_pass rfl rfl h56.1 rfl rfl (Nat.le_of_ble_eq_true rfl) (l_lv [(xs (i + 1))]) (sp_Le_pass (hG := ok.2.2.1) (hw := i_wr I) ?_)
  refine l_pi ?_
  refine l_al ok lat_279 (j := 3) rfl ?_
  refine l_arg ok (i := i) (a := 1) (j := 1) (j2 := 0) ⟨lat_280, lat_281, lat_282, lat_283, lat_284⟩ (by decide) rfl rfl (by omega) ?_
  refine l_call ok (idx := 34) (n := 1) (ci := 6) (md2 := md_Mo_pass) (r := (6, 0, 0)) (as := [.inl (xs (i + 1))]) (rest := [_]) lat_285 (gw_in4 31 rfl rfl) ca_Mo_pass rfl rfl h56.2 rfl rfl (Nat.le_of_ble_eq_true rfl) (l_lv [(xs (i + 1))]) (sp_Mo_pass (hG := ok.2.2.1) (hm := i_mw I L_pass_fr) ?_)
  refine l_pi ?_
  exact l_eq ok lat_288 (t := 1262) (by decide) T.1 (l_nx ok (next _ T.2))
theorem k_setState (ok : l_ok Z G L xs) (h56 : l56 G) (I : INV d n M) (hi : i + 3 < L) (hn : n + 34 < 1000000) (next : lNx Z G d n i) : lW Z G 293 (lsL Z G i) [] M := by
  have T := @t_setState d n M (xs (i + 1)) (xs (i + 2)) I
  refine l_al ok lat_293 (j := 2) rfl ?_
  refine l_arg ok (i := i) (a := 1) (j := 1) (j2 := 0) ⟨lat_294, lat_295, lat_296, lat_297, lat_298⟩ (by decide) rfl rfl (by omega) ?_
  refine l_arg ok (i := i) (a := 2) (j := 1) (j2 := 0) ⟨lat_299, lat_300, lat_301, lat_302, lat_303⟩ (by decide) rfl rfl (by omega) ?_
  refine l_call ok (idx := 35) (n := 2) (ci := 5) (md2 := md_Le_setState) (r := (5, 0, 0)) (as := [.inl (xs (i + 1)), .inl (xs (i + 2))]) (rest := []) lat_304 (gw_in2 59 rfl rfl) ca_Le_setState rfl rfl h56.1 rfl rfl (Nat.le_of_ble_eq_true rfl) (l_lv [(xs (i + 1)), (xs (i + 2))]) (sp_Le_setState (hG := ok.2.2.1)  ?_)
  refine l_pi ?_
  refine l_al ok lat_307 (j := 3) rfl ?_
  refine l_arg ok (i := i) (a := 1) (j := 1) (j2 := 0) ⟨lat_308, lat_309, lat_310, lat_311, lat_312⟩ (by decide) rfl rfl (by omega) ?_
  refine l_arg ok (i := i) (a := 2) (j := 1) (j2 := 0) ⟨lat_313, lat_314, lat_315, lat_316, lat_317⟩ (by decide) rfl rfl (by omega) ?_
  refine l_call ok (idx := 38) (n := 2) (ci := 6) (md2 := md_Mo_setState) (r := (6, 0, 0)) (as := [.inl (xs (i + 1)), .inl (xs (i + 2))]) (rest := [_]) lat_318 (gw_in4 48 rfl rfl) ca_Mo_setState rfl rfl h56.2 rfl rfl (Nat.le_of_ble_eq_true rfl) (l_lv [(xs (i + 1)), (xs (i + 2))]) (sp_Mo_setState (hG := ok.2.2.1)  ?_)
  refine l_pi ?_
  exact l_eq ok lat_321 (t := 1262) (by decide) T.1 (l_nx ok (next _ T.2))
theorem k_setLink (ok : l_ok Z G L xs) (h56 : l56 G) (I : INV d n M) (hi : i + 3 < L) (hn : n + 34 < 1000000) (next : lNx Z G d n i) : lW Z G 326 (lsL Z G i) [] M := by
  have T := @t_setLink d n M (xs (i + 1)) (xs (i + 2)) (if xs (i + 3) = 0 then 0 else 1) I
  refine l_al ok lat_326 (j := 2) rfl ?_
  refine l_arg ok (i := i) (a := 1) (j := 1) (j2 := 0) ⟨lat_327, lat_328, lat_329, lat_330, lat_331⟩ (by decide) rfl rfl (by omega) ?_
  refine l_arg ok (i := i) (a := 2) (j := 1) (j2 := 0) ⟨lat_332, lat_333, lat_334, lat_335, lat_336⟩ (by decide) rfl rfl (by omega) ?_
  refine l_arg ok (i := i) (a := 3) (j := 1) (j2 := 0) ⟨lat_337, lat_338, lat_339, lat_340, lat_341⟩ (by decide) rfl rfl (by omega) ?_
  refine l_bool ok lat_342 lat_345 lat_346 lat_349 ?_
  refine l_call ok (idx := 39) (n := 3) (ci := 5) (md2 := md_Le_setLink) (r := (5, 0, 0)) (as := [.inl (xs (i + 1)), .inl (xs (i + 2)), .inl (if xs (i + 3) = 0 then 0 else 1)]) (rest := []) lat_350 (gw_in2 71 rfl rfl) ca_Le_setLink rfl rfl h56.1 rfl rfl (Nat.le_of_ble_eq_true rfl) (l_lv [(xs (i + 1)), (xs (i + 2)), (if xs (i + 3) = 0 then 0 else 1)]) (sp_Le_setLink (hG := ok.2.2.1)  ?_)
  refine l_pi ?_
  refine l_al ok lat_353 (j := 3) rfl ?_
  refine l_arg ok (i := i) (a := 1) (j := 1) (j2 := 0) ⟨lat_354, lat_355, lat_356, lat_357, lat_358⟩ (by decide) rfl rfl (by omega) ?_
  refine l_arg ok (i := i) (a := 2) (j := 1) (j2 := 0) ⟨lat_359, lat_360, lat_361, lat_362, lat_363⟩ (by decide) rfl rfl (by omega) ?_
  refine l_arg ok (i := i) (a := 3) (j := 1) (j2 := 0) ⟨lat_364, lat_365, lat_366, lat_367, lat_368⟩ (by decide) rfl rfl (by omega) ?_
  refine l_bool ok lat_369 lat_372 lat_373 lat_376 ?_
  refine l_call ok (idx := 43) (n := 3) (ci := 6) (md2 := md_Mo_setLink) (r := (6, 0, 0)) (as := [.inl (xs (i + 1)), .inl (xs (i + 2)), .inl (if xs (i + 3) = 0 then 0 else 1)]) (rest := [_]) lat_377 (gw_in4 52 rfl rfl) ca_Mo_setLink rfl rfl h56.2 rfl rfl (Nat.le_of_ble_eq_true rfl) (l_lv [(xs (i + 1)), (xs (i + 2)), (if xs (i + 3) = 0 then 0 else 1)]) (sp_Mo_setLink (hG := ok.2.2.1)  ?_)
  refine l_pi ?_
  exact l_eq ok lat_380 (t := 1262) (by decide) T.1 (l_nx ok (next _ T.2))
theorem k_acquire (ok : l_ok Z G L xs) (h56 : l56 G) (I : INV d n M) (hi : i + 3 < L) (hn : n + 34 < 1000000) (next : lNx Z G d n i) : lW Z G 385 (lsL Z G i) [] M := by
  have T := @t_acquire d n M (xs (i + 1)) (xs (i + 2)) I (by omega)
  refine l_al ok lat_385 (j := 2) rfl ?_
  refine l_arg ok (i := i) (a := 1) (j := 1) (j2 := 0) ⟨lat_386, lat_387, lat_388, lat_389, lat_390⟩ (by decide) rfl rfl (by omega) ?_
  refine l_arg ok (i := i) (a := 2) (j := 1) (j2 := 0) ⟨lat_391, lat_392, lat_393, lat_394, lat_395⟩ (by decide) rfl rfl (by omega) ?_
  refine l_call ok (idx := 44) (n := 2) (ci := 5) (md2 := md_Le_acquire) (r := (5, 0, 0)) (as := [.inl (xs (i + 1)), .inl (xs (i + 2))]) (rest := []) lat_396 (gw_in2 75 rfl rfl) ca_Le_acquire rfl rfl h56.1 rfl rfl (Nat.le_of_ble_eq_true rfl) (l_lv [(xs (i + 1)), (xs (i + 2))]) (sp_Le_acquire (hG := ok.2.2.1) (hw := i_wr I) ?_)
  refine l_pi ?_
  refine l_al ok lat_399 (j := 3) rfl ?_
  refine l_arg ok (i := i) (a := 1) (j := 1) (j2 := 0) ⟨lat_400, lat_401, lat_402, lat_403, lat_404⟩ (by decide) rfl rfl (by omega) ?_
  refine l_arg ok (i := i) (a := 2) (j := 1) (j2 := 0) ⟨lat_405, lat_406, lat_407, lat_408, lat_409⟩ (by decide) rfl rfl (by omega) ?_
  refine l_call ok (idx := 47) (n := 2) (ci := 6) (md2 := md_Mo_acquire) (r := (6, 0, 0)) (as := [.inl (xs (i + 1)), .inl (xs (i + 2))]) (rest := [_]) lat_410 (gw_in4 56 rfl rfl) ca_Mo_acquire rfl rfl h56.2 rfl rfl (Nat.le_of_ble_eq_true rfl) (l_lv [(xs (i + 1)), (xs (i + 2))]) (sp_Mo_acquire (hG := ok.2.2.1) (hm := i_mw I L_acquire_fr) ?_)
  refine l_pi ?_
  exact l_eq ok lat_413 (t := 1262) (by decide) T.1 (l_nx ok (next _ T.2))
theorem k_renew (ok : l_ok Z G L xs) (h56 : l56 G) (I : INV d n M) (hi : i + 3 < L) (hn : n + 34 < 1000000) (next : lNx Z G d n i) : lW Z G 418 (lsL Z G i) [] M := by
  have T := @t_renew d n M (xs (i + 1)) (xs (i + 2)) I
  refine l_al ok lat_418 (j := 2) rfl ?_
  refine l_arg ok (i := i) (a := 1) (j := 1) (j2 := 0) ⟨lat_419, lat_420, lat_421, lat_422, lat_423⟩ (by decide) rfl rfl (by omega) ?_
  refine l_arg ok (i := i) (a := 2) (j := 1) (j2 := 0) ⟨lat_424, lat_425, lat_426, lat_427, lat_428⟩ (by decide) rfl rfl (by omega) ?_
  refine l_call ok (idx := 48) (n := 2) (ci := 5) (md2 := md_Le_renew) (r := (5, 0, 0)) (as := [.inl (xs (i + 1)), .inl (xs (i + 2))]) (rest := []) lat_429 (gw_in2 122 rfl rfl) ca_Le_renew rfl rfl h56.1 rfl rfl (Nat.le_of_ble_eq_true rfl) (l_lv [(xs (i + 1)), (xs (i + 2))]) (sp_Le_renew (hG := ok.2.2.1) (hw := i_wr I) ?_)
  refine l_pi ?_
  refine l_al ok lat_432 (j := 3) rfl ?_
  refine l_arg ok (i := i) (a := 1) (j := 1) (j2 := 0) ⟨lat_433, lat_434, lat_435, lat_436, lat_437⟩ (by decide) rfl rfl (by omega) ?_
  refine l_arg ok (i := i) (a := 2) (j := 1) (j2 := 0) ⟨lat_438, lat_439, lat_440, lat_441, lat_442⟩ (by decide) rfl rfl (by omega) ?_
  refine l_call ok (idx := 51) (n := 2) (ci := 6) (md2 := md_Mo_renew) (r := (6, 0, 0)) (as := [.inl (xs (i + 1)), .inl (xs (i + 2))]) (rest := [_]) lat_443 (gw_in4 92 rfl rfl) ca_Mo_renew rfl rfl h56.2 rfl rfl (Nat.le_of_ble_eq_true rfl) (l_lv [(xs (i + 1)), (xs (i + 2))]) (sp_Mo_renew (hG := ok.2.2.1) (hm := i_mw I L_renew_fr) ?_)
  refine l_pi ?_
  exact l_eq ok lat_446 (t := 1262) (by decide) T.1 (l_nx ok (next _ T.2))
theorem k_giveUp (ok : l_ok Z G L xs) (h56 : l56 G) (I : INV d n M) (hi : i + 3 < L) (hn : n + 34 < 1000000) (next : lNx Z G d n i) : lW Z G 451 (lsL Z G i) [] M := by
  have T := @t_giveUp d n M (xs (i + 1)) I
  refine l_al ok lat_451 (j := 2) rfl ?_
  refine l_arg ok (i := i) (a := 1) (j := 1) (j2 := 0) ⟨lat_452, lat_453, lat_454, lat_455, lat_456⟩ (by decide) rfl rfl (by omega) ?_
  refine l_call ok (idx := 52) (n := 1) (ci := 5) (md2 := md_Le_giveUp) (r := (5, 0, 0)) (as := [.inl (xs (i + 1))]) (rest := []) lat_457 (gw_in2 130 rfl rfl) ca_Le_giveUp rfl rfl h56.1 rfl rfl (Nat.le_of_ble_eq_true rfl) (l_lv [(xs (i + 1))]) (sp_Le_giveUp (hG := ok.2.2.1)  ?_)
  refine l_pi ?_
  refine l_al ok lat_460 (j := 3) rfl ?_
  refine l_arg ok (i := i) (a := 1) (j := 1) (j2 := 0) ⟨lat_461, lat_462, lat_463, lat_464, lat_465⟩ (by decide) rfl rfl (by omega) ?_
  refine l_call ok (idx := 55) (n := 1) (ci := 6) (md2 := md_Mo_giveUp) (r := (6, 0, 0)) (as := [.inl (xs (i + 1))]) (rest := [_]) lat_466 (gw_in4 100 rfl rfl) ca_Mo_giveUp rfl rfl h56.2 rfl rfl (Nat.le_of_ble_eq_true rfl) (l_lv [(xs (i + 1))]) (sp_Mo_giveUp (hG := ok.2.2.1)  ?_)
  refine l_pi ?_
  exact l_eq ok lat_469 (t := 1262) (by decide) T.1 (l_nx ok (next _ T.2))
theorem k_handOver (ok : l_ok Z G L xs) (h56 : l56 G) (I : INV d n M) (hi : i + 3 < L) (hn : n + 34 < 1000000) (next : lNx Z G d n i) : lW Z G 474 (lsL Z G i) [] M := by
  have T := @t_handOver d n M (xs (i + 1)) (xs (i + 2)) (xs (i + 3)) I (by omega)
  refine l_al ok lat_474 (j := 2) rfl ?_
  refine l_arg ok (i := i) (a := 1) (j := 1) (j2 := 0) ⟨lat_475, lat_476, lat_477, lat_478, lat_479⟩ (by decide) rfl rfl (by omega) ?_
  refine l_arg ok (i := i) (a := 2) (j := 1) (j2 := 0) ⟨lat_480, lat_481, lat_482, lat_483, lat_484⟩ (by decide) rfl rfl (by omega) ?_
  refine l_arg ok (i := i) (a := 3) (j := 1) (j2 := 0) ⟨lat_485, lat_486, lat_487, lat_488, lat_489⟩ (by decide) rfl rfl (by omega) ?_
  refine l_call ok (idx := 56) (n := 3) (ci := 5) (md2 := md_Le_handOver) (r := (5, 0, 0)) (as := [.inl (xs (i + 1)), .inl (xs (i + 2)), .inl (xs (i + 3))]) (rest := []) lat_490 (gw_in2 138 rfl rfl) ca_Le_handOver rfl rfl h56.1 rfl rfl (Nat.le_of_ble_eq_true rfl) (l_lv [(xs (i + 1)), (xs (i + 2)), (xs (i + 3))]) (sp_Le_handOver (hG := ok.2.2.1) (hw := i_wr I) ?_)
  refine l_pi ?_
  refine l_al ok lat_493 (j := 3) rfl ?_
  refine l_arg ok (i := i) (a := 1) (j := 1) (j2 := 0) ⟨lat_494, lat_495, lat_496, lat_497, lat_498⟩ (by decide) rfl rfl (by omega) ?_
  refine l_arg ok (i := i) (a := 2) (j := 1) (j2 := 0) ⟨lat_499, lat_500, lat_501, lat_502, lat_503⟩ (by decide) rfl rfl (by omega) ?_
  refine l_arg ok (i := i) (a := 3) (j := 1) (j2 := 0) ⟨lat_504, lat_505, lat_506, lat_507, lat_508⟩ (by decide) rfl rfl (by omega) ?_
  refine l_call ok (idx := 60) (n := 3) (ci := 6) (md2 := md_Mo_handOver) (r := (6, 0, 0)) (as := [.inl (xs (i + 1)), .inl (xs (i + 2)), .inl (xs (i + 3))]) (rest := [_]) lat_509 (gw_in4 108 rfl rfl) ca_Mo_handOver rfl rfl h56.2 rfl rfl (Nat.le_of_ble_eq_true rfl) (l_lv [(xs (i + 1)), (xs (i + 2)), (xs (i + 3))]) (sp_Mo_handOver (hG := ok.2.2.1) (hm := i_mw I L_handOver_fr) ?_)
  refine l_pi ?_
  exact l_eq ok lat_512 (t := 1262) (by decide) T.1 (l_nx ok (next _ T.2))
theorem k_reason (ok : l_ok Z G L xs) (h56 : l56 G) (I : INV d n M) (hi : i + 3 < L) (hn : n + 34 < 1000000) (next : lNx Z G d n i) : lW Z G 517 (lsL Z G i) [] M := by
  have T : _ ∧ _ := ⟨q_reason (a := (xs (i + 1))) I.1.2.1, INV_up (n' := n + 34) I (by omega)⟩
  refine l_al ok lat_517 (j := 2) rfl ?_
  refine l_arg ok (i := i) (a := 1) (j := 1) (j2 := 0) ⟨lat_518, lat_519, lat_520, lat_521, lat_522⟩ (by decide) rfl rfl (by omega) ?_
  refine l_call ok (idx := 61) (n := 1) (ci := 5) (md2 := md_Le_reason) (r := (5, 0, 0)) (as := [.inl (xs (i + 1))]) (rest := []) lat_523 (gw_in2 154 rfl rfl) ca_Le_reason rfl rfl h56.1 rfl rfl (Nat.le_of_ble_eq_true rfl) (l_lv [(xs (i + 1))]) (sp_Le_reason (hG := ok.2.2.1)  ?_)
  refine l_pi ?_
  refine l_al ok lat_526 (j := 3) rfl ?_
  refine l_arg ok (i := i) (a := 1) (j := 1) (j2 := 0) ⟨lat_527, lat_528, lat_529, lat_530, lat_531⟩ (by decide) rfl rfl (by omega) ?_
  refine l_call ok (idx := 64) (n := 1) (ci := 6) (md2 := md_Mo_reason) (r := (6, 0, 0)) (as := [.inl (xs (i + 1))]) (rest := [_]) lat_532 (gw_in4 116 rfl rfl) ca_Mo_reason rfl rfl h56.2 rfl rfl (Nat.le_of_ble_eq_true rfl) (l_lv [(xs (i + 1))]) (sp_Mo_reason (hG := ok.2.2.1)  ?_)
  refine l_pi ?_
  exact l_eq ok lat_535 (t := 1262) (by decide) T.1 (l_nx ok (next _ T.2))
theorem k_holds (ok : l_ok Z G L xs) (h56 : l56 G) (I : INV d n M) (hi : i + 3 < L) (hn : n + 34 < 1000000) (next : lNx Z G d n i) : lW Z G 540 (lsL Z G i) [] M := by
  have T : _ ∧ _ := ⟨q_holds (a := (xs (i + 1))) I.1.1.1 I.1.1.2 I.2.1, INV_up (n' := n + 34) I (by omega)⟩
  refine l_al ok lat_540 (j := 2) rfl ?_
  refine l_arg ok (i := i) (a := 1) (j := 1) (j2 := 0) ⟨lat_541, lat_542, lat_543, lat_544, lat_545⟩ (by decide) rfl rfl (by omega) ?_
  refine l_call ok (idx := 65) (n := 1) (ci := 5) (md2 := md_Le_holds) (r := (5, 0, 0)) (as := [.inl (xs (i + 1))]) (rest := []) lat_546 (gw_in2 158 rfl rfl) ca_Le_holds rfl rfl h56.1 rfl rfl (Nat.le_of_ble_eq_true rfl) (l_lv [(xs (i + 1))]) (sp_Le_holds (hG := ok.2.2.1)  ?_)
  refine l_pi ?_
  refine l_al ok lat_549 (j := 3) rfl ?_
  refine l_arg ok (i := i) (a := 1) (j := 1) (j2 := 0) ⟨lat_550, lat_551, lat_552, lat_553, lat_554⟩ (by decide) rfl rfl (by omega) ?_
  refine l_call ok (idx := 68) (n := 1) (ci := 6) (md2 := md_Mo_holds) (r := (6, 0, 0)) (as := [.inl (xs (i + 1))]) (rest := [_]) lat_555 (gw_in4 120 rfl rfl) ca_Mo_holds rfl rfl h56.2 rfl rfl (Nat.le_of_ble_eq_true rfl) (l_lv [(xs (i + 1))]) (sp_Mo_holds (hG := ok.2.2.1)  ?_)
  refine l_pi ?_
  exact l_eq ok lat_558 (t := 1262) (by decide) T.1 (l_nx ok (next _ T.2))
theorem k_known (ok : l_ok Z G L xs) (h56 : l56 G) (I : INV d n M) (hi : i + 3 < L) (hn : n + 34 < 1000000) (next : lNx Z G d n i) : lW Z G 563 (lsL Z G i) [] M := by
  have T : _ ∧ _ := ⟨q_known (a := (xs (i + 1))) (w := (xs (i + 2))) I.1.1.1, INV_up (n' := n + 34) I (by omega)⟩
  refine l_al ok lat_563 (j := 2) rfl ?_
  refine l_arg ok (i := i) (a := 1) (j := 1) (j2 := 0) ⟨lat_564, lat_565, lat_566, lat_567, lat_568⟩ (by decide) rfl rfl (by omega) ?_
  refine l_arg ok (i := i) (a := 2) (j := 1) (j2 := 0) ⟨lat_569, lat_570, lat_571, lat_572, lat_573⟩ (by decide) rfl rfl (by omega) ?_
  refine l_call ok (idx := 69) (n := 2) (ci := 5) (md2 := md_Le_known) (r := (5, 0, 0)) (as := [.inl (xs (i + 1)), .inl (xs (i + 2))]) (rest := []) lat_574 (gw_in2 162 rfl rfl) ca_Le_known rfl rfl h56.1 rfl rfl (Nat.le_of_ble_eq_true rfl) (l_lv [(xs (i + 1)), (xs (i + 2))]) (sp_Le_known (hG := ok.2.2.1)  ?_)
  refine l_pi ?_
  refine l_al ok lat_577 (j := 3) rfl ?_
  refine l_arg ok (i := i) (a := 1) (j := 1) (j2 := 0) ⟨lat_578, lat_579, lat_580, lat_581, lat_582⟩ (by decide) rfl rfl (by omega) ?_
  refine l_arg ok (i := i) (a := 2) (j := 1) (j2 := 0) ⟨lat_583, lat_584, lat_585, lat_586, lat_587⟩ (by decide) rfl rfl (by omega) ?_
  refine l_call ok (idx := 72) (n := 2) (ci := 6) (md2 := md_Mo_known) (r := (6, 0, 0)) (as := [.inl (xs (i + 1)), .inl (xs (i + 2))]) (rest := [_]) lat_588 (gw_in4 124 rfl rfl) ca_Mo_known rfl rfl h56.2 rfl rfl (Nat.le_of_ble_eq_true rfl) (l_lv [(xs (i + 1)), (xs (i + 2))]) (sp_Mo_known (hG := ok.2.2.1)  ?_)
  refine l_pi ?_
  exact l_eq ok lat_591 (t := 1262) (by decide) T.1 (l_nx ok (next _ T.2))
theorem k_write (ok : l_ok Z G L xs) (h56 : l56 G) (I : INV d n M) (hi : i + 3 < L) (hn : n + 34 < 1000000) (next : lNx Z G d n i) : lW Z G 596 (lsL Z G i) [] M := by
  have T := @t_write d n M (xs (i + 1)) (xs (i + 2)) (xs (i + 3)) I
  refine l_al ok lat_596 (j := 2) rfl ?_
  refine l_arg ok (i := i) (a := 1) (j := 1) (j2 := 0) ⟨lat_597, lat_598, lat_599, lat_600, lat_601⟩ (by decide) rfl rfl (by omega) ?_
  refine l_arg ok (i := i) (a := 2) (j := 1) (j2 := 0) ⟨lat_602, lat_603, lat_604, lat_605, lat_606⟩ (by decide) rfl rfl (by omega) ?_
  refine l_arg ok (i := i) (a := 3) (j := 1) (j2 := 0) ⟨lat_607, lat_608, lat_609, lat_610, lat_611⟩ (by decide) rfl rfl (by omega) ?_
  refine l_call ok (idx := 73) (n := 3) (ci := 5) (md2 := md_Le_write) (r := (5, 0, 0)) (as := [.inl (xs (i + 1)), .inl (xs (i + 2)), .inl (xs (i + 3))]) (rest := []) lat_612 (gw_in2 166 rfl rfl) ca_Le_write rfl rfl h56.1 rfl rfl (Nat.le_of_ble_eq_true rfl) (l_lv [(xs (i + 1)), (xs (i + 2)), (xs (i + 3))]) (sp_Le_write (hG := ok.2.2.1) (hw := i_wr I) ?_)
  refine l_pi ?_
  refine l_al ok lat_615 (j := 3) rfl ?_
  refine l_arg ok (i := i) (a := 1) (j := 1) (j2 := 0) ⟨lat_616, lat_617, lat_618, lat_619, lat_620⟩ (by decide) rfl rfl (by omega) ?_
  refine l_arg ok (i := i) (a := 2) (j := 1) (j2 := 0) ⟨lat_621, lat_622, lat_623, lat_624, lat_625⟩ (by decide) rfl rfl (by omega) ?_
  refine l_arg ok (i := i) (a := 3) (j := 1) (j2 := 0) ⟨lat_626, lat_627, lat_628, lat_629, lat_630⟩ (by decide) rfl rfl (by omega) ?_
  refine l_call ok (idx := 76) (n := 3) (ci := 6) (md2 := md_Mo_write) (r := (6, 0, 0)) (as := [.inl (xs (i + 1)), .inl (xs (i + 2)), .inl (xs (i + 3))]) (rest := [_]) lat_631 (gw_in4 128 rfl rfl) ca_Mo_write rfl rfl h56.2 rfl rfl (Nat.le_of_ble_eq_true rfl) (l_lv [(xs (i + 1)), (xs (i + 2)), (xs (i + 3))]) (sp_Mo_write (hG := ok.2.2.1) (hm := i_mw I L_write_fr) (hd := i_mdl I L_write_fr) ?_)
  refine l_pi ?_
  exact l_eq ok lat_634 (t := 1262) (by decide) T.1 (l_nx ok (next _ T.2))
theorem k_barrier (ok : l_ok Z G L xs) (h56 : l56 G) (I : INV d n M) (hi : i + 3 < L) (hn : n + 34 < 1000000) (next : lNx Z G d n i) : lW Z G 639 (lsL Z G i) [] M := by
  have T := @t_barrier d n M (xs (i + 1)) I
  refine l_al ok lat_639 (j := 2) rfl ?_
  refine l_arg ok (i := i) (a := 1) (j := 1) (j2 := 0) ⟨lat_640, lat_641, lat_642, lat_643, lat_644⟩ (by decide) rfl rfl (by omega) ?_
  refine l_call ok (idx := 77) (n := 1) (ci := 5) (md2 := md_Le_barrier) (r := (5, 0, 0)) (as := [.inl (xs (i + 1))]) (rest := []) lat_645 (gw_in2 198 rfl rfl) ca_Le_barrier rfl rfl h56.1 rfl rfl (Nat.le_of_ble_eq_true rfl) (l_lv [(xs (i + 1))]) (sp_Le_barrier (hG := ok.2.2.1) (hw := i_wr I) ?_)
  refine l_pi ?_
  refine l_al ok lat_648 (j := 3) rfl ?_
  refine l_arg ok (i := i) (a := 1) (j := 1) (j2 := 0) ⟨lat_649, lat_650, lat_651, lat_652, lat_653⟩ (by decide) rfl rfl (by omega) ?_
  refine l_call ok (idx := 80) (n := 1) (ci := 6) (md2 := md_Mo_barrier) (r := (6, 0, 0)) (as := [.inl (xs (i + 1))]) (rest := [_]) lat_654 (gw_in4 140 rfl rfl) ca_Mo_barrier rfl rfl h56.2 rfl rfl (Nat.le_of_ble_eq_true rfl) (l_lv [(xs (i + 1))]) (sp_Mo_barrier (hG := ok.2.2.1) (hm := i_mw I L_barrier_fr) (hd := i_mdl I L_barrier_fr) ?_)
  refine l_pi ?_
  exact l_eq ok lat_657 (t := 1262) (by decide) T.1 (l_nx ok (next _ T.2))
theorem k_read (ok : l_ok Z G L xs) (h56 : l56 G) (I : INV d n M) (hi : i + 3 < L) (hn : n + 34 < 1000000) (next : lNx Z G d n i) : lW Z G 662 (lsL Z G i) [] M := by
  have T : _ ∧ _ := ⟨q_read (a := (xs (i + 1))) (k := (xs (i + 2))) I.1.1.1 I.1.1.2 I.2.1 I.1.2.2, INV_up (n' := n + 34) I (by omega)⟩
  refine l_al ok lat_662 (j := 2) rfl ?_
  refine l_arg ok (i := i) (a := 1) (j := 1) (j2 := 0) ⟨lat_663, lat_664, lat_665, lat_666, lat_667⟩ (by decide) rfl rfl (by omega) ?_
  refine l_arg ok (i := i) (a := 2) (j := 1) (j2 := 0) ⟨lat_668, lat_669, lat_670, lat_671, lat_672⟩ (by decide) rfl rfl (by omega) ?_
  refine l_call ok (idx := 81) (n := 2) (ci := 5) (md2 := md_Le_read) (r := (5, 0, 0)) (as := [.inl (xs (i + 1)), .inl (xs (i + 2))]) (rest := []) lat_673 (gw_in2 202 rfl rfl) ca_Le_read rfl rfl h56.1 rfl rfl (Nat.le_of_ble_eq_true rfl) (l_lv [(xs (i + 1)), (xs (i + 2))]) (sp_Le_read (hG := ok.2.2.1) (hw := i_wr I) (hc := i_wc I) ?_)
  refine l_pi ?_
  refine l_al ok lat_676 (j := 3) rfl ?_
  refine l_arg ok (i := i) (a := 1) (j := 1) (j2 := 0) ⟨lat_677, lat_678, lat_679, lat_680, lat_681⟩ (by decide) rfl rfl (by omega) ?_
  refine l_arg ok (i := i) (a := 2) (j := 1) (j2 := 0) ⟨lat_682, lat_683, lat_684, lat_685, lat_686⟩ (by decide) rfl rfl (by omega) ?_
  refine l_call ok (idx := 84) (n := 2) (ci := 6) (md2 := md_Mo_read) (r := (6, 0, 0)) (as := [.inl (xs (i + 1)), .inl (xs (i + 2))]) (rest := [_]) lat_687 (gw_in4 144 rfl rfl) ca_Mo_read rfl rfl h56.2 rfl rfl (Nat.le_of_ble_eq_true rfl) (l_lv [(xs (i + 1)), (xs (i + 2))]) (sp_Mo_read (hG := ok.2.2.1) (hm := i_mw I fr_rfl) ?_)
  refine l_pi ?_
  exact l_eq ok lat_690 (t := 1262) (by decide) T.1 (l_nx ok (next _ T.2))
theorem k_readAt (ok : l_ok Z G L xs) (h56 : l56 G) (I : INV d n M) (hi : i + 3 < L) (hn : n + 34 < 1000000) (next : lNx Z G d n i) : lW Z G 695 (lsL Z G i) [] M := by
  have T : _ ∧ _ := ⟨q_readAt (a := (xs (i + 1))) (k := (xs (i + 2))) (t := (xs (i + 3))) I.1.1.1 I.1.1.2 I.1.2.2, INV_up (n' := n + 34) I (by omega)⟩
  refine l_al ok lat_695 (j := 2) rfl ?_
  refine l_arg ok (i := i) (a := 1) (j := 1) (j2 := 0) ⟨lat_696, lat_697, lat_698, lat_699, lat_700⟩ (by decide) rfl rfl (by omega) ?_
  refine l_arg ok (i := i) (a := 2) (j := 1) (j2 := 0) ⟨lat_701, lat_702, lat_703, lat_704, lat_705⟩ (by decide) rfl rfl (by omega) ?_
  refine l_arg ok (i := i) (a := 3) (j := 1) (j2 := 0) ⟨lat_706, lat_707, lat_708, lat_709, lat_710⟩ (by decide) rfl rfl (by omega) ?_
  refine l_call ok (idx := 85) (n := 3) (ci := 5) (md2 := md_Le_readAt) (r := (5, 0, 0)) (as := [.inl (xs (i + 1)), .inl (xs (i + 2)), .inl (xs (i + 3))]) (rest := []) lat_711 (gw_in2 216 rfl rfl) ca_Le_readAt rfl rfl h56.1 rfl rfl (Nat.le_of_ble_eq_true rfl) (l_lv [(xs (i + 1)), (xs (i + 2)), (xs (i + 3))]) (sp_Le_readAt (hG := ok.2.2.1) (hw := i_wr I) (hc := i_wc I) ?_)
  refine l_pi ?_
  refine l_al ok lat_714 (j := 3) rfl ?_
  refine l_arg ok (i := i) (a := 1) (j := 1) (j2 := 0) ⟨lat_715, lat_716, lat_717, lat_718, lat_719⟩ (by decide) rfl rfl (by omega) ?_
  refine l_arg ok (i := i) (a := 2) (j := 1) (j2 := 0) ⟨lat_720, lat_721, lat_722, lat_723, lat_724⟩ (by decide) rfl rfl (by omega) ?_
  refine l_arg ok (i := i) (a := 3) (j := 1) (j2 := 0) ⟨lat_725, lat_726, lat_727, lat_728, lat_729⟩ (by decide) rfl rfl (by omega) ?_
  refine l_call ok (idx := 88) (n := 3) (ci := 6) (md2 := md_Mo_readAt) (r := (6, 0, 0)) (as := [.inl (xs (i + 1)), .inl (xs (i + 2)), .inl (xs (i + 3))]) (rest := [_]) lat_730 (gw_in4 153 rfl rfl) ca_Mo_readAt rfl rfl h56.2 rfl rfl (Nat.le_of_ble_eq_true rfl) (l_lv [(xs (i + 1)), (xs (i + 2)), (xs (i + 3))]) (sp_Mo_readAt (hG := ok.2.2.1) (hm := i_mw I fr_rfl) ?_)
  refine l_pi ?_
  exact l_eq ok lat_733 (t := 1262) (by decide) T.1 (l_nx ok (next _ T.2))
theorem k_log (ok : l_ok Z G L xs) (h56 : l56 G) (I : INV d n M) (hi : i + 3 < L) (hn : n + 34 < 1000000) (next : lNx Z G d n i) : lW Z G 738 (lsL Z G i) [] M := by
  have T : _ ∧ _ := ⟨q_log (a := (xs (i + 1))) (w := (xs (i + 2))) I.1.1.1 I.1.1.2 I.1.2.2, INV_up (n' := n + 34) I (by omega)⟩
  refine l_al ok lat_738 (j := 2) rfl ?_
  refine l_arg ok (i := i) (a := 1) (j := 1) (j2 := 0) ⟨lat_739, lat_740, lat_741, lat_742, lat_743⟩ (by decide) rfl rfl (by omega) ?_
  refine l_arg ok (i := i) (a := 2) (j := 1) (j2 := 0) ⟨lat_744, lat_745, lat_746, lat_747, lat_748⟩ (by decide) rfl rfl (by omega) ?_
  refine l_call ok (idx := 89) (n := 2) (ci := 5) (md2 := md_Le_log) (r := (5, 0, 0)) (as := [.inl (xs (i + 1)), .inl (xs (i + 2))]) (rest := []) lat_749 (gw_in2 220 rfl rfl) ca_Le_log rfl rfl h56.1 rfl rfl (Nat.le_of_ble_eq_true rfl) (l_lv [(xs (i + 1)), (xs (i + 2))]) (sp_Le_log (hG := ok.2.2.1) (hw := i_wr I) (hc := i_wc I) ?_)
  refine l_pi ?_
  refine l_al ok lat_752 (j := 3) rfl ?_
  refine l_arg ok (i := i) (a := 1) (j := 1) (j2 := 0) ⟨lat_753, lat_754, lat_755, lat_756, lat_757⟩ (by decide) rfl rfl (by omega) ?_
  refine l_arg ok (i := i) (a := 2) (j := 1) (j2 := 0) ⟨lat_758, lat_759, lat_760, lat_761, lat_762⟩ (by decide) rfl rfl (by omega) ?_
  refine l_call ok (idx := 92) (n := 2) (ci := 6) (md2 := md_Mo_log) (r := (6, 0, 0)) (as := [.inl (xs (i + 1)), .inl (xs (i + 2))]) (rest := [_]) lat_763 (gw_in4 157 rfl rfl) ca_Mo_log rfl rfl h56.2 rfl rfl (Nat.le_of_ble_eq_true rfl) (l_lv [(xs (i + 1)), (xs (i + 2))]) (sp_Mo_log (hG := ok.2.2.1) (hm := i_mw I fr_rfl) ?_)
  refine l_pi ?_
  exact l_eq ok lat_766 (t := 1262) (by decide) T.1 (l_nx ok (next _ T.2))
theorem k_entry (ok : l_ok Z G L xs) (h56 : l56 G) (I : INV d n M) (hi : i + 3 < L) (hn : n + 34 < 1000000) (next : lNx Z G d n i) : lW Z G 771 (lsL Z G i) [] M := by
  have T : _ ∧ _ := ⟨q_entry (a := (xs (i + 1))) (i := (xs (i + 2))) (w := (xs (i + 3))) I.1.1.1 I.1.1.2, INV_up (n' := n + 34) I (by omega)⟩
  refine l_al ok lat_771 (j := 2) rfl ?_
  refine l_arg ok (i := i) (a := 1) (j := 1) (j2 := 0) ⟨lat_772, lat_773, lat_774, lat_775, lat_776⟩ (by decide) rfl rfl (by omega) ?_
  refine l_arg ok (i := i) (a := 2) (j := 1) (j2 := 0) ⟨lat_777, lat_778, lat_779, lat_780, lat_781⟩ (by decide) rfl rfl (by omega) ?_
  refine l_arg ok (i := i) (a := 3) (j := 1) (j2 := 0) ⟨lat_782, lat_783, lat_784, lat_785, lat_786⟩ (by decide) rfl rfl (by omega) ?_
  refine l_call ok (idx := 93) (n := 3) (ci := 5) (md2 := md_Le_entry) (r := (5, 0, 0)) (as := [.inl (xs (i + 1)), .inl (xs (i + 2)), .inl (xs (i + 3))]) (rest := []) lat_787 (gw_in2 225 rfl rfl) ca_Le_entry rfl rfl h56.1 rfl rfl (Nat.le_of_ble_eq_true rfl) (l_lv [(xs (i + 1)), (xs (i + 2)), (xs (i + 3))]) (sp_Le_entry (hG := ok.2.2.1) (hw := i_wr I) ?_)
  refine l_pi ?_
  refine l_al ok lat_790 (j := 3) rfl ?_
  refine l_arg ok (i := i) (a := 1) (j := 1) (j2 := 0) ⟨lat_791, lat_792, lat_793, lat_794, lat_795⟩ (by decide) rfl rfl (by omega) ?_
  refine l_arg ok (i := i) (a := 2) (j := 1) (j2 := 0) ⟨lat_796, lat_797, lat_798, lat_799, lat_800⟩ (by decide) rfl rfl (by omega) ?_
  refine l_arg ok (i := i) (a := 3) (j := 1) (j2 := 0) ⟨lat_801, lat_802, lat_803, lat_804, lat_805⟩ (by decide) rfl rfl (by omega) ?_
  refine l_call ok (idx := 96) (n := 3) (ci := 6) (md2 := md_Mo_entry) (r := (6, 0, 0)) (as := [.inl (xs (i + 1)), .inl (xs (i + 2)), .inl (xs (i + 3))]) (rest := [_]) lat_806 (gw_in4 161 rfl rfl) ca_Mo_entry rfl rfl h56.2 rfl rfl (Nat.le_of_ble_eq_true rfl) (l_lv [(xs (i + 1)), (xs (i + 2)), (xs (i + 3))]) (sp_Mo_entry (hG := ok.2.2.1) (hm := i_mw I fr_rfl) ?_)
  refine l_pi ?_
  exact l_eq ok lat_809 (t := 1262) (by decide) T.1 (l_nx ok (next _ T.2))
theorem k_agreement (ok : l_ok Z G L xs) (h56 : l56 G) (I : INV d n M) (hi : i + 3 < L) (hn : n + 34 < 1000000) (next : lNx Z G d n i) : lW Z G 814 (lsL Z G i) [] M := by
  have T : _ ∧ _ := ⟨q_agreement (a := (xs (i + 1))) (b := (xs (i + 2))) I.1.1.1, INV_up (n' := n + 34) I (by omega)⟩
  refine l_al ok lat_814 (j := 2) rfl ?_
  refine l_arg ok (i := i) (a := 1) (j := 1) (j2 := 0) ⟨lat_815, lat_816, lat_817, lat_818, lat_819⟩ (by decide) rfl rfl (by omega) ?_
  refine l_arg ok (i := i) (a := 2) (j := 1) (j2 := 0) ⟨lat_820, lat_821, lat_822, lat_823, lat_824⟩ (by decide) rfl rfl (by omega) ?_
  refine l_call ok (idx := 97) (n := 2) (ci := 5) (md2 := md_Le_agreement) (r := (5, 0, 0)) (as := [.inl (xs (i + 1)), .inl (xs (i + 2))]) (rest := []) lat_825 (gw_in2 230 rfl rfl) ca_Le_agreement rfl rfl h56.1 rfl rfl (Nat.le_of_ble_eq_true rfl) (l_lv [(xs (i + 1)), (xs (i + 2))]) (sp_Le_agreement (hG := ok.2.2.1) (hw := i_wr I) ?_)
  refine l_pi ?_
  refine l_al ok lat_828 (j := 3) rfl ?_
  refine l_arg ok (i := i) (a := 1) (j := 1) (j2 := 0) ⟨lat_829, lat_830, lat_831, lat_832, lat_833⟩ (by decide) rfl rfl (by omega) ?_
  refine l_arg ok (i := i) (a := 2) (j := 1) (j2 := 0) ⟨lat_834, lat_835, lat_836, lat_837, lat_838⟩ (by decide) rfl rfl (by omega) ?_
  refine l_call ok (idx := 100) (n := 2) (ci := 6) (md2 := md_Mo_agreement) (r := (6, 0, 0)) (as := [.inl (xs (i + 1)), .inl (xs (i + 2))]) (rest := [_]) lat_839 (gw_in4 165 rfl rfl) ca_Mo_agreement rfl rfl h56.2 rfl rfl (Nat.le_of_ble_eq_true rfl) (l_lv [(xs (i + 1)), (xs (i + 2))]) (sp_Mo_agreement (hG := ok.2.2.1) (hm := i_mw I fr_rfl) ?_)
  refine l_pi ?_
  exact l_eq ok lat_842 (t := 1262) (by decide) T.1 (l_nx ok (next _ T.2))
theorem k_history (ok : l_ok Z G L xs) (h56 : l56 G) (I : INV d n M) (hi : i + 3 < L) (hn : n + 34 < 1000000) (next : lNx Z G d n i) : lW Z G 847 (lsL Z G i) [] M := by
  have T : _ ∧ _ := ⟨q_history (k := (xs (i + 1))) (i := (xs (i + 2))) I.1.1.1, INV_up (n' := n + 34) I (by omega)⟩
  refine l_al ok lat_847 (j := 2) rfl ?_
  refine l_arg ok (i := i) (a := 1) (j := 1) (j2 := 0) ⟨lat_848, lat_849, lat_850, lat_851, lat_852⟩ (by decide) rfl rfl (by omega) ?_
  refine l_arg ok (i := i) (a := 2) (j := 1) (j2 := 0) ⟨lat_853, lat_854, lat_855, lat_856, lat_857⟩ (by decide) rfl rfl (by omega) ?_
  refine l_call ok (idx := 101) (n := 2) (ci := 5) (md2 := md_Le_history) (r := (5, 0, 0)) (as := [.inl (xs (i + 1)), .inl (xs (i + 2))]) (rest := []) lat_858 (gw_in2 239 rfl rfl) ca_Le_history rfl rfl h56.1 rfl rfl (Nat.le_of_ble_eq_true rfl) (l_lv [(xs (i + 1)), (xs (i + 2))]) (sp_Le_history (hG := ok.2.2.1) (hw := i_wr I) (hc := i_wc I) ?_)
  refine l_pi ?_
  refine l_al ok lat_861 (j := 3) rfl ?_
  refine l_arg ok (i := i) (a := 1) (j := 1) (j2 := 0) ⟨lat_862, lat_863, lat_864, lat_865, lat_866⟩ (by decide) rfl rfl (by omega) ?_
  refine l_arg ok (i := i) (a := 2) (j := 1) (j2 := 0) ⟨lat_867, lat_868, lat_869, lat_870, lat_871⟩ (by decide) rfl rfl (by omega) ?_
  refine l_call ok (idx := 104) (n := 2) (ci := 6) (md2 := md_Mo_history) (r := (6, 0, 0)) (as := [.inl (xs (i + 1)), .inl (xs (i + 2))]) (rest := [_]) lat_872 (gw_in4 169 rfl rfl) ca_Mo_history rfl rfl h56.2 rfl rfl (Nat.le_of_ble_eq_true rfl) (l_lv [(xs (i + 1)), (xs (i + 2))]) (sp_Mo_history (hG := ok.2.2.1) (hm := i_mw I fr_rfl) ?_)
  refine l_pi ?_
  exact l_eq ok lat_875 (t := 1262) (by decide) T.1 (l_nx ok (next _ T.2))
theorem k_acknowledgement (ok : l_ok Z G L xs) (h56 : l56 G) (I : INV d n M) (hi : i + 3 < L) (hn : n + 34 < 1000000) (next : lNx Z G d n i) : lW Z G 880 (lsL Z G i) [] M := by
  have T : _ ∧ _ := ⟨q_ack (i := (xs (i + 1))) (w := (xs (i + 2))) I.1.1.1 I.1.1.2, INV_up (n' := n + 34) I (by omega)⟩
  refine l_al ok lat_880 (j := 2) rfl ?_
  refine l_arg ok (i := i) (a := 1) (j := 1) (j2 := 0) ⟨lat_881, lat_882, lat_883, lat_884, lat_885⟩ (by decide) rfl rfl (by omega) ?_
  refine l_arg ok (i := i) (a := 2) (j := 1) (j2 := 0) ⟨lat_886, lat_887, lat_888, lat_889, lat_890⟩ (by decide) rfl rfl (by omega) ?_
  refine l_call ok (idx := 105) (n := 2) (ci := 5) (md2 := md_Le_acknowledgement) (r := (5, 0, 0)) (as := [.inl (xs (i + 1)), .inl (xs (i + 2))]) (rest := []) lat_891 (gw_in3 7 rfl rfl) ca_Le_acknowledgement rfl rfl h56.1 rfl rfl (Nat.le_of_ble_eq_true rfl) (l_lv [(xs (i + 1)), (xs (i + 2))]) (sp_Le_acknowledgement (hG := ok.2.2.1) (hw := i_wr I) ?_)
  refine l_pi ?_
  refine l_al ok lat_894 (j := 3) rfl ?_
  refine l_arg ok (i := i) (a := 1) (j := 1) (j2 := 0) ⟨lat_895, lat_896, lat_897, lat_898, lat_899⟩ (by decide) rfl rfl (by omega) ?_
  refine l_arg ok (i := i) (a := 2) (j := 1) (j2 := 0) ⟨lat_900, lat_901, lat_902, lat_903, lat_904⟩ (by decide) rfl rfl (by omega) ?_
  refine l_call ok (idx := 108) (n := 2) (ci := 6) (md2 := md_Mo_acknowledgement) (r := (6, 0, 0)) (as := [.inl (xs (i + 1)), .inl (xs (i + 2))]) (rest := [_]) lat_905 (gw_in4 173 rfl rfl) ca_Mo_acknowledgement rfl rfl h56.2 rfl rfl (Nat.le_of_ble_eq_true rfl) (l_lv [(xs (i + 1)), (xs (i + 2))]) (sp_Mo_acknowledgement (hG := ok.2.2.1) (hm := i_mw I fr_rfl) ?_)
  refine l_pi ?_
  exact l_eq ok lat_908 (t := 1262) (by decide) T.1 (l_nx ok (next _ T.2))
theorem k_send (ok : l_ok Z G L xs) (h56 : l56 G) (I : INV d n M) (hi : i + 3 < L) (hn : n + 34 < 1000000) (next : lNx Z G d n i) : lW Z G 913 (lsL Z G i) [] M := by
  have T := @t_send d n M (xs (i + 1)) (xs (i + 2)) (xs (i + 3)) I
  refine l_al ok lat_913 (j := 2) rfl ?_
  refine l_arg ok (i := i) (a := 1) (j := 1) (j2 := 0) ⟨lat_914, lat_915, lat_916, lat_917, lat_918⟩ (by decide) rfl rfl (by omega) ?_
  refine l_arg ok (i := i) (a := 2) (j := 1) (j2 := 0) ⟨lat_919, lat_920, lat_921, lat_922, lat_923⟩ (by decide) rfl rfl (by omega) ?_
  refine l_arg ok (i := i) (a := 3) (j := 1) (j2 := 0) ⟨lat_924, lat_925, lat_926, lat_927, lat_928⟩ (by decide) rfl rfl (by omega) ?_
  refine l_call ok (idx := 109) (n := 3) (ci := 5) (md2 := md_Le_send) (r := (5, 0, 0)) (as := [.inl (xs (i + 1)), .inl (xs (i + 2)), .inl (xs (i + 3))]) (rest := []) lat_929 (gw_in3 11 rfl rfl) ca_Le_send rfl rfl h56.1 rfl rfl (Nat.le_of_ble_eq_true rfl) (l_lv [(xs (i + 1)), (xs (i + 2)), (xs (i + 3))]) (sp_Le_send (hG := ok.2.2.1) (hw := i_wr I) ?_)
  refine l_pi ?_
  refine l_al ok lat_932 (j := 3) rfl ?_
  refine l_arg ok (i := i) (a := 1) (j := 1) (j2 := 0) ⟨lat_933, lat_934, lat_935, lat_936, lat_937⟩ (by decide) rfl rfl (by omega) ?_
  refine l_arg ok (i := i) (a := 2) (j := 1) (j2 := 0) ⟨lat_938, lat_939, lat_940, lat_941, lat_942⟩ (by decide) rfl rfl (by omega) ?_
  refine l_arg ok (i := i) (a := 3) (j := 1) (j2 := 0) ⟨lat_943, lat_944, lat_945, lat_946, lat_947⟩ (by decide) rfl rfl (by omega) ?_
  refine l_call ok (idx := 112) (n := 3) (ci := 6) (md2 := md_Mo_send) (r := (6, 0, 0)) (as := [.inl (xs (i + 1)), .inl (xs (i + 2)), .inl (xs (i + 3))]) (rest := [_]) lat_948 (gw_in4 177 rfl rfl) ca_Mo_send rfl rfl h56.2 rfl rfl (Nat.le_of_ble_eq_true rfl) (l_lv [(xs (i + 1)), (xs (i + 2)), (xs (i + 3))]) (sp_Mo_send (hG := ok.2.2.1) (hm := i_mw I L_send_fr) ?_)
  refine l_pi ?_
  exact l_eq ok lat_951 (t := 1262) (by decide) T.1 (l_nx ok (next _ T.2))
theorem k_deliver (ok : l_ok Z G L xs) (h56 : l56 G) (I : INV d n M) (hi : i + 3 < L) (hn : n + 34 < 1000000) (next : lNx Z G d n i) : lW Z G 956 (lsL Z G i) [] M := by
  have T := @t_deliver d n M (xs (i + 1)) I
  refine l_al ok lat_956 (j := 2) rfl ?_
  refine l_arg ok (i := i) (a := 1) (j := 1) (j2 := 0) ⟨lat_957, lat_958, lat_959, lat_960, lat_961⟩ (by decide) rfl rfl (by omega) ?_
  refine l_call ok (idx := 113) (n := 1) (ci := 5) (md2 := md_Le_deliver) (r := (5, 0, 0)) (as := [.inl (xs (i + 1))]) (rest := []) lat_962 (gw_in3 17 rfl rfl) ca_Le_deliver rfl rfl h56.1 rfl rfl (Nat.le_of_ble_eq_true rfl) (l_lv [(xs (i + 1))]) (sp_Le_deliver (hG := ok.2.2.1) (hw := i_wr I) ?_)
  refine l_pi ?_
  refine l_al ok lat_965 (j := 3) rfl ?_
  refine l_arg ok (i := i) (a := 1) (j := 1) (j2 := 0) ⟨lat_966, lat_967, lat_968, lat_969, lat_970⟩ (by decide) rfl rfl (by omega) ?_
  refine l_call ok (idx := 116) (n := 1) (ci := 6) (md2 := md_Mo_deliver) (r := (6, 0, 0)) (as := [.inl (xs (i + 1))]) (rest := [_]) lat_971 (gw_in4 181 rfl rfl) ca_Mo_deliver rfl rfl h56.2 rfl rfl (Nat.le_of_ble_eq_true rfl) (l_lv [(xs (i + 1))]) (sp_Mo_deliver (hG := ok.2.2.1) (hm := i_mw I L_deliver_fr) (hc := i_mcl I L_deliver_fr) ?_)
  refine l_pi ?_
  exact l_eq ok lat_974 (t := 1262) (by decide) T.1 (l_nx ok (next _ T.2))
theorem k_cell (ok : l_ok Z G L xs) (h56 : l56 G) (I : INV d n M) (hi : i + 3 < L) (hn : n + 34 < 1000000) (next : lNx Z G d n i) : lW Z G 979 (lsL Z G i) [] M := by
  have T : _ ∧ _ := ⟨q_cell (c := (xs (i + 1))) (w := (xs (i + 2))) I.1.1.1, INV_up (n' := n + 34) I (by omega)⟩
  refine l_al ok lat_979 (j := 2) rfl ?_
  refine l_arg ok (i := i) (a := 1) (j := 1) (j2 := 0) ⟨lat_980, lat_981, lat_982, lat_983, lat_984⟩ (by decide) rfl rfl (by omega) ?_
  refine l_arg ok (i := i) (a := 2) (j := 1) (j2 := 0) ⟨lat_985, lat_986, lat_987, lat_988, lat_989⟩ (by decide) rfl rfl (by omega) ?_
  refine l_call ok (idx := 117) (n := 2) (ci := 5) (md2 := md_Le_cell) (r := (5, 0, 0)) (as := [.inl (xs (i + 1)), .inl (xs (i + 2))]) (rest := []) lat_990 (gw_in3 30 rfl rfl) ca_Le_cell rfl rfl h56.1 rfl rfl (Nat.le_of_ble_eq_true rfl) (l_lv [(xs (i + 1)), (xs (i + 2))]) (sp_Le_cell (hG := ok.2.2.1)  ?_)
  refine l_pi ?_
  refine l_al ok lat_993 (j := 3) rfl ?_
  refine l_arg ok (i := i) (a := 1) (j := 1) (j2 := 0) ⟨lat_994, lat_995, lat_996, lat_997, lat_998⟩ (by decide) rfl rfl (by omega) ?_
  refine l_arg ok (i := i) (a := 2) (j := 1) (j2 := 0) ⟨lat_999, lat_1000, lat_1001, lat_1002, lat_1003⟩ (by decide) rfl rfl (by omega) ?_
  refine l_call ok (idx := 119) (n := 2) (ci := 6) (md2 := md_Mo_cell) (r := (6, 0, 0)) (as := [.inl (xs (i + 1)), .inl (xs (i + 2))]) (rest := [_]) lat_1004 (gw_in4 185 rfl rfl) ca_Mo_cell rfl rfl h56.2 rfl rfl (Nat.le_of_ble_eq_true rfl) (l_lv [(xs (i + 1)), (xs (i + 2))]) (sp_Mo_cell (hG := ok.2.2.1)  ?_)
  refine l_pi ?_
  exact l_eq ok lat_1007 (t := 1262) (by decide) T.1 (l_nx ok (next _ T.2))
theorem k_safeFor (ok : l_ok Z G L xs) (h56 : l56 G) (I : INV d n M) (hi : i + 3 < L) (hn : n + 34 < 1000000) (next : lNx Z G d n i) : lW Z G 1012 (lsL Z G i) [] M := by
  have T : _ ∧ _ := ⟨q_safeFor (a := (xs (i + 1))) I.1.1.1 I.1.1.2 I.2.1, INV_up (n' := n + 34) I (by omega)⟩
  refine l_al ok lat_1012 (j := 2) rfl ?_
  refine l_arg ok (i := i) (a := 1) (j := 1) (j2 := 0) ⟨lat_1013, lat_1014, lat_1015, lat_1016, lat_1017⟩ (by decide) rfl rfl (by omega) ?_
  refine l_call ok (idx := 120) (n := 1) (ci := 5) (md2 := md_Le_safeFor) (r := (5, 0, 0)) (as := [.inl (xs (i + 1))]) (rest := []) lat_1018 (gw_in3 34 rfl rfl) ca_Le_safeFor rfl rfl h56.1 rfl rfl (Nat.le_of_ble_eq_true rfl) (l_lv [(xs (i + 1))]) (sp_Le_safeFor (hG := ok.2.2.1)  ?_)
  refine l_pi ?_
  refine l_al ok lat_1021 (j := 3) rfl ?_
  refine l_arg ok (i := i) (a := 1) (j := 1) (j2 := 0) ⟨lat_1022, lat_1023, lat_1024, lat_1025, lat_1026⟩ (by decide) rfl rfl (by omega) ?_
  refine l_call ok (idx := 123) (n := 1) (ci := 6) (md2 := md_Mo_safeFor) (r := (6, 0, 0)) (as := [.inl (xs (i + 1))]) (rest := [_]) lat_1027 (gw_in4 189 rfl rfl) ca_Mo_safeFor rfl rfl h56.2 rfl rfl (Nat.le_of_ble_eq_true rfl) (l_lv [(xs (i + 1))]) (sp_Mo_safeFor (hG := ok.2.2.1)  ?_)
  refine l_pi ?_
  exact l_eq ok lat_1030 (t := 1262) (by decide) T.1 (l_nx ok (next _ T.2))
theorem k_waitFor (ok : l_ok Z G L xs) (h56 : l56 G) (I : INV d n M) (hi : i + 3 < L) (hn : n + 34 < 1000000) (next : lNx Z G d n i) : lW Z G 1035 (lsL Z G i) [] M := by
  have T : _ ∧ _ := ⟨q_waitFor (a := (xs (i + 1))) I.1.1.1 I.1.1.2 I.2.1, INV_up (n' := n + 34) I (by omega)⟩
  refine l_al ok lat_1035 (j := 2) rfl ?_
  refine l_arg ok (i := i) (a := 1) (j := 1) (j2 := 0) ⟨lat_1036, lat_1037, lat_1038, lat_1039, lat_1040⟩ (by decide) rfl rfl (by omega) ?_
  refine l_call ok (idx := 124) (n := 1) (ci := 5) (md2 := md_Le_waitFor) (r := (5, 0, 0)) (as := [.inl (xs (i + 1))]) (rest := []) lat_1041 (gw_in3 38 rfl rfl) ca_Le_waitFor rfl rfl h56.1 rfl rfl (Nat.le_of_ble_eq_true rfl) (l_lv [(xs (i + 1))]) (sp_Le_waitFor (hG := ok.2.2.1) (hw := i_wr I) ?_)
  refine l_pi ?_
  refine l_al ok lat_1044 (j := 3) rfl ?_
  refine l_arg ok (i := i) (a := 1) (j := 1) (j2 := 0) ⟨lat_1045, lat_1046, lat_1047, lat_1048, lat_1049⟩ (by decide) rfl rfl (by omega) ?_
  refine l_call ok (idx := 127) (n := 1) (ci := 6) (md2 := md_Mo_waitFor) (r := (6, 0, 0)) (as := [.inl (xs (i + 1))]) (rest := [_]) lat_1050 (gw_in4 193 rfl rfl) ca_Mo_waitFor rfl rfl h56.2 rfl rfl (Nat.le_of_ble_eq_true rfl) (l_lv [(xs (i + 1))]) (sp_Mo_waitFor (hG := ok.2.2.1) (hm := i_mw I fr_rfl) ?_)
  refine l_pi ?_
  exact l_eq ok lat_1053 (t := 1262) (by decide) T.1 (l_nx ok (next _ T.2))
theorem k_leastCrashes (ok : l_ok Z G L xs) (h56 : l56 G) (I : INV d n M) (hi : i + 3 < L) (hn : n + 34 < 1000000) (next : lNx Z G d n i) : lW Z G 1058 (lsL Z G i) [] M := by
  have T : _ ∧ _ := ⟨q_leastCrashes  I.1.1.1 I.1.1.2 I.2.1, INV_up (n' := n + 34) I (by omega)⟩
  refine l_al ok lat_1058 (j := 2) rfl ?_
  refine l_call ok (idx := 128) (n := 0) (ci := 5) (md2 := md_Le_leastCrashes) (r := (5, 0, 0)) (as := []) (rest := []) lat_1059 (gw_in3 54 rfl rfl) ca_Le_leastCrashes rfl rfl h56.1 rfl rfl (Nat.le_of_ble_eq_true rfl) (l_lv []) (sp_Le_leastCrashes (hG := ok.2.2.1) (hw := i_wr I) ?_)
  refine l_pi ?_
  refine l_al ok lat_1062 (j := 3) rfl ?_
  refine l_call ok (idx := 132) (n := 0) (ci := 6) (md2 := md_Mo_leastCrashes) (r := (6, 0, 0)) (as := []) (rest := [_]) lat_1063 (gw_in4 205 rfl rfl) ca_Mo_leastCrashes rfl rfl h56.2 rfl rfl (Nat.le_of_ble_eq_true rfl) (l_lv []) (sp_Mo_leastCrashes (hG := ok.2.2.1) (hm := i_mw I fr_rfl) ?_)
  refine l_pi ?_
  exact l_eq ok lat_1066 (t := 1262) (by decide) T.1 (l_nx ok (next _ T.2))
theorem k_staleKeys (ok : l_ok Z G L xs) (h56 : l56 G) (I : INV d n M) (hi : i + 3 < L) (hn : n + 34 < 1000000) (next : lNx Z G d n i) : lW Z G 1071 (lsL Z G i) [] M := by
  have T : _ ∧ _ := ⟨q_staleKeys (a := (xs (i + 1))) I.1.1.1 I.1.1.2 I.1.2.2, INV_up (n' := n + 34) I (by omega)⟩
  refine l_al ok lat_1071 (j := 2) rfl ?_
  refine l_arg ok (i := i) (a := 1) (j := 1) (j2 := 0) ⟨lat_1072, lat_1073, lat_1074, lat_1075, lat_1076⟩ (by decide) rfl rfl (by omega) ?_
  refine l_call ok (idx := 133) (n := 1) (ci := 5) (md2 := md_Le_staleKeys) (r := (5, 0, 0)) (as := [.inl (xs (i + 1))]) (rest := []) lat_1077 (gw_in3 73 rfl rfl) ca_Le_staleKeys rfl rfl h56.1 rfl rfl (Nat.le_of_ble_eq_true rfl) (l_lv [(xs (i + 1))]) (sp_Le_staleKeys (hG := ok.2.2.1) (hw := i_wr I) (hc := i_wc I) ?_)
  refine l_pi ?_
  refine l_al ok lat_1080 (j := 3) rfl ?_
  refine l_arg ok (i := i) (a := 1) (j := 1) (j2 := 0) ⟨lat_1081, lat_1082, lat_1083, lat_1084, lat_1085⟩ (by decide) rfl rfl (by omega) ?_
  refine l_call ok (idx := 136) (n := 1) (ci := 6) (md2 := md_Mo_staleKeys) (r := (6, 0, 0)) (as := [.inl (xs (i + 1))]) (rest := [_]) lat_1086 (gw_in4 212 rfl rfl) ca_Mo_staleKeys rfl rfl h56.2 rfl rfl (Nat.le_of_ble_eq_true rfl) (l_lv [(xs (i + 1))]) (sp_Mo_staleKeys (hG := ok.2.2.1) (hm := i_mw I fr_rfl) ?_)
  refine l_pi ?_
  exact l_eq ok lat_1089 (t := 1262) (by decide) T.1 (l_nx ok (next _ T.2))
theorem k_isSafe (ok : l_ok Z G L xs) (h56 : l56 G) (I : INV d n M) (hi : i + 3 < L) (hn : n + 34 < 1000000) (next : lNx Z G d n i) : lW Z G 1094 (lsL Z G i) [] M := by
  have T : _ ∧ _ := ⟨congrArg zz_bi (b_is I.1.1.1 I.1.1.2 I.2.1 I.1.2.2 5 (by omega)), INV_up (n' := n + 34) I (by omega)⟩
  refine l_al ok lat_1094 (j := 2) rfl ?_
  refine l_call ok (idx := 137) (n := 0) (ci := 5) (md2 := md_Le_isSafe) (r := (5, 0, 0)) (as := []) (rest := []) lat_1095 (gw_in3 77 rfl rfl) ca_Le_isSafe rfl rfl h56.1 rfl rfl (Nat.le_of_ble_eq_true rfl) (l_lv []) (sp_Le_isSafe (hG := ok.2.2.1) (hw := i_wr I) ?_)
  refine l_pi ?_
  refine l_al ok lat_1098 (j := 3) rfl ?_
  refine l_call ok (idx := 140) (n := 0) (ci := 6) (md2 := md_Mo_isSafe) (r := (6, 0, 0)) (as := []) (rest := [_]) lat_1099 (gw_in4 220 rfl rfl) ca_Mo_isSafe rfl rfl h56.2 rfl rfl (Nat.le_of_ble_eq_true rfl) (l_lv []) (sp_Mo_isSafe (hG := ok.2.2.1) (hm := i_mw I fr_rfl) ?_)
  refine l_pi ?_
  exact l_eq ok lat_1102 (t := 1262) (by decide) T.1 (l_nx ok (next _ T.2))
theorem k_type (ok : l_ok Z G L xs) (h56 : l56 G) (I : INV d n M) (hi : i + 3 < L) (hn : n + 34 < 1000000) (next : lNx Z G d n i) : lW Z G 1107 (lsL Z G i) [] M := by
  obtain ⟨k, ht⟩ := I.2.2.2.1
  have T := t_type (l := (xs (i + 1))) I ht
  refine l_al ok lat_1107 (j := 2) rfl ?_
  refine l_arg ok (i := i) (a := 1) (j := 1) (j2 := 0) ⟨lat_1108, lat_1109, lat_1110, lat_1111, lat_1112⟩ (by decide) rfl rfl (by omega) ?_
  refine l_call ok (idx := 141) (n := 1) (ci := 5) (md2 := md_Le_type) (r := (5, 0, 0)) (as := [.inl (xs (i + 1))]) (rest := []) lat_1113 (gw_in3 89 rfl rfl) ca_Le_type rfl rfl h56.1 rfl rfl (Nat.le_of_ble_eq_true rfl) (l_lv [(xs (i + 1))]) (sp_Le_type (hG := ok.2.2.1) (hl := ht.2.1) (hn := ht.1) ?_)
  refine l_pi ?_
  refine l_al ok lat_1116 (j := 3) rfl ?_
  refine l_arg ok (i := i) (a := 1) (j := 1) (j2 := 0) ⟨lat_1117, lat_1118, lat_1119, lat_1120, lat_1121⟩ (by decide) rfl rfl (by omega) ?_
  refine l_call ok (idx := 144) (n := 1) (ci := 6) (md2 := md_Mo_type) (r := (6, 0, 0)) (as := [.inl (xs (i + 1))]) (rest := [_]) lat_1122 (gw_in4 232 rfl rfl) ca_Mo_type rfl rfl h56.2 rfl rfl (Nat.le_of_ble_eq_true rfl) (l_lv [(xs (i + 1))]) (sp_Mo_type (hG := ok.2.2.1) (hl := ty_6.trans ht.2.2.1) (hn := ht.1) ?_)
  refine l_pi ?_
  exact l_eq ok lat_1125 (t := 1262) (by decide) T.1 (l_nx ok (next _ T.2))
theorem k_clear (ok : l_ok Z G L xs) (h56 : l56 G) (I : INV d n M) (hi : i + 3 < L) (hn : n + 34 < 1000000) (next : lNx Z G d n i) : lW Z G 1130 (lsL Z G i) [] M := by
  have T := t_clear I
  refine l_al ok lat_1130 (j := 2) rfl ?_
  refine l_call ok (idx := 145) (n := 0) (ci := 5) (md2 := md_Le_clear) (r := (5, 0, 0)) (as := []) (rest := []) lat_1131 (gw_in3 97 rfl rfl) ca_Le_clear rfl rfl h56.1 rfl rfl (Nat.le_of_ble_eq_true rfl) (l_lv []) (sp_Le_clear (hG := ok.2.2.1)  ?_)
  refine l_pi ?_
  refine l_al ok lat_1134 (j := 3) rfl ?_
  refine l_call ok (idx := 148) (n := 0) (ci := 6) (md2 := md_Mo_clear) (r := (6, 0, 0)) (as := []) (rest := [_]) lat_1135 (gw_in4 236 rfl rfl) ca_Mo_clear rfl rfl h56.2 rfl rfl (Nat.le_of_ble_eq_true rfl) (l_lv []) (sp_Mo_clear (hG := ok.2.2.1)  ?_)
  refine l_pi ?_
  exact l_eq ok lat_1138 (t := 1262) (by decide) T.1 (l_nx ok (next _ T.2))
theorem k_run (ok : l_ok Z G L xs) (h56 : l56 G) (I : INV d n M) (hi : i + 3 < L) (hn : n + 34 < 1000000) (next : lNx Z G d n i) : lW Z G 1143 (lsL Z G i) [] M := by
  obtain ⟨k, ht⟩ := I.2.2.2.1
  have T := t_run I ht hn
  refine l_al ok lat_1143 (j := 2) rfl ?_
  refine l_call ok (idx := 149) (n := 0) (ci := 5) (md2 := md_Le_run) (r := (5, 0, 0)) (as := []) (rest := []) lat_1144 (gw_in3 101 rfl rfl) ca_Le_run rfl rfl h56.1 rfl rfl (Nat.le_of_ble_eq_true rfl) (l_lv []) (sp_Le_run (hG := ok.2.2.1) (hw := i_wr I) (hl := ht.2.1) (hn := ht.1) ?_)
  refine l_pi ?_
  refine l_al ok lat_1147 (j := 3) rfl ?_
  refine l_call ok (idx := 152) (n := 0) (ci := 6) (md2 := md_Mo_run) (r := (6, 0, 0)) (as := []) (rest := [_]) lat_1148 (gw_in5 0 rfl rfl) ca_Mo_run rfl rfl h56.2 rfl rfl (Nat.le_of_ble_eq_true rfl) (l_lv []) (sp_Mo_run (hG := ok.2.2.1) (hl := (run_o rfl (by simp) (by simp) (by simp) (by simp)).trans ht.2.2.1) (hn := ht.1) (hq := T.2.2) ?_)
  refine l_pi ?_
  exact l_eq ok lat_1151 (t := 1262) (by decide) T.1 (l_nx ok (next _ T.2.1))
theorem k_result (ok : l_ok Z G L xs) (h56 : l56 G) (I : INV d n M) (hi : i + 3 < L) (hn : n + 34 < 1000000) (next : lNx Z G d n i) : lW Z G 1156 (lsL Z G i) [] M := by
  obtain ⟨k, hr⟩ := I.2.2.2.2
  have T : _ ∧ _ := ⟨q_result (i := (xs (i + 1))) I, INV_up (n' := n + 34) I (by omega)⟩
  refine l_al ok lat_1156 (j := 2) rfl ?_
  refine l_arg ok (i := i) (a := 1) (j := 1) (j2 := 0) ⟨lat_1157, lat_1158, lat_1159, lat_1160, lat_1161⟩ (by decide) rfl rfl (by omega) ?_
  refine l_call ok (idx := 153) (n := 1) (ci := 5) (md2 := md_Le_result) (r := (5, 0, 0)) (as := [.inl (xs (i + 1))]) (rest := []) lat_1162 (gw_in3 146 rfl rfl) ca_Le_result rfl rfl h56.1 rfl rfl (Nat.le_of_ble_eq_true rfl) (l_lv [(xs (i + 1))]) (sp_Le_result (hG := ok.2.2.1)  ?_)
  refine l_pi ?_
  refine l_al ok lat_1165 (j := 3) rfl ?_
  refine l_arg ok (i := i) (a := 1) (j := 1) (j2 := 0) ⟨lat_1166, lat_1167, lat_1168, lat_1169, lat_1170⟩ (by decide) rfl rfl (by omega) ?_
  refine l_call ok (idx := 156) (n := 1) (ci := 6) (md2 := md_Mo_result) (r := (6, 0, 0)) (as := [.inl (xs (i + 1))]) (rest := [_]) lat_1171 (gw_in5 36 rfl rfl) ca_Mo_result rfl rfl h56.2 rfl rfl (Nat.le_of_ble_eq_true rfl) (l_lv [(xs (i + 1))]) (sp_Mo_result (hG := ok.2.2.1) (hr := hr.2.2.1) (hr5 := Nat.le_trans hr.1 (by decide)) ?_)
  refine l_pi ?_
  exact l_eq ok lat_1174 (t := 1262) (by decide) T.1 (l_nx ok (next _ T.2))
theorem k_save (ok : l_ok Z G L xs) (h56 : l56 G) (I : INV d n M) (hi : i + 3 < L) (hn : n + 34 < 1000000) (next : lNx Z G d n i) : lW Z G 1179 (lsL Z G i) [] M := by
  have T := @t_save d n M (xs (i + 1)) I
  refine l_al ok lat_1179 (j := 2) rfl ?_
  refine l_arg ok (i := i) (a := 1) (j := 1) (j2 := 0) ⟨lat_1180, lat_1181, lat_1182, lat_1183, lat_1184⟩ (by decide) rfl rfl (by omega) ?_
  refine l_call ok (idx := 157) (n := 1) (ci := 5) (md2 := md_Le_save) (r := (5, 0, 0)) (as := [.inl (xs (i + 1))]) (rest := []) lat_1185 (gw_in3 150 rfl rfl) ca_Le_save rfl rfl h56.1 rfl rfl (Nat.le_of_ble_eq_true rfl) (l_lv [(xs (i + 1))]) (sp_Le_save (hG := ok.2.2.1) (hw := i_wr I) ?_)
  refine l_pi ?_
  refine l_al ok lat_1188 (j := 3) rfl ?_
  refine l_arg ok (i := i) (a := 1) (j := 1) (j2 := 0) ⟨lat_1189, lat_1190, lat_1191, lat_1192, lat_1193⟩ (by decide) rfl rfl (by omega) ?_
  refine l_call ok (idx := 160) (n := 1) (ci := 6) (md2 := md_Mo_save) (r := (6, 0, 0)) (as := [.inl (xs (i + 1))]) (rest := [_]) lat_1194 (gw_in5 40 rfl rfl) ca_Mo_save rfl rfl h56.2 rfl rfl (Nat.le_of_ble_eq_true rfl) (l_lv [(xs (i + 1))]) (sp_Mo_save (hG := ok.2.2.1)  ?_)
  refine l_pi ?_
  exact l_eq ok lat_1197 (t := 1262) (by decide) T.1 (l_nx ok (next _ T.2))
theorem k_restore (ok : l_ok Z G L xs) (h56 : l56 G) (I : INV d n M) (hi : i + 3 < L) (hn : n + 34 < 1000000) (next : lNx Z G d n i) : lW Z G 1202 (lsL Z G i) [] M := by
  have T := @t_restore d n M (xs (i + 1)) I
  refine l_al ok lat_1202 (j := 2) rfl ?_
  refine l_arg ok (i := i) (a := 1) (j := 1) (j2 := 0) ⟨lat_1203, lat_1204, lat_1205, lat_1206, lat_1207⟩ (by decide) rfl rfl (by omega) ?_
  refine l_call ok (idx := 161) (n := 1) (ci := 5) (md2 := md_Le_restore) (r := (5, 0, 0)) (as := [.inl (xs (i + 1))]) (rest := []) lat_1208 (gw_in3 166 rfl rfl) ca_Le_restore rfl rfl h56.1 rfl rfl (Nat.le_of_ble_eq_true rfl) (l_lv [(xs (i + 1))]) (sp_Le_restore (hG := ok.2.2.1) (hw := i_wrs I) ?_)
  refine l_pi ?_
  refine l_al ok lat_1211 (j := 3) rfl ?_
  refine l_arg ok (i := i) (a := 1) (j := 1) (j2 := 0) ⟨lat_1212, lat_1213, lat_1214, lat_1215, lat_1216⟩ (by decide) rfl rfl (by omega) ?_
  refine l_call ok (idx := 164) (n := 1) (ci := 6) (md2 := md_Mo_restore) (r := (6, 0, 0)) (as := [.inl (xs (i + 1))]) (rest := [_]) lat_1217 (gw_in5 44 rfl rfl) ca_Mo_restore rfl rfl h56.2 rfl rfl (Nat.le_of_ble_eq_true rfl) (l_lv [(xs (i + 1))]) (sp_Mo_restore (hG := ok.2.2.1)  ?_)
  refine l_pi ?_
  exact l_eq ok lat_1220 (t := 1262) (by decide) T.1 (l_nx ok (next _ T.2))
theorem k_count (ok : l_ok Z G L xs) (h56 : l56 G) (I : INV d n M) (hi : i + 3 < L) (hn : n + 34 < 1000000) (next : lNx Z G d n i) : lW Z G 1225 (lsL Z G i) [] M := by
  have T : _ ∧ _ := ⟨q_count (w := (xs (i + 1))) I.1.1.1 I.1.1.2 I.2.1 (i_h7 I) (i_h8 I), INV_up (n' := n + 34) I (by omega)⟩
  refine l_al ok lat_1225 (j := 2) rfl ?_
  refine l_arg ok (i := i) (a := 1) (j := 1) (j2 := 0) ⟨lat_1226, lat_1227, lat_1228, lat_1229, lat_1230⟩ (by decide) rfl rfl (by omega) ?_
  refine l_call ok (idx := 165) (n := 1) (ci := 5) (md2 := md_Le_count) (r := (5, 0, 0)) (as := [.inl (xs (i + 1))]) (rest := []) lat_1231 (gw_in3 170 rfl rfl) ca_Le_count rfl rfl h56.1 rfl rfl (Nat.le_of_ble_eq_true rfl) (l_lv [(xs (i + 1))]) (sp_Le_count (hG := ok.2.2.1)  ?_)
  refine l_pi ?_
  refine l_al ok lat_1234 (j := 3) rfl ?_
  refine l_arg ok (i := i) (a := 1) (j := 1) (j2 := 0) ⟨lat_1235, lat_1236, lat_1237, lat_1238, lat_1239⟩ (by decide) rfl rfl (by omega) ?_
  refine l_call ok (idx := 168) (n := 1) (ci := 6) (md2 := md_Mo_count) (r := (6, 0, 0)) (as := [.inl (xs (i + 1))]) (rest := [_]) lat_1240 (gw_in5 48 rfl rfl) ca_Mo_count rfl rfl h56.2 rfl rfl (Nat.le_of_ble_eq_true rfl) (l_lv [(xs (i + 1))]) (sp_Mo_count (hG := ok.2.2.1)  ?_)
  refine l_pi ?_
  exact l_eq ok lat_1243 (t := 1262) (by decide) T.1 (l_nx ok (next _ T.2))
theorem k_digest (ok : l_ok Z G L xs) (h56 : l56 G) (I : INV d n M) (hi : i + 3 < L) (hn : n + 34 < 1000000) (next : lNx Z G d n i) : lW Z G 1248 (lsL Z G i) [] M := by
  have T := t_digest I
  refine l_al ok lat_1248 (j := 2) rfl ?_
  refine l_call ok (idx := 169) (n := 0) (ci := 5) (md2 := md_Le_digest) (r := (5, 0, 0)) (as := []) (rest := []) lat_1249 (gw_in3 178 rfl rfl) ca_Le_digest rfl rfl h56.1 rfl rfl (Nat.le_of_ble_eq_true rfl) (l_lv []) (sp_Le_digest (hG := ok.2.2.1) (hw := i_wr I) (hc := i_wc I) ?_)
  refine l_pl ?_
  refine l_al ok lat_1252 (j := 3) rfl ?_
  refine l_call ok (idx := 173) (n := 0) (ci := 6) (md2 := md_Mo_digest) (r := (6, 0, 0)) (as := []) (rest := [_]) lat_1253 (gw_in5 56 rfl rfl) ca_Mo_digest rfl rfl h56.2 rfl rfl (Nat.le_of_ble_eq_true rfl) (l_lv []) (sp_Mo_digest (hG := ok.2.2.1) (hm := i_mw I fr_rfl) ?_)
  refine l_pl ?_
  exact l_lcmp ok lat_1256 lat_1257 (t := 1262) (by decide) T.1 (l_nx ok (next _ T.2))
end LK
