section LL
variable {Z : lC} {G : zG} {L : Nat} {xs : Nat → Int32} {M : zM} {d : Int} {n i : Nat}
theorem sw_c {a v : Int32} {K : Nat → Prop} {t dt : Nat} {r : List (Int32 × Nat)} (h1 : K t) (h2 : zz_sw a K r dt) : zz_sw a K ((v, t) :: r) dt := ⟨fun _ => h1, fun _ => h2⟩
theorem l_body (ok : l_ok Z G L xs) (h56 : l56 G) (I : INV d n M) (hi : i + 3 < L) (hn : n + 34 < 1000000) (next : lNx Z G d n i) : lW Z G 36 (lsL Z G i) [] M := by
  refine l_al ok lat_36 (j := 1) rfl ?_
  refine l_il ok lat_37 (j := 0) rfl ?_
  refine l_sld ok (i := i) rfl (by omega) lat_38 ?_
  refine l_bi ok lat_39 (v := 63) (by decide) ?_
  refine l_and ok lat_41 ?_
  refine l_tsw ok lat_42 [(0, 204), (1, 237), (2, 270), (3, 293), (4, 326), (5, 385), (6, 418), (7, 451), (8, 474), (9, 517), (10, 540), (11, 563), (12, 596), (13, 639), (14, 662), (15, 695), (16, 738), (17, 771), (18, 814), (19, 847), (20, 880), (21, 913), (22, 956), (23, 979), (24, 1012), (25, 1035), (26, 1058), (27, 1071), (28, 1094), (29, 1107), (30, 1130), (31, 1143), (32, 1156), (33, 1179), (34, 1202), (35, 1225), (36, 1248)] 1262 (by decide +kernel) ?_
  refine sw_c (k_setClock ok h56 I hi hn next) ?_
  refine sw_c (k_clock ok h56 I hi hn next) ?_
  refine sw_c (k_pass ok h56 I hi hn next) ?_
  refine sw_c (k_setState ok h56 I hi hn next) ?_
  refine sw_c (k_setLink ok h56 I hi hn next) ?_
  refine sw_c (k_acquire ok h56 I hi hn next) ?_
  refine sw_c (k_renew ok h56 I hi hn next) ?_
  refine sw_c (k_giveUp ok h56 I hi hn next) ?_
  refine sw_c (k_handOver ok h56 I hi hn next) ?_
  refine sw_c (k_reason ok h56 I hi hn next) ?_
  refine sw_c (k_holds ok h56 I hi hn next) ?_
  refine sw_c (k_known ok h56 I hi hn next) ?_
  refine sw_c (k_write ok h56 I hi hn next) ?_
  refine sw_c (k_barrier ok h56 I hi hn next) ?_
  refine sw_c (k_read ok h56 I hi hn next) ?_
  refine sw_c (k_readAt ok h56 I hi hn next) ?_
  refine sw_c (k_log ok h56 I hi hn next) ?_
  refine sw_c (k_entry ok h56 I hi hn next) ?_
  refine sw_c (k_agreement ok h56 I hi hn next) ?_
  refine sw_c (k_history ok h56 I hi hn next) ?_
  refine sw_c (k_acknowledgement ok h56 I hi hn next) ?_
  refine sw_c (k_send ok h56 I hi hn next) ?_
  refine sw_c (k_deliver ok h56 I hi hn next) ?_
  refine sw_c (k_cell ok h56 I hi hn next) ?_
  refine sw_c (k_safeFor ok h56 I hi hn next) ?_
  refine sw_c (k_waitFor ok h56 I hi hn next) ?_
  refine sw_c (k_leastCrashes ok h56 I hi hn next) ?_
  refine sw_c (k_staleKeys ok h56 I hi hn next) ?_
  refine sw_c (k_isSafe ok h56 I hi hn next) ?_
  refine sw_c (k_type ok h56 I hi hn next) ?_
  refine sw_c (k_clear ok h56 I hi hn next) ?_
  refine sw_c (k_run ok h56 I hi hn next) ?_
  refine sw_c (k_result ok h56 I hi hn next) ?_
  refine sw_c (k_save ok h56 I hi hn next) ?_
  refine sw_c (k_restore ok h56 I hi hn next) ?_
  refine sw_c (k_count ok h56 I hi hn next) ?_
  refine sw_c (k_digest ok h56 I hi hn next) ?_
  exact l_nx ok (next _ (INV_up I (by omega)))
theorem nI_le4 {L i : Nat} (hL : L ≤ 2049) (hi : i ≤ 2049) (h1 : 1 ≤ i) (h : ¬ nI L - nI 4 < nI i) : i + 3 < L := by
  apply Nat.lt_of_not_le
  intro z
  apply h
  by_cases h4 : 4 ≤ L
  · have e : nI L = nI (L - 4) + nI 4 := by rw [nI_add]; congr 1; omega
    rw [e, Int32.add_sub_cancel]
    exact nI_lt (by omega) (by omega)
  · have : L = 0 ∨ L = 1 ∨ L = 2 ∨ L = 3 := by omega
    rw [Int32.lt_iff_toInt_lt, nI_toInt (by omega)]
    rcases this with e | e | e | e <;> subst e <;> exact Int.lt_of_lt_of_le (by decide) (Int.natCast_nonneg i)
theorem l_loop (ok : l_ok Z G L xs) (h56 : l56 G) : ∀ (f : Nat) (i n : Nat) (M : zM), L ≤ i + f → i ≤ L + 3 → 1 ≤ i → n ≤ 34 * i → INV d n M → lW Z G 28 (lsL Z G i) [] M
  | 0, i, n, M, hf, hi, h1, hn, I => by
    have hL := ok.2.1
    refine l_il ok lat_28 (j := 0) rfl ?_
    refine l_al ok lat_29 (j := 1) rfl ?_
    refine l_len ok lat_30 ?_
    refine l_ic ok lat_31 (v := nI 4) (by decide) ?_
    refine l_sub ok lat_32 ?_
    refine l_gt ok lat_33 (t := 1268) (by decide) (fun _ => l_end ok lat_1268 lat_1269) (fun h => ?_)
    exfalso
    have e : nI L - nI 4 < nI i := by
      by_cases h4 : 4 ≤ L
      · have e : nI L = nI (L - 4) + nI 4 := by rw [nI_add]; congr 1; omega
        rw [e, Int32.add_sub_cancel]
        exact nI_lt (by omega) (by omega)
      · have : L = 0 ∨ L = 1 ∨ L = 2 ∨ L = 3 := by omega
        rw [Int32.lt_iff_toInt_lt, nI_toInt (by omega)]
        rcases this with e | e | e | e <;> subst e <;> exact Int.lt_of_lt_of_le (by decide) (Int.natCast_nonneg i)
    exact h e
  | f + 1, i, n, M, hf, hi, h1, hn, I => by
    have hL := ok.2.1
    refine l_il ok lat_28 (j := 0) rfl ?_
    refine l_al ok lat_29 (j := 1) rfl ?_
    refine l_len ok lat_30 ?_
    refine l_ic ok lat_31 (v := nI 4) (by decide) ?_
    refine l_sub ok lat_32 ?_
    refine l_gt ok lat_33 (t := 1268) (by decide) (fun _ => l_end ok lat_1268 lat_1269) (fun h => ?_)
    have h3 : i + 3 < L := by
      by_cases z : i ≤ 2049
      · exact nI_le4 hL z h1 h
      · exfalso
        apply h
        by_cases h4 : 4 ≤ L
        · have e : nI L = nI (L - 4) + nI 4 := by rw [nI_add]; congr 1; omega
          rw [e, Int32.add_sub_cancel]
          exact nI_lt (by omega) (by omega)
        · omega
    exact l_body ok h56 I h3 (by omega) (fun M2 I2 => l_loop ok h56 f (i + 4) (n + 34) M2 (by omega) (by omega) (by omega) (by omega) I2)
end LL
