theorem sw_Le_clock_12 : decode md_Le_clock.2.1 12 = .ok (.tableswitch 55 0 2 #[28, 37, 46], 28) := by decide +kernel
theorem sw_Le_known_22 : decode md_Le_known.2.1 22 = .ok (.tableswitch 59 0 4 #[34, 39, 44, 49, 54], 34) := by decide +kernel
theorem sw_Le_log_22 : decode md_Le_log.2.1 22 = .ok (.tableswitch 83 0 4 #[34, 45, 53, 66, 75], 34) := by decide +kernel
theorem sw_Le_cell_14 : decode md_Le_cell.2.1 14 = .ok (.lookupswitch 46 #[(0, 26), (1, 36)], 26) := by decide +kernel
theorem sw_Le_count_1 : decode md_Le_count.2.1 1 = .ok (.tableswitch 156 0 10 #[59, 67, 75, 86, 97, 105, 116, 124, 132, 140, 148], 59) := by decide +kernel
theorem sw_Le_makeCall_1 : decode md_Le_makeCall.2.1 1 = .ok (.tableswitch 180 97 119 #[107, 145, 164, 180, 180, 180, 121, 127, 180, 180, 180, 180, 172, 180, 180, 151, 180, 114, 157, 180, 180, 180, 136], 107) := by decide +kernel
theorem sw_Mo_known_12 : decode md_Mo_known.2.1 12 = .ok (.tableswitch 143 0 4 #[36, 46, 56, 87, 115], 36) := by decide +kernel
theorem sw_Mo_log_22 : decode md_Mo_log.2.1 22 = .ok (.tableswitch 82 0 4 #[34, 44, 46, 52, 72], 34) := by decide +kernel
theorem sw_Mo_numbersOf_1 : decode md_Mo_numbersOf.2.1 1 = .ok (.tableswitch 113 97 119 #[109, 111, 109, 113, 113, 113, 111, 107, 113, 113, 113, 113, 109, 113, 113, 111, 113, 109, 109, 113, 113, 113, 107], 107) := by decide +kernel
theorem sw_Mo_does_42 : decode md_Mo_does.2.1 42 = .ok (.tableswitch 163 97 119 #[106, 144, 163, 163, 163, 163, 120, 126, 163, 163, 163, 163, 163, 163, 163, 150, 163, 113, 156, 163, 163, 163, 135], 106) := by decide +kernel
theorem sw_Mo_count_1 : decode md_Mo_count.2.1 1 = .ok (.tableswitch 136 0 10 #[59, 66, 71, 80, 89, 98, 107, 116, 121, 126, 131], 59) := by decide +kernel
theorem sw_Sc_numbersOf_1 : decode md_Sc_numbersOf.2.1 1 = .ok (.tableswitch 113 97 119 #[109, 107, 109, 113, 113, 113, 107, 111, 113, 113, 113, 113, 109, 113, 113, 107, 113, 109, 109, 113, 113, 113, 111], 107) := by decide +kernel
def zz_lok (pc : Nat) (df : Int) (ps : Array (Int × Int)) (cs : List (Int32 × Nat)) (dt : Nat) : Bool :=
  decide (df = (dt : Int) - (pc : Int)) && (decide (ps.toList = cs.map (fun q => (q.1.toInt, (q.2 : Int) - (pc : Int)))) && (ps.toList.zip (ps.toList.drop 1)).all (fun (a, next) => a.1 < next.1))
theorem zz_lsw0 {a : Int32} {pc dt : Nat} {K : Nat → Prop} : ∀ (cs : List (Int32 × Nat)), zz_sw a K cs dt → ∃ t : Nat, Op.lookupswitch.offset (cs.map (fun q => (q.1.toInt, (q.2 : Int) - (pc : Int)))) ((dt : Int) - (pc : Int)) a.toInt = (t : Int) - (pc : Int) ∧ K t
  | [], h => ⟨dt, by rw [List.map_nil, Op.lookupswitch.offset_nil], h⟩
  | (v, t) :: r, h => by
    by_cases e : a = v
    · refine ⟨t, ?_, h.1 e⟩
      rw [List.map_cons, Op.lookupswitch.offset_cons, if_pos (by rw [e])]
    · obtain ⟨t2, h1, h2⟩ := zz_lsw0 r (h.2 e)
      exact ⟨t2, by rw [List.map_cons, lv_osw e rfl]; exact h1, h2⟩
theorem zz_lsw {G : zG} {Z : zC} {md : zD} {post : Option zV → zM → Prop} (ok : zz_ok G Z md) {pc len : Nat} {ls : zL} {st : List zV} {M : zM} {a : Int32} {df : Int} {ps : Array (Int × Int)} (hd : decode md.2.1 pc = .ok (.lookupswitch df ps, len)) (cs : List (Int32 × Nat)) (dt : Nat) (hc : zz_lok pc df ps cs dt = true) (k : zz_sw a (fun t => zz_W G Z md post t ls st M) cs dt) : zz_W G Z md post pc ls (.inl a :: st) M := by
  obtain ⟨hG, hx, hb, hr0, hml, hown, hts, hlk, hK, hmd⟩ := ok
  intro hl1 hl2 H locs la hP hS hl
  simp only [zz_lok, Bool.and_eq_true, decide_eq_true_eq] at hc
  obtain ⟨h1, h2, h3⟩ := hc
  obtain ⟨t, h4, h5⟩ := zz_lsw0 (pc := pc) cs k
  refine lv_lookup hx hb hd h3 (off := (t : Int) - (pc : Int)) (tgt := t) (by rw [h2, h1]; exact h4) (by omega) (h5 hl1 (zz_lvt hl2) H locs la hP hS hl)
