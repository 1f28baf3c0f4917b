def bcx (x : Int32) : Int32 :=
  let a := x - ((x.toUInt32 >>> ((1 : Int32).toUInt32 &&& Int32.toUInt32 31)).toInt32 &&& 1431655765)
  let b := (a &&& 858993459) + ((a.toUInt32 >>> ((2 : Int32).toUInt32 &&& Int32.toUInt32 31)).toInt32 &&& 858993459)
  let c := (b + (b.toUInt32 >>> ((4 : Int32).toUInt32 &&& Int32.toUInt32 31)).toInt32) &&& 252645135
  let d := c + (c.toUInt32 >>> ((8 : Int32).toUInt32 &&& Int32.toUInt32 31)).toInt32
  let e := d + (d.toUInt32 >>> ((16 : Int32).toUInt32 &&& Int32.toUInt32 31)).toInt32
  e &&& 63
def sc_ap (M : zM) (n : Nat) (l : Int32) : zM := zz_set (zz_set M (16, 0, 0) n l) (2, 0, 0) 4 (nI (n + 1))
def sc_no (x : Int32) : Int32 := if x = 103 ∨ x = 98 ∨ x = 112 then 1 else if x = 97 ∨ x = 114 ∨ x = 115 ∨ x = 99 ∨ x = 109 then 2 else if x = 104 ∨ x = 119 then 3 else 0
def sc_d1 (M : zM) : zM := zz_set (zz_set M (2, 0, 0) 9 (M.1 (2, 0, 0) 9 + (if M.1 (2, 0, 0) 10 = 0 then 1 else 0))) (2, 0, 0) 10 (M.1 (2, 0, 0) 10 + 1)
def sc_at (M : zM) : Int32 := M.1 (2, 0, 0) 5 * 3 + (M.1 (2, 0, 0) 9 + (if M.1 (2, 0, 0) 10 = 0 then 1 else 0)) - 1
def sc_td (M : zM) (d : Int32) : Int32 × zM :=
  if M.1 (2, 0, 0) 7 = 0 ∨ (M.1 (2, 0, 0) 10 = 0 ∧ M.1 (2, 0, 0) 9 = M.1 (2, 0, 0) 8) ∨ M.1 (2, 0, 0) 10 = 3 then (0, M)
  else if sc_at M < 0 ∨ 101 < sc_at M then (0, sc_d1 M)
  else (1, zz_set (sc_d1 M) (18, 0, 0) (zz_ix (sc_at M)) ((if M.1 (2, 0, 0) 10 = 0 then 0 else M.1 (18, 0, 0) (zz_ix (sc_at M)) * 10) + d))
def sc_ec (M : zM) : Int32 × zM := if M.1 (2, 0, 0) 7 = 0 ∨ M.1 (2, 0, 0) 9 < M.1 (2, 0, 0) 8 then (0, M) else (1, zz_set (zz_set M (2, 0, 0) 7 0) (2, 0, 0) 5 (M.1 (2, 0, 0) 5 + 1))
def sc_bc (M : zM) (l : Int32) : Int32 × zM :=
  if ¬ M.1 (2, 0, 0) 7 = 0 ∨ sc_no l = 0 ∨ ¬ M.1 (2, 0, 0) 5 < 34 then (0, zz_set M (2, 0, 0) 8 (sc_no l))
  else (1, zz_set (zz_set (zz_set (zz_set M (2, 0, 0) 8 (sc_no l)) (17, 0, 0) (zz_ix (M.1 (2, 0, 0) 5)) l) (2, 0, 0) 9 0) (2, 0, 0) 7 1)
def sc_tk (M : zM) (l : Int32) : Int32 × zM :=
  if ¬ l < 48 ∧ ¬ 57 < l then sc_td M (l - 48)
  else if l = 32 then (1, zz_set M (2, 0, 0) 10 0)
  else if l = 59 then sc_ec (zz_set M (2, 0, 0) 10 0)
  else sc_bc (zz_set M (2, 0, 0) 10 0) l
def sc_pl : Nat → Nat → zM → Option Nat × zM
  | 0, _, M => (none, M)
  | f + 1, i, M => if (sc_tk M (M.1 (16, 0, 0) i)).1 = 0 then (some i, (sc_tk M (M.1 (16, 0, 0) i)).2) else sc_pl f (i + 1) (sc_tk M (M.1 (16, 0, 0) i)).2
def sc_p0 (M : zM) : zM := zz_set (zz_set (zz_set M (2, 0, 0) 5 0) (2, 0, 0) 7 0) (2, 0, 0) 10 0
def sc_pX (M : zM) (n : Nat) : Option Nat × zM := sc_pl n 0 (sc_p0 M)
def sc_pr (M : zM) (n : Nat) : Int32 := match (sc_pX M n).1 with
  | some i => nI i
  | none => if (sc_pX M n).2.1 (2, 0, 0) 7 = 0 then -1 else nI n
theorem sc_td01 (M : zM) (d : Int32) : (sc_td M d).1 = 0 ∨ (sc_td M d).1 = 1 := by
  unfold sc_td; split
  · exact Or.inl rfl
  · split
    · exact Or.inl rfl
    · exact Or.inr rfl
theorem sc_ec01 (M : zM) : (sc_ec M).1 = 0 ∨ (sc_ec M).1 = 1 := by
  unfold sc_ec; split
  · exact Or.inl rfl
  · exact Or.inr rfl
theorem sc_bc01 (M : zM) (l : Int32) : (sc_bc M l).1 = 0 ∨ (sc_bc M l).1 = 1 := by
  unfold sc_bc; split
  · exact Or.inl rfl
  · exact Or.inr rfl
/-- what the reading of a byte leaves alone, and how the calls grow -/
def sc_kp (M M' : zM) (c c' : Nat) : Prop := M'.1 (2, 0, 0) 4 = M.1 (2, 0, 0) 4 ∧ (∀ i, M'.1 (16, 0, 0) i = M.1 (16, 0, 0) i) ∧ M'.1 (2, 0, 0) 5 = nI c'
theorem sc_tk_kp {M : zM} {c : Nat} {l : Int32} (hc : M.1 (2, 0, 0) 5 = nI c) : ∃ c', c' ≤ c + 1 ∧ sc_kp M (sc_tk M l).2 c c' := by
  unfold sc_tk sc_td sc_ec sc_bc sc_d1 sc_kp
  split
  · split
    · exact ⟨c, by omega, rfl, fun _ => rfl, hc⟩
    · split
      · exact ⟨c, by omega, by simp [zz_gs], fun _ => by simp [zz_gs], by simp [zz_gs, hc]⟩
      · exact ⟨c, by omega, by simp [zz_gs], fun _ => by simp [zz_gs], by simp [zz_gs, hc]⟩
  · split
    · exact ⟨c, by omega, by simp [zz_gs], fun _ => by simp [zz_gs], by simp [zz_gs, hc]⟩
    · split
      · split
        · exact ⟨c, by omega, by simp [zz_gs], fun _ => by simp [zz_gs], by simp [zz_gs, hc]⟩
        · exact ⟨c + 1, by omega, by simp [zz_gs], fun _ => by simp [zz_gs], by simp [zz_gs, hc]; exact nI_1 c⟩
      · split
        · exact ⟨c, by omega, by simp [zz_gs], fun _ => by simp [zz_gs], by simp [zz_gs, hc]⟩
        · exact ⟨c, by omega, by simp [zz_gs], fun _ => by simp [zz_gs], by simp [zz_gs, hc]⟩
theorem ni_w {x : Int32} {N : Nat} (hN : N < 2147483648) (h0 : ¬ x < 0) (h3 : ¬ nI N < x) : ∃ c : Nat, c < N + 1 ∧ x = nI c := by
  rw [ni_lt] at h0 h3
  rw [ni_n hN] at h3
  have e0 : (0 : Int32).toInt = 0 := rfl
  exact ni_of (by omega) (by omega)
theorem wi_t {n N : Nat} (h : n ≤ N) (hN : N < 2147483648) : (!decide (nI n < 0) && !decide (nI N < nI n)) = true := by
  simp only [nI_pos (show n < 2 ^ 31 by omega), nI_nlt h hN]
  rfl
theorem wi_of {x lo hi : Int32} (h : zz_bi (!decide (x < lo) && !decide (hi < x)) = 0) : x < lo ∨ hi < x := by
  rw [zz_bi0] at h
  simp only [Bool.and_eq_false_iff, Bool.not_eq_false', decide_eq_true_eq] at h
  exact h
theorem wi_nof {x lo hi : Int32} (h : ¬ zz_bi (!decide (x < lo) && !decide (hi < x)) = 0) : ¬ x < lo ∧ ¬ hi < x := by
  rw [zz_bi0] at h
  simp only [Bool.and_eq_false_iff, Bool.not_eq_false', decide_eq_true_eq, not_or] at h
  exact h
theorem sp_In_bitCount {G : zG} {post : Option zV → zM → Prop} {M : zM} {x : Int32} (hG : zz_go G) (h : post (some (.inl (bcx x))) M) : zz_T G md_In_bitCount [.inl x] M post := by
  refine en_In_bitCount hG rfl (fun Z ok => ?_)
  refine zz_i ok rfl trivial rfl rfl ?_
  exact h
theorem sp_Sc_append {G : zG} {post : Option zV → zM → Prop} {M : zM} {n : Nat} {l : Int32} (hG : zz_go G) (hl : M.1 (2, 0, 0) 4 = nI n) (hn : n ≤ 100) (h : post (some (.inl (if n < 100 then 1 else 0))) (if n < 100 then sc_ap M n l else M)) : zz_T G md_Sc_append [.inr (.inr (2, 0, 0)), .inl l] M post := by
  refine en_Sc_append hG rfl (fun Z ok => ?_)
  refine zz_b ok rfl trivial rfl (fun h6 => ?_) (fun h6 => ?_)
  · skip
    rw [hl, ni_lit, ni_ltn (by omega) (by decide)] at h6
    refine zz_z ok rfl ⟨ni_inx hl h6 (by decide), trivial⟩ rfl rfl (by first | exact Or.inl rfl | exact Or.inr rfl | exact zz_bi01 _) ?_
    rw [if_pos h6, if_pos h6] at h
    exact zz_pq h rfl (by simp [sc_ap, hl, zz_gs, zz_ixn (show n < 2147483648 by omega), nI_1])
  · skip
    rw [hl, ni_lit, ni_ltn (by omega) (by decide)] at h6
    refine zz_z ok rfl trivial rfl rfl (by first | exact Or.inl rfl | exact Or.inr rfl | exact zz_bi01 _) ?_
    rw [if_neg h6, if_neg h6] at h
    exact h
theorem sp_Sc_numberOf {G : zG} {post : Option zV → zM → Prop} {M : zM} {i j : Nat} {a b : Int32} (hG : zz_go G) (ea : a = nI i) (hi : i < 34) (eb : b = nI j) (hj : j < 3) (h : post (some (.inl (M.1 (18, 0, 0) (3 * i + j)))) M) : zz_T G md_Sc_numberOf [.inr (.inr (2, 0, 0)), .inl a, .inl b] M post := by
  refine en_Sc_numberOf hG rfl (fun Z ok => ?_)
  subst ea; subst eb
  have e1 : nI i * 3 + nI j = nI (3 * i + j) := by
    rw [ni_lit, ni_mul, nI_add]; congr 1; omega
  refine zz_cN ok rfl trivial rfl lk_Sc_47 ca_Le_isWithin rfl rfl rfl (sp_Le_isWithin hG ?_)
  refine zz_b ok rfl trivial rfl (fun h13 => ?_) (fun h13 => ?_)
  · skip
    exact absurd h13 (by rw [e1, show (!decide (nI (3 * i + j) < 0) && !decide ((101 : Int32) < nI (3 * i + j))) = true from wi_t (N := 101) (by omega) (by decide)]; decide)
  · skip
    refine zz_i ok rfl ⟨ni_inx e1 (by omega) (by decide), trivial⟩ rfl rfl ?_
    exact zz_pq h (by rw [e1, zz_ixn (by omega)]) rfl
theorem sp_Sc_numbersOf {G : zG} {post : Option zV → zM → Prop} {M : zM} {l : Int32} (hG : zz_go G) (h : post (some (.inl (sc_no l))) M) : zz_T G md_Sc_numbersOf [.inl l] M post := by
  refine en_Sc_numbersOf hG rfl (fun Z ok => ?_)
  refine zz_g ok rfl trivial ?_
  refine zz_tsw ok sw_Sc_numbersOf_1 [(97, 110), (98, 108), (99, 110), (100, 114), (101, 114), (102, 114), (103, 108), (104, 112), (105, 114), (106, 114), (107, 114), (108, 114), (109, 110), (110, 114), (111, 114), (112, 108), (113, 114), (114, 110), (115, 110), (116, 114), (117, 114), (118, 114), (119, 112)] 114 (by decide +kernel) ?_
  refine ⟨fun h1_97 => ?_, fun h1_97 => ?_⟩
  · skip
    refine zz_i ok rfl trivial rfl rfl ?_
    exact zz_pq h (by simp [sc_no, h1_97]) rfl
  refine ⟨fun h1_98 => ?_, fun h1_98 => ?_⟩
  · skip
    refine zz_i ok rfl trivial rfl rfl ?_
    exact zz_pq h (by simp [sc_no, h1_97, h1_98]) rfl
  refine ⟨fun h1_99 => ?_, fun h1_99 => ?_⟩
  · skip
    refine zz_i ok rfl trivial rfl rfl ?_
    exact zz_pq h (by simp [sc_no, h1_97, h1_98, h1_99]) rfl
  refine ⟨fun h1_100 => ?_, fun h1_100 => ?_⟩
  · skip
    refine zz_i ok rfl trivial rfl rfl ?_
    exact zz_pq h (by simp [sc_no, h1_97, h1_98, h1_99, h1_100]) rfl
  refine ⟨fun h1_101 => ?_, fun h1_101 => ?_⟩
  · skip
    refine zz_i ok rfl trivial rfl rfl ?_
    exact zz_pq h (by simp [sc_no, h1_97, h1_98, h1_99, h1_100, h1_101]) rfl
  refine ⟨fun h1_102 => ?_, fun h1_102 => ?_⟩
  · skip
    refine zz_i ok rfl trivial rfl rfl ?_
    exact zz_pq h (by simp [sc_no, h1_97, h1_98, h1_99, h1_100, h1_101, h1_102]) rfl
  refine ⟨fun h1_103 => ?_, fun h1_103 => ?_⟩
  · skip
    refine zz_i ok rfl trivial rfl rfl ?_
    exact zz_pq h (by simp [sc_no, h1_97, h1_98, h1_99, h1_100, h1_101, h1_102, h1_103]) rfl
  refine ⟨fun h1_104 => ?_, fun h1_104 => ?_⟩
  · skip
    refine zz_i ok rfl trivial rfl rfl ?_
    exact zz_pq h (by simp [sc_no, h1_97, h1_98, h1_99, h1_100, h1_101, h1_102, h1_103, h1_104]) rfl
  refine ⟨fun h1_105 => ?_, fun h1_105 => ?_⟩
  · skip
    refine zz_i ok rfl trivial rfl rfl ?_
    exact zz_pq h (by simp [sc_no, h1_97, h1_98, h1_99, h1_100, h1_101, h1_102, h1_103, h1_104, h1_105]) rfl
  refine ⟨fun h1_106 => ?_, fun h1_106 => ?_⟩
  · skip
    refine zz_i ok rfl trivial rfl rfl ?_
    exact zz_pq h (by simp [sc_no, h1_97, h1_98, h1_99, h1_100, h1_101, h1_102, h1_103, h1_104, h1_105, h1_106]) rfl
  refine ⟨fun h1_107 => ?_, fun h1_107 => ?_⟩
  · skip
    refine zz_i ok rfl trivial rfl rfl ?_
    exact zz_pq h (by simp [sc_no, h1_97, h1_98, h1_99, h1_100, h1_101, h1_102, h1_103, h1_104, h1_105, h1_106, h1_107]) rfl
  refine ⟨fun h1_108 => ?_, fun h1_108 => ?_⟩
  · skip
    refine zz_i ok rfl trivial rfl rfl ?_
    exact zz_pq h (by simp [sc_no, h1_97, h1_98, h1_99, h1_100, h1_101, h1_102, h1_103, h1_104, h1_105, h1_106, h1_107, h1_108]) rfl
  refine ⟨fun h1_109 => ?_, fun h1_109 => ?_⟩
  · skip
    refine zz_i ok rfl trivial rfl rfl ?_
    exact zz_pq h (by simp [sc_no, h1_97, h1_98, h1_99, h1_100, h1_101, h1_102, h1_103, h1_104, h1_105, h1_106, h1_107, h1_108, h1_109]) rfl
  refine ⟨fun h1_110 => ?_, fun h1_110 => ?_⟩
  · skip
    refine zz_i ok rfl trivial rfl rfl ?_
    exact zz_pq h (by simp [sc_no, h1_97, h1_98, h1_99, h1_100, h1_101, h1_102, h1_103, h1_104, h1_105, h1_106, h1_107, h1_108, h1_109, h1_110]) rfl
  refine ⟨fun h1_111 => ?_, fun h1_111 => ?_⟩
  · skip
    refine zz_i ok rfl trivial rfl rfl ?_
    exact zz_pq h (by simp [sc_no, h1_97, h1_98, h1_99, h1_100, h1_101, h1_102, h1_103, h1_104, h1_105, h1_106, h1_107, h1_108, h1_109, h1_110, h1_111]) rfl
  refine ⟨fun h1_112 => ?_, fun h1_112 => ?_⟩
  · skip
    refine zz_i ok rfl trivial rfl rfl ?_
    exact zz_pq h (by simp [sc_no, h1_97, h1_98, h1_99, h1_100, h1_101, h1_102, h1_103, h1_104, h1_105, h1_106, h1_107, h1_108, h1_109, h1_110, h1_111, h1_112]) rfl
  refine ⟨fun h1_113 => ?_, fun h1_113 => ?_⟩
  · skip
    refine zz_i ok rfl trivial rfl rfl ?_
    exact zz_pq h (by simp [sc_no, h1_97, h1_98, h1_99, h1_100, h1_101, h1_102, h1_103, h1_104, h1_105, h1_106, h1_107, h1_108, h1_109, h1_110, h1_111, h1_112, h1_113]) rfl
  refine ⟨fun h1_114 => ?_, fun h1_114 => ?_⟩
  · skip
    refine zz_i ok rfl trivial rfl rfl ?_
    exact zz_pq h (by simp [sc_no, h1_97, h1_98, h1_99, h1_100, h1_101, h1_102, h1_103, h1_104, h1_105, h1_106, h1_107, h1_108, h1_109, h1_110, h1_111, h1_112, h1_113, h1_114]) rfl
  refine ⟨fun h1_115 => ?_, fun h1_115 => ?_⟩
  · skip
    refine zz_i ok rfl trivial rfl rfl ?_
    exact zz_pq h (by simp [sc_no, h1_97, h1_98, h1_99, h1_100, h1_101, h1_102, h1_103, h1_104, h1_105, h1_106, h1_107, h1_108, h1_109, h1_110, h1_111, h1_112, h1_113, h1_114, h1_115]) rfl
  refine ⟨fun h1_116 => ?_, fun h1_116 => ?_⟩
  · skip
    refine zz_i ok rfl trivial rfl rfl ?_
    exact zz_pq h (by simp [sc_no, h1_97, h1_98, h1_99, h1_100, h1_101, h1_102, h1_103, h1_104, h1_105, h1_106, h1_107, h1_108, h1_109, h1_110, h1_111, h1_112, h1_113, h1_114, h1_115, h1_116]) rfl
  refine ⟨fun h1_117 => ?_, fun h1_117 => ?_⟩
  · skip
    refine zz_i ok rfl trivial rfl rfl ?_
    exact zz_pq h (by simp [sc_no, h1_97, h1_98, h1_99, h1_100, h1_101, h1_102, h1_103, h1_104, h1_105, h1_106, h1_107, h1_108, h1_109, h1_110, h1_111, h1_112, h1_113, h1_114, h1_115, h1_116, h1_117]) rfl
  refine ⟨fun h1_118 => ?_, fun h1_118 => ?_⟩
  · skip
    refine zz_i ok rfl trivial rfl rfl ?_
    exact zz_pq h (by simp [sc_no, h1_97, h1_98, h1_99, h1_100, h1_101, h1_102, h1_103, h1_104, h1_105, h1_106, h1_107, h1_108, h1_109, h1_110, h1_111, h1_112, h1_113, h1_114, h1_115, h1_116, h1_117, h1_118]) rfl
  refine ⟨fun h1_119 => ?_, fun h1_119 => ?_⟩
  · skip
    refine zz_i ok rfl trivial rfl rfl ?_
    exact zz_pq h (by simp [sc_no, h1_97, h1_98, h1_99, h1_100, h1_101, h1_102, h1_103, h1_104, h1_105, h1_106, h1_107, h1_108, h1_109, h1_110, h1_111, h1_112, h1_113, h1_114, h1_115, h1_116, h1_117, h1_118, h1_119]) rfl
  refine zz_i ok rfl trivial rfl rfl ?_
  exact zz_pq h (by simp [sc_no, h1_97, h1_98, h1_99, h1_100, h1_101, h1_102, h1_103, h1_104, h1_105, h1_106, h1_107, h1_108, h1_109, h1_110, h1_111, h1_112, h1_113, h1_114, h1_115, h1_116, h1_117, h1_118, h1_119]) rfl
theorem sp_Sc_endsCall {G : zG} {post : Option zV → zM → Prop} {M : zM} (hG : zz_go G) (h : post (some (.inl (sc_ec M).1)) (sc_ec M).2) : zz_T G md_Sc_endsCall [.inr (.inr (2, 0, 0))] M post := by
  refine en_Sc_endsCall hG rfl (fun Z ok => ?_)
  unfold sc_ec at h
  refine zz_b ok rfl trivial rfl (fun h4 => ?_) (fun h4 => ?_)
  · skip
    refine zz_z ok rfl trivial rfl rfl (by first | exact Or.inl rfl | exact Or.inr rfl | exact zz_bi01 _) ?_
    rw [if_pos (Or.inl h4)] at h
    exact h
  · skip
    refine zz_b ok rfl trivial rfl (fun h15 => ?_) (fun h15 => ?_)
    · skip
      refine zz_z ok rfl trivial rfl rfl (by first | exact Or.inl rfl | exact Or.inr rfl | exact zz_bi01 _) ?_
      rw [if_pos (Or.inr h15)] at h
      exact h
    · skip
      refine zz_z ok rfl ⟨Or.inl rfl, trivial⟩ rfl rfl (by first | exact Or.inl rfl | exact Or.inr rfl | exact zz_bi01 _) ?_
      rw [if_neg (fun q => q.elim h4 h15)] at h
      exact zz_pq h rfl (by simp [zz_gs])
theorem sp_Sc_beginsCall {G : zG} {post : Option zV → zM → Prop} {M : zM} {c : Nat} {l : Int32} (hG : zz_go G) (hc : M.1 (2, 0, 0) 5 = nI c) (hc1 : c < 100000) (h : post (some (.inl (sc_bc M l).1)) (sc_bc M l).2) : zz_T G md_Sc_beginsCall [.inr (.inr (2, 0, 0)), .inl l] M post := by
  refine en_Sc_beginsCall hG rfl (fun Z ok => ?_)
  unfold sc_bc at h
  refine zz_cS ok rfl trivial rfl lk_Sc_65 ca_Sc_numbersOf rfl rfl rfl (sp_Sc_numbersOf hG ?_)
  refine zz_b ok rfl trivial rfl (fun h12 => ?_) (fun h12 => ?_)
  · skip
    simp only [zz_gs] at h12
    simp only [Prod.mk.injEq, Nat.reduceEqDiff, and_false, false_and, and_true, true_and, if_false, if_true] at h12
    refine zz_b ok rfl trivial rfl (fun h19 => ?_) (fun h19 => ?_)
    · skip
      simp only [zz_gs] at h19
      simp only [Prod.mk.injEq, Nat.reduceEqDiff, and_false, false_and, and_true, true_and, if_false, if_true] at h19
      refine zz_z ok rfl trivial rfl rfl (by first | exact Or.inl rfl | exact Or.inr rfl | exact zz_bi01 _) ?_
      rw [if_pos (Or.inr (Or.inl h19))] at h
      exact h
    · skip
      simp only [zz_gs] at h19
      simp only [Prod.mk.injEq, Nat.reduceEqDiff, and_false, false_and, and_true, true_and, if_false, if_true] at h19
      refine zz_b ok rfl trivial rfl (fun h28 => ?_) (fun h28 => ?_)
      · skip
        simp only [zz_gs] at h28
        simp only [Prod.mk.injEq, Nat.reduceEqDiff, and_false, false_and, and_true, true_and, if_false, if_true] at h28
        refine zz_z ok rfl (by refine ⟨?_, Or.inr rfl, trivial⟩; simp only [zz_gs]; simp; rw [hc] at h28 ⊢; rw [ni_lit, ni_ltn (by omega) (by decide)] at h28; exact ni_in h28 (by decide)) rfl rfl (by first | exact Or.inl rfl | exact Or.inr rfl | exact zz_bi01 _) ?_
        rw [if_neg (fun q => q.elim (fun q => q h12) (fun q => q.elim h19 (fun q => q h28)))] at h
        exact zz_pq h rfl (by simp [zz_gs])
      · skip
        simp only [zz_gs] at h28
        simp only [Prod.mk.injEq, Nat.reduceEqDiff, and_false, false_and, and_true, true_and, if_false, if_true] at h28
        refine zz_z ok rfl trivial rfl rfl (by first | exact Or.inl rfl | exact Or.inr rfl | exact zz_bi01 _) ?_
        rw [if_pos (Or.inr (Or.inr h28))] at h
        exact h
  · skip
    simp only [zz_gs] at h12
    simp only [Prod.mk.injEq, Nat.reduceEqDiff, and_false, false_and, and_true, true_and, if_false, if_true] at h12
    refine zz_z ok rfl trivial rfl rfl (by first | exact Or.inl rfl | exact Or.inr rfl | exact zz_bi01 _) ?_
    rw [if_pos (Or.inl h12)] at h
    exact h
theorem sp_Sc_takesDigit {G : zG} {post : Option zV → zM → Prop} {M : zM} {d : Int32} (hG : zz_go G) (h : post (some (.inl (sc_td M d).1)) (sc_td M d).2) : zz_T G md_Sc_takesDigit [.inr (.inr (2, 0, 0)), .inl d] M post := by
  refine en_Sc_takesDigit hG rfl (fun Z ok => ?_)
  unfold sc_td at h
  refine zz_b ok rfl trivial rfl (fun h4 => ?_) (fun h4 => ?_)
  · skip
    refine zz_b ok rfl trivial rfl (fun h17 => ?_) (fun h17 => ?_)
    · skip
      refine zz_z ok rfl trivial rfl rfl (by first | exact Or.inl rfl | exact Or.inr rfl | exact zz_bi01 _) ?_
      rw [if_pos (Or.inl h17)] at h
      exact h
    · skip
      refine zz_b ok rfl trivial rfl (fun h21 => ?_) (fun h21 => ?_)
      · skip
        exact absurd h21 (by decide)
      · skip
        skip
        refine zz_b ok rfl trivial rfl (fun h32 => ?_) (fun h32 => ?_)
        · skip
          refine zz_z ok rfl trivial rfl rfl (by first | exact Or.inl rfl | exact Or.inr rfl | exact zz_bi01 _) ?_
          rw [if_pos (Or.inr (Or.inl ⟨h4, h32⟩))] at h
          exact h
        · skip
          refine zz_b ok rfl trivial rfl (fun h40 => ?_) (fun h40 => ?_)
          · skip
            refine zz_z ok rfl trivial rfl rfl (by first | exact Or.inl rfl | exact Or.inr rfl | exact zz_bi01 _) ?_
            rw [if_pos (Or.inr (Or.inr h40))] at h
            exact h
          · skip
            refine zz_b ok rfl trivial rfl (fun h51 => ?_) (fun h51 => ?_)
            · skip
              exact absurd h51 (by decide)
            · skip
              skip
              refine zz_cN ok rfl trivial rfl lk_Sc_47 ca_Le_isWithin rfl rfl rfl (sp_Le_isWithin hG ?_)
              refine zz_b ok rfl trivial rfl (fun h94 => ?_) (fun h94 => ?_)
              · skip
                have h94 := wi_of h94
                refine zz_z ok rfl trivial rfl rfl (by first | exact Or.inl rfl | exact Or.inr rfl | exact zz_bi01 _) ?_
                rw [if_neg (fun q => q.elim h17 (fun q => q.elim (fun q => h32 q.2) h40)), if_pos (by simpa [sc_at, zz_gs, h4] using h94)] at h
                exact zz_pq h rfl (by simp [sc_d1, zz_gs, h4])
              · skip
                have h94 := wi_nof h94
                refine zz_b ok rfl trivial rfl (fun h105 => ?_) (fun h105 => ?_)
                · skip
                  exact absurd h105 (by decide)
                · skip
                  skip
                  refine zz_z ok rfl (by and_intros <;> first | trivial | (obtain ⟨c, hc, ec⟩ := ni_w (N := 101) (by decide) h94.1 h94.2; exact ni_inx ec hc (by decide))) rfl rfl (by first | exact Or.inl rfl | exact Or.inr rfl | exact zz_bi01 _) ?_
                  rw [if_neg (fun q => q.elim h17 (fun q => q.elim (fun q => h32 q.2) h40)), if_neg (by simpa [sc_at, zz_gs, h4] using h94)] at h
                  exact zz_pq h rfl (by simp [sc_d1, sc_at, zz_gs, h4])
  · skip
    refine zz_b ok rfl trivial rfl (fun h17 => ?_) (fun h17 => ?_)
    · skip
      refine zz_z ok rfl trivial rfl rfl (by first | exact Or.inl rfl | exact Or.inr rfl | exact zz_bi01 _) ?_
      rw [if_pos (Or.inl h17)] at h
      exact h
    · skip
      refine zz_b ok rfl trivial rfl (fun h21 => ?_) (fun h21 => ?_)
      · skip
        skip
        refine zz_b ok rfl trivial rfl (fun h40 => ?_) (fun h40 => ?_)
        · skip
          refine zz_z ok rfl trivial rfl rfl (by first | exact Or.inl rfl | exact Or.inr rfl | exact zz_bi01 _) ?_
          rw [if_pos (Or.inr (Or.inr h40))] at h
          exact h
        · skip
          refine zz_b ok rfl trivial rfl (fun h51 => ?_) (fun h51 => ?_)
          · skip
            skip
            refine zz_cN ok rfl trivial rfl lk_Sc_47 ca_Le_isWithin rfl rfl rfl (sp_Le_isWithin hG ?_)
            refine zz_b ok rfl trivial rfl (fun h94 => ?_) (fun h94 => ?_)
            · skip
              have h94 := wi_of h94
              refine zz_z ok rfl trivial rfl rfl (by first | exact Or.inl rfl | exact Or.inr rfl | exact zz_bi01 _) ?_
              rw [if_neg (fun q => q.elim h17 (fun q => q.elim (fun q => h4 q.1) h40)), if_pos (by simpa [sc_at, zz_gs, h4] using h94)] at h
              exact zz_pq h rfl (by simp [sc_d1, zz_gs, h4])
            · skip
              have h94 := wi_nof h94
              refine zz_b ok rfl trivial rfl (fun h105 => ?_) (fun h105 => ?_)
              · skip
                skip
                refine zz_z ok rfl (by and_intros <;> first | trivial | (obtain ⟨c, hc, ec⟩ := ni_w (N := 101) (by decide) h94.1 h94.2; exact ni_inx ec hc (by decide))) rfl rfl (by first | exact Or.inl rfl | exact Or.inr rfl | exact zz_bi01 _) ?_
                rw [if_neg (fun q => q.elim h17 (fun q => q.elim (fun q => h4 q.1) h40)), if_neg (by simpa [sc_at, zz_gs, h4] using h94)] at h
                exact zz_pq h rfl (by simp [sc_d1, sc_at, zz_gs, h4])
              · skip
                exact absurd rfl h105
          · skip
            exact absurd rfl h51
      · skip
        exact absurd rfl h21
theorem sp_Sc_takes {G : zG} {post : Option zV → zM → Prop} {M : zM} {c : Nat} {l : Int32} (hG : zz_go G) (hc : M.1 (2, 0, 0) 5 = nI c) (hc1 : c < 100000) (h : post (some (.inl (sc_tk M l).1)) (sc_tk M l).2) : zz_T G md_Sc_takes [.inr (.inr (2, 0, 0)), .inl l] M post := by
  refine en_Sc_takes hG rfl (fun Z ok => ?_)
  unfold sc_tk at h
  refine zz_b ok rfl trivial rfl (fun h3 => ?_) (fun h3 => ?_)
  · skip
    rw [if_neg (fun q => q.1 h3)] at h
    refine zz_b ok rfl trivial rfl (fun h29 => ?_) (fun h29 => ?_)
    · skip
      rw [if_pos h29] at h
      refine zz_z ok rfl trivial rfl rfl (by first | exact Or.inl rfl | exact Or.inr rfl | exact sc_td01 _ _ | exact sc_ec01 _ | exact sc_bc01 _ _) ?_
      exact h
    · skip
      rw [if_neg h29] at h
      refine zz_b ok rfl trivial rfl (fun h37 => ?_) (fun h37 => ?_)
      · skip
        rw [if_pos h37] at h
        refine zz_cV ok rfl trivial rfl lk_Sc_58 ca_Sc_endsCall rfl rfl rfl rfl rfl (sp_Sc_endsCall hG ?_)
        refine zz_z ok rfl trivial rfl rfl (by first | exact Or.inl rfl | exact Or.inr rfl | exact sc_td01 _ _ | exact sc_ec01 _ | exact sc_bc01 _ _) ?_
        exact h
      · skip
        rw [if_neg h37] at h
        refine zz_cV ok rfl trivial rfl lk_Sc_62 ca_Sc_beginsCall rfl rfl rfl rfl rfl (sp_Sc_beginsCall (c := c) hG (by rw [zz_gs, if_neg (by simp)]; exact hc) hc1 ?_)
        refine zz_z ok rfl trivial rfl rfl (by first | exact Or.inl rfl | exact Or.inr rfl | exact sc_td01 _ _ | exact sc_ec01 _ | exact sc_bc01 _ _) ?_
        exact h
  · skip
    refine zz_b ok rfl trivial rfl (fun h9 => ?_) (fun h9 => ?_)
    · skip
      rw [if_neg (fun q => q.2 h9)] at h
      refine zz_b ok rfl trivial rfl (fun h29 => ?_) (fun h29 => ?_)
      · skip
        rw [if_pos h29] at h
        refine zz_z ok rfl trivial rfl rfl (by first | exact Or.inl rfl | exact Or.inr rfl | exact sc_td01 _ _ | exact sc_ec01 _ | exact sc_bc01 _ _) ?_
        exact h
      · skip
        rw [if_neg h29] at h
        refine zz_b ok rfl trivial rfl (fun h37 => ?_) (fun h37 => ?_)
        · skip
          rw [if_pos h37] at h
          refine zz_cV ok rfl trivial rfl lk_Sc_58 ca_Sc_endsCall rfl rfl rfl rfl rfl (sp_Sc_endsCall hG ?_)
          refine zz_z ok rfl trivial rfl rfl (by first | exact Or.inl rfl | exact Or.inr rfl | exact sc_td01 _ _ | exact sc_ec01 _ | exact sc_bc01 _ _) ?_
          exact h
        · skip
          rw [if_neg h37] at h
          refine zz_cV ok rfl trivial rfl lk_Sc_62 ca_Sc_beginsCall rfl rfl rfl rfl rfl (sp_Sc_beginsCall (c := c) hG (by rw [zz_gs, if_neg (by simp)]; exact hc) hc1 ?_)
          refine zz_z ok rfl trivial rfl rfl (by first | exact Or.inl rfl | exact Or.inr rfl | exact sc_td01 _ _ | exact sc_ec01 _ | exact sc_bc01 _ _) ?_
          exact h
    · skip
      rw [if_pos ⟨h3, h9⟩] at h
      refine zz_cV ok rfl trivial rfl lk_Sc_55 ca_Sc_takesDigit rfl rfl rfl rfl rfl (sp_Sc_takesDigit hG ?_)
      refine zz_z ok rfl trivial rfl rfl (by first | exact Or.inl rfl | exact Or.inr rfl | exact sc_td01 _ _ | exact sc_ec01 _ | exact sc_bc01 _ _) ?_
      exact h
theorem sc_tk01 (M : zM) (l : Int32) : (sc_tk M l).1 = 0 ∨ (sc_tk M l).1 = 1 := by
  unfold sc_tk; split
  · exact sc_td01 _ _
  · split
    · exact Or.inr rfl
    · split
      · exact sc_ec01 _
      · exact sc_bc01 _ _
theorem sp_Sc_parse {G : zG} {post : Option zV → zM → Prop} {M : zM} {n : Nat} (hG : zz_go G) (hl : M.1 (2, 0, 0) 4 = nI n) (hn : n ≤ 100) (h : post (some (.inl (sc_pr M n))) (sc_pX M n).2) : zz_T G md_Sc_parse [.inr (.inr (2, 0, 0))] M post := by
  refine en_Sc_parse hG rfl (fun Z ok => ?_)
  have lp17 : ∀ (f k : Nat), n - k < f → k ≤ n → ∀ (x1 : Int32) (M' : zM) (c : Nat), x1 = nI k → sc_pX M n = sc_pl (n - k) k M' → M'.1 (2, 0, 0) 4 = nI n → M'.1 (2, 0, 0) 5 = nI c → c ≤ k → zz_W G Z md_Sc_parse post 17 [(1, .inl x1), (0, .inr (.inr (2, 0, 0)))] [] M' := by
    intro f
    induction f with
    | zero => intro k hf; exact absurd hf (Nat.not_lt_zero _)
    | succ f ih => ?_
    intro k hf hk x1 M' c e1 hpl hl' hc hck
    subst e1
    refine zz_b ok rfl trivial rfl (fun h22 => ?_) (fun h22 => ?_)
    · skip
      rw [hl', ni_ltn (by omega) (by omega)] at h22
      refine zz_b ok rfl trivial rfl (fun h28 => ?_) (fun h28 => ?_)
      · skip
        refine zz_cV ok rfl ⟨ni_in (by omega) (by decide), trivial⟩ rfl lk_Sc_51 ca_Sc_takes rfl rfl rfl rfl rfl (sp_Sc_takes (c := c) hG hc (by omega) ?_)
        rw [zz_ixn (by omega)]
        refine zz_b ok rfl trivial rfl (fun h41 => ?_) (fun h41 => ?_)
        · skip
          refine zz_i ok rfl trivial rfl rfl ?_
          rw [show n - k = (n - (k + 1)) + 1 by omega, sc_pl, if_pos h41] at hpl
          unfold sc_pr at h
          rw [hpl] at h
          exact h
        · skip
          refine zz_g ok rfl trivial ?_
          refine zz_pm [1, 0] rfl ?_
          obtain ⟨c', hc', hkp⟩ := sc_tk_kp (l := M'.1 (16, 0, 0) k) hc
          exact ih (k + 1) (by omega) (by omega) _ _ c' (nI_1 k) (by rw [hpl, show n - k = (n - (k + 1)) + 1 by omega, sc_pl, if_neg h41]) (by rw [hkp.1]; exact hl') hkp.2.2 (by omega)
      · skip
        exact absurd (nI_lt (show k < 100 by omega) (by decide)) h28
    · skip
      rw [hl', ni_ltn (by omega) (by omega)] at h22
      have hkn : n - k = 0 := by omega
      rw [hkn, sc_pl] at hpl
      refine zz_b ok rfl trivial rfl (fun h56 => ?_) (fun h56 => ?_)
      · skip
        refine zz_i ok rfl trivial rfl rfl ?_
        unfold sc_pr at h
        rw [hpl] at h
        dsimp only at h
        rw [if_pos h56] at h
        exact h
      · skip
        refine zz_i ok rfl trivial rfl rfl ?_
        unfold sc_pr at h
        rw [hpl] at h
        dsimp only at h
        rw [if_neg h56] at h
        exact zz_pq h (by rw [hl']) rfl
  refine zz_g ok rfl ⟨Or.inl rfl, trivial⟩ ?_
  refine zz_pm [1, 0] rfl ?_
  exact lp17 (n + 1) 0 (by omega) (by omega) _ _ 0 rfl rfl (by simp [zz_gs]; exact hl) (by simp [zz_gs]; rfl) (by omega)
