def zz_code (md : zD) : List zE := md.2.2.2.2.2.2.2
def zz_stops (md : zD) : List Nat := md.2.2.2.2.2.2.1
def zz_suf : List zE → Nat → List zE
  | [], _ => []
  | (a, b) :: t, pc => match Nat.beq a pc with
    | true => (a, b) :: t
    | false => zz_suf t pc
def zz_has : List Nat → Nat → Bool
  | [], _ => false
  | a :: t, pc => match Nat.beq a pc with
    | true => true
    | false => zz_has t pc
def zz_run (code : List zE) (stops : List Nat) : Nat → Nat → List zE → Bool → zL → List zV → zM → Option (Prop × Nat × zL × List zV × zM)
  | 0, _, _, _, _, _, _ => none
  | _ + 1, _, [], _, _, _, _ => none
  | f + 1, pc0, (pc, op, i, x, y, npc) :: t, first, ls, st, M => match Nat.beq pc pc0 with
    | false => none
    | true => match first && zz_has stops pc with
      | true => some (True, pc, ls, st, M)
      | false => match Nat.beq op 40 with
        | true => zz_run code stops f y (zz_suf code y) true ls st M
        | false => match zz_stp op i x y ls st M with
          | none => some (True, pc, ls, st, M)
          | some (none, ls', st', M') => zz_run code stops f npc t true ls' st' M'
          | some (some P, ls', st', M') => match zz_run code stops f npc t true ls' st' M' with
            | some (Q, r) => some (P ∧ Q, r)
            | none => none
def zz_ent : List zE → Nat → Option (Nat × Int32 × Nat × Nat × Nat)
  | [], _ => none
  | (a, b) :: t, pc => match Nat.beq a pc with
    | true => some b
    | false => zz_ent t pc
def zz_psh : Option zV → List zV → List zV
  | none, r => r
  | some v, r => v :: r
def zz_args : Nat → List zV → zL
  | _, [] => []
  | i, v :: t => (i, v) :: zz_args (i + zz_cat v) t
def zz_tk : Nat → List zV → List zV → Option (List zV × List zV)
  | 0, st, acc => some (acc, st)
  | _ + 1, [], _ => none
  | n + 1, v :: st, acc => zz_tk n st (v :: acc)
theorem zz_suf_in : ∀ (code : List zE) (pc : Nat), ∀ e ∈ zz_suf code pc, e ∈ code
  | [], _, _, h => h
  | (a, b) :: t, pc, e, h => by
    unfold zz_suf at h
    split at h
    · exact h
    · exact List.mem_cons_of_mem _ (zz_suf_in t pc e h)
theorem zz_ent_in : ∀ {code : List zE} {pc : Nat} {b : Nat × Int32 × Nat × Nat × Nat}, zz_ent code pc = some b → (pc, b) ∈ code
  | [], _, _, h => by cases h
  | (a, c) :: t, pc, b, h => by
    unfold zz_ent at h
    split at h
    · next ha =>
      cases h
      rw [← Nat.eq_of_beq_eq_true ha]
      exact List.mem_cons_self
    · exact List.mem_cons_of_mem _ (zz_ent_in h)
section ZR
variable {G : zG} {Z : zC} {md : zD} {post : Option zV → zM → Prop}
theorem zz_goto (ok : zz_ok G Z md) {pc x y npc : Nat} {i : Int32} {ls : zL} {st : List zV} {M : zM} (he : (pc, 40, i, x, y, npc) ∈ zz_code md) (k : zz_W G Z md post y ls st M) : zz_W G Z md post pc ls st M := by
  obtain ⟨hG, hx, hb, hr, hml, hown, hts, hlk, hK, hmd⟩ := ok
  have hck := hmd _ he
  intro hl1 hl2 H locs la hP hS hl
  simp only [zz_cm, decide_eq_true_eq] at hck
  exact lv_goto hx hb hck (by omega) (k hl1 hl2 H locs la hP hS hl)
theorem zz_rs (ok : zz_ok G Z md) : ∀ (f pc : Nat) (cs : List zE) (first : Bool) (ls : zL) (st : List zV) (M : zM) (P : Prop) (pc' : Nat) (ls' : zL) (st' : List zV) (M' : zM), (∀ e ∈ cs, e ∈ zz_code md) → zz_run (zz_code md) (zz_stops md) f pc cs first ls st M = some (P, pc', ls', st', M') → P → zz_W G Z md post pc' ls' st' M' → zz_W G Z md post pc ls st M := by
  intro f
  induction f with
  | zero => intro pc cs first ls st M P pc' ls' st' M' _ h; cases cs <;> cases h
  | succ f ih =>
    intro pc cs first ls st M P pc' ls' st' M' hcs h hP k
    cases cs with
    | nil => cases h
    | cons e t =>
      obtain ⟨pc1, op, i, x, y, npc⟩ := e
      unfold zz_run at h
      split at h
      · cases h
      · next hpc =>
        have hpc := Nat.eq_of_beq_eq_true hpc
        subst hpc
        have hin : (pc1, op, i, x, y, npc) ∈ zz_code md := hcs _ List.mem_cons_self
        have hct : ∀ e ∈ t, e ∈ zz_code md := fun e he => hcs e (List.mem_cons_of_mem _ he)
        split at h
        · cases h; exact k
        · split at h
          · next hop =>
            have hop := Nat.eq_of_beq_eq_true hop
            subst hop
            exact zz_goto ok hin (ih _ _ _ _ _ _ _ _ _ _ _ (zz_suf_in _ _) h hP k)
          · split at h
            · cases h; exact k
            · next hs =>
              exact zz_sd ok hin hs (fun p hp => by cases hp) (ih _ _ _ _ _ _ _ _ _ _ _ hct h hP k)
            · next hs =>
              split at h
              · next hr =>
                cases h
                exact zz_sd ok hin hs (fun p hp => by cases hp; exact hP.1) (ih _ _ _ _ _ _ _ _ _ _ _ hct hr hP.2 k)
              · cases h
/-- run on, up to a branch, a call, a return or a stop -/
theorem zz_g (ok : zz_ok G Z md) {pc pc' : Nat} {ls ls' : zL} {st st' : List zV} {M M' : zM} {P : Prop} (h : zz_run (zz_code md) (zz_stops md) 400 pc (zz_suf (zz_code md) pc) false ls st M = some (P, pc', ls', st', M')) (hP : P) (k : zz_W G Z md post pc' ls' st' M') : zz_W G Z md post pc ls st M :=
  zz_rs ok _ _ _ _ _ _ _ _ _ _ _ _ (zz_suf_in _ _) h hP k
def zz_br : Nat → Nat → List zV → Nat → Nat → Option (Prop × Nat × Nat × List zV)
  | 41, x, .inl a :: st, y, n => match x with
    | 0 => some (a = 0, y, n, st)
    | 1 => some (a = 0, n, y, st)
    | 2 => some (a < 0, y, n, st)
    | 3 => some (a < 0, n, y, st)
    | 4 => some (0 < a, y, n, st)
    | _ => some (0 < a, n, y, st)
  | 42, x, .inl b :: .inl a :: st, y, n => match x with
    | 0 => some (a = b, y, n, st)
    | 1 => some (a = b, n, y, st)
    | 2 => some (a < b, y, n, st)
    | 3 => some (a < b, n, y, st)
    | 4 => some (b < a, y, n, st)
    | _ => some (b < a, n, y, st)
  | _, _, _, _, _ => none
def zz_brm (code : List zE) (pc : Nat) (st : List zV) : Option (Prop × Nat × Nat × List zV) := match zz_ent code pc with
  | some (op, _, x, y, n) => zz_br op x st y n
  | none => none
theorem zz_bb (ok : zz_ok G Z md) {pc t f : Nat} {ls : zL} {st st' : List zV} {M : zM} {c : Prop} (h : zz_brm (zz_code md) pc st = some (c, t, f, st')) (kt : c → zz_W G Z md post t ls st' M) (kf : ¬ c → zz_W G Z md post f ls st' M) : zz_W G Z md post pc ls st M := by
  obtain ⟨hG, hx, hb, hr, hml, hown, hts, hlk, hK, hmd⟩ := ok
  unfold zz_brm at h
  split at h
  · next op i x y n he =>
    have hck := hmd _ (zz_ent_in he)
    dsimp only at hck
    intro hl1 hl2 H locs la hP hS hl
    unfold zz_br at h
    split at h
    · next a st1 =>
      have kt := fun q => kt q hl1
      have kf := fun q => kf q hl1
      simp only [zz_cm, Bool.and_eq_true, decide_eq_true_eq] at hck
      obtain ⟨hd, hn, -⟩ := hck
      subst hn
      split at h <;> cases h
      · exact lv_if_eq hx hb hd (by omega) (fun q => kt q (zz_lvt hl2) H locs la hP hS hl) (fun q => kf q (zz_lvt hl2) H locs la hP hS hl)
      · exact lv_if_ne hx hb hd (by omega) (fun q => kf q (zz_lvt hl2) H locs la hP hS hl) (fun q => kt q (zz_lvt hl2) H locs la hP hS hl)
      · exact lv_if_lt hx hb hd (by omega) (fun q => kt q (zz_lvt hl2) H locs la hP hS hl) (fun q => kf q (zz_lvt hl2) H locs la hP hS hl)
      · exact lv_if_ge hx hb hd (by omega) (fun q => kf (Int32.not_lt.mpr q) (zz_lvt hl2) H locs la hP hS hl) (fun q => kt (Int32.not_le.mp q) (zz_lvt hl2) H locs la hP hS hl)
      · exact lv_if_gt hx hb hd (by omega) (fun q => kt q (zz_lvt hl2) H locs la hP hS hl) (fun q => kf q (zz_lvt hl2) H locs la hP hS hl)
      · next h0 h1 h2 h3 h4 =>
        rw [show zz_cd x = .le by unfold zz_cd; split <;> first | rfl | (exfalso; simp_all)] at hd
        exact lv_if_le hx hb hd (by omega) (fun q => kf (Int32.not_lt.mpr q) (zz_lvt hl2) H locs la hP hS hl) (fun q => kt (Int32.not_le.mp q) (zz_lvt hl2) H locs la hP hS hl)
    · next b a st1 =>
      have kt := fun q => kt q hl1
      have kf := fun q => kf q hl1
      simp only [zz_cm, Bool.and_eq_true, decide_eq_true_eq] at hck
      obtain ⟨hd, hn, -⟩ := hck
      subst hn
      split at h <;> cases h
      · exact lv_icmp_eq hx hb hd (by omega) (fun q => kt q (zz_lvt (zz_lvt hl2)) H locs la hP hS hl) (fun q => kf q (zz_lvt (zz_lvt hl2)) H locs la hP hS hl)
      · exact lv_icmp_ne hx hb hd (by omega) (fun q => kf q (zz_lvt (zz_lvt hl2)) H locs la hP hS hl) (fun q => kt q (zz_lvt (zz_lvt hl2)) H locs la hP hS hl)
      · exact lv_icmp_lt hx hb hd (by omega) (fun q => kt q (zz_lvt (zz_lvt hl2)) H locs la hP hS hl) (fun q => kf q (zz_lvt (zz_lvt hl2)) H locs la hP hS hl)
      · exact lv_icmp_ge hx hb hd (by omega) (fun q => kf (Int32.not_lt.mpr q) (zz_lvt (zz_lvt hl2)) H locs la hP hS hl) (fun q => kt (Int32.not_le.mp q) (zz_lvt (zz_lvt hl2)) H locs la hP hS hl)
      · exact lv_icmp_gt hx hb hd (by omega) (fun q => kt q (zz_lvt (zz_lvt hl2)) H locs la hP hS hl) (fun q => kf q (zz_lvt (zz_lvt hl2)) H locs la hP hS hl)
      · next h0 h1 h2 h3 h4 =>
        rw [show zz_cd x = .le by unfold zz_cd; split <;> first | rfl | (exfalso; simp_all)] at hd
        exact lv_icmp_le hx hb hd (by omega) (fun q => kf (Int32.not_lt.mpr q) (zz_lvt (zz_lvt hl2)) H locs la hP hS hl) (fun q => kt (Int32.not_le.mp q) (zz_lvt (zz_lvt hl2)) H locs la hP hS hl)
    · cases h
  · cases h
/-- run on to a branch -/
theorem zz_b (ok : zz_ok G Z md) {pc pc' t f : Nat} {ls ls' : zL} {st st' st2 : List zV} {M M' : zM} {P c : Prop} (h : zz_run (zz_code md) (zz_stops md) 400 pc (zz_suf (zz_code md) pc) false ls st M = some (P, pc', ls', st', M')) (hP : P) (h2 : zz_brm (zz_code md) pc' st' = some (c, t, f, st2)) (kt : c → zz_W G Z md post t ls' st2 M') (kf : ¬ c → zz_W G Z md post f ls' st2 M') : zz_W G Z md post pc ls st M :=
  zz_g ok h hP (zz_bb ok h2 kt kf)
theorem zz_ret1 (ok : zz_ok G Z md) {pc : Nat} {ls : zL} {v : Int32} {M : zM} {i : Int32} {y n : Nat} (he : zz_ent (zz_code md) pc = some (43, i, 1, y, n)) (hr : md.2.2.2.1 = some .int ∨ (md.2.2.2.1 = some .boolean ∧ (v = 0 ∨ v = 1))) (k : post (some (.inl v)) M) : zz_W G Z md post pc ls [.inl v] M := by
  obtain ⟨hG, hx, hb, hr0, hml, hown, hts, hlk, hK, hmd⟩ := ok
  have hck := hmd _ (zz_ent_in he)
  intro hl1 hl2 H locs la hP hS hl
  simp [zz_cm] at hck
  have hq : ∀ t : State, t.heap = H → Z.2.2.1.WarmedH t.vm → zz_Q G post Z.2.2.2.2.1 Z.2.2.1 (.returned (some (.int v))) t := fun t ht _ => ⟨⟨some (.inl v), M, rfl, k, fun w hw => by cases hw; trivial, by rw [ht]; exact hP⟩, hS.F ht⟩
  rcases hr with hr | ⟨hr, h01⟩
  · exact W.iret hx hb (hr0.trans hr) hq hS.2.2 hck hlk
  · exact W.zret hx hb (hr0.trans hr) (zz_n01 h01).1 hq hS.2.2 hck hlk
theorem zz_ret0 (ok : zz_ok G Z md) {pc : Nat} {ls : zL} {M : zM} {i : Int32} {y n : Nat} (he : zz_ent (zz_code md) pc = some (43, i, 0, y, n)) (hr : md.2.2.2.1 = none) (k : post none M) : zz_W G Z md post pc ls [] M := by
  obtain ⟨hG, hx, hb, hr0, hml, hown, hts, hlk, hK, hmd⟩ := ok
  have hck := hmd _ (zz_ent_in he)
  intro hl1 hl2 H locs la hP hS hl
  simp [zz_cm] at hck
  exact W.vret hx hb (hr0.trans hr) (fun t ht _ => ⟨⟨none, M, rfl, k, (fun w hw => by cases hw), by rw [ht]; exact hP⟩, hS.F ht⟩) hS.2.2 hck hlk
theorem zz_ret2 (ok : zz_ok G Z md) {pc : Nat} {ls : zL} {v : Int64} {M : zM} {i : Int32} {y n : Nat} (he : zz_ent (zz_code md) pc = some (43, i, 2, y, n)) (hr : md.2.2.2.1 = some .long) (k : post (some (.inr (.inl v))) M) : zz_W G Z md post pc ls [.inr (.inl v)] M := by
  obtain ⟨hG, hx, hb, hr0, hml, hown, hts, hlk, hK, hmd⟩ := ok
  have hck := hmd _ (zz_ent_in he)
  intro hl1 hl2 H locs la hP hS hl
  simp [zz_cm] at hck
  exact W.lret hx hb (hr0.trans hr) (fun t ht _ => ⟨⟨some (.inr (.inl v)), M, rfl, k, fun w hw => by cases hw; trivial, by rw [ht]; exact hP⟩, hS.F ht⟩) hS.2.2 hck hlk
end ZR
