/-- a cell outside of the current world -/
def oc (r : zR) (i : Nat) : Bool := Nat.beq r.1 2 || (Nat.beq r.1 6 || (Nat.ble 14 r.1 || (!Nat.beq r.2.1 0 || (Nat.beq r.1 4 && Nat.beq i 0))))
def fr (M M' : zM) : Prop := M'.2 = M.2 ∧ ∀ r i, oc r i = true → M'.1 r i = M.1 r i
theorem fr_rfl {M : zM} : fr M M := ⟨rfl, fun _ _ _ => rfl⟩
theorem fr_s {M M' : zM} {r0 : zR} {k : Nat} {v : Int32} (hr : oc r0 k = false) (h : fr M M') : fr M (zz_set M' r0 k v) := by
  refine ⟨h.1, fun r i ho => ?_⟩
  rw [zz_gs, if_neg]
  · exact h.2 r i ho
  · rintro ⟨rfl, rfl⟩
    rw [hr] at ho; cases ho
theorem fr_c {M M' : zM} {a0 a1 : zR} {sp dp n : Nat} (hr : ∀ j, oc a1 j = false) (h : fr M M') : fr M (zz_cpy M' a0 a1 sp dp n) := by
  refine ⟨h.1, fun r i ho => ?_⟩
  rw [zz_gc, if_neg]
  · exact h.2 r i ho
  · rintro rfl
    rw [hr] at ho; cases ho
theorem fr_add {M M' : zM} {j n : Nat} {a b c d : Int32} (h : fr M M') : fr M (ro_add M' 0 j n a b c d) := by
  unfold ro_add; split
  · exact h
  · exact fr_s rfl (fr_s rfl (fr_s rfl (fr_s rfl (fr_s rfl h))))
theorem fr_drop {M M' : zM} {j n k : Nat} (h : fr M M') : fr M (ro_drop M' 0 j n k) := by
  unfold ro_drop; split
  · exact h
  · exact fr_s rfl (fr_c (fun _ => rfl) h)
theorem fr_copy {M M' : zM} {j w2 j2 n : Nat} (h : fr M M') : fr M (ro_copy M' 0 j w2 j2 n) := fr_s rfl (fr_c (fun _ => rfl) h)
theorem fr_lcopy {M M' : zM} {j w2 j2 n : Nat} (h : fr M M') : fr M (lo_copy M' 0 j w2 j2 n) := fr_s rfl (fr_copy h)
theorem fr_pp {M M' : zM} {s : Nat} {a b : Int32} (h : fr M M') : fr M (se_pp M' 0 s a b) := fr_s rfl (fr_s rfl h)
theorem fr_pl {M M' : zM} {s : Nat} {a b : Int32} (h : fr M M') : fr M (se_pl M' 0 s a b) := fr_s rfl (fr_s rfl h)
theorem fr_kg {M M' : zM} {s e t : Int32} (h : fr M M') : fr M (c_kg M' s e t) := by
  have h0 : fr M (c_kg0 M') := by
    unfold c_kg0; split
    · exact fr_drop h
    · exact h
  exact fr_s rfl (fr_add h0)
theorem fr_gl {M : zM} (s : Nat) : ∀ (f d : Nat) (M' : zM), fr M M' → fr M (c_gl s f d M').1
  | 0, _, _, h => h
  | f + 1, d, M', h => by
    unfold c_gl; split
    · exact fr_gl s f _ _ (fr_kg h)
    · exact h
theorem fr_gd {M M' : zM} {s : Nat} (h : fr M M') : fr M (c_gd M' s) := fr_drop (fr_gl s _ _ _ h)
theorem fr_tk1 {M M' : zM} {k : Nat} (h : fr M M') : fr M (c_tk1 k M') := by
  unfold c_tk1; split
  · exact fr_gd h
  · exact h
theorem fr_it {M : zM} {f : Nat → zM → zM} (hf : ∀ k M', fr M M' → fr M (f k M')) : ∀ (k : Nat) (M' : zM), fr M M' → fr M (zz_it f k M')
  | 0, _, h => h
  | k + 1, M', h => hf k _ (fr_it hf k M' h)
theorem fr_it2 {M : zM} {f : Nat → zM × Int32 → zM × Int32} (hf : ∀ k X, fr M X.1 → fr M (f k X).1) : ∀ (k : Nat) (X : zM × Int32), fr M X.1 → fr M (zz_it f k X).1
  | 0, _, h => h
  | k + 1, X, h => hf k _ (fr_it2 hf k X h)
theorem fr_tk {M M' : zM} (h : fr M M') : fr M (c_tk M') := by
  unfold c_tk
  exact fr_it (fun k M' h => fr_tk1 h) 5 _ (fr_s rfl h)
theorem fr_tks {M M' : zM} (h : fr M M') : ∀ k, fr M (c_tks M' k)
  | 0 => h
  | k + 1 => by
    unfold c_tks
    exact fr_tk (fr_tks h k)
theorem fr_e1 {M : zM} {s v : Nat} {t e : Int32} {X : zM × Int32} (h : fr M X.1) : fr M (c_e1 s t e v X).1 := by
  unfold c_e1; split
  · exact fr_s rfl (fr_s rfl h)
  · split
    · exact fr_pp (fr_s rfl (fr_s rfl h))
    · exact fr_s rfl h
theorem fr_el {M M' : zM} {s : Nat} {d : Int32} (h : fr M M') : fr M (c_el M' s d).2 := by
  have h0 : fr M (c_eX M' s d).1 := by
    unfold c_eX
    exact fr_it2 (fun k X h => fr_e1 h) 5 _ (fr_s rfl h)
  unfold c_el; split
  · dsimp only
    exact fr_pl h0
  · dsimp only
    exact fr_pl h0
theorem fr_p1 {M : zM} {s v : Nat} {e : Int32} {X : zM × Int32} (h : fr M X.1) : fr M (c_p1 s e v X).1 := by
  unfold c_p1; split
  · exact fr_pp (fr_s rfl (fr_s rfl h))
  · exact fr_s rfl h
theorem fr_pr {M M' : zM} {s : Nat} {d : Int32} (h : fr M M') : fr M (c_pr M' s d).2 := by
  have h0 : fr M (c_pX M' s d).1 := by
    unfold c_pX
    exact fr_it2 (fun k X h => fr_p1 h) 5 _ h
  unfold c_pr; split
  · dsimp only
    exact h0
  · dsimp only
    exact fr_s rfl h0
theorem fr_a1 {M : zM} {s v : Nat} {X : zM × Int32} (h : fr M X.1) : fr M (c_a1 s v X).1 := by
  unfold c_a1; split
  · exact fr_pp h
  · exact h
theorem fr_ab {M M' : zM} {s : Nat} (h : fr M M') : fr M (c_ab M' s).1 := by
  unfold c_ab
  exact fr_it2 (fun k X h => fr_a1 h) 5 _ (fr_pl h)
theorem fr_sh {M M' : zM} {s v : Nat} {cm : Int32} (h : fr M M') : fr M (c_sh M' s v cm) := fr_s rfl (fr_s rfl (fr_copy h))
theorem fr_ca {M M' : zM} {s : Nat} (h : fr M M') : fr M (c_ca M' s) := by
  have h0 : fr M (c_ca0 M' s) := by
    unfold c_ca0; split
    · exact fr_lcopy (fr_s rfl h)
    · exact fr_s rfl h
  exact fr_add h0
theorem fr_w1 {M : zM} {s v : Nat} {cb : Int32} {X : zM × Int32} (h : fr M X.1) : fr M (c_w1 s cb v X).1 := by
  unfold c_w1; split
  · exact fr_sh h
  · exact h
theorem fr_wr {M M' : zM} {s : Nat} {k v : Int32} (h : fr M M') : fr M (c_wr M' s k v).2 := by
  have h0 : fr M (c_wX M' s k v).1 := by
    unfold c_wX
    exact fr_it2 (fun k X h => fr_w1 h) 5 _ (fr_add h)
  unfold c_wr; split
  · exact h
  · split
    · exact h
    · split
      · dsimp only
        exact h0
      · dsimp only
        exact fr_ca h0
theorem fr_enter {M M' : zM} {s : Nat} {x : Int32} (h : fr M M') : fr M (se_enter M' 0 s x) := by
  unfold se_enter; split
  · exact fr_s rfl (fr_pl (fr_s rfl h))
  · exact fr_s rfl h
theorem fr_br {M M' : zM} {k : Nat} (h : fr M M') : fr M (c_br M' k).2 := by
  unfold c_br; split
  · exact fr_s rfl (fr_s rfl h)
  · exact fr_s rfl (fr_s rfl (fr_s rfl h))
theorem L_setClock_fr {M : zM} {a b : Int32} : fr M (L_setClock M a b).2 := by
  unfold L_setClock; split
  · exact fr_rfl
  · exact fr_s rfl fr_rfl
theorem L_pass_fr {M : zM} {t : Int32} : fr M (L_pass M t).2 := by
  unfold L_pass; split
  · exact fr_rfl
  · split
    · exact fr_rfl
    · exact fr_tks fr_rfl _
theorem L_setState_fr {M : zM} {a x : Int32} : fr M (L_setState M a x).2 := by
  unfold L_setState; split
  · exact fr_rfl
  · exact fr_enter fr_rfl
theorem L_setLink_fr {M : zM} {a b u : Int32} : fr M (L_setLink M a b u).2 := by
  unfold L_setLink; split
  · exact fr_rfl
  · exact fr_s rfl (fr_s rfl fr_rfl)
theorem L_acquire_fr {M : zM} {a d : Int32} : fr M (L_acquire M a d).2 := by
  unfold L_acquire; split
  · exact fr_rfl
  · split
    · exact fr_rfl
    · exact fr_el fr_rfl
theorem L_renew_fr {M : zM} {a d : Int32} : fr M (L_renew M a d).2 := by
  unfold L_renew; split
  · exact fr_rfl
  · split
    · exact fr_rfl
    · exact fr_pr fr_rfl
theorem L_giveUp_fr {M : zM} {a : Int32} : fr M (L_giveUp M a).2 := by
  unfold L_giveUp; split
  · exact fr_rfl
  · split
    · exact fr_rfl
    · dsimp only
      exact fr_ab fr_rfl
theorem L_handOver_fr {M : zM} {a b d : Int32} : fr M (L_handOver M a b d).2 := by
  unfold L_handOver; split
  · exact fr_rfl
  · split
    · exact fr_rfl
    · exact fr_el (fr_ab (fr_sh fr_rfl))
theorem L_write_fr {M : zM} {a k v : Int32} : fr M (L_write M a k v).2 := by
  unfold L_write; split
  · exact fr_rfl
  · exact fr_wr fr_rfl
theorem L_barrier_fr {M : zM} {a : Int32} : fr M (L_barrier M a).2 := by
  unfold L_barrier; split
  · exact fr_rfl
  · exact fr_wr fr_rfl
theorem L_send_fr {M : zM} {a c v : Int32} : fr M (L_send M a c v).2 := by
  unfold L_send; split
  · exact fr_rfl
  · split
    · exact fr_rfl
    · split
      · exact fr_rfl
      · exact fr_add fr_rfl
theorem L_deliver_fr {M : zM} {k : Int32} : fr M (L_deliver M k).2 := by
  unfold L_deliver; split
  · exact fr_rfl
  · split
    · exact fr_rfl
    · exact fr_br fr_rfl
theorem c_el_wr {M : zM} {s : Nat} {d : Int32} (h : wr M 0) : wr (c_el M s d).2 0 := by
  have h0 : wr (c_eX M s d).1 0 := by
    unfold c_eX
    exact c_it2_wr (fun k X h => c_e1_wr h) 5 _ (wr_set rfl h)
  unfold c_el; split
  · dsimp only
    exact wr_pl h0
  · dsimp only
    exact wr_pl h0
theorem c_pr_wr {M : zM} {s : Nat} {d : Int32} (h : wr M 0) : wr (c_pr M s d).2 0 := by
  have h0 : wr (c_pX M s d).1 0 := by
    unfold c_pX
    exact c_it2_wr (fun k X h => c_p1_wr h) 5 _ h
  unfold c_pr; split
  · dsimp only
    exact h0
  · dsimp only
    exact wr_set rfl h0
theorem c_ca_wr {M : zM} {s : Nat} (hs : s < 5) (h : wr M 0) : wr (c_ca M s) 0 := by
  have h0 : wr (c_ca0 M s) 0 := by
    have h5 : rn M 0 s * 4 ≤ zz_rl 5 := by
      have := (h s (by omega)).2
      rw [zz_rl5 (by omega)] at this ⊢; exact this
    unfold c_ca0; split
    · exact wr_set rfl (wr_copy h5 (wr_set rfl h))
    · exact wr_set rfl h
  exact wr_add h0
theorem c_wX_wr {M : zM} {s : Nat} {k v : Int32} (hs : s < 5) (h : wr M 0) : ∀ i, i ≤ 5 → wr (zz_it (c_w1 s (M.1 (0, 0, s) 1)) i (lo_app M 0 s (rn M 0 s) (M.1 (3, 0, s) 7) k v (c_la M s), 1)).1 0
  | 0, _ => wr_app h
  | i + 1, hi => by
    have ih := c_wX_wr (k := k) (v := v) hs h i (by omega)
    rw [zz_it, c_w1]
    split
    · exact c_sh_wr hs (by omega) ih
    · exact ih
theorem c_wr_wr {M : zM} {s : Nat} {k v : Int32} (hs : s < 5) (h : wr M 0) : wr (c_wr M s k v).2 0 := by
  have h0 : wr (c_wX M s k v).1 0 := c_wX_wr hs h 5 (Nat.le_refl 5)
  unfold c_wr; split
  · exact h
  · split
    · exact h
    · split
      · dsimp only
        exact h0
      · dsimp only
        exact c_ca_wr hs h0
theorem se_enter_wr {M : zM} {s : Nat} {x : Int32} (h : wr M 0) : wr (se_enter M 0 s x) 0 := by
  unfold se_enter; split
  · exact wr_sz (n := 0) (by omega) (wr_pl (wr_set rfl h))
  · exact wr_set rfl h
theorem nsv_ix {a : Int32} (h : ¬ nsv a) : zz_ix a < 5 := by
  simp only [nsv, not_or] at h
  obtain ⟨s, hs, rfl⟩ := ni_w (N := 4) (by decide) h.1 h.2
  rw [ni_e5 hs]; exact hs
theorem L_pass_wr {M : zM} {t : Int32} (h : wr M 0) : wr (L_pass M t).2 0 := by
  unfold L_pass; split
  · exact h
  · split
    · exact h
    · exact c_tks_wr h _
theorem L_setState_wr {M : zM} {a x : Int32} (h : wr M 0) : wr (L_setState M a x).2 0 := by
  unfold L_setState; split
  · exact h
  · exact se_enter_wr h
theorem L_setLink_wr {M : zM} {a b u : Int32} (h : wr M 0) : wr (L_setLink M a b u).2 0 := by
  unfold L_setLink; split
  · exact h
  · exact wr_set rfl (wr_set rfl h)
theorem L_acquire_wr {M : zM} {a d : Int32} (h : wr M 0) : wr (L_acquire M a d).2 0 := by
  unfold L_acquire; split
  · exact h
  · split
    · exact h
    · exact c_el_wr h
theorem L_renew_wr {M : zM} {a d : Int32} (h : wr M 0) : wr (L_renew M a d).2 0 := by
  unfold L_renew; split
  · exact h
  · split
    · exact h
    · exact c_pr_wr h
theorem L_giveUp_wr {M : zM} {a : Int32} (h : wr M 0) : wr (L_giveUp M a).2 0 := by
  unfold L_giveUp; split
  · exact h
  · split
    · exact h
    · dsimp only
      exact c_ab_wr h
theorem L_handOver_wr {M : zM} {a b d : Int32} (h : wr M 0) : wr (L_handOver M a b d).2 0 := by
  unfold L_handOver; split
  · exact h
  · next hn =>
    split
    · exact h
    · exact c_el_wr (c_ab_wr (c_sh_wr (nsv_ix (fun q => hn (Or.inl q))) (nsv_ix (fun q => hn (Or.inr (Or.inl q)))) h))
theorem L_write_wr {M : zM} {a k v : Int32} (h : wr M 0) : wr (L_write M a k v).2 0 := by
  unfold L_write; split
  · exact h
  · next hn => exact c_wr_wr (nsv_ix (fun q => hn (Or.inl q))) h
theorem L_barrier_wr {M : zM} {a : Int32} (h : wr M 0) : wr (L_barrier M a).2 0 := by
  unfold L_barrier; split
  · exact h
  · next hn => exact c_wr_wr (nsv_ix hn) h
def L_mk (M : zM) (l a b c : Int32) : Int32 × zM :=
  if l = 97 then L_acquire M a b else if l = 114 then L_renew M a b else if l = 103 then L_giveUp M a else if l = 104 then L_handOver M a b c else if l = 119 then L_write M a b c
  else if l = 98 then L_barrier M a else if l = 112 then L_pass M a else if l = 115 then L_setState M a b else if l = 99 then L_setLink M a b 0 else if l = 109 then L_setLink M a b 1 else (-1001, M)
theorem L_mk_fr {M : zM} {l a b c : Int32} : fr M (L_mk M l a b c).2 := by
  unfold L_mk
  split; exact L_acquire_fr
  split; exact L_renew_fr
  split; exact L_giveUp_fr
  split; exact L_handOver_fr
  split; exact L_write_fr
  split; exact L_barrier_fr
  split; exact L_pass_fr
  split; exact L_setState_fr
  split; exact L_setLink_fr
  split; exact L_setLink_fr
  exact fr_rfl
theorem L_mk_wr {M : zM} {l a b c : Int32} (h : wr M 0) : wr (L_mk M l a b c).2 0 := by
  unfold L_mk
  split; exact L_acquire_wr h
  split; exact L_renew_wr h
  split; exact L_giveUp_wr h
  split; exact L_handOver_wr h
  split; exact L_write_wr h
  split; exact L_barrier_wr h
  split; exact L_pass_wr h
  split; exact L_setState_wr h
  split; exact L_setLink_wr h
  split; exact L_setLink_wr h
  exact h
