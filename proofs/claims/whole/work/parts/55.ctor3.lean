def kpt (x : Int32) : Int32 := if 0 < (if x < 20 then x else 20) then (if x < 20 then x else 20) else 0
def mdb (x : Int32) : Int32 := if x < 0 then 0 else if 20 < x then 20 else x
abbrev S12 : Type := Nat × Nat × Nat × Nat × Nat × Nat × Nat × Nat × Nat × Nat × Nat × Nat
abbrev SW : Type := { l : List S6 // l.length = 5 } × S12
abbrev SL : Type := (Nat × SW) × (Nat × SW) × (Nat × SW) × (Nat × Nat × Nat × Nat × Nat × Nat × Nat)
def pw3 (p0 p1 p2 : Nat) : Nat → Nat
  | 0 => p0
  | 1 => p1
  | _ => p2
def leC (cA : Nat → ClassId) (y : Int32) (h : Nat) (u : SL) : va_W := match u with
  | ((p0, u0), (p1, u1), (p2, u2), (q1, q2, q3, a, b, c, d)) => scenC cA q3 a b c d ++ ((q2, .inl (cA 1, 2, .inl (fun _ => 0))) :: (q1, .inl (cA 3, 2, .inr (.inr (.inr (.inr (fun j => some (pw3 p0 p1 p2 (j + 1)))))))) :: (h, .inr (5, [.ref p0, .ref q1, .ref q2, .ref q3])) :: (worldC cA y p2 u2.1.1 u2.2 ++ (worldC cA y p1 u1.1.1 u1.2 ++ worldC cA y p0 u0.1.1 u0.2)))
theorem n_stk {Z : nC} {D : va_G} {A : Nat → Prop} {nL : Nat} {Q : State → Prop} {pc k n : Nat} {ls : List (Nat × Value)} {st st' : List Value} {ws : va_W} (h : st = st') (kk : nW Z D A nL Q pc ls st' ws k n) : nW Z D A nL Q pc ls st ws k n := by
  subst h; exact kk
theorem n_pm2 (a b c : va_W) : (a ++ (b ++ c)).Perm (b ++ (a ++ c)) := by
  rw [← List.append_assoc, ← List.append_assoc]
  exact List.Perm.append_right c List.perm_append_comm
theorem d_Le_0 : decode prog_1_method_1_code 0 = .ok (.aload_n 0, 1) := by decide +kernel
theorem d_Le_1 : decode prog_1_method_1_code 1 = .ok (.invokespecial 1, 3) := by decide +kernel
theorem d_Le_4 : decode prog_1_method_1_code 4 = .ok (.iconst 0, 1) := by decide +kernel
theorem d_Le_5 : decode prog_1_method_1_code 5 = .ok (.bipush 20, 2) := by decide +kernel
theorem d_Le_7 : decode prog_1_method_1_code 7 = .ok (.iload_n 1, 1) := by decide +kernel
theorem d_Le_8 : decode prog_1_method_1_code 8 = .ok (.invokestatic 9, 3) := by decide +kernel
theorem d_Le_11 : decode prog_1_method_1_code 11 = .ok (.invokestatic 15, 3) := by decide +kernel
theorem d_Le_14 : decode prog_1_method_1_code 14 = .ok (.istore_n 2, 1) := by decide +kernel
theorem d_Le_15 : decode prog_1_method_1_code 15 = .ok (.aload_n 0, 1) := by decide +kernel
theorem d_Le_16 : decode prog_1_method_1_code 16 = .ok (.new 18, 3) := by decide +kernel
theorem d_Le_19 : decode prog_1_method_1_code 19 = .ok (.dup, 1) := by decide +kernel
theorem d_Le_20 : decode prog_1_method_1_code 20 = .ok (.iload_n 2, 1) := by decide +kernel
theorem d_Le_21 : decode prog_1_method_1_code 21 = .ok (.invokespecial 20, 3) := by decide +kernel
theorem d_Le_24 : decode prog_1_method_1_code 24 = .ok (.putfield 23, 3) := by decide +kernel
theorem d_Le_27 : decode prog_1_method_1_code 27 = .ok (.aload_n 0, 1) := by decide +kernel
theorem d_Le_28 : decode prog_1_method_1_code 28 = .ok (.iconst 2, 1) := by decide +kernel
theorem d_Le_29 : decode prog_1_method_1_code 29 = .ok (.anewarray 18, 3) := by decide +kernel
theorem d_Le_32 : decode prog_1_method_1_code 32 = .ok (.putfield 27, 3) := by decide +kernel
theorem d_Le_35 : decode prog_1_method_1_code 35 = .ok (.iconst 0, 1) := by decide +kernel
theorem d_Le_36 : decode prog_1_method_1_code 36 = .ok (.istore_n 3, 1) := by decide +kernel
theorem d_Le_37 : decode prog_1_method_1_code 37 = .ok (.iload_n 3, 1) := by decide +kernel
theorem d_Le_38 : decode prog_1_method_1_code 38 = .ok (.iconst 2, 1) := by decide +kernel
theorem d_Le_39 : decode prog_1_method_1_code 39 = .ok (.if_icmp .ge 23, 3) := by decide +kernel
theorem d_Le_42 : decode prog_1_method_1_code 42 = .ok (.aload_n 0, 1) := by decide +kernel
theorem d_Le_43 : decode prog_1_method_1_code 43 = .ok (.getfield 27, 3) := by decide +kernel
theorem d_Le_46 : decode prog_1_method_1_code 46 = .ok (.iload_n 3, 1) := by decide +kernel
theorem d_Le_47 : decode prog_1_method_1_code 47 = .ok (.new 18, 3) := by decide +kernel
theorem d_Le_50 : decode prog_1_method_1_code 50 = .ok (.dup, 1) := by decide +kernel
theorem d_Le_51 : decode prog_1_method_1_code 51 = .ok (.iload_n 2, 1) := by decide +kernel
theorem d_Le_52 : decode prog_1_method_1_code 52 = .ok (.invokespecial 20, 3) := by decide +kernel
theorem d_Le_55 : decode prog_1_method_1_code 55 = .ok (.aastore, 1) := by decide +kernel
theorem d_Le_56 : decode prog_1_method_1_code 56 = .ok (.iinc 3 1, 3) := by decide +kernel
theorem d_Le_59 : decode prog_1_method_1_code 59 = .ok (.goto (-22), 3) := by decide +kernel
theorem d_Le_62 : decode prog_1_method_1_code 62 = .ok (.aload_n 0, 1) := by decide +kernel
theorem d_Le_63 : decode prog_1_method_1_code 63 = .ok (.iconst 2, 1) := by decide +kernel
theorem d_Le_64 : decode prog_1_method_1_code 64 = .ok (.newarray .boolean, 2) := by decide +kernel
theorem d_Le_66 : decode prog_1_method_1_code 66 = .ok (.putfield 31, 3) := by decide +kernel
theorem d_Le_69 : decode prog_1_method_1_code 69 = .ok (.aload_n 0, 1) := by decide +kernel
theorem d_Le_70 : decode prog_1_method_1_code 70 = .ok (.new 35, 3) := by decide +kernel
theorem d_Le_73 : decode prog_1_method_1_code 73 = .ok (.dup, 1) := by decide +kernel
theorem d_Le_74 : decode prog_1_method_1_code 74 = .ok (.invokespecial 37, 3) := by decide +kernel
theorem d_Le_77 : decode prog_1_method_1_code 77 = .ok (.putfield 38, 3) := by decide +kernel
theorem d_Le_80 : decode prog_1_method_1_code 80 = .ok (.return_, 1) := by decide +kernel
set_option maxRecDepth 20000 in
theorem c_Le (l : Launch) (D : va_G) (cA : Nat → ClassId) (x : Int32) (h0 : Nat) : nT l D cA ⟨"LeaseCluster", "<init>", "(I)V"⟩ prog_1_method_1_code 4 rm_Le h0 (.inr (5, [.null, .null, .null, .null])) [.int x] (leC cA (kpt x) h0) := by
  refine n_in (by decide) rfl (Nat.le_of_ble_eq_true rfl) (fun Z hl hR hr hin hlk ok => ?_)
  refine n_al ok (j := 0) d_Le_0 rfl ?_
  refine n_oi ok (gw_in1 16 rfl rfl) (gw_in1 17 rfl rfl) (gw_in1 18 rfl rfl) d_Le_1 (by rw [hR]; exact Nat.le_of_ble_eq_true rfl) (by rw [hR]; exact Nat.le_of_ble_eq_true rfl) ?_
  refine n_ic ok (v := 0) d_Le_4 (by decide) ?_
  refine n_bi ok (v := 20) d_Le_5 (by decide) ?_
  refine n_il ok (j := 1) d_Le_7 rfl ?_
  refine n_min ok (gw_in1 19 rfl rfl) (by rw [hR]; exact Nat.le_of_ble_eq_true rfl) (by rw [hR]; exact Nat.le_of_ble_eq_true rfl) (Nat.zero_le _) (Nat.zero_le _) d_Le_8 ?_
  refine n_max ok (gw_in1 22 rfl rfl) (by rw [hR]; exact Nat.le_of_ble_eq_true rfl) (by rw [hR]; exact Nat.le_of_ble_eq_true rfl) (Nat.zero_le _) (Nat.zero_le _) d_Le_11 ?_
  show nW Z D _ 4 _ 14 _ [.int (kpt x)] _ _ _
  generalize kpt x = y
  refine n_is ok (ls' := [(2, .int y), (0, .ref h0), (1, .int x)]) d_Le_14 (by decide) rfl ?_
  refine n_al ok (j := 1) d_Le_15 rfl ?_
  refine n_new ok (ci := 4) (fs := [.int 0, .null, .null, .null, .null, .null, .null, .null, .null, .int 0, .int 0, .int 0]) rfl tyX4 tyX4_ok (by decide) (gw_in1 25 rfl rfl) (gw_in1 26 rfl rfl) (gw_in1 3 rfl rfl) (by rw [hR]; exact Nat.le_of_ble_eq_true rfl) (by rw [hR]; exact Nat.le_of_ble_eq_true rfl) d_Le_16 (fun p0 => ?_)
  refine n_dup ok d_Le_19 ?_
  refine n_il ok (j := 0) d_Le_20 rfl ?_
  refine n_call ok (nA := 1) (As := [.int y]) (c_Wo Z.2.1 D cA y p0) (gw_in1 29 rfl rfl) (gw_in1 27 rfl rfl) (gw_in1 28 rfl rfl) (gw_in1 3 rfl rfl) rfl (by decide +kernel) rfl ⟨by rw [hR]; exact Nat.le_of_ble_eq_true rfl, by rw [hR]; exact Nat.le_of_ble_eq_true rfl⟩ (Nat.le_of_ble_eq_true rfl) ⟨by rw [hR]; exact Nat.le_of_ble_eq_true rfl, by rw [hR]; exact Nat.le_of_ble_eq_true rfl⟩ d_Le_21 (fun u0 => ?_)
  refine n_perm (ws' := ((h0, .inr (5, [.null, .null, .null, .null])) :: worldC cA y p0 u0.1.1 u0.2)) (List.perm_append_comm) ?_
  show nW Z D _ 4 _ 24 [(2, .int y), (0, .ref h0), (1, .int x)] [.ref p0, .ref h0] ((h0, .inr (5, [.null, .null, .null, .null])) :: worldC cA y p0 u0.1.1 u0.2) _ _
  refine n_putF ok hin (ci := 5) (f := 0) (j := 0) (v := .ref p0) (ty := (.object "LeaseCluster$World")) (ws' := ((h0, .inr (5, [.ref p0, .null, .null, .null])) :: worldC cA y p0 u0.1.1 u0.2)) rfl (by decide) (gw_in1 222 rfl rfl) rfl rfl (by decide +kernel) rfl rfl rfl (Nat.le_of_ble_eq_true rfl) rfl d_Le_24 ?_
  refine n_al ok (j := 1) d_Le_27 rfl ?_
  refine n_ic ok (v := 2) d_Le_28 (by decide) ?_
  refine n_nq ok (N := 2) (t := 3) (C := "LeaseCluster$World") rfl (by omega) (by simp) (gw_in1 25 rfl rfl) (by rw [hR]; exact Nat.le_of_ble_eq_true rfl) (by rw [hR]; exact Nat.le_of_ble_eq_true rfl) d_Le_29 (fun q1 => ?_)
  refine n_putF ok hin (ci := 5) (f := 1) (j := 1) (v := .ref q1) (ty := (.array (.object "LeaseCluster$World"))) (ws' := ((q1, .inl (cA 3, 2, .inr (.inr (.inr (.inr (fun _ => none)))))) :: (h0, .inr (5, [.ref p0, .ref q1, .null, .null])) :: worldC cA y p0 u0.1.1 u0.2)) rfl (by decide) (gw_in1 223 rfl rfl) rfl rfl (by decide +kernel) rfl rfl rfl (Nat.le_of_ble_eq_true rfl) rfl d_Le_32 ?_
  refine n_ic ok (v := 0) d_Le_35 (by decide) ?_
  refine n_is ok (ls' := [(3, .int 0), (2, .int y), (0, .ref h0), (1, .int x)]) d_Le_36 (by decide) rfl ?_
  refine n_il ok (j := 0) d_Le_37 rfl ?_
  refine n_ic ok (v := 2) d_Le_38 (by decide) ?_
  refine n_ge ok (t := 62) d_Le_39 (by decide) (fun c => absurd c (by decide)) (fun _ => ?_)
  refine n_al ok (j := 2) d_Le_42 rfl ?_
  refine n_get ok (ci := 5) (f := 1) (j := 1) rfl (by decide) (gw_in1 223 rfl rfl) rfl rfl d_Le_43 ?_
  refine n_il ok (j := 0) d_Le_46 rfl ?_
  refine n_new ok (ci := 4) (fs := [.int 0, .null, .null, .null, .null, .null, .null, .null, .null, .int 0, .int 0, .int 0]) rfl tyX4 tyX4_ok (by decide) (gw_in1 25 rfl rfl) (gw_in1 26 rfl rfl) (gw_in1 3 rfl rfl) (by rw [hR]; exact Nat.le_of_ble_eq_true rfl) (by rw [hR]; exact Nat.le_of_ble_eq_true rfl) d_Le_47 (fun p1 => ?_)
  refine n_dup ok d_Le_50 ?_
  refine n_il ok (j := 1) d_Le_51 rfl ?_
  refine n_call ok (nA := 1) (As := [.int y]) (c_Wo Z.2.1 D cA y p1) (gw_in1 29 rfl rfl) (gw_in1 27 rfl rfl) (gw_in1 28 rfl rfl) (gw_in1 3 rfl rfl) rfl (by decide +kernel) rfl ⟨by rw [hR]; exact Nat.le_of_ble_eq_true rfl, by rw [hR]; exact Nat.le_of_ble_eq_true rfl⟩ (Nat.le_of_ble_eq_true rfl) ⟨by rw [hR]; exact Nat.le_of_ble_eq_true rfl, by rw [hR]; exact Nat.le_of_ble_eq_true rfl⟩ d_Le_52 (fun u1 => ?_)
  refine n_perm (ws' := ((q1, .inl (cA 3, 2, .inr (.inr (.inr (.inr (fun _ => none)))))) :: (h0, .inr (5, [.ref p0, .ref q1, .null, .null])) :: (worldC cA y p1 u1.1.1 u1.2 ++ worldC cA y p0 u0.1.1 u0.2))) (n_pm2 (worldC cA y p1 u1.1.1 u1.2) [(q1, .inl (cA 3, 2, .inr (.inr (.inr (.inr (fun _ => none)))))), (h0, .inr (5, [.ref p0, .ref q1, .null, .null]))] (worldC cA y p0 u0.1.1 u0.2)) ?_
  show nW Z D _ 4 _ 55 [(3, .int 0), (2, .int y), (0, .ref h0), (1, .int x)] [.ref p1, .int 0, .ref q1] ((q1, .inl (cA 3, 2, .inr (.inr (.inr (.inr (fun _ => none)))))) :: (h0, .inr (5, [.ref p0, .ref q1, .null, .null])) :: (worldC cA y p1 u1.1.1 u1.2 ++ worldC cA y p0 u0.1.1 u0.2)) _ _
  refine n_aas ok (j := 0) (t := 3) (i := 0) (jv := 14) (ci := 4) (r := (RX4, TX4, 12)) (ws' := ((q1, .inl (cA 3, 2, .inr (.inr (.inr (.inr (va_up (fun _ => none) 0 (some p1))))))) :: (h0, .inr (5, [.ref p0, .ref q1, .null, .null])) :: (worldC cA y p1 u1.1.1 u1.2 ++ worldC cA y p0 u0.1.1 u0.2))) rfl rfl rfl rfl rfl (by decide) (by decide) rfl d_Le_55 ?_
  refine n_inc ok (j := 0) (v := 1) (ls' := [(3, .int 1), (2, .int y), (0, .ref h0), (1, .int x)]) d_Le_56 rfl (by decide) (by decide) rfl ?_
  refine n_go ok (t := 37) d_Le_59 (by decide) ?_
  refine n_il ok (j := 0) d_Le_37 rfl ?_
  refine n_ic ok (v := 2) d_Le_38 (by decide) ?_
  refine n_ge ok (t := 62) d_Le_39 (by decide) (fun c => absurd c (by decide)) (fun _ => ?_)
  refine n_al ok (j := 2) d_Le_42 rfl ?_
  refine n_get ok (ci := 5) (f := 1) (j := 1) rfl (by decide) (gw_in1 223 rfl rfl) rfl rfl d_Le_43 ?_
  refine n_il ok (j := 0) d_Le_46 rfl ?_
  refine n_new ok (ci := 4) (fs := [.int 0, .null, .null, .null, .null, .null, .null, .null, .null, .int 0, .int 0, .int 0]) rfl tyX4 tyX4_ok (by decide) (gw_in1 25 rfl rfl) (gw_in1 26 rfl rfl) (gw_in1 3 rfl rfl) (by rw [hR]; exact Nat.le_of_ble_eq_true rfl) (by rw [hR]; exact Nat.le_of_ble_eq_true rfl) d_Le_47 (fun p2 => ?_)
  refine n_dup ok d_Le_50 ?_
  refine n_il ok (j := 1) d_Le_51 rfl ?_
  refine n_call ok (nA := 1) (As := [.int y]) (c_Wo Z.2.1 D cA y p2) (gw_in1 29 rfl rfl) (gw_in1 27 rfl rfl) (gw_in1 28 rfl rfl) (gw_in1 3 rfl rfl) rfl (by decide +kernel) rfl ⟨by rw [hR]; exact Nat.le_of_ble_eq_true rfl, by rw [hR]; exact Nat.le_of_ble_eq_true rfl⟩ (Nat.le_of_ble_eq_true rfl) ⟨by rw [hR]; exact Nat.le_of_ble_eq_true rfl, by rw [hR]; exact Nat.le_of_ble_eq_true rfl⟩ d_Le_52 (fun u2 => ?_)
  refine n_perm (ws' := ((q1, .inl (cA 3, 2, .inr (.inr (.inr (.inr (va_up (fun _ => none) 0 (some p1))))))) :: (h0, .inr (5, [.ref p0, .ref q1, .null, .null])) :: (worldC cA y p2 u2.1.1 u2.2 ++ (worldC cA y p1 u1.1.1 u1.2 ++ worldC cA y p0 u0.1.1 u0.2)))) (n_pm2 (worldC cA y p2 u2.1.1 u2.2) [(q1, .inl (cA 3, 2, .inr (.inr (.inr (.inr (va_up (fun _ => none) 0 (some p1))))))), (h0, .inr (5, [.ref p0, .ref q1, .null, .null]))] ((worldC cA y p1 u1.1.1 u1.2 ++ worldC cA y p0 u0.1.1 u0.2))) ?_
  show nW Z D _ 4 _ 55 [(3, .int 1), (2, .int y), (0, .ref h0), (1, .int x)] [.ref p2, .int 1, .ref q1] ((q1, .inl (cA 3, 2, .inr (.inr (.inr (.inr (va_up (fun _ => none) 0 (some p1))))))) :: (h0, .inr (5, [.ref p0, .ref q1, .null, .null])) :: (worldC cA y p2 u2.1.1 u2.2 ++ (worldC cA y p1 u1.1.1 u1.2 ++ worldC cA y p0 u0.1.1 u0.2))) _ _
  refine n_aas ok (j := 0) (t := 3) (i := 1) (jv := 14) (ci := 4) (r := (RX4, TX4, 12)) (ws' := ((q1, .inl (cA 3, 2, .inr (.inr (.inr (.inr (va_up (va_up (fun _ => none) 0 (some p1)) 1 (some p2))))))) :: (h0, .inr (5, [.ref p0, .ref q1, .null, .null])) :: (worldC cA y p2 u2.1.1 u2.2 ++ (worldC cA y p1 u1.1.1 u1.2 ++ worldC cA y p0 u0.1.1 u0.2)))) rfl rfl rfl rfl rfl (by decide) (by decide) rfl d_Le_55 ?_
  refine n_inc ok (j := 0) (v := 2) (ls' := [(3, .int 2), (2, .int y), (0, .ref h0), (1, .int x)]) d_Le_56 rfl (by decide) (by decide) rfl ?_
  refine n_go ok (t := 37) d_Le_59 (by decide) ?_
  refine n_il ok (j := 0) d_Le_37 rfl ?_
  refine n_ic ok (v := 2) d_Le_38 (by decide) ?_
  refine n_ge ok (t := 62) d_Le_39 (by decide) (fun _ => ?_) (fun c => absurd (by decide) c)
  refine n_al ok (j := 2) d_Le_62 rfl ?_
  refine n_ic ok (v := 2) d_Le_63 (by decide) ?_
  refine n_nz ok (N := 2) rfl (by omega) (gw_in1 221 rfl rfl) (by rw [hR]; exact Nat.le_of_ble_eq_true rfl) (by rw [hR]; exact Nat.le_of_ble_eq_true rfl) d_Le_64 (fun q2 => ?_)
  refine n_putF ok hin (ci := 5) (f := 2) (j := 2) (v := .ref q2) (ty := (.array .boolean)) (ws' := ((q2, .inl (cA 1, 2, .inl (fun _ => 0))) :: (q1, .inl (cA 3, 2, .inr (.inr (.inr (.inr (va_up (va_up (fun _ => none) 0 (some p1)) 1 (some p2))))))) :: (h0, .inr (5, [.ref p0, .ref q1, .ref q2, .null])) :: (worldC cA y p2 u2.1.1 u2.2 ++ (worldC cA y p1 u1.1.1 u1.2 ++ worldC cA y p0 u0.1.1 u0.2)))) rfl (by decide) (gw_in1 224 rfl rfl) rfl rfl (by decide +kernel) rfl rfl rfl (Nat.le_of_ble_eq_true rfl) rfl d_Le_66 ?_
  refine n_al ok (j := 2) d_Le_69 rfl ?_
  refine n_new ok (ci := 2) (fs := [.null, .null, .null, .null, .int 0, .int 0, .int 0, .int 0, .int 0, .int 0, .int 0]) rfl tyX2 tyX2_ok (by decide) (gw_in1 176 rfl rfl) (gw_in1 177 rfl rfl) (gw_in1 7 rfl rfl) (by rw [hR]; exact Nat.le_of_ble_eq_true rfl) (by rw [hR]; exact Nat.le_of_ble_eq_true rfl) d_Le_70 (fun q3 => ?_)
  refine n_dup ok d_Le_73 ?_
  refine n_call ok (As := []) (c_Sc Z.2.1 D cA q3) (gw_in1 180 rfl rfl) (gw_in1 178 rfl rfl) (gw_in1 179 rfl rfl) (gw_in1 7 rfl rfl) rfl (by decide +kernel) rfl ⟨by rw [hR]; exact Nat.le_of_ble_eq_true rfl, by rw [hR]; exact Nat.le_of_ble_eq_true rfl⟩ (Nat.le_of_ble_eq_true rfl) ⟨by rw [hR]; exact Nat.le_of_ble_eq_true rfl, by rw [hR]; exact Nat.le_of_ble_eq_true rfl⟩ d_Le_74 (fun u => ?_)
  obtain ⟨a, b, c, d⟩ := u
  show nW Z D _ 4 _ 77 [(3, .int 2), (2, .int y), (0, .ref h0), (1, .int x)] [.ref q3, .ref h0] ((d, .inl (cA 0, 34, .inl (fun _ => 0))) :: (c, .inl (cA 0, 102, .inl (fun _ => 0))) :: (b, .inl (cA 0, 34, .inl (fun _ => 0))) :: (a, .inl (cA 0, 100, .inl (fun _ => 0))) :: (q3, .inr (2, [.ref a, .ref b, .ref c, .ref d, .int 0, .int 0, .int 0, .int 0, .int 0, .int 0, .int 0])) :: (q2, .inl (cA 1, 2, .inl (fun _ => 0))) :: (q1, .inl (cA 3, 2, .inr (.inr (.inr (.inr (va_up (va_up (fun _ => none) 0 (some p1)) 1 (some p2))))))) :: (h0, .inr (5, [.ref p0, .ref q1, .ref q2, .null])) :: (worldC cA y p2 u2.1.1 u2.2 ++ (worldC cA y p1 u1.1.1 u1.2 ++ worldC cA y p0 u0.1.1 u0.2))) _ _
  refine n_putF ok hin (ci := 5) (f := 3) (j := 7) (v := .ref q3) (ty := (.object "LeaseCluster$Scenario")) (ws' := ((d, .inl (cA 0, 34, .inl (fun _ => 0))) :: (c, .inl (cA 0, 102, .inl (fun _ => 0))) :: (b, .inl (cA 0, 34, .inl (fun _ => 0))) :: (a, .inl (cA 0, 100, .inl (fun _ => 0))) :: (q3, .inr (2, [.ref a, .ref b, .ref c, .ref d, .int 0, .int 0, .int 0, .int 0, .int 0, .int 0, .int 0])) :: (q2, .inl (cA 1, 2, .inl (fun _ => 0))) :: (q1, .inl (cA 3, 2, .inr (.inr (.inr (.inr (va_up (va_up (fun _ => none) 0 (some p1)) 1 (some p2))))))) :: (h0, .inr (5, [.ref p0, .ref q1, .ref q2, .ref q3])) :: (worldC cA y p2 u2.1.1 u2.2 ++ (worldC cA y p1 u1.1.1 u1.2 ++ worldC cA y p0 u0.1.1 u0.2)))) rfl (by decide) (gw_in1 225 rfl rfl) rfl rfl (by decide +kernel) rfl rfl rfl (Nat.le_of_ble_eq_true rfl) rfl d_Le_77 ?_
  refine n_arr (j := 6) (ws' := ((d, .inl (cA 0, 34, .inl (fun _ => 0))) :: (c, .inl (cA 0, 102, .inl (fun _ => 0))) :: (b, .inl (cA 0, 34, .inl (fun _ => 0))) :: (a, .inl (cA 0, 100, .inl (fun _ => 0))) :: (q3, .inr (2, [.ref a, .ref b, .ref c, .ref d, .int 0, .int 0, .int 0, .int 0, .int 0, .int 0, .int 0])) :: (q2, .inl (cA 1, 2, .inl (fun _ => 0))) :: (q1, .inl (cA 3, 2, .inr (.inr (.inr (.inr (fun j => some (pw3 p0 p1 p2 (j + 1)))))))) :: (h0, .inr (5, [.ref p0, .ref q1, .ref q2, .ref q3])) :: (worldC cA y p2 u2.1.1 u2.2 ++ (worldC cA y p1 u1.1.1 u1.2 ++ worldC cA y p0 u0.1.1 u0.2)))) rfl (fun i hi => by rcases (show i = 0 ∨ i = 1 by omega) with rfl | rfl <;> rfl) rfl ?_
  exact n_ret ok rfl hr hlk d_Le_80 rfl rfl ((p0, u0), (p1, u1), (p2, u2), (q1, q2, q3, a, b, c, d)) rfl
def mfF (s n : Nat) : Nat → Int32 := fun j => if 41 ≤ j ∧ j < 41 + s then -1000 else if 11 ≤ j ∧ j < 11 + n then 1 else 0
theorem mfF_s {s n : Nat} : upd (mfF s n) (41 + s) (-1000) = mfF (s + 1) n := by
  funext j
  unfold upd mfF
  by_cases h : j = 41 + s
  · rw [if_pos h, if_pos (by omega)]
  · rw [if_neg h]
    by_cases h2 : 41 ≤ j ∧ j < 41 + s
    · rw [if_pos h2, if_pos (by omega)]
    · rw [if_neg h2, if_neg (show ¬ (41 ≤ j ∧ j < 41 + (s + 1)) by omega)]
theorem mfF_n {s n : Nat} (hn : n < 25) : upd (mfF s n) (11 + n) 1 = mfF s (n + 1) := by
  funext j
  unfold upd mfF
  by_cases h : j = 11 + n
  · rw [if_pos h, if_neg (by omega), if_pos (by omega)]
  · rw [if_neg h]
    by_cases h2 : 41 ≤ j ∧ j < 41 + s
    · rw [if_pos h2, if_pos h2]
    · rw [if_neg h2, if_neg h2]
      by_cases h3 : 11 ≤ j ∧ j < 11 + n
      · rw [if_pos h3, if_pos (by omega)]
      · rw [if_neg h3, if_neg (by omega)]
theorem mfF_0 : (fun _ : Nat => (0 : Int32)) = mfF 0 0 := by
  funext j
  unfold mfF
  rw [if_neg (by omega), if_neg (by omega)]
abbrev moC (cA : Nat → ClassId) (y : Int32) (h : Nat) (q : Nat × Nat × Nat × Nat × Nat × Nat) : va_W := [(q.2.2.2.2.2, .inl (cA 0, 200, .inl (fun _ => 0))), (q.2.2.2.2.1, .inl (cA 0, 50, .inl (fun _ => 0))), (q.2.2.2.1, .inl (cA 0, 100, .inl (fun _ => 0))), (q.2.2.1, .inl (cA 0, 2, .inl (fun _ => 0))), (q.2.1, .inl (cA 0, 3470, .inl (fun _ => 0))), (q.1, .inl (cA 0, 1735, .inl (mfF 5 25))), (h, .inr (6, [.ref q.1, .ref q.2.1, .ref q.2.2.1, .int y, .ref q.2.2.2.1, .int 0, .int 0, .ref q.2.2.2.2.1, .ref q.2.2.2.2.2, .int 0, .int 0, .long 0]))]
theorem d_Mo_0 : decode prog_8_method_1_code 0 = .ok (.aload_n 0, 1) := by decide +kernel
theorem d_Mo_1 : decode prog_8_method_1_code 1 = .ok (.invokespecial 1, 3) := by decide +kernel
theorem d_Mo_4 : decode prog_8_method_1_code 4 = .ok (.aload_n 0, 1) := by decide +kernel
theorem d_Mo_5 : decode prog_8_method_1_code 5 = .ok (.sipush 1735, 3) := by decide +kernel
theorem d_Mo_8 : decode prog_8_method_1_code 8 = .ok (.newarray .int, 2) := by decide +kernel
theorem d_Mo_10 : decode prog_8_method_1_code 10 = .ok (.putfield 7, 3) := by decide +kernel
theorem d_Mo_13 : decode prog_8_method_1_code 13 = .ok (.aload_n 0, 1) := by decide +kernel
theorem d_Mo_14 : decode prog_8_method_1_code 14 = .ok (.sipush 3470, 3) := by decide +kernel
theorem d_Mo_17 : decode prog_8_method_1_code 17 = .ok (.newarray .int, 2) := by decide +kernel
theorem d_Mo_19 : decode prog_8_method_1_code 19 = .ok (.putfield 13, 3) := by decide +kernel
theorem d_Mo_22 : decode prog_8_method_1_code 22 = .ok (.aload_n 0, 1) := by decide +kernel
theorem d_Mo_23 : decode prog_8_method_1_code 23 = .ok (.iconst 2, 1) := by decide +kernel
theorem d_Mo_24 : decode prog_8_method_1_code 24 = .ok (.newarray .int, 2) := by decide +kernel
theorem d_Mo_26 : decode prog_8_method_1_code 26 = .ok (.putfield 16, 3) := by decide +kernel
theorem d_Mo_29 : decode prog_8_method_1_code 29 = .ok (.aload_n 0, 1) := by decide +kernel
theorem d_Mo_30 : decode prog_8_method_1_code 30 = .ok (.bipush 100, 2) := by decide +kernel
theorem d_Mo_32 : decode prog_8_method_1_code 32 = .ok (.newarray .int, 2) := by decide +kernel
theorem d_Mo_34 : decode prog_8_method_1_code 34 = .ok (.putfield 19, 3) := by decide +kernel
theorem d_Mo_37 : decode prog_8_method_1_code 37 = .ok (.aload_n 0, 1) := by decide +kernel
theorem d_Mo_38 : decode prog_8_method_1_code 38 = .ok (.bipush 50, 2) := by decide +kernel
theorem d_Mo_40 : decode prog_8_method_1_code 40 = .ok (.newarray .int, 2) := by decide +kernel
theorem d_Mo_42 : decode prog_8_method_1_code 42 = .ok (.putfield 22, 3) := by decide +kernel
theorem d_Mo_45 : decode prog_8_method_1_code 45 = .ok (.aload_n 0, 1) := by decide +kernel
theorem d_Mo_46 : decode prog_8_method_1_code 46 = .ok (.sipush 200, 3) := by decide +kernel
theorem d_Mo_49 : decode prog_8_method_1_code 49 = .ok (.newarray .int, 2) := by decide +kernel
theorem d_Mo_51 : decode prog_8_method_1_code 51 = .ok (.putfield 25, 3) := by decide +kernel
theorem d_Mo_54 : decode prog_8_method_1_code 54 = .ok (.aload_n 0, 1) := by decide +kernel
theorem d_Mo_55 : decode prog_8_method_1_code 55 = .ok (.iload_n 1, 1) := by decide +kernel
theorem d_Mo_56 : decode prog_8_method_1_code 56 = .ok (.ifCond .ge 7, 3) := by decide +kernel
theorem d_Mo_59 : decode prog_8_method_1_code 59 = .ok (.iconst 0, 1) := by decide +kernel
theorem d_Mo_60 : decode prog_8_method_1_code 60 = .ok (.goto 15, 3) := by decide +kernel
theorem d_Mo_63 : decode prog_8_method_1_code 63 = .ok (.iload_n 1, 1) := by decide +kernel
theorem d_Mo_64 : decode prog_8_method_1_code 64 = .ok (.bipush 20, 2) := by decide +kernel
theorem d_Mo_66 : decode prog_8_method_1_code 66 = .ok (.if_icmp .le 8, 3) := by decide +kernel
theorem d_Mo_69 : decode prog_8_method_1_code 69 = .ok (.bipush 20, 2) := by decide +kernel
theorem d_Mo_71 : decode prog_8_method_1_code 71 = .ok (.goto 4, 3) := by decide +kernel
theorem d_Mo_74 : decode prog_8_method_1_code 74 = .ok (.iload_n 1, 1) := by decide +kernel
theorem d_Mo_75 : decode prog_8_method_1_code 75 = .ok (.putfield 28, 3) := by decide +kernel
theorem d_Mo_78 : decode prog_8_method_1_code 78 = .ok (.iconst 0, 1) := by decide +kernel
theorem d_Mo_79 : decode prog_8_method_1_code 79 = .ok (.istore_n 2, 1) := by decide +kernel
theorem d_Mo_80 : decode prog_8_method_1_code 80 = .ok (.iload_n 2, 1) := by decide +kernel
theorem d_Mo_81 : decode prog_8_method_1_code 81 = .ok (.iconst 5, 1) := by decide +kernel
theorem d_Mo_82 : decode prog_8_method_1_code 82 = .ok (.if_icmp .ge 48, 3) := by decide +kernel
theorem d_Mo_85 : decode prog_8_method_1_code 85 = .ok (.aload_n 0, 1) := by decide +kernel
theorem d_Mo_86 : decode prog_8_method_1_code 86 = .ok (.getfield 7, 3) := by decide +kernel
theorem d_Mo_89 : decode prog_8_method_1_code 89 = .ok (.bipush 41, 2) := by decide +kernel
theorem d_Mo_91 : decode prog_8_method_1_code 91 = .ok (.iload_n 2, 1) := by decide +kernel
theorem d_Mo_92 : decode prog_8_method_1_code 92 = .ok (.iadd, 1) := by decide +kernel
theorem d_Mo_93 : decode prog_8_method_1_code 93 = .ok (.sipush (-1000), 3) := by decide +kernel
theorem d_Mo_96 : decode prog_8_method_1_code 96 = .ok (.iastore, 1) := by decide +kernel
theorem d_Mo_97 : decode prog_8_method_1_code 97 = .ok (.iconst 0, 1) := by decide +kernel
theorem d_Mo_98 : decode prog_8_method_1_code 98 = .ok (.istore_n 3, 1) := by decide +kernel
theorem d_Mo_99 : decode prog_8_method_1_code 99 = .ok (.iload_n 3, 1) := by decide +kernel
theorem d_Mo_100 : decode prog_8_method_1_code 100 = .ok (.iconst 5, 1) := by decide +kernel
theorem d_Mo_101 : decode prog_8_method_1_code 101 = .ok (.if_icmp .ge 23, 3) := by decide +kernel
theorem d_Mo_104 : decode prog_8_method_1_code 104 = .ok (.aload_n 0, 1) := by decide +kernel
theorem d_Mo_105 : decode prog_8_method_1_code 105 = .ok (.getfield 7, 3) := by decide +kernel
theorem d_Mo_108 : decode prog_8_method_1_code 108 = .ok (.bipush 11, 2) := by decide +kernel
theorem d_Mo_110 : decode prog_8_method_1_code 110 = .ok (.iconst 5, 1) := by decide +kernel
theorem d_Mo_111 : decode prog_8_method_1_code 111 = .ok (.iload_n 2, 1) := by decide +kernel
theorem d_Mo_112 : decode prog_8_method_1_code 112 = .ok (.imul, 1) := by decide +kernel
theorem d_Mo_113 : decode prog_8_method_1_code 113 = .ok (.iadd, 1) := by decide +kernel
theorem d_Mo_114 : decode prog_8_method_1_code 114 = .ok (.iload_n 3, 1) := by decide +kernel
theorem d_Mo_115 : decode prog_8_method_1_code 115 = .ok (.iadd, 1) := by decide +kernel
theorem d_Mo_116 : decode prog_8_method_1_code 116 = .ok (.iconst 1, 1) := by decide +kernel
theorem d_Mo_117 : decode prog_8_method_1_code 117 = .ok (.iastore, 1) := by decide +kernel
theorem d_Mo_118 : decode prog_8_method_1_code 118 = .ok (.iinc 3 1, 3) := by decide +kernel
theorem d_Mo_121 : decode prog_8_method_1_code 121 = .ok (.goto (-22), 3) := by decide +kernel
theorem d_Mo_124 : decode prog_8_method_1_code 124 = .ok (.iinc 2 1, 3) := by decide +kernel
theorem d_Mo_127 : decode prog_8_method_1_code 127 = .ok (.goto (-47), 3) := by decide +kernel
theorem d_Mo_130 : decode prog_8_method_1_code 130 = .ok (.return_, 1) := by decide +kernel
set_option maxRecDepth 20000 in
theorem c_Mo (l : Launch) (D : va_G) (cA : Nat → ClassId) (x : Int32) (h0 : Nat) : nT l D cA ⟨"LeaseClusterModel", "<init>", "(I)V"⟩ prog_8_method_1_code 4 rm_Mo h0 (.inr (6, [.null, .null, .null, .int 0, .null, .int 0, .int 0, .null, .null, .int 0, .int 0, .long 0])) [.int x] (moC cA (mdb x) h0) := by
  refine n_in (by decide) rfl (Nat.le_of_ble_eq_true rfl) (fun Z hl hR hr hin hlk ok => ?_)
  refine n_al ok (j := 0) d_Mo_0 rfl ?_
  refine n_oi ok (gw_in3 207 rfl rfl) (gw_in1 17 rfl rfl) (gw_in1 18 rfl rfl) d_Mo_1 (by rw [hR]; exact Nat.le_of_ble_eq_true rfl) (by rw [hR]; exact Nat.le_of_ble_eq_true rfl) ?_
  refine n_al ok (j := 0) d_Mo_4 rfl ?_
  refine n_si ok (v := 1735) d_Mo_5 (by decide) ?_
  refine n_ni ok (N := 1735) rfl (by omega) (gw_in1 62 rfl rfl) (by rw [hR]; exact Nat.le_of_ble_eq_true rfl) (by rw [hR]; exact Nat.le_of_ble_eq_true rfl) d_Mo_8 (fun q1 => ?_)
  refine n_putF ok hin (ci := 6) (f := 0) (j := 1) (v := .ref q1) (ty := (.array .int)) (ws' := [(q1, .inl (cA 0, 1735, .inl (fun _ => 0))), (h0, .inr (6, [.ref q1, .null, .null, .int 0, .null, .int 0, .int 0, .null, .null, .int 0, .int 0, .long 0]))]) rfl (by decide) (gw_in3 208 rfl rfl) rfl rfl (by decide +kernel) rfl rfl rfl (Nat.le_of_ble_eq_true rfl) rfl d_Mo_10 ?_
  refine n_al ok (j := 0) d_Mo_13 rfl ?_
  refine n_si ok (v := 3470) d_Mo_14 (by decide) ?_
  refine n_ni ok (N := 3470) rfl (by omega) (gw_in1 62 rfl rfl) (by rw [hR]; exact Nat.le_of_ble_eq_true rfl) (by rw [hR]; exact Nat.le_of_ble_eq_true rfl) d_Mo_17 (fun q2 => ?_)
  refine n_putF ok hin (ci := 6) (f := 1) (j := 2) (v := .ref q2) (ty := (.array .int)) (ws' := [(q2, .inl (cA 0, 3470, .inl (fun _ => 0))), (q1, .inl (cA 0, 1735, .inl (fun _ => 0))), (h0, .inr (6, [.ref q1, .ref q2, .null, .int 0, .null, .int 0, .int 0, .null, .null, .int 0, .int 0, .long 0]))]) rfl (by decide) (gw_in3 209 rfl rfl) rfl rfl (by decide +kernel) rfl rfl rfl (Nat.le_of_ble_eq_true rfl) rfl d_Mo_19 ?_
  refine n_al ok (j := 0) d_Mo_22 rfl ?_
  refine n_ic ok (v := 2) d_Mo_23 (by decide) ?_
  refine n_ni ok (N := 2) rfl (by omega) (gw_in1 62 rfl rfl) (by rw [hR]; exact Nat.le_of_ble_eq_true rfl) (by rw [hR]; exact Nat.le_of_ble_eq_true rfl) d_Mo_24 (fun q3 => ?_)
  refine n_putF ok hin (ci := 6) (f := 2) (j := 3) (v := .ref q3) (ty := (.array .int)) (ws' := [(q3, .inl (cA 0, 2, .inl (fun _ => 0))), (q2, .inl (cA 0, 3470, .inl (fun _ => 0))), (q1, .inl (cA 0, 1735, .inl (fun _ => 0))), (h0, .inr (6, [.ref q1, .ref q2, .ref q3, .int 0, .null, .int 0, .int 0, .null, .null, .int 0, .int 0, .long 0]))]) rfl (by decide) (gw_in3 210 rfl rfl) rfl rfl (by decide +kernel) rfl rfl rfl (Nat.le_of_ble_eq_true rfl) rfl d_Mo_26 ?_
  refine n_al ok (j := 0) d_Mo_29 rfl ?_
  refine n_bi ok (v := 100) d_Mo_30 (by decide) ?_
  refine n_ni ok (N := 100) rfl (by omega) (gw_in1 62 rfl rfl) (by rw [hR]; exact Nat.le_of_ble_eq_true rfl) (by rw [hR]; exact Nat.le_of_ble_eq_true rfl) d_Mo_32 (fun q4 => ?_)
  refine n_putF ok hin (ci := 6) (f := 4) (j := 4) (v := .ref q4) (ty := (.array .int)) (ws' := [(q4, .inl (cA 0, 100, .inl (fun _ => 0))), (q3, .inl (cA 0, 2, .inl (fun _ => 0))), (q2, .inl (cA 0, 3470, .inl (fun _ => 0))), (q1, .inl (cA 0, 1735, .inl (fun _ => 0))), (h0, .inr (6, [.ref q1, .ref q2, .ref q3, .int 0, .ref q4, .int 0, .int 0, .null, .null, .int 0, .int 0, .long 0]))]) rfl (by decide) (gw_in3 212 rfl rfl) rfl rfl (by decide +kernel) rfl rfl rfl (Nat.le_of_ble_eq_true rfl) rfl d_Mo_34 ?_
  refine n_al ok (j := 0) d_Mo_37 rfl ?_
  refine n_bi ok (v := 50) d_Mo_38 (by decide) ?_
  refine n_ni ok (N := 50) rfl (by omega) (gw_in1 62 rfl rfl) (by rw [hR]; exact Nat.le_of_ble_eq_true rfl) (by rw [hR]; exact Nat.le_of_ble_eq_true rfl) d_Mo_40 (fun q5 => ?_)
  refine n_putF ok hin (ci := 6) (f := 7) (j := 5) (v := .ref q5) (ty := (.array .int)) (ws' := [(q5, .inl (cA 0, 50, .inl (fun _ => 0))), (q4, .inl (cA 0, 100, .inl (fun _ => 0))), (q3, .inl (cA 0, 2, .inl (fun _ => 0))), (q2, .inl (cA 0, 3470, .inl (fun _ => 0))), (q1, .inl (cA 0, 1735, .inl (fun _ => 0))), (h0, .inr (6, [.ref q1, .ref q2, .ref q3, .int 0, .ref q4, .int 0, .int 0, .ref q5, .null, .int 0, .int 0, .long 0]))]) rfl (by decide) (gw_in3 215 rfl rfl) rfl rfl (by decide +kernel) rfl rfl rfl (Nat.le_of_ble_eq_true rfl) rfl d_Mo_42 ?_
  refine n_al ok (j := 0) d_Mo_45 rfl ?_
  refine n_si ok (v := 200) d_Mo_46 (by decide) ?_
  refine n_ni ok (N := 200) rfl (by omega) (gw_in1 62 rfl rfl) (by rw [hR]; exact Nat.le_of_ble_eq_true rfl) (by rw [hR]; exact Nat.le_of_ble_eq_true rfl) d_Mo_49 (fun q6 => ?_)
  refine n_putF ok hin (ci := 6) (f := 8) (j := 6) (v := .ref q6) (ty := (.array .int)) (ws' := [(q6, .inl (cA 0, 200, .inl (fun _ => 0))), (q5, .inl (cA 0, 50, .inl (fun _ => 0))), (q4, .inl (cA 0, 100, .inl (fun _ => 0))), (q3, .inl (cA 0, 2, .inl (fun _ => 0))), (q2, .inl (cA 0, 3470, .inl (fun _ => 0))), (q1, .inl (cA 0, 1735, .inl (fun _ => 0))), (h0, .inr (6, [.ref q1, .ref q2, .ref q3, .int 0, .ref q4, .int 0, .int 0, .ref q5, .ref q6, .int 0, .int 0, .long 0]))]) rfl (by decide) (gw_in3 216 rfl rfl) rfl rfl (by decide +kernel) rfl rfl rfl (Nat.le_of_ble_eq_true rfl) rfl d_Mo_51 ?_
  have inner : ∀ (s : Nat), s < 5 → nW Z D (va_A [(h0, .inr (6, [.null, .null, .null, .int 0, .null, .int 0, .int 0, .null, .null, .int 0, .int 0, .long 0]))] (n_s Z).heap.size) 4 (nQ Z D rm_Mo h0 (.inr (6, [.null, .null, .null, .int 0, .null, .int 0, .int 0, .null, .null, .int 0, .int 0, .long 0])) (moC cA (mdb x) h0)) 124 [(3, .int (nI 5)), (2, .int (nI s)), (0, .ref h0), (1, .int x)] [] [(q6, .inl (cA 0, 200, .inl (fun _ => 0))), (q5, .inl (cA 0, 50, .inl (fun _ => 0))), (q4, .inl (cA 0, 100, .inl (fun _ => 0))), (q3, .inl (cA 0, 2, .inl (fun _ => 0))), (q2, .inl (cA 0, 3470, .inl (fun _ => 0))), (q1, .inl (cA 0, 1735, .inl (mfF (s + 1) (5 * s + 5)))), (h0, .inr (6, [.ref q1, .ref q2, .ref q3, .int (mdb x), .ref q4, .int 0, .int 0, .ref q5, .ref q6, .int 0, .int 0, .long 0]))] 6 5557 → ∀ (f v : Nat), 5 - v < f → v ≤ 5 → nW Z D (va_A [(h0, .inr (6, [.null, .null, .null, .int 0, .null, .int 0, .int 0, .null, .null, .int 0, .int 0, .long 0]))] (n_s Z).heap.size) 4 (nQ Z D rm_Mo h0 (.inr (6, [.null, .null, .null, .int 0, .null, .int 0, .int 0, .null, .null, .int 0, .int 0, .long 0])) (moC cA (mdb x) h0)) 99 [(3, .int (nI v)), (2, .int (nI s)), (0, .ref h0), (1, .int x)] [] [(q6, .inl (cA 0, 200, .inl (fun _ => 0))), (q5, .inl (cA 0, 50, .inl (fun _ => 0))), (q4, .inl (cA 0, 100, .inl (fun _ => 0))), (q3, .inl (cA 0, 2, .inl (fun _ => 0))), (q2, .inl (cA 0, 3470, .inl (fun _ => 0))), (q1, .inl (cA 0, 1735, .inl (mfF (s + 1) (5 * s + v)))), (h0, .inr (6, [.ref q1, .ref q2, .ref q3, .int (mdb x), .ref q4, .int 0, .int 0, .ref q5, .ref q6, .int 0, .int 0, .long 0]))] 6 5557 := by
    intro s hs kk f
    induction f with
    | zero => intro v hf; exact absurd hf (Nat.not_lt_zero _)
    | succ f ih =>
      intro v hf hv
      refine n_il ok (j := 0) d_Mo_99 rfl ?_
      refine n_ic ok (v := 5) d_Mo_100 (by decide) ?_
      refine n_ge ok (t := 124) d_Mo_101 (by decide) (fun c => ?_) (fun c => ?_)
      · have e : v = 5 := by
          rw [show (5 : Int32) = nI 5 from rfl, ← Int32.not_lt, ni_ltn (by omega) (by omega)] at c
          omega
        subst e
        exact kk
      · have e : v < 5 := by
          rw [show (5 : Int32) = nI 5 from rfl, Int32.not_le, ni_ltn (by omega) (by omega)] at c
          exact c
        refine n_al ok (j := 2) d_Mo_104 rfl ?_
        refine n_get ok (ci := 6) (f := 0) (j := 6) rfl (by decide) (gw_in3 208 rfl rfl) rfl rfl d_Mo_105 ?_
        refine n_bi ok (v := 11) d_Mo_108 (by decide) ?_
        refine n_ic ok (v := 5) d_Mo_110 (by decide) ?_
        refine n_il ok (j := 1) d_Mo_111 rfl ?_
        refine n_mul ok d_Mo_112 ?_
        refine n_add ok d_Mo_113 ?_
        refine n_il ok (j := 0) d_Mo_114 rfl ?_
        refine n_add ok d_Mo_115 ?_
        refine n_ic ok (v := 1) d_Mo_116 (by decide) ?_
        refine n_ias ok (j := 5) (i := 11 + (5 * s + v)) (ws' := [(q6, .inl (cA 0, 200, .inl (fun _ => 0))), (q5, .inl (cA 0, 50, .inl (fun _ => 0))), (q4, .inl (cA 0, 100, .inl (fun _ => 0))), (q3, .inl (cA 0, 2, .inl (fun _ => 0))), (q2, .inl (cA 0, 3470, .inl (fun _ => 0))), (q1, .inl (cA 0, 1735, .inl (mfF (s + 1) (5 * s + (v + 1))))), (h0, .inr (6, [.ref q1, .ref q2, .ref q3, .int (mdb x), .ref q4, .int 0, .int 0, .ref q5, .ref q6, .int 0, .int 0, .long 0]))]) rfl (by rw [show (11 : Int32) = nI 11 from rfl, show (5 : Int32) = nI 5 from rfl, pk_mul, nI_add, nI_add]; exact congrArg nI (by omega)) (by omega) (by omega) (by rw [show 5 * s + (v + 1) = 5 * s + v + 1 by omega, ← mfF_n (by omega)]; rfl) d_Mo_117 ?_
        refine n_inc ok (j := 0) (v := nI (v + 1)) (ls' := [(3, .int (nI (v + 1))), (2, .int (nI s)), (0, .ref h0), (1, .int x)]) d_Mo_118 rfl (by rw [← nI_1]; rfl) (by decide) rfl ?_
        refine n_go ok (t := 99) d_Mo_121 (by decide) ?_
        exact ih (v + 1) (by omega) (by omega)
  have outer : ∀ (f s : Nat), 5 - s < f → s ≤ 5 → nW Z D (va_A [(h0, .inr (6, [.null, .null, .null, .int 0, .null, .int 0, .int 0, .null, .null, .int 0, .int 0, .long 0]))] (n_s Z).heap.size) 4 (nQ Z D rm_Mo h0 (.inr (6, [.null, .null, .null, .int 0, .null, .int 0, .int 0, .null, .null, .int 0, .int 0, .long 0])) (moC cA (mdb x) h0)) 80 [(2, .int (nI s)), (0, .ref h0), (1, .int x)] [] [(q6, .inl (cA 0, 200, .inl (fun _ => 0))), (q5, .inl (cA 0, 50, .inl (fun _ => 0))), (q4, .inl (cA 0, 100, .inl (fun _ => 0))), (q3, .inl (cA 0, 2, .inl (fun _ => 0))), (q2, .inl (cA 0, 3470, .inl (fun _ => 0))), (q1, .inl (cA 0, 1735, .inl (mfF s (5 * s)))), (h0, .inr (6, [.ref q1, .ref q2, .ref q3, .int (mdb x), .ref q4, .int 0, .int 0, .ref q5, .ref q6, .int 0, .int 0, .long 0]))] 6 5557 := by
    intro f
    induction f with
    | zero => intro s hf; exact absurd hf (Nat.not_lt_zero _)
    | succ f ih =>
      intro s hf hs
      refine n_il ok (j := 0) d_Mo_80 rfl ?_
      refine n_ic ok (v := 5) d_Mo_81 (by decide) ?_
      refine n_ge ok (t := 130) d_Mo_82 (by decide) (fun c => ?_) (fun c => ?_)
      · have e : s = 5 := by
          rw [show (5 : Int32) = nI 5 from rfl, ← Int32.not_lt, ni_ltn (by omega) (by omega)] at c
          omega
        subst e
        exact n_ret ok rfl hr hlk d_Mo_130 rfl rfl (q1, q2, q3, q4, q5, q6) rfl
      · have e : s < 5 := by
          rw [show (5 : Int32) = nI 5 from rfl, Int32.not_le, ni_ltn (by omega) (by omega)] at c
          exact c
        refine n_al ok (j := 1) d_Mo_85 rfl ?_
        refine n_get ok (ci := 6) (f := 0) (j := 6) rfl (by decide) (gw_in3 208 rfl rfl) rfl rfl d_Mo_86 ?_
        refine n_bi ok (v := 41) d_Mo_89 (by decide) ?_
        refine n_il ok (j := 0) d_Mo_91 rfl ?_
        refine n_add ok d_Mo_92 ?_
        refine n_si ok (v := (-1000)) d_Mo_93 (by decide) ?_
        refine n_ias ok (j := 5) (i := 41 + s) (ws' := [(q6, .inl (cA 0, 200, .inl (fun _ => 0))), (q5, .inl (cA 0, 50, .inl (fun _ => 0))), (q4, .inl (cA 0, 100, .inl (fun _ => 0))), (q3, .inl (cA 0, 2, .inl (fun _ => 0))), (q2, .inl (cA 0, 3470, .inl (fun _ => 0))), (q1, .inl (cA 0, 1735, .inl (mfF (s + 1) (5 * s)))), (h0, .inr (6, [.ref q1, .ref q2, .ref q3, .int (mdb x), .ref q4, .int 0, .int 0, .ref q5, .ref q6, .int 0, .int 0, .long 0]))]) rfl (by rw [show (41 : Int32) = nI 41 from rfl, nI_add]) (by omega) (by omega) (by rw [← mfF_s]; rfl) d_Mo_96 ?_
        refine n_ic ok (v := 0) d_Mo_97 (by decide) ?_
        refine n_is ok (ls' := [(3, .int 0), (2, .int (nI s)), (0, .ref h0), (1, .int x)]) d_Mo_98 (by decide) rfl ?_
        refine inner s e ?_ 6 0 (by omega) (by omega)
        refine n_inc ok (j := 1) (v := nI (s + 1)) (ls' := [(2, .int (nI (s + 1))), (3, .int (nI 5)), (0, .ref h0), (1, .int x)]) d_Mo_124 rfl (by rw [← nI_1]; rfl) (by decide) rfl ?_
        refine n_go ok (t := 80) d_Mo_127 (by decide) ?_
        refine n_ls [0, 2, 3] rfl ?_
        exact ih (s + 1) (by omega) (by omega)
  have tail : nW Z D (va_A [(h0, .inr (6, [.null, .null, .null, .int 0, .null, .int 0, .int 0, .null, .null, .int 0, .int 0, .long 0]))] (n_s Z).heap.size) 4 (nQ Z D rm_Mo h0 (.inr (6, [.null, .null, .null, .int 0, .null, .int 0, .int 0, .null, .null, .int 0, .int 0, .long 0])) (moC cA (mdb x) h0)) 75 [(0, .ref h0), (1, .int x)] [.int (mdb x), .ref h0] [(q6, .inl (cA 0, 200, .inl (fun _ => 0))), (q5, .inl (cA 0, 50, .inl (fun _ => 0))), (q4, .inl (cA 0, 100, .inl (fun _ => 0))), (q3, .inl (cA 0, 2, .inl (fun _ => 0))), (q2, .inl (cA 0, 3470, .inl (fun _ => 0))), (q1, .inl (cA 0, 1735, .inl (fun _ => 0))), (h0, .inr (6, [.ref q1, .ref q2, .ref q3, .int 0, .ref q4, .int 0, .int 0, .ref q5, .ref q6, .int 0, .int 0, .long 0]))] 6 5557 := by
    refine n_put ok (ci := 6) (f := 3) (j := 6) (v := .int (mdb x)) (ty := .int) (ws' := [(q6, .inl (cA 0, 200, .inl (fun _ => 0))), (q5, .inl (cA 0, 50, .inl (fun _ => 0))), (q4, .inl (cA 0, 100, .inl (fun _ => 0))), (q3, .inl (cA 0, 2, .inl (fun _ => 0))), (q2, .inl (cA 0, 3470, .inl (fun _ => 0))), (q1, .inl (cA 0, 1735, .inl (fun _ => 0))), (h0, .inr (6, [.ref q1, .ref q2, .ref q3, .int (mdb x), .ref q4, .int 0, .int 0, .ref q5, .ref q6, .int 0, .int 0, .long 0]))]) rfl (by decide) (gw_in3 211 rfl rfl) rfl (by decide +kernel) rfl rfl rfl (Nat.le_of_ble_eq_true rfl) rfl d_Mo_75 ?_
    refine n_ic ok (v := 0) d_Mo_78 (by decide) ?_
    refine n_is ok (ls' := [(2, .int 0), (0, .ref h0), (1, .int x)]) d_Mo_79 (by decide) rfl ?_
    have lp := outer 6 0 (by omega) (by omega)
    rw [← mfF_0] at lp
    exact lp
  refine n_al ok (j := 0) d_Mo_54 rfl ?_
  refine n_il ok (j := 1) d_Mo_55 rfl ?_
  refine n_ifge ok (t := 63) d_Mo_56 (by decide) (fun c => ?_) (fun c => ?_)
  · skip
    refine n_il ok (j := 1) d_Mo_63 rfl ?_
    refine n_bi ok (v := 20) d_Mo_64 (by decide) ?_
    refine n_le ok (t := 74) d_Mo_66 (by decide) (fun c2 => ?_) (fun c2 => ?_)
    · skip
      refine n_il ok (j := 1) d_Mo_74 rfl ?_
      have em : mdb x = x := by unfold mdb; rw [if_neg (Int32.not_lt.mpr c), if_neg (Int32.not_lt.mpr c2)]
      exact n_stk (by rw [em]) tail
    · skip
      refine n_bi ok (v := 20) d_Mo_69 (by decide) ?_
      refine n_go ok (t := 75) d_Mo_71 (by decide) ?_
      have em : mdb x = 20 := by unfold mdb; rw [if_neg (Int32.not_lt.mpr c), if_pos (Int32.not_le.mp c2)]
      exact n_stk (by rw [em]) tail
  · skip
    refine n_ic ok (v := 0) d_Mo_59 (by decide) ?_
    refine n_go ok (t := 75) d_Mo_60 (by decide) ?_
    have em : mdb x = 0 := by unfold mdb; rw [if_pos (Int32.not_le.mp c)]
    exact n_stk (by rw [em]) tail
