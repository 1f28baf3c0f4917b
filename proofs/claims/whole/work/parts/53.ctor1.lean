abbrev vI (f : Nat → Int32) : (Nat → Int32) ⊕ (Nat → Int64) ⊕ (Nat → UInt32) ⊕ (Nat → UInt64) ⊕ (Nat → Option Nat) := .inl f
abbrev rowsC (cA : Nat → ClassId) (k a b : Nat) : va_W := [(b, .inl (cA 0, 4 * k, .inl (fun _ => 0))), (a, .inr (1, [.ref b, .int 0]))]
abbrev logC (cA : Nat → ClassId) (h a b : Nat) : va_W := [(b, .inl (cA 0, 160, .inl (fun _ => 0))), (a, .inr (1, [.ref b, .int 0])), (h, .inr (0, [.ref a, .int 0]))]
abbrev serverC (cA : Nat → ClassId) (h a b c d e : Nat) : va_W := [(e, .inl (cA 0, 160, .inl (fun _ => 0))), (d, .inr (1, [.ref e, .int 0])), (c, .inl (cA 0, 160, .inl (fun _ => 0))), (b, .inr (1, [.ref c, .int 0])), (a, .inr (0, [.ref b, .int 0])), (h, .inr (3, [.ref a, .ref d, .int 0, .int 0, .int 0, .int (-1000), .int (-1000), .int (-1000), .int (-1000)]))]
abbrev scenC (cA : Nat → ClassId) (h a b c d : Nat) : va_W := [(d, .inl (cA 0, 34, .inl (fun _ => 0))), (c, .inl (cA 0, 102, .inl (fun _ => 0))), (b, .inl (cA 0, 34, .inl (fun _ => 0))), (a, .inl (cA 0, 100, .inl (fun _ => 0))), (h, .inr (2, [.ref a, .ref b, .ref c, .ref d, .int 0, .int 0, .int 0, .int 0, .int 0, .int 0, .int 0]))]
abbrev rm_Ro (k : Nat) : Room := { frames := 1, cells := 1, slots := 4 * k, locals := 20 }
abbrev rm_Lo : Room := { frames := 2, cells := 2, slots := 162, locals := 41 }
abbrev rm_Se : Room := { frames := 3, cells := 5, slots := 326, locals := 61 }
abbrev rm_Wo : Room := { frames := 4, cells := 42, slots := 2166, locals := 81 }
abbrev rm_Sc : Room := { frames := 1, cells := 4, slots := 270, locals := 12 }
abbrev rm_Le : Room := { frames := 5, cells := 136, slots := 6819, locals := 103 }
abbrev rm_Mo : Room := { frames := 1, cells := 6, slots := 5557, locals := 12 }
theorem d_Ro_0 : decode prog_3_method_1_code 0 = .ok (.aload_n 0, 1) := by decide +kernel
theorem d_Ro_1 : decode prog_3_method_1_code 1 = .ok (.invokespecial 3, 3) := by decide +kernel
theorem d_Ro_4 : decode prog_3_method_1_code 4 = .ok (.aload_n 0, 1) := by decide +kernel
theorem d_Ro_5 : decode prog_3_method_1_code 5 = .ok (.iconst 0, 1) := by decide +kernel
theorem d_Ro_6 : decode prog_3_method_1_code 6 = .ok (.iload_n 1, 1) := by decide +kernel
theorem d_Ro_7 : decode prog_3_method_1_code 7 = .ok (.invokestatic 9, 3) := by decide +kernel
theorem d_Ro_10 : decode prog_3_method_1_code 10 = .ok (.iconst 4, 1) := by decide +kernel
theorem d_Ro_11 : decode prog_3_method_1_code 11 = .ok (.imul, 1) := by decide +kernel
theorem d_Ro_12 : decode prog_3_method_1_code 12 = .ok (.newarray .int, 2) := by decide +kernel
theorem d_Ro_14 : decode prog_3_method_1_code 14 = .ok (.putfield 15, 3) := by decide +kernel
theorem d_Ro_17 : decode prog_3_method_1_code 17 = .ok (.aload_n 0, 1) := by decide +kernel
theorem d_Ro_18 : decode prog_3_method_1_code 18 = .ok (.iconst 0, 1) := by decide +kernel
theorem d_Ro_19 : decode prog_3_method_1_code 19 = .ok (.putfield 21, 3) := by decide +kernel
theorem d_Ro_22 : decode prog_3_method_1_code 22 = .ok (.return_, 1) := by decide +kernel
set_option maxRecDepth 20000 in
theorem c_Ro (l : Launch) (D : va_G) (cA : Nat → ClassId) (k : Nat) (hk : k ≤ 50) (h0 : Nat) : nT l D cA ⟨"LeaseCluster$Rows", "<init>", "(I)V"⟩ prog_3_method_1_code 2 (rm_Ro k) h0 (.inr (1, [.null, .int 0])) [.int (nI k)] (fun q : Nat => rowsC cA k h0 q) := by
  refine n_in (by decide) rfl (Nat.le_of_ble_eq_true rfl) (fun Z hl hR hr hin hlk ok => ?_)
  refine n_al ok (j := 0) d_Ro_0 rfl ?_
  refine n_oi ok (gw_in1 49 rfl rfl) (gw_in1 17 rfl rfl) (gw_in1 18 rfl rfl) d_Ro_1 (by rw [hR]; exact Nat.le_of_ble_eq_true rfl) (by rw [hR]; exact Nat.le_of_ble_eq_true rfl) ?_
  refine n_al ok (j := 0) d_Ro_4 rfl ?_
  refine n_ic ok (v := 0) d_Ro_5 (by decide) ?_
  refine n_il ok (j := 1) d_Ro_6 rfl ?_
  refine n_max ok (gw_in1 50 rfl rfl) (by rw [hR]; exact Nat.le_of_ble_eq_true rfl) (by rw [hR]; exact Nat.le_of_ble_eq_true rfl) (Nat.zero_le _) (Nat.zero_le _) d_Ro_7 ?_
  rw [show (if (0 : Int32) < nI k then nI k else 0) = nI k from ?_]
  rotate_left
  · split
    · rfl
    · next z =>
      rw [show (0 : Int32) = nI 0 from rfl, ni_ltn (by omega) (by omega)] at z
      have : k = 0 := by omega
      rw [this]; rfl
  refine n_ic ok (v := 4) d_Ro_10 (by decide) ?_
  refine n_mul ok d_Ro_11 ?_
  refine n_ni ok (N := (4 * k)) (by rw [show (4 : Int32) = nI 4 from rfl, pk_mul, Nat.mul_comm]) (by omega) (gw_in1 62 rfl rfl) (by rw [hR]; exact Nat.le_of_ble_eq_true rfl) (by rw [hR]; show 0 + 4 * k ≤ 4 * k; omega) d_Ro_12 (fun q1 => ?_)
  refine n_putF ok hin (ci := 1) (f := 0) (j := 1) (v := .ref q1) (ty := (.array .int)) (ws' := [(q1, .inl (cA 0, (4 * k), .inl (fun _ => 0))), (h0, .inr (1, [.ref q1, .int 0]))]) rfl (by decide) (gw_in1 51 rfl rfl) rfl rfl (by decide +kernel) rfl rfl rfl (Nat.le_of_ble_eq_true rfl) rfl d_Ro_14 ?_
  refine n_al ok (j := 0) d_Ro_17 rfl ?_
  refine n_ic ok (v := 0) d_Ro_18 (by decide) ?_
  refine n_put ok (ci := 1) (f := 1) (j := 1) (v := .int 0) (ty := .int) (ws' := [(q1, .inl (cA 0, (4 * k), .inl (fun _ => 0))), (h0, .inr (1, [.ref q1, .int 0]))]) rfl (by decide) (gw_in1 52 rfl rfl) rfl (by decide +kernel) rfl rfl rfl (Nat.le_of_ble_eq_true rfl) rfl d_Ro_19 ?_
  exact n_ret ok rfl hr hlk d_Ro_22 (by rfl) (by show 4 * k = 0 + 4 * k; omega) q1 rfl
theorem d_Lo_0 : decode prog_2_method_1_code 0 = .ok (.aload_n 0, 1) := by decide +kernel
theorem d_Lo_1 : decode prog_2_method_1_code 1 = .ok (.invokespecial 3, 3) := by decide +kernel
theorem d_Lo_4 : decode prog_2_method_1_code 4 = .ok (.aload_n 0, 1) := by decide +kernel
theorem d_Lo_5 : decode prog_2_method_1_code 5 = .ok (.new 9, 3) := by decide +kernel
theorem d_Lo_8 : decode prog_2_method_1_code 8 = .ok (.dup, 1) := by decide +kernel
theorem d_Lo_9 : decode prog_2_method_1_code 9 = .ok (.bipush 40, 2) := by decide +kernel
theorem d_Lo_11 : decode prog_2_method_1_code 11 = .ok (.invokespecial 11, 3) := by decide +kernel
theorem d_Lo_14 : decode prog_2_method_1_code 14 = .ok (.putfield 14, 3) := by decide +kernel
theorem d_Lo_17 : decode prog_2_method_1_code 17 = .ok (.aload_n 0, 1) := by decide +kernel
theorem d_Lo_18 : decode prog_2_method_1_code 18 = .ok (.iconst 0, 1) := by decide +kernel
theorem d_Lo_19 : decode prog_2_method_1_code 19 = .ok (.putfield 20, 3) := by decide +kernel
theorem d_Lo_22 : decode prog_2_method_1_code 22 = .ok (.return_, 1) := by decide +kernel
set_option maxRecDepth 20000 in
theorem c_Lo (l : Launch) (D : va_G) (cA : Nat → ClassId) (h0 : Nat) : nT l D cA ⟨"LeaseCluster$Log", "<init>", "()V"⟩ prog_2_method_1_code 1 rm_Lo h0 (.inr (0, [.null, .int 0])) [] (fun q : Nat × Nat => logC cA h0 q.1 q.2) := by
  refine n_in (by decide) rfl (Nat.le_of_ble_eq_true rfl) (fun Z hl hR hr hin hlk ok => ?_)
  refine n_al ok (j := 0) d_Lo_0 rfl ?_
  refine n_oi ok (gw_in1 43 rfl rfl) (gw_in1 17 rfl rfl) (gw_in1 18 rfl rfl) d_Lo_1 (by rw [hR]; exact Nat.le_of_ble_eq_true rfl) (by rw [hR]; exact Nat.le_of_ble_eq_true rfl) ?_
  refine n_al ok (j := 0) d_Lo_4 rfl ?_
  refine n_new ok (ci := 1) (fs := [.null, .int 0]) rfl tyX1 tyX1_ok (by decide) (gw_in1 44 rfl rfl) (gw_in1 45 rfl rfl) (gw_in1 6 rfl rfl) (by rw [hR]; exact Nat.le_of_ble_eq_true rfl) (by rw [hR]; exact Nat.le_of_ble_eq_true rfl) d_Lo_5 (fun q1 => ?_)
  refine n_dup ok d_Lo_8 ?_
  refine n_bi ok (v := 40) d_Lo_9 (by decide) ?_
  refine n_call ok (As := [.int 40]) (c_Ro Z.2.1 D cA 40 (by omega) q1) (gw_in1 48 rfl rfl) (gw_in1 46 rfl rfl) (gw_in1 47 rfl rfl) (gw_in1 6 rfl rfl) rfl (by decide +kernel) rfl ⟨by rw [hR]; exact Nat.le_of_ble_eq_true rfl, by rw [hR]; exact Nat.le_of_ble_eq_true rfl⟩ (Nat.le_of_ble_eq_true rfl) ⟨by rw [hR]; exact Nat.le_of_ble_eq_true rfl, by rw [hR]; exact Nat.le_of_ble_eq_true rfl⟩ d_Lo_11 (fun u => ?_)
  show nW Z D _ 1 _ 14 [(0, .ref h0)] [.ref q1, .ref h0] [(u, .inl (cA 0, 160, .inl (fun _ => 0))), (q1, .inr (1, [.ref u, .int 0])), (h0, .inr (0, [.null, .int 0]))] _ _
  refine n_putF ok hin (ci := 0) (f := 0) (j := 2) (v := .ref q1) (ty := (.object "LeaseCluster$Rows")) (ws' := [(u, .inl (cA 0, 160, .inl (fun _ => 0))), (q1, .inr (1, [.ref u, .int 0])), (h0, .inr (0, [.ref q1, .int 0]))]) rfl (by decide) (gw_in1 63 rfl rfl) rfl rfl (by decide +kernel) rfl rfl rfl (Nat.le_of_ble_eq_true rfl) rfl d_Lo_14 ?_
  refine n_al ok (j := 0) d_Lo_17 rfl ?_
  refine n_ic ok (v := 0) d_Lo_18 (by decide) ?_
  refine n_put ok (ci := 0) (f := 1) (j := 2) (v := .int 0) (ty := .int) (ws' := [(u, .inl (cA 0, 160, .inl (fun _ => 0))), (q1, .inr (1, [.ref u, .int 0])), (h0, .inr (0, [.ref q1, .int 0]))]) rfl (by decide) (gw_in1 66 rfl rfl) rfl (by decide +kernel) rfl rfl rfl (Nat.le_of_ble_eq_true rfl) rfl d_Lo_19 ?_
  exact n_ret ok rfl hr hlk d_Lo_22 rfl rfl (q1, u) rfl
theorem d_Se_0 : decode prog_5_method_1_code 0 = .ok (.aload_n 0, 1) := by decide +kernel
theorem d_Se_1 : decode prog_5_method_1_code 1 = .ok (.invokespecial 3, 3) := by decide +kernel
theorem d_Se_4 : decode prog_5_method_1_code 4 = .ok (.aload_n 0, 1) := by decide +kernel
theorem d_Se_5 : decode prog_5_method_1_code 5 = .ok (.new 9, 3) := by decide +kernel
theorem d_Se_8 : decode prog_5_method_1_code 8 = .ok (.dup, 1) := by decide +kernel
theorem d_Se_9 : decode prog_5_method_1_code 9 = .ok (.invokespecial 11, 3) := by decide +kernel
theorem d_Se_12 : decode prog_5_method_1_code 12 = .ok (.putfield 12, 3) := by decide +kernel
theorem d_Se_15 : decode prog_5_method_1_code 15 = .ok (.aload_n 0, 1) := by decide +kernel
theorem d_Se_16 : decode prog_5_method_1_code 16 = .ok (.new 18, 3) := by decide +kernel
theorem d_Se_19 : decode prog_5_method_1_code 19 = .ok (.dup, 1) := by decide +kernel
theorem d_Se_20 : decode prog_5_method_1_code 20 = .ok (.bipush 40, 2) := by decide +kernel
theorem d_Se_22 : decode prog_5_method_1_code 22 = .ok (.invokespecial 20, 3) := by decide +kernel
theorem d_Se_25 : decode prog_5_method_1_code 25 = .ok (.putfield 23, 3) := by decide +kernel
theorem d_Se_28 : decode prog_5_method_1_code 28 = .ok (.aload_n 0, 1) := by decide +kernel
theorem d_Se_29 : decode prog_5_method_1_code 29 = .ok (.iconst 0, 1) := by decide +kernel
theorem d_Se_30 : decode prog_5_method_1_code 30 = .ok (.putfield 27, 3) := by decide +kernel
theorem d_Se_33 : decode prog_5_method_1_code 33 = .ok (.aload_n 0, 1) := by decide +kernel
theorem d_Se_34 : decode prog_5_method_1_code 34 = .ok (.iconst 0, 1) := by decide +kernel
theorem d_Se_35 : decode prog_5_method_1_code 35 = .ok (.putfield 31, 3) := by decide +kernel
theorem d_Se_38 : decode prog_5_method_1_code 38 = .ok (.aload_n 0, 1) := by decide +kernel
theorem d_Se_39 : decode prog_5_method_1_code 39 = .ok (.iconst 0, 1) := by decide +kernel
theorem d_Se_40 : decode prog_5_method_1_code 40 = .ok (.putfield 34, 3) := by decide +kernel
theorem d_Se_43 : decode prog_5_method_1_code 43 = .ok (.aload_n 0, 1) := by decide +kernel
theorem d_Se_44 : decode prog_5_method_1_code 44 = .ok (.sipush (-1000), 3) := by decide +kernel
theorem d_Se_47 : decode prog_5_method_1_code 47 = .ok (.putfield 37, 3) := by decide +kernel
theorem d_Se_50 : decode prog_5_method_1_code 50 = .ok (.aload_n 0, 1) := by decide +kernel
theorem d_Se_51 : decode prog_5_method_1_code 51 = .ok (.sipush (-1000), 3) := by decide +kernel
theorem d_Se_54 : decode prog_5_method_1_code 54 = .ok (.putfield 40, 3) := by decide +kernel
theorem d_Se_57 : decode prog_5_method_1_code 57 = .ok (.aload_n 0, 1) := by decide +kernel
theorem d_Se_58 : decode prog_5_method_1_code 58 = .ok (.sipush (-1000), 3) := by decide +kernel
theorem d_Se_61 : decode prog_5_method_1_code 61 = .ok (.putfield 43, 3) := by decide +kernel
theorem d_Se_64 : decode prog_5_method_1_code 64 = .ok (.aload_n 0, 1) := by decide +kernel
theorem d_Se_65 : decode prog_5_method_1_code 65 = .ok (.sipush (-1000), 3) := by decide +kernel
theorem d_Se_68 : decode prog_5_method_1_code 68 = .ok (.putfield 46, 3) := by decide +kernel
theorem d_Se_71 : decode prog_5_method_1_code 71 = .ok (.return_, 1) := by decide +kernel
set_option maxRecDepth 20000 in
theorem c_Se (l : Launch) (D : va_G) (cA : Nat → ClassId) (h0 : Nat) : nT l D cA ⟨"LeaseCluster$Server", "<init>", "()V"⟩ prog_5_method_1_code 1 rm_Se h0 (.inr (3, [.null, .null, .int 0, .int 0, .int 0, .int 0, .int 0, .int 0, .int 0])) [] (fun q : Nat × Nat × Nat × Nat × Nat => serverC cA h0 q.1 q.2.1 q.2.2.1 q.2.2.2.1 q.2.2.2.2) := by
  refine n_in (by decide) rfl (Nat.le_of_ble_eq_true rfl) (fun Z hl hR hr hin hlk ok => ?_)
  refine n_al ok (j := 0) d_Se_0 rfl ?_
  refine n_oi ok (gw_in1 37 rfl rfl) (gw_in1 17 rfl rfl) (gw_in1 18 rfl rfl) d_Se_1 (by rw [hR]; exact Nat.le_of_ble_eq_true rfl) (by rw [hR]; exact Nat.le_of_ble_eq_true rfl) ?_
  refine n_al ok (j := 0) d_Se_4 rfl ?_
  refine n_new ok (ci := 0) (fs := [.null, .int 0]) rfl tyX0 tyX0_ok (by decide) (gw_in1 38 rfl rfl) (gw_in1 39 rfl rfl) (gw_in1 5 rfl rfl) (by rw [hR]; exact Nat.le_of_ble_eq_true rfl) (by rw [hR]; exact Nat.le_of_ble_eq_true rfl) d_Se_5 (fun q1 => ?_)
  refine n_dup ok d_Se_8 ?_
  refine n_call ok (As := []) (c_Lo Z.2.1 D cA q1) (gw_in1 42 rfl rfl) (gw_in1 40 rfl rfl) (gw_in1 41 rfl rfl) (gw_in1 5 rfl rfl) rfl (by decide +kernel) rfl ⟨by rw [hR]; exact Nat.le_of_ble_eq_true rfl, by rw [hR]; exact Nat.le_of_ble_eq_true rfl⟩ (Nat.le_of_ble_eq_true rfl) ⟨by rw [hR]; exact Nat.le_of_ble_eq_true rfl, by rw [hR]; exact Nat.le_of_ble_eq_true rfl⟩ d_Se_9 (fun u => ?_)
  obtain ⟨q2, q3⟩ := u
  show nW Z D _ 1 _ 12 [(0, .ref h0)] [.ref q1, .ref h0] [(q3, .inl (cA 0, 160, .inl (fun _ => 0))), (q2, .inr (1, [.ref q3, .int 0])), (q1, .inr (0, [.ref q2, .int 0])), (h0, .inr (3, [.null, .null, .int 0, .int 0, .int 0, .int 0, .int 0, .int 0, .int 0]))] _ _
  refine n_putF ok hin (ci := 3) (f := 0) (j := 3) (v := .ref q1) (ty := (.object "LeaseCluster$Log")) (ws' := [(q3, .inl (cA 0, 160, .inl (fun _ => 0))), (q2, .inr (1, [.ref q3, .int 0])), (q1, .inr (0, [.ref q2, .int 0])), (h0, .inr (3, [.ref q1, .null, .int 0, .int 0, .int 0, .int 0, .int 0, .int 0, .int 0]))]) rfl (by decide) (gw_in1 76 rfl rfl) rfl rfl (by decide +kernel) rfl rfl rfl (Nat.le_of_ble_eq_true rfl) rfl d_Se_12 ?_
  refine n_al ok (j := 0) d_Se_15 rfl ?_
  refine n_new ok (ci := 1) (fs := [.null, .int 0]) rfl tyX1 tyX1_ok (by decide) (gw_in1 74 rfl rfl) (gw_in1 45 rfl rfl) (gw_in1 6 rfl rfl) (by rw [hR]; exact Nat.le_of_ble_eq_true rfl) (by rw [hR]; exact Nat.le_of_ble_eq_true rfl) d_Se_16 (fun q4 => ?_)
  refine n_dup ok d_Se_19 ?_
  refine n_bi ok (v := 40) d_Se_20 (by decide) ?_
  refine n_call ok (As := [.int 40]) (c_Ro Z.2.1 D cA 40 (by omega) q4) (gw_in1 48 rfl rfl) (gw_in1 75 rfl rfl) (gw_in1 47 rfl rfl) (gw_in1 6 rfl rfl) rfl (by decide +kernel) rfl ⟨by rw [hR]; exact Nat.le_of_ble_eq_true rfl, by rw [hR]; exact Nat.le_of_ble_eq_true rfl⟩ (Nat.le_of_ble_eq_true rfl) ⟨by rw [hR]; exact Nat.le_of_ble_eq_true rfl, by rw [hR]; exact Nat.le_of_ble_eq_true rfl⟩ d_Se_22 (fun u => ?_)
  obtain ⟨q5, rfl⟩ : ∃ z, z = u := ⟨_, rfl⟩
  show nW Z D _ 1 _ 25 [(0, .ref h0)] [.ref q4, .ref h0] [(q5, .inl (cA 0, 160, .inl (fun _ => 0))), (q4, .inr (1, [.ref q5, .int 0])), (q3, .inl (cA 0, 160, .inl (fun _ => 0))), (q2, .inr (1, [.ref q3, .int 0])), (q1, .inr (0, [.ref q2, .int 0])), (h0, .inr (3, [.ref q1, .null, .int 0, .int 0, .int 0, .int 0, .int 0, .int 0, .int 0]))] _ _
  refine n_putF ok hin (ci := 3) (f := 1) (j := 5) (v := .ref q4) (ty := (.object "LeaseCluster$Rows")) (ws' := [(q5, .inl (cA 0, 160, .inl (fun _ => 0))), (q4, .inr (1, [.ref q5, .int 0])), (q3, .inl (cA 0, 160, .inl (fun _ => 0))), (q2, .inr (1, [.ref q3, .int 0])), (q1, .inr (0, [.ref q2, .int 0])), (h0, .inr (3, [.ref q1, .ref q4, .int 0, .int 0, .int 0, .int 0, .int 0, .int 0, .int 0]))]) rfl (by decide) (gw_in1 79 rfl rfl) rfl rfl (by decide +kernel) rfl rfl rfl (Nat.le_of_ble_eq_true rfl) rfl d_Se_25 ?_
  refine n_al ok (j := 0) d_Se_28 rfl ?_
  refine n_ic ok (v := 0) d_Se_29 (by decide) ?_
  refine n_put ok (ci := 3) (f := 2) (j := 5) (v := .int 0) (ty := .int) (ws' := [(q5, .inl (cA 0, 160, .inl (fun _ => 0))), (q4, .inr (1, [.ref q5, .int 0])), (q3, .inl (cA 0, 160, .inl (fun _ => 0))), (q2, .inr (1, [.ref q3, .int 0])), (q1, .inr (0, [.ref q2, .int 0])), (h0, .inr (3, [.ref q1, .ref q4, .int 0, .int 0, .int 0, .int 0, .int 0, .int 0, .int 0]))]) rfl (by decide) (gw_in1 82 rfl rfl) rfl (by decide +kernel) rfl rfl rfl (Nat.le_of_ble_eq_true rfl) rfl d_Se_30 ?_
  refine n_al ok (j := 0) d_Se_33 rfl ?_
  refine n_ic ok (v := 0) d_Se_34 (by decide) ?_
  refine n_put ok (ci := 3) (f := 3) (j := 5) (v := .int 0) (ty := .int) (ws' := [(q5, .inl (cA 0, 160, .inl (fun _ => 0))), (q4, .inr (1, [.ref q5, .int 0])), (q3, .inl (cA 0, 160, .inl (fun _ => 0))), (q2, .inr (1, [.ref q3, .int 0])), (q1, .inr (0, [.ref q2, .int 0])), (h0, .inr (3, [.ref q1, .ref q4, .int 0, .int 0, .int 0, .int 0, .int 0, .int 0, .int 0]))]) rfl (by decide) (gw_in1 85 rfl rfl) rfl (by decide +kernel) rfl rfl rfl (Nat.le_of_ble_eq_true rfl) rfl d_Se_35 ?_
  refine n_al ok (j := 0) d_Se_38 rfl ?_
  refine n_ic ok (v := 0) d_Se_39 (by decide) ?_
  refine n_put ok (ci := 3) (f := 4) (j := 5) (v := .int 0) (ty := .int) (ws' := [(q5, .inl (cA 0, 160, .inl (fun _ => 0))), (q4, .inr (1, [.ref q5, .int 0])), (q3, .inl (cA 0, 160, .inl (fun _ => 0))), (q2, .inr (1, [.ref q3, .int 0])), (q1, .inr (0, [.ref q2, .int 0])), (h0, .inr (3, [.ref q1, .ref q4, .int 0, .int 0, .int 0, .int 0, .int 0, .int 0, .int 0]))]) rfl (by decide) (gw_in1 88 rfl rfl) rfl (by decide +kernel) rfl rfl rfl (Nat.le_of_ble_eq_true rfl) rfl d_Se_40 ?_
  refine n_al ok (j := 0) d_Se_43 rfl ?_
  refine n_si ok (v := (-1000)) d_Se_44 (by decide) ?_
  refine n_put ok (ci := 3) (f := 5) (j := 5) (v := .int (-1000)) (ty := .int) (ws' := [(q5, .inl (cA 0, 160, .inl (fun _ => 0))), (q4, .inr (1, [.ref q5, .int 0])), (q3, .inl (cA 0, 160, .inl (fun _ => 0))), (q2, .inr (1, [.ref q3, .int 0])), (q1, .inr (0, [.ref q2, .int 0])), (h0, .inr (3, [.ref q1, .ref q4, .int 0, .int 0, .int 0, .int (-1000), .int 0, .int 0, .int 0]))]) rfl (by decide) (gw_in1 91 rfl rfl) rfl (by decide +kernel) rfl rfl rfl (Nat.le_of_ble_eq_true rfl) rfl d_Se_47 ?_
  refine n_al ok (j := 0) d_Se_50 rfl ?_
  refine n_si ok (v := (-1000)) d_Se_51 (by decide) ?_
  refine n_put ok (ci := 3) (f := 6) (j := 5) (v := .int (-1000)) (ty := .int) (ws' := [(q5, .inl (cA 0, 160, .inl (fun _ => 0))), (q4, .inr (1, [.ref q5, .int 0])), (q3, .inl (cA 0, 160, .inl (fun _ => 0))), (q2, .inr (1, [.ref q3, .int 0])), (q1, .inr (0, [.ref q2, .int 0])), (h0, .inr (3, [.ref q1, .ref q4, .int 0, .int 0, .int 0, .int (-1000), .int (-1000), .int 0, .int 0]))]) rfl (by decide) (gw_in1 94 rfl rfl) rfl (by decide +kernel) rfl rfl rfl (Nat.le_of_ble_eq_true rfl) rfl d_Se_54 ?_
  refine n_al ok (j := 0) d_Se_57 rfl ?_
  refine n_si ok (v := (-1000)) d_Se_58 (by decide) ?_
  refine n_put ok (ci := 3) (f := 7) (j := 5) (v := .int (-1000)) (ty := .int) (ws' := [(q5, .inl (cA 0, 160, .inl (fun _ => 0))), (q4, .inr (1, [.ref q5, .int 0])), (q3, .inl (cA 0, 160, .inl (fun _ => 0))), (q2, .inr (1, [.ref q3, .int 0])), (q1, .inr (0, [.ref q2, .int 0])), (h0, .inr (3, [.ref q1, .ref q4, .int 0, .int 0, .int 0, .int (-1000), .int (-1000), .int (-1000), .int 0]))]) rfl (by decide) (gw_in1 97 rfl rfl) rfl (by decide +kernel) rfl rfl rfl (Nat.le_of_ble_eq_true rfl) rfl d_Se_61 ?_
  refine n_al ok (j := 0) d_Se_64 rfl ?_
  refine n_si ok (v := (-1000)) d_Se_65 (by decide) ?_
  refine n_put ok (ci := 3) (f := 8) (j := 5) (v := .int (-1000)) (ty := .int) (ws' := [(q5, .inl (cA 0, 160, .inl (fun _ => 0))), (q4, .inr (1, [.ref q5, .int 0])), (q3, .inl (cA 0, 160, .inl (fun _ => 0))), (q2, .inr (1, [.ref q3, .int 0])), (q1, .inr (0, [.ref q2, .int 0])), (h0, .inr (3, [.ref q1, .ref q4, .int 0, .int 0, .int 0, .int (-1000), .int (-1000), .int (-1000), .int (-1000)]))]) rfl (by decide) (gw_in1 100 rfl rfl) rfl (by decide +kernel) rfl rfl rfl (Nat.le_of_ble_eq_true rfl) rfl d_Se_68 ?_
  exact n_ret ok rfl hr hlk d_Se_71 rfl rfl (q1, q2, q3, q4, q5) rfl
theorem d_Sc_0 : decode prog_4_method_1_code 0 = .ok (.aload_n 0, 1) := by decide +kernel
theorem d_Sc_1 : decode prog_4_method_1_code 1 = .ok (.invokespecial 3, 3) := by decide +kernel
theorem d_Sc_4 : decode prog_4_method_1_code 4 = .ok (.aload_n 0, 1) := by decide +kernel
theorem d_Sc_5 : decode prog_4_method_1_code 5 = .ok (.bipush 100, 2) := by decide +kernel
theorem d_Sc_7 : decode prog_4_method_1_code 7 = .ok (.newarray .int, 2) := by decide +kernel
theorem d_Sc_9 : decode prog_4_method_1_code 9 = .ok (.putfield 9, 3) := by decide +kernel
theorem d_Sc_12 : decode prog_4_method_1_code 12 = .ok (.aload_n 0, 1) := by decide +kernel
theorem d_Sc_13 : decode prog_4_method_1_code 13 = .ok (.bipush 34, 2) := by decide +kernel
theorem d_Sc_15 : decode prog_4_method_1_code 15 = .ok (.newarray .int, 2) := by decide +kernel
theorem d_Sc_17 : decode prog_4_method_1_code 17 = .ok (.putfield 15, 3) := by decide +kernel
theorem d_Sc_20 : decode prog_4_method_1_code 20 = .ok (.aload_n 0, 1) := by decide +kernel
theorem d_Sc_21 : decode prog_4_method_1_code 21 = .ok (.bipush 102, 2) := by decide +kernel
theorem d_Sc_23 : decode prog_4_method_1_code 23 = .ok (.newarray .int, 2) := by decide +kernel
theorem d_Sc_25 : decode prog_4_method_1_code 25 = .ok (.putfield 18, 3) := by decide +kernel
theorem d_Sc_28 : decode prog_4_method_1_code 28 = .ok (.aload_n 0, 1) := by decide +kernel
theorem d_Sc_29 : decode prog_4_method_1_code 29 = .ok (.bipush 34, 2) := by decide +kernel
theorem d_Sc_31 : decode prog_4_method_1_code 31 = .ok (.newarray .int, 2) := by decide +kernel
theorem d_Sc_33 : decode prog_4_method_1_code 33 = .ok (.putfield 21, 3) := by decide +kernel
theorem d_Sc_36 : decode prog_4_method_1_code 36 = .ok (.aload_n 0, 1) := by decide +kernel
theorem d_Sc_37 : decode prog_4_method_1_code 37 = .ok (.iconst 0, 1) := by decide +kernel
theorem d_Sc_38 : decode prog_4_method_1_code 38 = .ok (.putfield 24, 3) := by decide +kernel
theorem d_Sc_41 : decode prog_4_method_1_code 41 = .ok (.aload_n 0, 1) := by decide +kernel
theorem d_Sc_42 : decode prog_4_method_1_code 42 = .ok (.iconst 0, 1) := by decide +kernel
theorem d_Sc_43 : decode prog_4_method_1_code 43 = .ok (.putfield 28, 3) := by decide +kernel
theorem d_Sc_46 : decode prog_4_method_1_code 46 = .ok (.aload_n 0, 1) := by decide +kernel
theorem d_Sc_47 : decode prog_4_method_1_code 47 = .ok (.iconst 0, 1) := by decide +kernel
theorem d_Sc_48 : decode prog_4_method_1_code 48 = .ok (.putfield 31, 3) := by decide +kernel
theorem d_Sc_51 : decode prog_4_method_1_code 51 = .ok (.aload_n 0, 1) := by decide +kernel
theorem d_Sc_52 : decode prog_4_method_1_code 52 = .ok (.iconst 0, 1) := by decide +kernel
theorem d_Sc_53 : decode prog_4_method_1_code 53 = .ok (.putfield 34, 3) := by decide +kernel
theorem d_Sc_56 : decode prog_4_method_1_code 56 = .ok (.aload_n 0, 1) := by decide +kernel
theorem d_Sc_57 : decode prog_4_method_1_code 57 = .ok (.iconst 0, 1) := by decide +kernel
theorem d_Sc_58 : decode prog_4_method_1_code 58 = .ok (.putfield 38, 3) := by decide +kernel
theorem d_Sc_61 : decode prog_4_method_1_code 61 = .ok (.aload_n 0, 1) := by decide +kernel
theorem d_Sc_62 : decode prog_4_method_1_code 62 = .ok (.iconst 0, 1) := by decide +kernel
theorem d_Sc_63 : decode prog_4_method_1_code 63 = .ok (.putfield 41, 3) := by decide +kernel
theorem d_Sc_66 : decode prog_4_method_1_code 66 = .ok (.aload_n 0, 1) := by decide +kernel
theorem d_Sc_67 : decode prog_4_method_1_code 67 = .ok (.iconst 0, 1) := by decide +kernel
theorem d_Sc_68 : decode prog_4_method_1_code 68 = .ok (.putfield 44, 3) := by decide +kernel
theorem d_Sc_71 : decode prog_4_method_1_code 71 = .ok (.return_, 1) := by decide +kernel
set_option maxRecDepth 20000 in
theorem c_Sc (l : Launch) (D : va_G) (cA : Nat → ClassId) (h0 : Nat) : nT l D cA ⟨"LeaseCluster$Scenario", "<init>", "()V"⟩ prog_4_method_1_code 1 rm_Sc h0 (.inr (2, [.null, .null, .null, .null, .int 0, .int 0, .int 0, .int 0, .int 0, .int 0, .int 0])) [] (fun q : Nat × Nat × Nat × Nat => scenC cA h0 q.1 q.2.1 q.2.2.1 q.2.2.2) := by
  refine n_in (by decide) rfl (Nat.le_of_ble_eq_true rfl) (fun Z hl hR hr hin hlk ok => ?_)
  refine n_al ok (j := 0) d_Sc_0 rfl ?_
  refine n_oi ok (gw_in1 181 rfl rfl) (gw_in1 17 rfl rfl) (gw_in1 18 rfl rfl) d_Sc_1 (by rw [hR]; exact Nat.le_of_ble_eq_true rfl) (by rw [hR]; exact Nat.le_of_ble_eq_true rfl) ?_
  refine n_al ok (j := 0) d_Sc_4 rfl ?_
  refine n_bi ok (v := 100) d_Sc_5 (by decide) ?_
  refine n_ni ok (N := 100) rfl (by omega) (gw_in1 62 rfl rfl) (by rw [hR]; exact Nat.le_of_ble_eq_true rfl) (by rw [hR]; exact Nat.le_of_ble_eq_true rfl) d_Sc_7 (fun q1 => ?_)
  refine n_putF ok hin (ci := 2) (f := 0) (j := 1) (v := .ref q1) (ty := (.array .int)) (ws' := [(q1, .inl (cA 0, 100, .inl (fun _ => 0))), (h0, .inr (2, [.ref q1, .null, .null, .null, .int 0, .int 0, .int 0, .int 0, .int 0, .int 0, .int 0]))]) rfl (by decide) (gw_in1 182 rfl rfl) rfl rfl (by decide +kernel) rfl rfl rfl (Nat.le_of_ble_eq_true rfl) rfl d_Sc_9 ?_
  refine n_al ok (j := 0) d_Sc_12 rfl ?_
  refine n_bi ok (v := 34) d_Sc_13 (by decide) ?_
  refine n_ni ok (N := 34) rfl (by omega) (gw_in1 62 rfl rfl) (by rw [hR]; exact Nat.le_of_ble_eq_true rfl) (by rw [hR]; exact Nat.le_of_ble_eq_true rfl) d_Sc_15 (fun q2 => ?_)
  refine n_putF ok hin (ci := 2) (f := 1) (j := 2) (v := .ref q2) (ty := (.array .int)) (ws' := [(q2, .inl (cA 0, 34, .inl (fun _ => 0))), (q1, .inl (cA 0, 100, .inl (fun _ => 0))), (h0, .inr (2, [.ref q1, .ref q2, .null, .null, .int 0, .int 0, .int 0, .int 0, .int 0, .int 0, .int 0]))]) rfl (by decide) (gw_in1 183 rfl rfl) rfl rfl (by decide +kernel) rfl rfl rfl (Nat.le_of_ble_eq_true rfl) rfl d_Sc_17 ?_
  refine n_al ok (j := 0) d_Sc_20 rfl ?_
  refine n_bi ok (v := 102) d_Sc_21 (by decide) ?_
  refine n_ni ok (N := 102) rfl (by omega) (gw_in1 62 rfl rfl) (by rw [hR]; exact Nat.le_of_ble_eq_true rfl) (by rw [hR]; exact Nat.le_of_ble_eq_true rfl) d_Sc_23 (fun q3 => ?_)
  refine n_putF ok hin (ci := 2) (f := 2) (j := 3) (v := .ref q3) (ty := (.array .int)) (ws' := [(q3, .inl (cA 0, 102, .inl (fun _ => 0))), (q2, .inl (cA 0, 34, .inl (fun _ => 0))), (q1, .inl (cA 0, 100, .inl (fun _ => 0))), (h0, .inr (2, [.ref q1, .ref q2, .ref q3, .null, .int 0, .int 0, .int 0, .int 0, .int 0, .int 0, .int 0]))]) rfl (by decide) (gw_in1 185 rfl rfl) rfl rfl (by decide +kernel) rfl rfl rfl (Nat.le_of_ble_eq_true rfl) rfl d_Sc_25 ?_
  refine n_al ok (j := 0) d_Sc_28 rfl ?_
  refine n_bi ok (v := 34) d_Sc_29 (by decide) ?_
  refine n_ni ok (N := 34) rfl (by omega) (gw_in1 62 rfl rfl) (by rw [hR]; exact Nat.le_of_ble_eq_true rfl) (by rw [hR]; exact Nat.le_of_ble_eq_true rfl) d_Sc_31 (fun q4 => ?_)
  refine n_putF ok hin (ci := 2) (f := 3) (j := 4) (v := .ref q4) (ty := (.array .int)) (ws' := [(q4, .inl (cA 0, 34, .inl (fun _ => 0))), (q3, .inl (cA 0, 102, .inl (fun _ => 0))), (q2, .inl (cA 0, 34, .inl (fun _ => 0))), (q1, .inl (cA 0, 100, .inl (fun _ => 0))), (h0, .inr (2, [.ref q1, .ref q2, .ref q3, .ref q4, .int 0, .int 0, .int 0, .int 0, .int 0, .int 0, .int 0]))]) rfl (by decide) (gw_in1 186 rfl rfl) rfl rfl (by decide +kernel) rfl rfl rfl (Nat.le_of_ble_eq_true rfl) rfl d_Sc_33 ?_
  refine n_al ok (j := 0) d_Sc_36 rfl ?_
  refine n_ic ok (v := 0) d_Sc_37 (by decide) ?_
  refine n_put ok (ci := 2) (f := 4) (j := 4) (v := .int 0) (ty := .int) (ws' := [(q4, .inl (cA 0, 34, .inl (fun _ => 0))), (q3, .inl (cA 0, 102, .inl (fun _ => 0))), (q2, .inl (cA 0, 34, .inl (fun _ => 0))), (q1, .inl (cA 0, 100, .inl (fun _ => 0))), (h0, .inr (2, [.ref q1, .ref q2, .ref q3, .ref q4, .int 0, .int 0, .int 0, .int 0, .int 0, .int 0, .int 0]))]) rfl (by decide) (gw_in1 188 rfl rfl) rfl (by decide +kernel) rfl rfl rfl (Nat.le_of_ble_eq_true rfl) rfl d_Sc_38 ?_
  refine n_al ok (j := 0) d_Sc_41 rfl ?_
  refine n_ic ok (v := 0) d_Sc_42 (by decide) ?_
  refine n_put ok (ci := 2) (f := 5) (j := 4) (v := .int 0) (ty := .int) (ws' := [(q4, .inl (cA 0, 34, .inl (fun _ => 0))), (q3, .inl (cA 0, 102, .inl (fun _ => 0))), (q2, .inl (cA 0, 34, .inl (fun _ => 0))), (q1, .inl (cA 0, 100, .inl (fun _ => 0))), (h0, .inr (2, [.ref q1, .ref q2, .ref q3, .ref q4, .int 0, .int 0, .int 0, .int 0, .int 0, .int 0, .int 0]))]) rfl (by decide) (gw_in1 190 rfl rfl) rfl (by decide +kernel) rfl rfl rfl (Nat.le_of_ble_eq_true rfl) rfl d_Sc_43 ?_
  refine n_al ok (j := 0) d_Sc_46 rfl ?_
  refine n_ic ok (v := 0) d_Sc_47 (by decide) ?_
  refine n_put ok (ci := 2) (f := 6) (j := 4) (v := .int 0) (ty := .int) (ws' := [(q4, .inl (cA 0, 34, .inl (fun _ => 0))), (q3, .inl (cA 0, 102, .inl (fun _ => 0))), (q2, .inl (cA 0, 34, .inl (fun _ => 0))), (q1, .inl (cA 0, 100, .inl (fun _ => 0))), (h0, .inr (2, [.ref q1, .ref q2, .ref q3, .ref q4, .int 0, .int 0, .int 0, .int 0, .int 0, .int 0, .int 0]))]) rfl (by decide) (gw_in1 192 rfl rfl) rfl (by decide +kernel) rfl rfl rfl (Nat.le_of_ble_eq_true rfl) rfl d_Sc_48 ?_
  refine n_al ok (j := 0) d_Sc_51 rfl ?_
  refine n_ic ok (v := 0) d_Sc_52 (by decide) ?_
  refine n_put ok (ci := 2) (f := 7) (j := 4) (v := .int 0) (ty := .boolean) (ws' := [(q4, .inl (cA 0, 34, .inl (fun _ => 0))), (q3, .inl (cA 0, 102, .inl (fun _ => 0))), (q2, .inl (cA 0, 34, .inl (fun _ => 0))), (q1, .inl (cA 0, 100, .inl (fun _ => 0))), (h0, .inr (2, [.ref q1, .ref q2, .ref q3, .ref q4, .int 0, .int 0, .int 0, .int 0, .int 0, .int 0, .int 0]))]) rfl (by decide) (gw_in1 194 rfl rfl) rfl (by decide +kernel) rfl rfl rfl (Nat.le_of_ble_eq_true rfl) rfl d_Sc_53 ?_
  refine n_al ok (j := 0) d_Sc_56 rfl ?_
  refine n_ic ok (v := 0) d_Sc_57 (by decide) ?_
  refine n_put ok (ci := 2) (f := 8) (j := 4) (v := .int 0) (ty := .int) (ws' := [(q4, .inl (cA 0, 34, .inl (fun _ => 0))), (q3, .inl (cA 0, 102, .inl (fun _ => 0))), (q2, .inl (cA 0, 34, .inl (fun _ => 0))), (q1, .inl (cA 0, 100, .inl (fun _ => 0))), (h0, .inr (2, [.ref q1, .ref q2, .ref q3, .ref q4, .int 0, .int 0, .int 0, .int 0, .int 0, .int 0, .int 0]))]) rfl (by decide) (gw_in1 195 rfl rfl) rfl (by decide +kernel) rfl rfl rfl (Nat.le_of_ble_eq_true rfl) rfl d_Sc_58 ?_
  refine n_al ok (j := 0) d_Sc_61 rfl ?_
  refine n_ic ok (v := 0) d_Sc_62 (by decide) ?_
  refine n_put ok (ci := 2) (f := 9) (j := 4) (v := .int 0) (ty := .int) (ws' := [(q4, .inl (cA 0, 34, .inl (fun _ => 0))), (q3, .inl (cA 0, 102, .inl (fun _ => 0))), (q2, .inl (cA 0, 34, .inl (fun _ => 0))), (q1, .inl (cA 0, 100, .inl (fun _ => 0))), (h0, .inr (2, [.ref q1, .ref q2, .ref q3, .ref q4, .int 0, .int 0, .int 0, .int 0, .int 0, .int 0, .int 0]))]) rfl (by decide) (gw_in1 196 rfl rfl) rfl (by decide +kernel) rfl rfl rfl (Nat.le_of_ble_eq_true rfl) rfl d_Sc_63 ?_
  refine n_al ok (j := 0) d_Sc_66 rfl ?_
  refine n_ic ok (v := 0) d_Sc_67 (by decide) ?_
  refine n_put ok (ci := 2) (f := 10) (j := 4) (v := .int 0) (ty := .int) (ws' := [(q4, .inl (cA 0, 34, .inl (fun _ => 0))), (q3, .inl (cA 0, 102, .inl (fun _ => 0))), (q2, .inl (cA 0, 34, .inl (fun _ => 0))), (q1, .inl (cA 0, 100, .inl (fun _ => 0))), (h0, .inr (2, [.ref q1, .ref q2, .ref q3, .ref q4, .int 0, .int 0, .int 0, .int 0, .int 0, .int 0, .int 0]))]) rfl (by decide) (gw_in1 197 rfl rfl) rfl (by decide +kernel) rfl rfl rfl (Nat.le_of_ble_eq_true rfl) rfl d_Sc_68 ?_
  exact n_ret ok rfl hr hlk d_Sc_71 rfl rfl (q1, q2, q3, q4) rfl
