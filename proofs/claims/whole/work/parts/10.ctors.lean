theorem rn_new_byte (cA : ClassId) (n : Nat) : vp_cell cA (n, .inl (fun _ => 0)) = arrV cA n (fun _ => defaultValue .byte) := rfl
theorem rn_new_int (cA : ClassId) (n : Nat) : vp_cell cA (n, .inl (fun _ => 0)) = arrV cA n (fun _ => defaultValue .int) := rfl
/-- the reference's cells when it is new -/
abbrev wM0 (h : Nat) (q : Nat → Nat) (cs : Nat → ClassId) : va_W := [(h, .inr (1, [.ref (q 1), .int (nI 0), .ref (q 2), .ref (q 3), .ref (q 4), .ref (q 5), .int (nI 0)])), (q 1, .inl (cs 1, 60, .inl (fun _ => 0))), (q 2, .inl (cs 2, 12000, .inl (fun _ => 0))), (q 3, .inl (cs 3, 200, .inl (fun _ => 0))), (q 4, .inl (cs 4, 200, .inl (fun _ => 0))), (q 5, .inl (cs 5, 200, .inl (fun _ => 0)))]
theorem wM0_eq (h : Nat) (q : Nat → Nat) (cs : Nat → ClassId) : wM h q cs (fun _ => 0) 0 (fun _ => 0) (fun _ => 0) (fun _ => 0) (fun _ => 0) 0 = wM0 h q cs := by
  unfold wM wM0
  rw [rn_k_0]
abbrev rmX0_init : Room := { frames := 1, cells := 5, slots := 12660, locals := 20 }
set_option maxHeartbeats 4000000 in
set_option maxRecDepth 100000 in
theorem kX0_init (l : Launch) (D : va_G) (h sz : Nat) : Met l yX0_init wsX0_init rmX0_init (wr_P D vwCl [] [.ref h] [(h, .inr (0, [.null, .int 0, .null, .null, .null, .null, .int 0]))] sz) (ct_Q (S := (Nat → Nat) × (Nat → ClassId)) D vwCl (fun u => tX u.2) [(h, .inr (0, [.null, .int 0, .null, .null, .null, .null, .int 0]))] (fun u => wX h u.1 u.2 (fun _ => 0) 0 (fun _ => 0) (fun _ => 0) (fun _ => 0) (fun _ => 0) 0) sz) 5 12660 (va_A [(h, .inr (0, [.null, .int 0, .null, .null, .null, .null, .int 0]))] sz) := by
  refine ct_of (cc := cX0_init) (maxL := 1) (by decide) rfl (Nat.le_of_ble_eq_true rfl) ?_
  intro p e s m args below meth c ls Q A hx hb hml hown hts hnm hK hA hP hD hS hl hret
  have hown : s.vm.findClass RX0 = some m.cls := hown
  have hin : ∀ w ∈ wsX00, w ∈ wsX0_init := by decide +kernel
  have hin2 : meth.name = "<init>" := hnm
  have hl : lv_has ls 1 [(0, .ref h)] := hl
  refine lv_aload_n hx hb dX0_init_0 rfl (lv_at hl 0 rfl) ?_
  refine W.objInit hx hb hown (hts (.methodLink RX0 1 objectInit) (by decide +kernel)) (hts (.instanceMethod objectInit) (by decide +kernel)) (hts _ (List.mem_cons_of_mem _ (List.mem_append_left _ (List.mem_of_getElem? (i := 2) rfl)))) rfl (by rw [hml]; exact hl.1) rfl dX0_init_1 (Nat.le_of_ble_eq_true rfl) (Nat.le_of_ble_eq_true rfl) ?_
  refine W.eq (g2 := F0 m 4 ls []) rfl ?_
  refine lv_aload_n hx hb dX0_init_4 rfl (lv_at hl 0 rfl) ?_
  refine lv_bipush (v := nI 60) hx hb dX0_init_5 (by decide) ?_
  refine va_newa (atype := .byte) (n := nI 60) (ty := .byte) (N' := 60) (a0 := (60, .inl (fun _ => 0))) hx hb (hts (.arrayClass .byte) (by decide +kernel)) rfl hK hP hD hS hA (fun cA => rn_new_byte cA 60) (nI_pos (n := 60) (by decide)) (nI_clamp (n := 60) (by decide)) (Nat.le_of_ble_eq_true rfl) (Nat.le_of_ble_eq_true rfl) (Nat.le_of_ble_eq_true rfl) dX0_init_7 (fun q1 c1 H hK hP hD hS => ?_)
  refine W.widen (k := 1) (n := 60) (Nat.le_of_ble_eq_true rfl) (Nat.le_of_ble_eq_true rfl) ?_
  have hK : va_K D vwCl [(c1, .byte)] s := hK
  have hP : va_P D vwCl ([(h, .inr (0, [.null, .int 0, .null, .null, .null, .null, .int 0])), (q1, .inl (c1, 60, .inl (fun _ => 0)))]) H := hP
  have hD : va_D A ([(h, .inr (0, [.null, .int 0, .null, .null, .null, .null, .int 0])), (q1, .inl (c1, 60, .inl (fun _ => 0)))]) := hD
  refine va_putF (D := D) (ci := 0) (v := .ref q1) (ty := (.array .byte)) (C := RX0) (T := TX0) (N := 7) hx hb hts hin tyX0 tyX0_ok nmX0 hown hK hP hD hS 0 rfl rfl 0 (by decide) (hts (.fieldLink RX0 9 "ReferredNames" "hand" "[B") (by decide +kernel)) (fun _ h9 => h9) rfl hin2 rfl (by decide +kernel) rfl rfl (Nat.le_of_ble_eq_true rfl) dX0_init_9 (fun H locs hP hD hS => ?_)
  have hP : va_P D vwCl ([(h, .inr (0, [.ref q1, .int 0, .null, .null, .null, .null, .int 0])), (q1, .inl (c1, 60, .inl (fun _ => 0)))]) H := hP
  have hD : va_D A ([(h, .inr (0, [.ref q1, .int 0, .null, .null, .null, .null, .int 0])), (q1, .inl (c1, 60, .inl (fun _ => 0)))]) := hD
  refine lv_aload_n hx hb dX0_init_12 rfl (lv_at hl 0 rfl) ?_
  refine lv_iconst (v := nI 0) hx hb dX0_init_13 (by decide) ?_
  refine va_put (D := D) (ci := 0) (v := .int (nI 0)) (ty := .int) (C := RX0) (T := TX0) (N := 7) hx hb hts hin tyX0 tyX0_ok nmX0 hown hK hP hD hS 0 rfl rfl 1 (by decide) (hts (.fieldLink RX0 13 "ReferredNames" "handLength" "I") (by decide +kernel)) (fun _ h9 => h9) rfl (by decide +kernel) rfl rfl (Nat.le_of_ble_eq_true rfl) dX0_init_14 (fun H locs hP hD hS => ?_)
  have hP : va_P D vwCl ([(h, .inr (0, [.ref q1, .int (nI 0), .null, .null, .null, .null, .int 0])), (q1, .inl (c1, 60, .inl (fun _ => 0)))]) H := hP
  have hD : va_D A ([(h, .inr (0, [.ref q1, .int (nI 0), .null, .null, .null, .null, .int 0])), (q1, .inl (c1, 60, .inl (fun _ => 0)))]) := hD
  refine lv_aload_n hx hb dX0_init_17 rfl (lv_at hl 0 rfl) ?_
  refine lv_sipush (v := nI 12000) hx hb dX0_init_18 (by decide) ?_
  refine va_newa (atype := .byte) (n := nI 12000) (ty := .byte) (N' := 12000) (a0 := (12000, .inl (fun _ => 0))) hx hb (hts (.arrayClass .byte) (by decide +kernel)) rfl hK hP hD hS hA (fun cA => rn_new_byte cA 12000) (nI_pos (n := 12000) (by decide)) (nI_clamp (n := 12000) (by decide)) (Nat.le_of_ble_eq_true rfl) (Nat.le_of_ble_eq_true rfl) (Nat.le_of_ble_eq_true rfl) dX0_init_21 (fun q2 c2 H hK hP hD hS => ?_)
  refine W.widen (k := 2) (n := 12060) (Nat.le_of_ble_eq_true rfl) (Nat.le_of_ble_eq_true rfl) ?_
  have hK : va_K D vwCl [(c1, .byte), (c2, .byte)] s := hK
  have hP : va_P D vwCl ([(h, .inr (0, [.ref q1, .int (nI 0), .null, .null, .null, .null, .int 0])), (q1, .inl (c1, 60, .inl (fun _ => 0))), (q2, .inl (c2, 12000, .inl (fun _ => 0)))]) H := hP
  have hD : va_D A ([(h, .inr (0, [.ref q1, .int (nI 0), .null, .null, .null, .null, .int 0])), (q1, .inl (c1, 60, .inl (fun _ => 0))), (q2, .inl (c2, 12000, .inl (fun _ => 0)))]) := hD
  refine va_putF (D := D) (ci := 0) (v := .ref q2) (ty := (.array .byte)) (C := RX0) (T := TX0) (N := 7) hx hb hts hin tyX0 tyX0_ok nmX0 hown hK hP hD hS 0 rfl rfl 2 (by decide) (hts (.fieldLink RX0 17 "ReferredNames" "bytes" "[B") (by decide +kernel)) (fun _ h9 => h9) rfl hin2 rfl (by decide +kernel) rfl rfl (Nat.le_of_ble_eq_true rfl) dX0_init_23 (fun H locs hP hD hS => ?_)
  have hP : va_P D vwCl ([(h, .inr (0, [.ref q1, .int (nI 0), .ref q2, .null, .null, .null, .int 0])), (q1, .inl (c1, 60, .inl (fun _ => 0))), (q2, .inl (c2, 12000, .inl (fun _ => 0)))]) H := hP
  have hD : va_D A ([(h, .inr (0, [.ref q1, .int (nI 0), .ref q2, .null, .null, .null, .int 0])), (q1, .inl (c1, 60, .inl (fun _ => 0))), (q2, .inl (c2, 12000, .inl (fun _ => 0)))]) := hD
  refine lv_aload_n hx hb dX0_init_26 rfl (lv_at hl 0 rfl) ?_
  refine lv_sipush (v := nI 200) hx hb dX0_init_27 (by decide) ?_
  refine va_newa (atype := .int) (n := nI 200) (ty := .int) (N' := 200) (a0 := (200, .inl (fun _ => 0))) hx hb (hts (.arrayClass .int) (by decide +kernel)) rfl hK hP hD hS hA (fun cA => rn_new_int cA 200) (nI_pos (n := 200) (by decide)) (nI_clamp (n := 200) (by decide)) (Nat.le_of_ble_eq_true rfl) (Nat.le_of_ble_eq_true rfl) (Nat.le_of_ble_eq_true rfl) dX0_init_30 (fun q3 c3 H hK hP hD hS => ?_)
  refine W.widen (k := 3) (n := 12260) (Nat.le_of_ble_eq_true rfl) (Nat.le_of_ble_eq_true rfl) ?_
  have hK : va_K D vwCl [(c1, .byte), (c2, .byte), (c3, .int)] s := hK
  have hP : va_P D vwCl ([(h, .inr (0, [.ref q1, .int (nI 0), .ref q2, .null, .null, .null, .int 0])), (q1, .inl (c1, 60, .inl (fun _ => 0))), (q2, .inl (c2, 12000, .inl (fun _ => 0))), (q3, .inl (c3, 200, .inl (fun _ => 0)))]) H := hP
  have hD : va_D A ([(h, .inr (0, [.ref q1, .int (nI 0), .ref q2, .null, .null, .null, .int 0])), (q1, .inl (c1, 60, .inl (fun _ => 0))), (q2, .inl (c2, 12000, .inl (fun _ => 0))), (q3, .inl (c3, 200, .inl (fun _ => 0)))]) := hD
  refine va_putF (D := D) (ci := 0) (v := .ref q3) (ty := (.array .int)) (C := RX0) (T := TX0) (N := 7) hx hb hts hin tyX0 tyX0_ok nmX0 hown hK hP hD hS 0 rfl rfl 3 (by decide) (hts (.fieldLink RX0 20 "ReferredNames" "lengths" "[I") (by decide +kernel)) (fun _ h9 => h9) rfl hin2 rfl (by decide +kernel) rfl rfl (Nat.le_of_ble_eq_true rfl) dX0_init_32 (fun H locs hP hD hS => ?_)
  have hP : va_P D vwCl ([(h, .inr (0, [.ref q1, .int (nI 0), .ref q2, .ref q3, .null, .null, .int 0])), (q1, .inl (c1, 60, .inl (fun _ => 0))), (q2, .inl (c2, 12000, .inl (fun _ => 0))), (q3, .inl (c3, 200, .inl (fun _ => 0)))]) H := hP
  have hD : va_D A ([(h, .inr (0, [.ref q1, .int (nI 0), .ref q2, .ref q3, .null, .null, .int 0])), (q1, .inl (c1, 60, .inl (fun _ => 0))), (q2, .inl (c2, 12000, .inl (fun _ => 0))), (q3, .inl (c3, 200, .inl (fun _ => 0)))]) := hD
  refine lv_aload_n hx hb dX0_init_35 rfl (lv_at hl 0 rfl) ?_
  refine lv_sipush (v := nI 200) hx hb dX0_init_36 (by decide) ?_
  refine va_newa (atype := .int) (n := nI 200) (ty := .int) (N' := 200) (a0 := (200, .inl (fun _ => 0))) hx hb (hts (.arrayClass .int) (by decide +kernel)) rfl hK hP hD hS hA (fun cA => rn_new_int cA 200) (nI_pos (n := 200) (by decide)) (nI_clamp (n := 200) (by decide)) (Nat.le_of_ble_eq_true rfl) (Nat.le_of_ble_eq_true rfl) (Nat.le_of_ble_eq_true rfl) dX0_init_39 (fun q4 c4 H hK hP hD hS => ?_)
  refine W.widen (k := 4) (n := 12460) (Nat.le_of_ble_eq_true rfl) (Nat.le_of_ble_eq_true rfl) ?_
  have hK : va_K D vwCl [(c1, .byte), (c2, .byte), (c3, .int), (c4, .int)] s := hK
  have hP : va_P D vwCl ([(h, .inr (0, [.ref q1, .int (nI 0), .ref q2, .ref q3, .null, .null, .int 0])), (q1, .inl (c1, 60, .inl (fun _ => 0))), (q2, .inl (c2, 12000, .inl (fun _ => 0))), (q3, .inl (c3, 200, .inl (fun _ => 0))), (q4, .inl (c4, 200, .inl (fun _ => 0)))]) H := hP
  have hD : va_D A ([(h, .inr (0, [.ref q1, .int (nI 0), .ref q2, .ref q3, .null, .null, .int 0])), (q1, .inl (c1, 60, .inl (fun _ => 0))), (q2, .inl (c2, 12000, .inl (fun _ => 0))), (q3, .inl (c3, 200, .inl (fun _ => 0))), (q4, .inl (c4, 200, .inl (fun _ => 0)))]) := hD
  refine va_putF (D := D) (ci := 0) (v := .ref q4) (ty := (.array .int)) (C := RX0) (T := TX0) (N := 7) hx hb hts hin tyX0 tyX0_ok nmX0 hown hK hP hD hS 0 rfl rfl 4 (by decide) (hts (.fieldLink RX0 24 "ReferredNames" "givings" "[I") (by decide +kernel)) (fun _ h9 => h9) rfl hin2 rfl (by decide +kernel) rfl rfl (Nat.le_of_ble_eq_true rfl) dX0_init_41 (fun H locs hP hD hS => ?_)
  have hP : va_P D vwCl ([(h, .inr (0, [.ref q1, .int (nI 0), .ref q2, .ref q3, .ref q4, .null, .int 0])), (q1, .inl (c1, 60, .inl (fun _ => 0))), (q2, .inl (c2, 12000, .inl (fun _ => 0))), (q3, .inl (c3, 200, .inl (fun _ => 0))), (q4, .inl (c4, 200, .inl (fun _ => 0)))]) H := hP
  have hD : va_D A ([(h, .inr (0, [.ref q1, .int (nI 0), .ref q2, .ref q3, .ref q4, .null, .int 0])), (q1, .inl (c1, 60, .inl (fun _ => 0))), (q2, .inl (c2, 12000, .inl (fun _ => 0))), (q3, .inl (c3, 200, .inl (fun _ => 0))), (q4, .inl (c4, 200, .inl (fun _ => 0)))]) := hD
  refine lv_aload_n hx hb dX0_init_44 rfl (lv_at hl 0 rfl) ?_
  refine lv_sipush (v := nI 200) hx hb dX0_init_45 (by decide) ?_
  refine va_newa (atype := .int) (n := nI 200) (ty := .int) (N' := 200) (a0 := (200, .inl (fun _ => 0))) hx hb (hts (.arrayClass .int) (by decide +kernel)) rfl hK hP hD hS hA (fun cA => rn_new_int cA 200) (nI_pos (n := 200) (by decide)) (nI_clamp (n := 200) (by decide)) (Nat.le_of_ble_eq_true rfl) (Nat.le_of_ble_eq_true rfl) (Nat.le_of_ble_eq_true rfl) dX0_init_48 (fun q5 c5 H hK hP hD hS => ?_)
  refine W.widen (k := 5) (n := 12660) (Nat.le_of_ble_eq_true rfl) (Nat.le_of_ble_eq_true rfl) ?_
  have hK : va_K D vwCl [(c1, .byte), (c2, .byte), (c3, .int), (c4, .int), (c5, .int)] s := hK
  have hP : va_P D vwCl ([(h, .inr (0, [.ref q1, .int (nI 0), .ref q2, .ref q3, .ref q4, .null, .int 0])), (q1, .inl (c1, 60, .inl (fun _ => 0))), (q2, .inl (c2, 12000, .inl (fun _ => 0))), (q3, .inl (c3, 200, .inl (fun _ => 0))), (q4, .inl (c4, 200, .inl (fun _ => 0))), (q5, .inl (c5, 200, .inl (fun _ => 0)))]) H := hP
  have hD : va_D A ([(h, .inr (0, [.ref q1, .int (nI 0), .ref q2, .ref q3, .ref q4, .null, .int 0])), (q1, .inl (c1, 60, .inl (fun _ => 0))), (q2, .inl (c2, 12000, .inl (fun _ => 0))), (q3, .inl (c3, 200, .inl (fun _ => 0))), (q4, .inl (c4, 200, .inl (fun _ => 0))), (q5, .inl (c5, 200, .inl (fun _ => 0)))]) := hD
  refine va_putF (D := D) (ci := 0) (v := .ref q5) (ty := (.array .int)) (C := RX0) (T := TX0) (N := 7) hx hb hts hin tyX0 tyX0_ok nmX0 hown hK hP hD hS 0 rfl rfl 5 (by decide) (hts (.fieldLink RX0 27 "ReferredNames" "referrals" "[I") (by decide +kernel)) (fun _ h9 => h9) rfl hin2 rfl (by decide +kernel) rfl rfl (Nat.le_of_ble_eq_true rfl) dX0_init_50 (fun H locs hP hD hS => ?_)
  have hP : va_P D vwCl ([(h, .inr (0, [.ref q1, .int (nI 0), .ref q2, .ref q3, .ref q4, .ref q5, .int 0])), (q1, .inl (c1, 60, .inl (fun _ => 0))), (q2, .inl (c2, 12000, .inl (fun _ => 0))), (q3, .inl (c3, 200, .inl (fun _ => 0))), (q4, .inl (c4, 200, .inl (fun _ => 0))), (q5, .inl (c5, 200, .inl (fun _ => 0)))]) H := hP
  have hD : va_D A ([(h, .inr (0, [.ref q1, .int (nI 0), .ref q2, .ref q3, .ref q4, .ref q5, .int 0])), (q1, .inl (c1, 60, .inl (fun _ => 0))), (q2, .inl (c2, 12000, .inl (fun _ => 0))), (q3, .inl (c3, 200, .inl (fun _ => 0))), (q4, .inl (c4, 200, .inl (fun _ => 0))), (q5, .inl (c5, 200, .inl (fun _ => 0)))]) := hD
  refine lv_aload_n hx hb dX0_init_53 rfl (lv_at hl 0 rfl) ?_
  refine lv_iconst (v := nI 0) hx hb dX0_init_54 (by decide) ?_
  refine va_put (D := D) (ci := 0) (v := .int (nI 0)) (ty := .int) (C := RX0) (T := TX0) (N := 7) hx hb hts hin tyX0 tyX0_ok nmX0 hown hK hP hD hS 0 rfl rfl 6 (by decide) (hts (.fieldLink RX0 30 "ReferredNames" "known" "I") (by decide +kernel)) (fun _ h9 => h9) rfl (by decide +kernel) rfl rfl (Nat.le_of_ble_eq_true rfl) dX0_init_55 (fun H locs hP hD hS => ?_)
  have hP : va_P D vwCl ([(h, .inr (0, [.ref q1, .int (nI 0), .ref q2, .ref q3, .ref q4, .ref q5, .int (nI 0)])), (q1, .inl (c1, 60, .inl (fun _ => 0))), (q2, .inl (c2, 12000, .inl (fun _ => 0))), (q3, .inl (c3, 200, .inl (fun _ => 0))), (q4, .inl (c4, 200, .inl (fun _ => 0))), (q5, .inl (c5, 200, .inl (fun _ => 0)))]) H := hP
  have hD : va_D A ([(h, .inr (0, [.ref q1, .int (nI 0), .ref q2, .ref q3, .ref q4, .ref q5, .int (nI 0)])), (q1, .inl (c1, 60, .inl (fun _ => 0))), (q2, .inl (c2, 12000, .inl (fun _ => 0))), (q3, .inl (c3, 200, .inl (fun _ => 0))), (q4, .inl (c4, 200, .inl (fun _ => 0))), (q5, .inl (c5, 200, .inl (fun _ => 0)))]) := hD
  obtain ⟨qq, rfl, rfl, rfl, rfl, rfl⟩ : ∃ qq : Nat → Nat, qq 1 = q1 ∧ qq 2 = q2 ∧ qq 3 = q3 ∧ qq 4 = q4 ∧ qq 5 = q5 := ⟨fun i => if i = 1 then q1 else if i = 2 then q2 else if i = 3 then q3 else if i = 4 then q4 else q5, rfl, rfl, rfl, rfl, rfl⟩
  obtain ⟨cq, rfl, rfl, rfl, rfl, rfl⟩ : ∃ cq : Nat → ClassId, cq 1 = c1 ∧ cq 2 = c2 ∧ cq 3 = c3 ∧ cq 4 = c4 ∧ cq 5 = c5 := ⟨fun i => if i = 1 then c1 else if i = 2 then c2 else if i = 3 then c3 else if i = 4 then c4 else c5, rfl, rfl, rfl, rfl, rfl⟩
  exact hret (qq, cq) _ _ _ _ dX0_init_58 hK hP hD hS
abbrev rmX1_init : Room := { frames := 1, cells := 5, slots := 12660, locals := 20 }
set_option maxHeartbeats 4000000 in
set_option maxRecDepth 100000 in
theorem kX1_init (l : Launch) (D : va_G) (h sz : Nat) : Met l yX1_init wsX1_init rmX1_init (wr_P D vwCl [] [.ref h] [(h, .inr (1, [.null, .int 0, .null, .null, .null, .null, .int 0]))] sz) (ct_Q (S := (Nat → Nat) × (Nat → ClassId)) D vwCl (fun u => tM u.2) [(h, .inr (1, [.null, .int 0, .null, .null, .null, .null, .int 0]))] (fun u => wM0 h u.1 u.2) sz) 5 12660 (va_A [(h, .inr (1, [.null, .int 0, .null, .null, .null, .null, .int 0]))] sz) := by
  refine ct_of (cc := cX1_init) (maxL := 1) (by decide) rfl (Nat.le_of_ble_eq_true rfl) ?_
  intro p e s m args below meth c ls Q A hx hb hml hown hts hnm hK hA hP hD hS hl hret
  have hown : s.vm.findClass RX1 = some m.cls := hown
  have hin : ∀ w ∈ wsX10, w ∈ wsX1_init := by decide +kernel
  have hin2 : meth.name = "<init>" := hnm
  have hl : lv_has ls 1 [(0, .ref h)] := hl
  refine lv_aload_n hx hb dX1_init_0 rfl (lv_at hl 0 rfl) ?_
  refine W.objInit hx hb hown (hts (.methodLink RX1 1 objectInit) (by decide +kernel)) (hts (.instanceMethod objectInit) (by decide +kernel)) (hts _ (List.mem_cons_of_mem _ (List.mem_append_left _ (List.mem_of_getElem? (i := 2) rfl)))) rfl (by rw [hml]; exact hl.1) rfl dX1_init_1 (Nat.le_of_ble_eq_true rfl) (Nat.le_of_ble_eq_true rfl) ?_
  refine W.eq (g2 := F0 m 4 ls []) rfl ?_
  refine lv_aload_n hx hb dX1_init_4 rfl (lv_at hl 0 rfl) ?_
  refine lv_bipush (v := nI 60) hx hb dX1_init_5 (by decide) ?_
  refine va_newa (atype := .int) (n := nI 60) (ty := .int) (N' := 60) (a0 := (60, .inl (fun _ => 0))) hx hb (hts (.arrayClass .int) (by decide +kernel)) rfl hK hP hD hS hA (fun cA => rn_new_int cA 60) (nI_pos (n := 60) (by decide)) (nI_clamp (n := 60) (by decide)) (Nat.le_of_ble_eq_true rfl) (Nat.le_of_ble_eq_true rfl) (Nat.le_of_ble_eq_true rfl) dX1_init_7 (fun q1 c1 H hK hP hD hS => ?_)
  refine W.widen (k := 1) (n := 60) (Nat.le_of_ble_eq_true rfl) (Nat.le_of_ble_eq_true rfl) ?_
  have hK : va_K D vwCl [(c1, .int)] s := hK
  have hP : va_P D vwCl ([(h, .inr (1, [.null, .int 0, .null, .null, .null, .null, .int 0])), (q1, .inl (c1, 60, .inl (fun _ => 0)))]) H := hP
  have hD : va_D A ([(h, .inr (1, [.null, .int 0, .null, .null, .null, .null, .int 0])), (q1, .inl (c1, 60, .inl (fun _ => 0)))]) := hD
  refine va_putF (D := D) (ci := 1) (v := .ref q1) (ty := (.array .int)) (C := RX1) (T := TX1) (N := 7) hx hb hts hin tyX1 tyX1_ok nmX1 hown hK hP hD hS 0 rfl rfl 0 (by decide) (hts (.fieldLink RX1 7 "ReferredNamesModel" "hand" "[I") (by decide +kernel)) (fun _ h9 => h9) rfl hin2 rfl (by decide +kernel) rfl rfl (Nat.le_of_ble_eq_true rfl) dX1_init_9 (fun H locs hP hD hS => ?_)
  have hP : va_P D vwCl ([(h, .inr (1, [.ref q1, .int 0, .null, .null, .null, .null, .int 0])), (q1, .inl (c1, 60, .inl (fun _ => 0)))]) H := hP
  have hD : va_D A ([(h, .inr (1, [.ref q1, .int 0, .null, .null, .null, .null, .int 0])), (q1, .inl (c1, 60, .inl (fun _ => 0)))]) := hD
  refine lv_aload_n hx hb dX1_init_12 rfl (lv_at hl 0 rfl) ?_
  refine lv_sipush (v := nI 12000) hx hb dX1_init_13 (by decide) ?_
  refine va_newa (atype := .int) (n := nI 12000) (ty := .int) (N' := 12000) (a0 := (12000, .inl (fun _ => 0))) hx hb (hts (.arrayClass .int) (by decide +kernel)) rfl hK hP hD hS hA (fun cA => rn_new_int cA 12000) (nI_pos (n := 12000) (by decide)) (nI_clamp (n := 12000) (by decide)) (Nat.le_of_ble_eq_true rfl) (Nat.le_of_ble_eq_true rfl) (Nat.le_of_ble_eq_true rfl) dX1_init_16 (fun q2 c2 H hK hP hD hS => ?_)
  refine W.widen (k := 2) (n := 12060) (Nat.le_of_ble_eq_true rfl) (Nat.le_of_ble_eq_true rfl) ?_
  have hK : va_K D vwCl [(c1, .int), (c2, .int)] s := hK
  have hP : va_P D vwCl ([(h, .inr (1, [.ref q1, .int 0, .null, .null, .null, .null, .int 0])), (q1, .inl (c1, 60, .inl (fun _ => 0))), (q2, .inl (c2, 12000, .inl (fun _ => 0)))]) H := hP
  have hD : va_D A ([(h, .inr (1, [.ref q1, .int 0, .null, .null, .null, .null, .int 0])), (q1, .inl (c1, 60, .inl (fun _ => 0))), (q2, .inl (c2, 12000, .inl (fun _ => 0)))]) := hD
  refine va_putF (D := D) (ci := 1) (v := .ref q2) (ty := (.array .int)) (C := RX1) (T := TX1) (N := 7) hx hb hts hin tyX1 tyX1_ok nmX1 hown hK hP hD hS 0 rfl rfl 2 (by decide) (hts (.fieldLink RX1 13 "ReferredNamesModel" "bytes" "[I") (by decide +kernel)) (fun _ h9 => h9) rfl hin2 rfl (by decide +kernel) rfl rfl (Nat.le_of_ble_eq_true rfl) dX1_init_18 (fun H locs hP hD hS => ?_)
  have hP : va_P D vwCl ([(h, .inr (1, [.ref q1, .int 0, .ref q2, .null, .null, .null, .int 0])), (q1, .inl (c1, 60, .inl (fun _ => 0))), (q2, .inl (c2, 12000, .inl (fun _ => 0)))]) H := hP
  have hD : va_D A ([(h, .inr (1, [.ref q1, .int 0, .ref q2, .null, .null, .null, .int 0])), (q1, .inl (c1, 60, .inl (fun _ => 0))), (q2, .inl (c2, 12000, .inl (fun _ => 0)))]) := hD
  refine lv_aload_n hx hb dX1_init_21 rfl (lv_at hl 0 rfl) ?_
  refine lv_sipush (v := nI 200) hx hb dX1_init_22 (by decide) ?_
  refine va_newa (atype := .int) (n := nI 200) (ty := .int) (N' := 200) (a0 := (200, .inl (fun _ => 0))) hx hb (hts (.arrayClass .int) (by decide +kernel)) rfl hK hP hD hS hA (fun cA => rn_new_int cA 200) (nI_pos (n := 200) (by decide)) (nI_clamp (n := 200) (by decide)) (Nat.le_of_ble_eq_true rfl) (Nat.le_of_ble_eq_true rfl) (Nat.le_of_ble_eq_true rfl) dX1_init_25 (fun q3 c3 H hK hP hD hS => ?_)
  refine W.widen (k := 3) (n := 12260) (Nat.le_of_ble_eq_true rfl) (Nat.le_of_ble_eq_true rfl) ?_
  have hK : va_K D vwCl [(c1, .int), (c2, .int), (c3, .int)] s := hK
  have hP : va_P D vwCl ([(h, .inr (1, [.ref q1, .int 0, .ref q2, .null, .null, .null, .int 0])), (q1, .inl (c1, 60, .inl (fun _ => 0))), (q2, .inl (c2, 12000, .inl (fun _ => 0))), (q3, .inl (c3, 200, .inl (fun _ => 0)))]) H := hP
  have hD : va_D A ([(h, .inr (1, [.ref q1, .int 0, .ref q2, .null, .null, .null, .int 0])), (q1, .inl (c1, 60, .inl (fun _ => 0))), (q2, .inl (c2, 12000, .inl (fun _ => 0))), (q3, .inl (c3, 200, .inl (fun _ => 0)))]) := hD
  refine va_putF (D := D) (ci := 1) (v := .ref q3) (ty := (.array .int)) (C := RX1) (T := TX1) (N := 7) hx hb hts hin tyX1 tyX1_ok nmX1 hown hK hP hD hS 0 rfl rfl 3 (by decide) (hts (.fieldLink RX1 16 "ReferredNamesModel" "sizes" "[I") (by decide +kernel)) (fun _ h9 => h9) rfl hin2 rfl (by decide +kernel) rfl rfl (Nat.le_of_ble_eq_true rfl) dX1_init_27 (fun H locs hP hD hS => ?_)
  have hP : va_P D vwCl ([(h, .inr (1, [.ref q1, .int 0, .ref q2, .ref q3, .null, .null, .int 0])), (q1, .inl (c1, 60, .inl (fun _ => 0))), (q2, .inl (c2, 12000, .inl (fun _ => 0))), (q3, .inl (c3, 200, .inl (fun _ => 0)))]) H := hP
  have hD : va_D A ([(h, .inr (1, [.ref q1, .int 0, .ref q2, .ref q3, .null, .null, .int 0])), (q1, .inl (c1, 60, .inl (fun _ => 0))), (q2, .inl (c2, 12000, .inl (fun _ => 0))), (q3, .inl (c3, 200, .inl (fun _ => 0)))]) := hD
  refine lv_aload_n hx hb dX1_init_30 rfl (lv_at hl 0 rfl) ?_
  refine lv_sipush (v := nI 200) hx hb dX1_init_31 (by decide) ?_
  refine va_newa (atype := .int) (n := nI 200) (ty := .int) (N' := 200) (a0 := (200, .inl (fun _ => 0))) hx hb (hts (.arrayClass .int) (by decide +kernel)) rfl hK hP hD hS hA (fun cA => rn_new_int cA 200) (nI_pos (n := 200) (by decide)) (nI_clamp (n := 200) (by decide)) (Nat.le_of_ble_eq_true rfl) (Nat.le_of_ble_eq_true rfl) (Nat.le_of_ble_eq_true rfl) dX1_init_34 (fun q4 c4 H hK hP hD hS => ?_)
  refine W.widen (k := 4) (n := 12460) (Nat.le_of_ble_eq_true rfl) (Nat.le_of_ble_eq_true rfl) ?_
  have hK : va_K D vwCl [(c1, .int), (c2, .int), (c3, .int), (c4, .int)] s := hK
  have hP : va_P D vwCl ([(h, .inr (1, [.ref q1, .int 0, .ref q2, .ref q3, .null, .null, .int 0])), (q1, .inl (c1, 60, .inl (fun _ => 0))), (q2, .inl (c2, 12000, .inl (fun _ => 0))), (q3, .inl (c3, 200, .inl (fun _ => 0))), (q4, .inl (c4, 200, .inl (fun _ => 0)))]) H := hP
  have hD : va_D A ([(h, .inr (1, [.ref q1, .int 0, .ref q2, .ref q3, .null, .null, .int 0])), (q1, .inl (c1, 60, .inl (fun _ => 0))), (q2, .inl (c2, 12000, .inl (fun _ => 0))), (q3, .inl (c3, 200, .inl (fun _ => 0))), (q4, .inl (c4, 200, .inl (fun _ => 0)))]) := hD
  refine va_putF (D := D) (ci := 1) (v := .ref q4) (ty := (.array .int)) (C := RX1) (T := TX1) (N := 7) hx hb hts hin tyX1 tyX1_ok nmX1 hown hK hP hD hS 0 rfl rfl 4 (by decide) (hts (.fieldLink RX1 19 "ReferredNamesModel" "given" "[I") (by decide +kernel)) (fun _ h9 => h9) rfl hin2 rfl (by decide +kernel) rfl rfl (Nat.le_of_ble_eq_true rfl) dX1_init_36 (fun H locs hP hD hS => ?_)
  have hP : va_P D vwCl ([(h, .inr (1, [.ref q1, .int 0, .ref q2, .ref q3, .ref q4, .null, .int 0])), (q1, .inl (c1, 60, .inl (fun _ => 0))), (q2, .inl (c2, 12000, .inl (fun _ => 0))), (q3, .inl (c3, 200, .inl (fun _ => 0))), (q4, .inl (c4, 200, .inl (fun _ => 0)))]) H := hP
  have hD : va_D A ([(h, .inr (1, [.ref q1, .int 0, .ref q2, .ref q3, .ref q4, .null, .int 0])), (q1, .inl (c1, 60, .inl (fun _ => 0))), (q2, .inl (c2, 12000, .inl (fun _ => 0))), (q3, .inl (c3, 200, .inl (fun _ => 0))), (q4, .inl (c4, 200, .inl (fun _ => 0)))]) := hD
  refine lv_aload_n hx hb dX1_init_39 rfl (lv_at hl 0 rfl) ?_
  refine lv_sipush (v := nI 200) hx hb dX1_init_40 (by decide) ?_
  refine va_newa (atype := .int) (n := nI 200) (ty := .int) (N' := 200) (a0 := (200, .inl (fun _ => 0))) hx hb (hts (.arrayClass .int) (by decide +kernel)) rfl hK hP hD hS hA (fun cA => rn_new_int cA 200) (nI_pos (n := 200) (by decide)) (nI_clamp (n := 200) (by decide)) (Nat.le_of_ble_eq_true rfl) (Nat.le_of_ble_eq_true rfl) (Nat.le_of_ble_eq_true rfl) dX1_init_43 (fun q5 c5 H hK hP hD hS => ?_)
  refine W.widen (k := 5) (n := 12660) (Nat.le_of_ble_eq_true rfl) (Nat.le_of_ble_eq_true rfl) ?_
  have hK : va_K D vwCl [(c1, .int), (c2, .int), (c3, .int), (c4, .int), (c5, .int)] s := hK
  have hP : va_P D vwCl ([(h, .inr (1, [.ref q1, .int 0, .ref q2, .ref q3, .ref q4, .null, .int 0])), (q1, .inl (c1, 60, .inl (fun _ => 0))), (q2, .inl (c2, 12000, .inl (fun _ => 0))), (q3, .inl (c3, 200, .inl (fun _ => 0))), (q4, .inl (c4, 200, .inl (fun _ => 0))), (q5, .inl (c5, 200, .inl (fun _ => 0)))]) H := hP
  have hD : va_D A ([(h, .inr (1, [.ref q1, .int 0, .ref q2, .ref q3, .ref q4, .null, .int 0])), (q1, .inl (c1, 60, .inl (fun _ => 0))), (q2, .inl (c2, 12000, .inl (fun _ => 0))), (q3, .inl (c3, 200, .inl (fun _ => 0))), (q4, .inl (c4, 200, .inl (fun _ => 0))), (q5, .inl (c5, 200, .inl (fun _ => 0)))]) := hD
  refine va_putF (D := D) (ci := 1) (v := .ref q5) (ty := (.array .int)) (C := RX1) (T := TX1) (N := 7) hx hb hts hin tyX1 tyX1_ok nmX1 hown hK hP hD hS 0 rfl rfl 5 (by decide) (hts (.fieldLink RX1 22 "ReferredNamesModel" "referred" "[I") (by decide +kernel)) (fun _ h9 => h9) rfl hin2 rfl (by decide +kernel) rfl rfl (Nat.le_of_ble_eq_true rfl) dX1_init_45 (fun H locs hP hD hS => ?_)
  have hP : va_P D vwCl ([(h, .inr (1, [.ref q1, .int 0, .ref q2, .ref q3, .ref q4, .ref q5, .int 0])), (q1, .inl (c1, 60, .inl (fun _ => 0))), (q2, .inl (c2, 12000, .inl (fun _ => 0))), (q3, .inl (c3, 200, .inl (fun _ => 0))), (q4, .inl (c4, 200, .inl (fun _ => 0))), (q5, .inl (c5, 200, .inl (fun _ => 0)))]) H := hP
  have hD : va_D A ([(h, .inr (1, [.ref q1, .int 0, .ref q2, .ref q3, .ref q4, .ref q5, .int 0])), (q1, .inl (c1, 60, .inl (fun _ => 0))), (q2, .inl (c2, 12000, .inl (fun _ => 0))), (q3, .inl (c3, 200, .inl (fun _ => 0))), (q4, .inl (c4, 200, .inl (fun _ => 0))), (q5, .inl (c5, 200, .inl (fun _ => 0)))]) := hD
  obtain ⟨qq, rfl, rfl, rfl, rfl, rfl⟩ : ∃ qq : Nat → Nat, qq 1 = q1 ∧ qq 2 = q2 ∧ qq 3 = q3 ∧ qq 4 = q4 ∧ qq 5 = q5 := ⟨fun i => if i = 1 then q1 else if i = 2 then q2 else if i = 3 then q3 else if i = 4 then q4 else q5, rfl, rfl, rfl, rfl, rfl⟩
  obtain ⟨cq, rfl, rfl, rfl, rfl, rfl⟩ : ∃ cq : Nat → ClassId, cq 1 = c1 ∧ cq 2 = c2 ∧ cq 3 = c3 ∧ cq 4 = c4 ∧ cq 5 = c5 := ⟨fun i => if i = 1 then c1 else if i = 2 then c2 else if i = 3 then c3 else if i = 4 then c4 else c5, rfl, rfl, rfl, rfl, rfl⟩
  exact hret (qq, cq) _ _ _ _ dX1_init_48 hK hP hD hS
