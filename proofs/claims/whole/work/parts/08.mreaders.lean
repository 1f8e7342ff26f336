abbrev rmX1_isMissing : Room := { frames := 0, cells := 0, slots := 0, locals := 0 }
set_option maxHeartbeats 4000000 in
set_option maxRecDepth 100000 in
theorem kX1_isMissing (l : Launch) (D : va_G) (h : Nat) (q : Nat → Nat) (cs : Nat → ClassId) (fh : Nat → Int32) (n : Nat) (fb fl fg fr : Nat → Int32) (k : Nat) (hn : n ≤ 60) (hk : k ≤ 200) (j : Nat) (hj : j < k) (hr0 : ∀ j, j < k → ∃ y : Nat, y < 2 ^ 30 ∧ fr j = nI y) : Met l yX1_isMissing wsX1_isMissing rmX1_isMissing (rd_P D vwCl (tM cs) [.ref h, .int (nI j)] (wM h q cs fh n fb fl fg fr k)) (QcRead (rn_b (rn_mi fg fr j))) 0 0 (fun _ => False) := by
  refine rd_of (cc := cX1_isMissing) (maxL := 2) (ty := .boolean) (by decide) rfl (rn_b_nar _) (Nat.le_of_ble_eq_true rfl) ?_
  intro p e s m args below meth c ls Q hx hb hml hown hts hK hP hl hret
  have hown : s.vm.findClass RX1 = some m.cls := hown
  have hin : ∀ w ∈ wsX10, w ∈ wsX1_isMissing := by decide +kernel
  have hl : lv_has ls 2 [(0, .ref h), (1, .int (nI j))] := hl
  refine lv_aload_n hx hb dX1_isMissing_0 rfl (lv_at hl 0 rfl) ?_
  refine va_get (D := D) (ci := 1) (v := .ref (q 5)) (C := RX1) (T := TX1) (N := 7) hx hb hts hin hown hK hP 0 rfl rfl 5 (by decide) (hts (.fieldLink RX1 22 "ReferredNamesModel" "referred" "[I") (by decide +kernel)) (fun _ h9 => h9) rfl dX1_isMissing_1 ?_
  refine lv_iload_n hx hb dX1_isMissing_4 rfl (lv_at hl 1 rfl) ?_
  refine rb_ild hx hb hK hP 5 4 rfl rfl (i := j) (by omega) (by decide) dX1_isMissing_5 ?_
  refine lv_if_le (tgt := 22) hx hb dX1_isMissing_6 (by decide) (fun c0 => ?_) (fun c0 => ?_)
  · refine lv_iconst (v := nI 0) hx hb dX1_isMissing_22 (by decide) ?_
    exact rb_top (rn_b0 (decide_eq_false (fun q9 => q9.1 (rn_le0 (hr0 j hj) c0)))) (hret _ _ dX1_isMissing_23)
  · refine lv_aload_n hx hb dX1_isMissing_9 rfl (lv_at hl 0 rfl) ?_
    refine va_get (D := D) (ci := 1) (v := .ref (q 4)) (C := RX1) (T := TX1) (N := 7) hx hb hts hin hown hK hP 0 rfl rfl 4 (by decide) (hts (.fieldLink RX1 19 "ReferredNamesModel" "given" "[I") (by decide +kernel)) (fun _ h9 => h9) rfl dX1_isMissing_10 ?_
    refine lv_iload_n hx hb dX1_isMissing_13 rfl (lv_at hl 1 rfl) ?_
    refine rb_ild hx hb hK hP 4 3 rfl rfl (i := j) (by omega) (by decide) dX1_isMissing_14 ?_
    refine lv_if_ne (tgt := 22) hx hb dX1_isMissing_15 (by decide) (fun c1 => ?_) (fun c1 => ?_)
    · refine lv_iconst (v := nI 0) hx hb dX1_isMissing_22 (by decide) ?_
      exact rb_top (rn_b0 (decide_eq_false (fun q9 => c1 q9.2))) (hret _ _ dX1_isMissing_23)
    · refine lv_iconst (v := nI 1) hx hb dX1_isMissing_18 (by decide) ?_
      refine lv_goto (tgt := 23) hx hb dX1_isMissing_19 (by decide) ?_
      exact rb_top (rn_b1 (decide_eq_true ⟨rn_nle0 c0, c1⟩)) (hret _ _ dX1_isMissing_23)
abbrev rmX1_missingFrom : Room := { frames := 1, cells := 0, slots := 0, locals := 21 }
set_option maxHeartbeats 4000000 in
set_option maxRecDepth 100000 in
theorem kX1_missingFrom (l : Launch) (D : va_G) (h : Nat) (q : Nat → Nat) (cs : Nat → ClassId) (fh : Nat → Int32) (n : Nat) (fb fl fg fr : Nat → Int32) (k : Nat) (hn : n ≤ 60) (hk : k ≤ 200) (a : Nat) (ha : a ≤ k) (hr0 : ∀ j, j < k → ∃ y : Nat, y < 2 ^ 30 ∧ fr j = nI y) : Met l yX1_missingFrom wsX1_missingFrom rmX1_missingFrom (rd_P D vwCl (tM cs) [.ref h, .int (nI a)] (wM h q cs fh n fb fl fg fr k)) (QcRead (rn_ff (rn_mi fg fr) (k - a) a)) 0 0 (fun _ => False) := by
  refine rd_of (cc := cX1_missingFrom) (maxL := 4) (ty := .int) (by decide) rfl rfl (Nat.le_of_ble_eq_true rfl) ?_
  intro p e s m args below meth c ls Q hx hb hml hown hts hK hP hl hret
  have hown : s.vm.findClass RX1 = some m.cls := hown
  have hin : ∀ w ∈ wsX10, w ∈ wsX1_missingFrom := by decide +kernel
  have hl : lv_has ls 4 [(0, .ref h), (1, .int (nI a))] := hl
  have loop : ∀ (f : Nat) (r0 : Int32) (ls : Array Slot), a + f ≤ k → r0 = rn_ff (rn_mi fg fr) (k - (a + f)) (a + f) → lv_has ls 4 [(0, .ref h), (1, .int (nI a)), (2, .int r0), (3, .int (nI (a + f) + (-1)))] → W p l e rmX1_missingFrom s m args below meth c s.heap [] 0 0 Q (F0 m 9 ls []) := by
    intro f
    induction f with
    | zero =>
      intro r0 ls hf hr hl
      refine lv_iload_n hx hb dX1_missingFrom_9 rfl (lv_at hl 3 rfl) ?_
      refine lv_iload_n hx hb dX1_missingFrom_10 rfl (lv_at hl 1 rfl) ?_
      refine lv_icmp_lt (tgt := 34) hx hb dX1_missingFrom_11 (by decide) (fun c0 => ?_) (fun c0 => ?_)
      · refine lv_iload_n hx hb dX1_missingFrom_34 rfl (lv_at hl 2 rfl) ?_
        exact rb_top hr (hret _ _ dX1_missingFrom_35)
      · exact absurd (rn_lt1 (by omega)) c0
    | succ f ih =>
      intro r0 ls hf hr hl
      rw [show nI (a + (f + 1)) + (-1) = nI (a + f) from pk_m1 (a + f)] at hl
      refine lv_iload_n hx hb dX1_missingFrom_9 rfl (lv_at hl 3 rfl) ?_
      refine lv_iload_n hx hb dX1_missingFrom_10 rfl (lv_at hl 1 rfl) ?_
      refine lv_icmp_lt (tgt := 34) hx hb dX1_missingFrom_11 (by decide) (fun c0 => ?_) (fun c0 => ?_)
      · rw [nI_ltI (by omega) (by omega)] at c0
        exfalso; omega
      · rw [nI_ltI (by omega) (by omega)] at c0
        refine lv_aload_n hx hb dX1_missingFrom_14 rfl (lv_at hl 0 rfl) ?_
        refine lv_iload_n hx hb dX1_missingFrom_15 rfl (lv_at hl 3 rfl) ?_
        refine rd_call (ci := 1) (b := h) (As := [.int (nI (a + f))]) (rest := []) ⟨hx, hb, hml, hown, hts⟩ (kX1_isMissing l D h q cs fh n fb fl fg fr k (by omega) (by omega) (a + f) (by omega) hr0) (cwV 1 hts gX1_missingFrom_X1_isMissing rfl rfl rfl (by decide +kernel) ⟨Nat.le_of_ble_eq_true rfl, Nat.le_of_ble_eq_true rfl⟩) hK hP rfl rfl rfl rfl hl.1 rfl (Nat.le_of_ble_eq_true rfl) dX1_missingFrom_16 ⟨Nat.zero_le _, Nat.zero_le _⟩ ?_
        refine lv_if_eq (tgt := 26) hx hb dX1_missingFrom_19 (by decide) (fun c1 => ?_) (fun c1 => ?_)
        · refine lv_iload_n hx hb dX1_missingFrom_26 rfl (lv_at hl 2 rfl) ?_
          refine lv_istore_n (lv' := [(2, .int r0), (0, .ref h), (1, .int (nI a)), (3, .int (nI (a + f)))]) hx hb dX1_missingFrom_27 rfl hl (by decide) rfl (fun ls hl => ?_)
          refine lv_iinc (v := nI (a + f) + (-1)) (lv' := [(3, .int (nI (a + f) + (-1))), (2, .int r0), (0, .ref h), (1, .int (nI a))]) hx hb dX1_missingFrom_28 hl (k := 3) rfl rfl (by decide) rfl (fun ls hl => ?_)
          refine lv_goto (tgt := 9) hx hb dX1_missingFrom_31 (by decide) ?_
          exact ih (r0) ls (by omega) (hr.trans (rn_ff_bf (by omega) (rn_b_eq c1)).symm) (lv_sub hl [2, 3, 1, 0] rfl)
        · refine lv_iload_n hx hb dX1_missingFrom_22 rfl (lv_at hl 3 rfl) ?_
          refine lv_goto (tgt := 27) hx hb dX1_missingFrom_23 (by decide) ?_
          refine lv_istore_n (lv' := [(2, .int (nI (a + f))), (0, .ref h), (1, .int (nI a)), (3, .int (nI (a + f)))]) hx hb dX1_missingFrom_27 rfl hl (by decide) rfl (fun ls hl => ?_)
          refine lv_iinc (v := nI (a + f) + (-1)) (lv' := [(3, .int (nI (a + f) + (-1))), (2, .int (nI (a + f))), (0, .ref h), (1, .int (nI a))]) hx hb dX1_missingFrom_28 hl (k := 3) rfl rfl (by decide) rfl (fun ls hl => ?_)
          refine lv_goto (tgt := 9) hx hb dX1_missingFrom_31 (by decide) ?_
          exact ih (nI (a + f)) ls (by omega) ((rn_ff_bt (by omega) (rn_b_ne c1)).symm) (lv_sub hl [2, 3, 1, 0] rfl)
  refine lv_iconst (v := (-1)) hx hb dX1_missingFrom_0 (by decide) ?_
  refine lv_istore_n (lv' := [(2, .int ((-1))), (0, .ref h), (1, .int (nI a))]) hx hb dX1_missingFrom_1 rfl hl (by decide) rfl (fun ls hl => ?_)
  refine lv_aload_n hx hb dX1_missingFrom_2 rfl (lv_at hl 1 rfl) ?_
  refine va_get (D := D) (ci := 1) (v := .int (nI k)) (C := RX1) (T := TX1) (N := 7) hx hb hts hin hown hK hP 0 rfl rfl 6 (by decide) (hts (.fieldLink RX1 31 "ReferredNamesModel" "known" "I") (by decide +kernel)) (fun _ h9 => h9) rfl dX1_missingFrom_3 ?_
  refine lv_iconst (v := nI 1) hx hb dX1_missingFrom_6 (by decide) ?_
  refine lv_isub hx hb dX1_missingFrom_7 ?_
  refine rb_top (y := nI k + (-1)) (rn_s1 k) ?_
  refine lv_istore_n (lv' := [(3, .int (nI k + (-1))), (2, .int ((-1))), (0, .ref h), (1, .int (nI a))]) hx hb dX1_missingFrom_8 rfl hl (by decide) rfl (fun ls hl => ?_)
  have ea : a + (k - a) = k := by omega
  exact loop (k - a) (-1) ls (by omega) (by rw [ea, Nat.sub_self]; rfl) (by rw [ea]; exact lv_sub hl [2, 3, 1, 0] rfl)
abbrev rmX1_place : Room := { frames := 0, cells := 0, slots := 0, locals := 0 }
set_option maxHeartbeats 4000000 in
set_option maxRecDepth 100000 in
theorem kX1_place (l : Launch) (D : va_G) (h : Nat) (q : Nat → Nat) (cs : Nat → ClassId) (fh : Nat → Int32) (n : Nat) (fb fl fg fr : Nat → Int32) (k : Nat) (hn : n ≤ 60) (hk : k ≤ 200) (hby : ∀ i, (fh i).toInt8.toInt32 = fh i) (hbb : ∀ i, (fb i).toInt8.toInt32 = fb i) (hu : ∀ a b, a < b → b < k → rn_mt fh n fb fl a = true → rn_mt fh n fb fl b = true → False) : Met l yX1_place wsX1_place rmX1_place (rd_P D vwCl (tM cs) [.ref h] (wM h q cs fh n fb fl fg fr k)) (QcRead (rn_ff (rn_mt fh n fb fl) k 0)) 0 0 (fun _ => False) := by
  refine rd_of (cc := cX1_place) (maxL := 5) (ty := .int) (by decide) rfl rfl (Nat.le_of_ble_eq_true rfl) ?_
  intro p e s m args below meth c ls Q hx hb hml hown hts hK hP hl hret
  have hown : s.vm.findClass RX1 = some m.cls := hown
  have hin : ∀ w ∈ wsX10, w ∈ wsX1_place := by decide +kernel
  have hl : lv_has ls 5 [(0, .ref h)] := hl
  have inner : ∀ (f : Nat) (i j : Nat) (r0 : Int32) (ls : Array Slot), i + f = n → j < k → (∀ ls : Array Slot, lv_has ls 5 [(0, .ref h), (1, .int r0), (2, .int (nI j)), (3, .int (rn_b (rn_mt fh n fb fl j)))] → W p l e rmX1_place s m args below meth c s.heap [] 0 0 Q (F0 m 81 ls [])) → lv_has ls 5 [(0, .ref h), (1, .int r0), (2, .int (nI j)), (3, .int (rn_b (rn_mq fh n fb fl j i))), (4, .int (nI i))] → W p l e rmX1_place s m args below meth c s.heap [] 0 0 Q (F0 m 34 ls []) := by
    intro f
    induction f with
    | zero =>
      intro i j r0 ls hi hj hc hl
      refine lv_iload hx hb dX1_place_34 (lv_at hl 4 rfl) ?_
      refine lv_aload_n hx hb dX1_place_36 rfl (lv_at hl 0 rfl) ?_
      refine va_get (D := D) (ci := 1) (v := .int (nI n)) (C := RX1) (T := TX1) (N := 7) hx hb hts hin hown hK hP 0 rfl rfl 1 (by decide) (hts (.fieldLink RX1 25 "ReferredNamesModel" "inHand" "I") (by decide +kernel)) (fun _ h9 => h9) rfl dX1_place_37 ?_
      refine lv_icmp_ge (tgt := 81) hx hb dX1_place_40 (by decide) (fun c2 => ?_) (fun c2 => ?_)
      · rw [nI_leI (by omega) (by omega)] at c2
        have ei : i = n := by omega
        rw [ei] at hl
        exact hc ls (lv_sub hl [0, 1, 2, 3] rfl)
      · rw [nI_leI (by omega) (by omega)] at c2
        exfalso; omega
    | succ f ih =>
      intro i j r0 ls hi hj hc hl
      refine lv_iload hx hb dX1_place_34 (lv_at hl 4 rfl) ?_
      refine lv_aload_n hx hb dX1_place_36 rfl (lv_at hl 0 rfl) ?_
      refine va_get (D := D) (ci := 1) (v := .int (nI n)) (C := RX1) (T := TX1) (N := 7) hx hb hts hin hown hK hP 0 rfl rfl 1 (by decide) (hts (.fieldLink RX1 25 "ReferredNamesModel" "inHand" "I") (by decide +kernel)) (fun _ h9 => h9) rfl dX1_place_37 ?_
      refine lv_icmp_ge (tgt := 81) hx hb dX1_place_40 (by decide) (fun c2 => ?_) (fun c2 => ?_)
      · rw [nI_leI (by omega) (by omega)] at c2
        exfalso; omega
      · rw [nI_leI (by omega) (by omega)] at c2
        refine lv_iload_n hx hb dX1_place_43 rfl (lv_at hl 3 rfl) ?_
        refine lv_if_eq (tgt := 73) hx hb dX1_place_44 (by decide) (fun c3 => ?_) (fun c3 => ?_)
        · refine lv_iconst (v := nI 0) hx hb dX1_place_73 (by decide) ?_
          refine rb_top (y := rn_b (rn_mq fh n fb fl j (i + 1))) (rn_b0 (rn_mq_f (rn_b_eq c3))) ?_
          refine lv_istore_n (lv' := [(3, .int (rn_b (rn_mq fh n fb fl j (i + 1)))), (0, .ref h), (1, .int r0), (2, .int (nI j)), (4, .int (nI i))]) hx hb dX1_place_74 rfl hl (by decide) rfl (fun ls hl => ?_)
          refine lv_iinc (v := nI (i + 1)) (lv' := [(4, .int (nI (i + 1))), (3, .int (rn_b (rn_mq fh n fb fl j (i + 1)))), (0, .ref h), (1, .int r0), (2, .int (nI j))]) hx hb dX1_place_75 hl (k := 4) rfl (nI_1 i) (by decide) rfl (fun ls hl => ?_)
          refine lv_goto (tgt := 34) hx hb dX1_place_78 (by decide) ?_
          exact ih (i + 1) j r0 ls (by omega) hj hc (lv_sub hl [2, 3, 4, 1, 0] rfl)
        · refine lv_aload_n hx hb dX1_place_47 rfl (lv_at hl 0 rfl) ?_
          refine va_get (D := D) (ci := 1) (v := .ref (q 2)) (C := RX1) (T := TX1) (N := 7) hx hb hts hin hown hK hP 0 rfl rfl 2 (by decide) (hts (.fieldLink RX1 13 "ReferredNamesModel" "bytes" "[I") (by decide +kernel)) (fun _ h9 => h9) rfl dX1_place_48 ?_
          refine lv_bipush (v := nI 60) hx hb dX1_place_51 (by decide) ?_
          refine lv_iload_n hx hb dX1_place_53 rfl (lv_at hl 2 rfl) ?_
          refine lv_imul hx hb dX1_place_54 ?_
          refine rb_top (y := nI (j * 60)) (by rw [pk_mul, Nat.mul_comm]) ?_
          refine lv_iload hx hb dX1_place_55 (lv_at hl 4 rfl) ?_
          refine lv_iadd hx hb dX1_place_57 ?_
          refine rb_top (y := nI ((j * 60) + i)) (nI_add (j * 60) i) ?_
          refine rb_ild hx hb hK hP 2 1 rfl rfl (i := (j * 60) + i) (by omega) (by decide) dX1_place_58 ?_
          refine lv_aload_n hx hb dX1_place_59 rfl (lv_at hl 0 rfl) ?_
          refine va_get (D := D) (ci := 1) (v := .ref (q 1)) (C := RX1) (T := TX1) (N := 7) hx hb hts hin hown hK hP 0 rfl rfl 0 (by decide) (hts (.fieldLink RX1 7 "ReferredNamesModel" "hand" "[I") (by decide +kernel)) (fun _ h9 => h9) rfl dX1_place_60 ?_
          refine lv_iload hx hb dX1_place_63 (lv_at hl 4 rfl) ?_
          refine rb_ild hx hb hK hP 1 0 rfl rfl (i := i) (by omega) (by decide) dX1_place_65 ?_
          refine lv_icmp_ne (tgt := 73) hx hb dX1_place_66 (by decide) (fun c4 => ?_) (fun c4 => ?_)
          · refine lv_iconst (v := nI 0) hx hb dX1_place_73 (by decide) ?_
            refine rb_top (y := rn_b (rn_mq fh n fb fl j (i + 1))) (rn_b0 (rn_mq_d c4)) ?_
            refine lv_istore_n (lv' := [(3, .int (rn_b (rn_mq fh n fb fl j (i + 1)))), (0, .ref h), (1, .int r0), (2, .int (nI j)), (4, .int (nI i))]) hx hb dX1_place_74 rfl hl (by decide) rfl (fun ls hl => ?_)
            refine lv_iinc (v := nI (i + 1)) (lv' := [(4, .int (nI (i + 1))), (3, .int (rn_b (rn_mq fh n fb fl j (i + 1)))), (0, .ref h), (1, .int r0), (2, .int (nI j))]) hx hb dX1_place_75 hl (k := 4) rfl (nI_1 i) (by decide) rfl (fun ls hl => ?_)
            refine lv_goto (tgt := 34) hx hb dX1_place_78 (by decide) ?_
            exact ih (i + 1) j r0 ls (by omega) hj hc (lv_sub hl [2, 3, 4, 1, 0] rfl)
          · refine lv_iconst (v := nI 1) hx hb dX1_place_69 (by decide) ?_
            refine lv_goto (tgt := 74) hx hb dX1_place_70 (by decide) ?_
            refine rb_top (y := rn_b (rn_mq fh n fb fl j (i + 1))) (rn_b1 (rn_mq_s (hbb _) (hby _) (rn_b_ne c3) c4)) ?_
            refine lv_istore_n (lv' := [(3, .int (rn_b (rn_mq fh n fb fl j (i + 1)))), (0, .ref h), (1, .int r0), (2, .int (nI j)), (4, .int (nI i))]) hx hb dX1_place_74 rfl hl (by decide) rfl (fun ls hl => ?_)
            refine lv_iinc (v := nI (i + 1)) (lv' := [(4, .int (nI (i + 1))), (3, .int (rn_b (rn_mq fh n fb fl j (i + 1)))), (0, .ref h), (1, .int r0), (2, .int (nI j))]) hx hb dX1_place_75 hl (k := 4) rfl (nI_1 i) (by decide) rfl (fun ls hl => ?_)
            refine lv_goto (tgt := 34) hx hb dX1_place_78 (by decide) ?_
            exact ih (i + 1) j r0 ls (by omega) hj hc (lv_sub hl [2, 3, 4, 1, 0] rfl)
  have loop : ∀ (f : Nat) (j : Nat) (r0 : Int32) (ls : Array Slot), j + f = k → r0 = rn_ff (rn_mt fh n fb fl) j 0 → lv_has ls 5 [(0, .ref h), (1, .int r0), (2, .int (nI j))] → W p l e rmX1_place s m args below meth c s.heap [] 0 0 Q (F0 m 4 ls []) := by
    intro f
    induction f with
    | zero =>
      intro j r0 ls hj hr hl
      refine lv_iload_n hx hb dX1_place_4 rfl (lv_at hl 2 rfl) ?_
      refine lv_aload_n hx hb dX1_place_5 rfl (lv_at hl 0 rfl) ?_
      refine va_get (D := D) (ci := 1) (v := .int (nI k)) (C := RX1) (T := TX1) (N := 7) hx hb hts hin hown hK hP 0 rfl rfl 6 (by decide) (hts (.fieldLink RX1 31 "ReferredNamesModel" "known" "I") (by decide +kernel)) (fun _ h9 => h9) rfl dX1_place_6 ?_
      refine lv_icmp_ge (tgt := 97) hx hb dX1_place_9 (by decide) (fun c0 => ?_) (fun c0 => ?_)
      · rw [nI_leI (by omega) (by omega)] at c0
        refine lv_iload_n hx hb dX1_place_97 rfl (lv_at hl 1 rfl) ?_
        exact rb_top (by rw [hr, show j = k by omega]) (hret _ _ dX1_place_98)
      · rw [nI_leI (by omega) (by omega)] at c0
        exfalso; omega
    | succ f ih =>
      intro j r0 ls hj hr hl
      refine lv_iload_n hx hb dX1_place_4 rfl (lv_at hl 2 rfl) ?_
      refine lv_aload_n hx hb dX1_place_5 rfl (lv_at hl 0 rfl) ?_
      refine va_get (D := D) (ci := 1) (v := .int (nI k)) (C := RX1) (T := TX1) (N := 7) hx hb hts hin hown hK hP 0 rfl rfl 6 (by decide) (hts (.fieldLink RX1 31 "ReferredNamesModel" "known" "I") (by decide +kernel)) (fun _ h9 => h9) rfl dX1_place_6 ?_
      refine lv_icmp_ge (tgt := 97) hx hb dX1_place_9 (by decide) (fun c0 => ?_) (fun c0 => ?_)
      · rw [nI_leI (by omega) (by omega)] at c0
        exfalso; omega
      · rw [nI_leI (by omega) (by omega)] at c0
        refine lv_aload_n hx hb dX1_place_12 rfl (lv_at hl 0 rfl) ?_
        refine va_get (D := D) (ci := 1) (v := .ref (q 3)) (C := RX1) (T := TX1) (N := 7) hx hb hts hin hown hK hP 0 rfl rfl 3 (by decide) (hts (.fieldLink RX1 16 "ReferredNamesModel" "sizes" "[I") (by decide +kernel)) (fun _ h9 => h9) rfl dX1_place_13 ?_
        refine lv_iload_n hx hb dX1_place_16 rfl (lv_at hl 2 rfl) ?_
        refine rb_ild hx hb hK hP 3 2 rfl rfl (i := j) (by omega) (by decide) dX1_place_17 ?_
        refine lv_aload_n hx hb dX1_place_18 rfl (lv_at hl 0 rfl) ?_
        refine va_get (D := D) (ci := 1) (v := .int (nI n)) (C := RX1) (T := TX1) (N := 7) hx hb hts hin hown hK hP 0 rfl rfl 1 (by decide) (hts (.fieldLink RX1 25 "ReferredNamesModel" "inHand" "I") (by decide +kernel)) (fun _ h9 => h9) rfl dX1_place_19 ?_
        refine lv_icmp_ne (tgt := 29) hx hb dX1_place_22 (by decide) (fun c1 => ?_) (fun c1 => ?_)
        · refine lv_iconst (v := nI 0) hx hb dX1_place_29 (by decide) ?_
          refine rb_top (y := rn_b (rn_mq fh n fb fl j 0)) (rn_b0 (rn_mq_0f c1)) ?_
          refine lv_istore_n (lv' := [(3, .int (rn_b (rn_mq fh n fb fl j 0))), (0, .ref h), (1, .int r0), (2, .int (nI j))]) hx hb dX1_place_30 rfl hl (by decide) rfl (fun ls hl => ?_)
          refine lv_iconst (v := nI 0) hx hb dX1_place_31 (by decide) ?_
          refine lv_istore (lv' := [(4, .int (nI 0)), (3, .int (rn_b (rn_mq fh n fb fl j 0))), (0, .ref h), (1, .int r0), (2, .int (nI j))]) hx hb dX1_place_32 hl (by decide) rfl (fun ls hl => ?_)
          refine inner n 0 j r0 ls (by omega) (by omega) (fun ls hl => ?_) (lv_sub hl [2, 3, 4, 1, 0] rfl)
          refine lv_iload_n hx hb dX1_place_81 rfl (lv_at hl 3 rfl) ?_
          refine lv_if_eq (tgt := 89) hx hb dX1_place_82 (by decide) (fun c5 => ?_) (fun c5 => ?_)
          · refine lv_iload_n hx hb dX1_place_89 rfl (lv_at hl 1 rfl) ?_
            refine lv_istore_n (lv' := [(1, .int r0), (0, .ref h), (2, .int (nI j)), (3, .int (rn_b (rn_mt fh n fb fl j)))]) hx hb dX1_place_90 rfl hl (by decide) rfl (fun ls hl => ?_)
            refine lv_iinc (v := nI (j + 1)) (lv' := [(2, .int (nI (j + 1))), (1, .int r0), (0, .ref h), (3, .int (rn_b (rn_mt fh n fb fl j)))]) hx hb dX1_place_91 hl (k := 2) rfl (nI_1 j) (by decide) rfl (fun ls hl => ?_)
            refine lv_goto (tgt := 4) hx hb dX1_place_94 (by decide) ?_
            exact ih (j + 1) (r0) ls (by omega) (hr.trans (rn_sn_f (rn_b_eq c5)).symm) (lv_sub hl [2, 1, 0] rfl)
          · refine lv_iload_n hx hb dX1_place_85 rfl (lv_at hl 2 rfl) ?_
            refine lv_goto (tgt := 90) hx hb dX1_place_86 (by decide) ?_
            refine lv_istore_n (lv' := [(1, .int (nI j)), (0, .ref h), (2, .int (nI j)), (3, .int (rn_b (rn_mt fh n fb fl j)))]) hx hb dX1_place_90 rfl hl (by decide) rfl (fun ls hl => ?_)
            refine lv_iinc (v := nI (j + 1)) (lv' := [(2, .int (nI (j + 1))), (1, .int (nI j)), (0, .ref h), (3, .int (rn_b (rn_mt fh n fb fl j)))]) hx hb dX1_place_91 hl (k := 2) rfl (nI_1 j) (by decide) rfl (fun ls hl => ?_)
            refine lv_goto (tgt := 4) hx hb dX1_place_94 (by decide) ?_
            exact ih (j + 1) (nI j) ls (by omega) ((rn_sn_t (by omega) hu (rn_b_ne c5)).symm) (lv_sub hl [2, 1, 0] rfl)
        · refine lv_iconst (v := nI 1) hx hb dX1_place_25 (by decide) ?_
          refine lv_goto (tgt := 30) hx hb dX1_place_26 (by decide) ?_
          refine rb_top (y := rn_b (rn_mq fh n fb fl j 0)) (rn_b1 (rn_mq_0t c1)) ?_
          refine lv_istore_n (lv' := [(3, .int (rn_b (rn_mq fh n fb fl j 0))), (0, .ref h), (1, .int r0), (2, .int (nI j))]) hx hb dX1_place_30 rfl hl (by decide) rfl (fun ls hl => ?_)
          refine lv_iconst (v := nI 0) hx hb dX1_place_31 (by decide) ?_
          refine lv_istore (lv' := [(4, .int (nI 0)), (3, .int (rn_b (rn_mq fh n fb fl j 0))), (0, .ref h), (1, .int r0), (2, .int (nI j))]) hx hb dX1_place_32 hl (by decide) rfl (fun ls hl => ?_)
          refine inner n 0 j r0 ls (by omega) (by omega) (fun ls hl => ?_) (lv_sub hl [2, 3, 4, 1, 0] rfl)
          refine lv_iload_n hx hb dX1_place_81 rfl (lv_at hl 3 rfl) ?_
          refine lv_if_eq (tgt := 89) hx hb dX1_place_82 (by decide) (fun c5 => ?_) (fun c5 => ?_)
          · refine lv_iload_n hx hb dX1_place_89 rfl (lv_at hl 1 rfl) ?_
            refine lv_istore_n (lv' := [(1, .int r0), (0, .ref h), (2, .int (nI j)), (3, .int (rn_b (rn_mt fh n fb fl j)))]) hx hb dX1_place_90 rfl hl (by decide) rfl (fun ls hl => ?_)
            refine lv_iinc (v := nI (j + 1)) (lv' := [(2, .int (nI (j + 1))), (1, .int r0), (0, .ref h), (3, .int (rn_b (rn_mt fh n fb fl j)))]) hx hb dX1_place_91 hl (k := 2) rfl (nI_1 j) (by decide) rfl (fun ls hl => ?_)
            refine lv_goto (tgt := 4) hx hb dX1_place_94 (by decide) ?_
            exact ih (j + 1) (r0) ls (by omega) (hr.trans (rn_sn_f (rn_b_eq c5)).symm) (lv_sub hl [2, 1, 0] rfl)
          · refine lv_iload_n hx hb dX1_place_85 rfl (lv_at hl 2 rfl) ?_
            refine lv_goto (tgt := 90) hx hb dX1_place_86 (by decide) ?_
            refine lv_istore_n (lv' := [(1, .int (nI j)), (0, .ref h), (2, .int (nI j)), (3, .int (rn_b (rn_mt fh n fb fl j)))]) hx hb dX1_place_90 rfl hl (by decide) rfl (fun ls hl => ?_)
            refine lv_iinc (v := nI (j + 1)) (lv' := [(2, .int (nI (j + 1))), (1, .int (nI j)), (0, .ref h), (3, .int (rn_b (rn_mt fh n fb fl j)))]) hx hb dX1_place_91 hl (k := 2) rfl (nI_1 j) (by decide) rfl (fun ls hl => ?_)
            refine lv_goto (tgt := 4) hx hb dX1_place_94 (by decide) ?_
            exact ih (j + 1) (nI j) ls (by omega) ((rn_sn_t (by omega) hu (rn_b_ne c5)).symm) (lv_sub hl [2, 1, 0] rfl)
  refine lv_iconst (v := (-1)) hx hb dX1_place_0 (by decide) ?_
  refine lv_istore_n (lv' := [(1, .int ((-1))), (0, .ref h)]) hx hb dX1_place_1 rfl hl (by decide) rfl (fun ls hl => ?_)
  refine lv_iconst (v := nI 0) hx hb dX1_place_2 (by decide) ?_
  refine lv_istore_n (lv' := [(2, .int (nI 0)), (1, .int ((-1))), (0, .ref h)]) hx hb dX1_place_3 rfl hl (by decide) rfl (fun ls hl => ?_)
  exact loop k 0 (-1) ls (by omega) rfl (lv_sub hl [2, 1, 0] rfl)
abbrev rmX1_find : Room := { frames := 1, cells := 0, slots := 0, locals := 24 }
set_option maxHeartbeats 4000000 in
set_option maxRecDepth 100000 in
theorem kX1_find (l : Launch) (D : va_G) (h : Nat) (q : Nat → Nat) (cs : Nat → ClassId) (fh : Nat → Int32) (n : Nat) (fb fl fg fr : Nat → Int32) (k : Nat) (hn : n ≤ 60) (hk : k ≤ 200) (hby : ∀ i, (fh i).toInt8.toInt32 = fh i) (hbb : ∀ i, (fb i).toInt8.toInt32 = fb i) (hu : ∀ a b, a < b → b < k → rn_mt fh n fb fl a = true → rn_mt fh n fb fl b = true → False) (hln : ∀ j, j < k → ∃ y : Nat, 1 ≤ y ∧ y ≤ 60 ∧ fl j = nI y) : Met l yX1_find wsX1_find rmX1_find (rd_P D vwCl (tM cs) [.ref h] (wM h q cs fh n fb fl fg fr k)) (QcRead (rn_ff (rn_mt fh n fb fl) k 0)) 0 0 (fun _ => False) := by
  refine rd_of (cc := cX1_find) (maxL := 1) (ty := .int) (by decide) rfl rfl (Nat.le_of_ble_eq_true rfl) ?_
  intro p e s m args below meth c ls Q hx hb hml hown hts hK hP hl hret
  have hown : s.vm.findClass RX1 = some m.cls := hown
  have hin : ∀ w ∈ wsX10, w ∈ wsX1_find := by decide +kernel
  have hl : lv_has ls 1 [(0, .ref h)] := hl
  refine lv_aload_n hx hb dX1_find_0 rfl (lv_at hl 0 rfl) ?_
  refine va_get (D := D) (ci := 1) (v := .int (nI n)) (C := RX1) (T := TX1) (N := 7) hx hb hts hin hown hK hP 0 rfl rfl 1 (by decide) (hts (.fieldLink RX1 25 "ReferredNamesModel" "inHand" "I") (by decide +kernel)) (fun _ h9 => h9) rfl dX1_find_1 ?_
  refine lv_if_ne (tgt := 11) hx hb dX1_find_4 (by decide) (fun c0 => ?_) (fun c0 => ?_)
  · rw [show (0 : Int32) = nI 0 from rfl] at c0
    rw [nI_eq (by omega) (by omega)] at c0
    refine lv_aload_n hx hb dX1_find_11 rfl (lv_at hl 0 rfl) ?_
    refine rd_call (ci := 1) (b := h) (As := []) (rest := []) ⟨hx, hb, hml, hown, hts⟩ (kX1_place l D h q cs fh n fb fl fg fr k (by omega) (by omega) hby hbb hu) (cwV 0 hts gX1_find_X1_place rfl rfl rfl (by decide +kernel) ⟨Nat.le_of_ble_eq_true rfl, Nat.le_of_ble_eq_true rfl⟩) hK hP rfl rfl rfl rfl hl.1 rfl (Nat.le_of_ble_eq_true rfl) dX1_find_12 ⟨Nat.zero_le _, Nat.zero_le _⟩ ?_
    exact rb_top rfl (hret _ _ dX1_find_15)
  · rw [show (0 : Int32) = nI 0 from rfl] at c0
    rw [nI_eq (by omega) (by omega)] at c0
    refine lv_iconst (v := (-1)) hx hb dX1_find_7 (by decide) ?_
    refine lv_goto (tgt := 15) hx hb dX1_find_8 (by decide) ?_
    exact rb_top ((rn_ff_nil k 0 (fun x _ hx9 => decide_eq_false (fun q9 => by
      obtain ⟨y, hy1, hy2, ey⟩ := hln x (by omega)
      rw [ey, c0, nI_eq (by omega) (by omega)] at q9
      omega))).symm) (hret _ _ dX1_find_15)
abbrev rmX1_look : Room := { frames := 2, cells := 0, slots := 0, locals := 44 }
set_option maxHeartbeats 4000000 in
set_option maxRecDepth 100000 in
theorem kX1_look (l : Launch) (D : va_G) (h : Nat) (q : Nat → Nat) (cs : Nat → ClassId) (fh : Nat → Int32) (n : Nat) (fb fl fg fr : Nat → Int32) (k : Nat) (hn : n ≤ 60) (hk : k ≤ 200) (x : Int32) (w : Int32) (hr0 : ∀ j, j < k → ∃ y : Nat, y < 2 ^ 30 ∧ fr j = nI y) : Met l yX1_look wsX1_look rmX1_look (rd_P D vwCl (tM cs) [.ref h, .int x, .int w] (wM h q cs fh n fb fl fg fr k)) (QcRead (rn_look fl fg fr k x w)) 0 0 (fun _ => False) := by
  refine rd_of (cc := cX1_look) (maxL := 3) (ty := .int) (by decide) rfl rfl (Nat.le_of_ble_eq_true rfl) ?_
  intro p e s m args below meth c ls Q hx hb hml hown hts hK hP hl hret
  have hown : s.vm.findClass RX1 = some m.cls := hown
  have hin : ∀ w ∈ wsX10, w ∈ wsX1_look := by decide +kernel
  have hl : lv_has ls 3 [(0, .ref h), (1, .int x), (2, .int w)] := hl
  refine lv_iload_n hx hb dX1_look_0 rfl (lv_at hl 1 rfl) ?_
  refine lv_if_lt (tgt := 21) hx hb dX1_look_1 (by decide) (fun c0 => ?_) (fun c0 => ?_)
  · refine lv_iconst (v := (-1)) hx hb dX1_look_21 (by decide) ?_
    exact rb_top ((rn_look_f (rn_kn_f1 c0)).symm) (hret _ _ dX1_look_22)
  · refine lv_iload_n hx hb dX1_look_4 rfl (lv_at hl 1 rfl) ?_
    refine lv_aload_n hx hb dX1_look_5 rfl (lv_at hl 0 rfl) ?_
    refine va_get (D := D) (ci := 1) (v := .int (nI k)) (C := RX1) (T := TX1) (N := 7) hx hb hts hin hown hK hP 0 rfl rfl 6 (by decide) (hts (.fieldLink RX1 31 "ReferredNamesModel" "known" "I") (by decide +kernel)) (fun _ h9 => h9) rfl dX1_look_6 ?_
    refine lv_icmp_ge (tgt := 21) hx hb dX1_look_9 (by decide) (fun c1 => ?_) (fun c1 => ?_)
    · refine lv_iconst (v := (-1)) hx hb dX1_look_21 (by decide) ?_
      exact rb_top ((rn_look_f (rn_kn_f2 c1)).symm) (hret _ _ dX1_look_22)
    · obtain ⟨j, hj, rfl⟩ := rn_kn_t (by omega) (rn_kn_tt c0 c1)
      refine lv_iload_n hx hb dX1_look_12 rfl (lv_at hl 2 rfl) ?_
      refine lv_if_lt (tgt := 21) hx hb dX1_look_13 (by decide) (fun c2 => ?_) (fun c2 => ?_)
      · refine lv_iconst (v := (-1)) hx hb dX1_look_21 (by decide) ?_
        exact rb_top ((rn_look_d (rn_out4 (Or.inl c2))).symm) (hret _ _ dX1_look_22)
      · refine lv_iload_n hx hb dX1_look_16 rfl (lv_at hl 2 rfl) ?_
        refine lv_iconst (v := nI 3) hx hb dX1_look_17 (by decide) ?_
        refine lv_icmp_le (tgt := 23) hx hb dX1_look_18 (by decide) (fun c3 => ?_) (fun c3 => ?_)
        · have hw : ∃ y : Nat, y < 4 ∧ w = nI y := rn_03 c2 c3
          obtain ⟨y, hy, rfl⟩ := hw
          rcases (show y = 0 ∨ y = 1 ∨ y = 2 ∨ y = 3 by omega) with rfl | rfl | rfl | rfl
          · refine lv_iload_n hx hb dX1_look_23 rfl (lv_at hl 2 rfl) ?_
            refine lv_iconst (v := nI 3) hx hb dX1_look_24 (by decide) ?_
            refine lv_icmp_ne (tgt := 36) hx hb dX1_look_25 (by decide) (fun c4 => ?_) (fun c4 => ?_)
            · rw [nI_eq (by omega) (by omega)] at c4
              refine lv_iload_n hx hb dX1_look_36 rfl (lv_at hl 2 rfl) ?_
              refine lv_if_ne (tgt := 49) hx hb dX1_look_37 (by decide) (fun c5 => ?_) (fun c5 => ?_)
              · rw [show (0 : Int32) = nI 0 from rfl] at c5
                rw [nI_eq (by omega) (by omega)] at c5
                exact absurd rfl c5
              · rw [show (0 : Int32) = nI 0 from rfl] at c5
                rw [nI_eq (by omega) (by omega)] at c5
                refine lv_aload_n hx hb dX1_look_40 rfl (lv_at hl 0 rfl) ?_
                refine va_get (D := D) (ci := 1) (v := .ref (q 4)) (C := RX1) (T := TX1) (N := 7) hx hb hts hin hown hK hP 0 rfl rfl 4 (by decide) (hts (.fieldLink RX1 19 "ReferredNamesModel" "given" "[I") (by decide +kernel)) (fun _ h9 => h9) rfl dX1_look_41 ?_
                refine lv_iload_n hx hb dX1_look_44 rfl (lv_at hl 1 rfl) ?_
                refine rb_ild hx hb hK hP 4 3 rfl rfl (i := j) (by omega) (by decide) dX1_look_45 ?_
                refine lv_goto (tgt := 69) hx hb dX1_look_46 (by decide) ?_
                exact rb_top ((rn_look_0 hj (by omega)).symm) (hret _ _ dX1_look_69)
            · rw [nI_eq (by omega) (by omega)] at c4
              exfalso; omega
          · refine lv_iload_n hx hb dX1_look_23 rfl (lv_at hl 2 rfl) ?_
            refine lv_iconst (v := nI 3) hx hb dX1_look_24 (by decide) ?_
            refine lv_icmp_ne (tgt := 36) hx hb dX1_look_25 (by decide) (fun c4 => ?_) (fun c4 => ?_)
            · rw [nI_eq (by omega) (by omega)] at c4
              refine lv_iload_n hx hb dX1_look_36 rfl (lv_at hl 2 rfl) ?_
              refine lv_if_ne (tgt := 49) hx hb dX1_look_37 (by decide) (fun c5 => ?_) (fun c5 => ?_)
              · rw [show (0 : Int32) = nI 0 from rfl] at c5
                rw [nI_eq (by omega) (by omega)] at c5
                refine lv_iload_n hx hb dX1_look_49 rfl (lv_at hl 2 rfl) ?_
                refine lv_iconst (v := nI 1) hx hb dX1_look_50 (by decide) ?_
                refine lv_icmp_ne (tgt := 63) hx hb dX1_look_51 (by decide) (fun c6 => ?_) (fun c6 => ?_)
                · rw [nI_eq (by omega) (by omega)] at c6
                  exact absurd rfl c6
                · rw [nI_eq (by omega) (by omega)] at c6
                  refine lv_aload_n hx hb dX1_look_54 rfl (lv_at hl 0 rfl) ?_
                  refine va_get (D := D) (ci := 1) (v := .ref (q 5)) (C := RX1) (T := TX1) (N := 7) hx hb hts hin hown hK hP 0 rfl rfl 5 (by decide) (hts (.fieldLink RX1 22 "ReferredNamesModel" "referred" "[I") (by decide +kernel)) (fun _ h9 => h9) rfl dX1_look_55 ?_
                  refine lv_iload_n hx hb dX1_look_58 rfl (lv_at hl 1 rfl) ?_
                  refine rb_ild hx hb hK hP 5 4 rfl rfl (i := j) (by omega) (by decide) dX1_look_59 ?_
                  refine lv_goto (tgt := 69) hx hb dX1_look_60 (by decide) ?_
                  exact rb_top ((rn_look_1 hj (by omega)).symm) (hret _ _ dX1_look_69)
              · rw [show (0 : Int32) = nI 0 from rfl] at c5
                rw [nI_eq (by omega) (by omega)] at c5
                exfalso; omega
            · rw [nI_eq (by omega) (by omega)] at c4
              exfalso; omega
          · refine lv_iload_n hx hb dX1_look_23 rfl (lv_at hl 2 rfl) ?_
            refine lv_iconst (v := nI 3) hx hb dX1_look_24 (by decide) ?_
            refine lv_icmp_ne (tgt := 36) hx hb dX1_look_25 (by decide) (fun c4 => ?_) (fun c4 => ?_)
            · rw [nI_eq (by omega) (by omega)] at c4
              refine lv_iload_n hx hb dX1_look_36 rfl (lv_at hl 2 rfl) ?_
              refine lv_if_ne (tgt := 49) hx hb dX1_look_37 (by decide) (fun c5 => ?_) (fun c5 => ?_)
              · rw [show (0 : Int32) = nI 0 from rfl] at c5
                rw [nI_eq (by omega) (by omega)] at c5
                refine lv_iload_n hx hb dX1_look_49 rfl (lv_at hl 2 rfl) ?_
                refine lv_iconst (v := nI 1) hx hb dX1_look_50 (by decide) ?_
                refine lv_icmp_ne (tgt := 63) hx hb dX1_look_51 (by decide) (fun c6 => ?_) (fun c6 => ?_)
                · rw [nI_eq (by omega) (by omega)] at c6
                  refine lv_aload_n hx hb dX1_look_63 rfl (lv_at hl 0 rfl) ?_
                  refine va_get (D := D) (ci := 1) (v := .ref (q 3)) (C := RX1) (T := TX1) (N := 7) hx hb hts hin hown hK hP 0 rfl rfl 3 (by decide) (hts (.fieldLink RX1 16 "ReferredNamesModel" "sizes" "[I") (by decide +kernel)) (fun _ h9 => h9) rfl dX1_look_64 ?_
                  refine lv_iload_n hx hb dX1_look_67 rfl (lv_at hl 1 rfl) ?_
                  refine rb_ild hx hb hK hP 3 2 rfl rfl (i := j) (by omega) (by decide) dX1_look_68 ?_
                  exact rb_top ((rn_look_2 hj (by omega)).symm) (hret _ _ dX1_look_69)
                · rw [nI_eq (by omega) (by omega)] at c6
                  exfalso; omega
              · rw [show (0 : Int32) = nI 0 from rfl] at c5
                rw [nI_eq (by omega) (by omega)] at c5
                exfalso; omega
            · rw [nI_eq (by omega) (by omega)] at c4
              exfalso; omega
          · refine lv_iload_n hx hb dX1_look_23 rfl (lv_at hl 2 rfl) ?_
            refine lv_iconst (v := nI 3) hx hb dX1_look_24 (by decide) ?_
            refine lv_icmp_ne (tgt := 36) hx hb dX1_look_25 (by decide) (fun c4 => ?_) (fun c4 => ?_)
            · rw [nI_eq (by omega) (by omega)] at c4
              exact absurd rfl c4
            · rw [nI_eq (by omega) (by omega)] at c4
              refine lv_aload_n hx hb dX1_look_28 rfl (lv_at hl 0 rfl) ?_
              refine lv_iload_n hx hb dX1_look_29 rfl (lv_at hl 1 rfl) ?_
              refine lv_iconst (v := nI 1) hx hb dX1_look_30 (by decide) ?_
              refine lv_iadd hx hb dX1_look_31 ?_
              refine rb_top (y := nI (j + 1)) (nI_add j 1) ?_
              refine rd_call (ci := 1) (b := h) (As := [.int (nI (j + 1))]) (rest := []) ⟨hx, hb, hml, hown, hts⟩ (kX1_missingFrom l D h q cs fh n fb fl fg fr k (by omega) (by omega) (j + 1) (by omega) hr0) (cwV 1 hts gX1_look_X1_missingFrom rfl rfl rfl (by decide +kernel) ⟨Nat.le_of_ble_eq_true rfl, Nat.le_of_ble_eq_true rfl⟩) hK hP rfl rfl rfl rfl hl.1 rfl (Nat.le_of_ble_eq_true rfl) dX1_look_32 ⟨Nat.zero_le _, Nat.zero_le _⟩ ?_
              exact rb_top ((rn_look_3 hj (by omega)).symm) (hret _ _ dX1_look_35)
        · refine lv_iconst (v := (-1)) hx hb dX1_look_21 (by decide) ?_
          exact rb_top ((rn_look_d (rn_out4 (Or.inr c3))).symm) (hret _ _ dX1_look_22)
abbrev rmX1_byteOf : Room := { frames := 0, cells := 0, slots := 0, locals := 0 }
set_option maxHeartbeats 4000000 in
set_option maxRecDepth 100000 in
theorem kX1_byteOf (l : Launch) (D : va_G) (h : Nat) (q : Nat → Nat) (cs : Nat → ClassId) (fh : Nat → Int32) (n : Nat) (fb fl fg fr : Nat → Int32) (k : Nat) (hn : n ≤ 60) (hk : k ≤ 200) (x : Int32) (i : Int32) (hln : ∀ j, j < k → ∃ y : Nat, y ≤ 60 ∧ fl j = nI y) : Met l yX1_byteOf wsX1_byteOf rmX1_byteOf (rd_P D vwCl (tM cs) [.ref h, .int x, .int i] (wM h q cs fh n fb fl fg fr k)) (QcRead (rn_bo fb fl k x i)) 0 0 (fun _ => False) := by
  refine rd_of (cc := cX1_byteOf) (maxL := 3) (ty := .int) (by decide) rfl rfl (Nat.le_of_ble_eq_true rfl) ?_
  intro p e s m args below meth c ls Q hx hb hml hown hts hK hP hl hret
  have hown : s.vm.findClass RX1 = some m.cls := hown
  have hin : ∀ w ∈ wsX10, w ∈ wsX1_byteOf := by decide +kernel
  have hl : lv_has ls 3 [(0, .ref h), (1, .int x), (2, .int i)] := hl
  refine lv_iload_n hx hb dX1_byteOf_0 rfl (lv_at hl 1 rfl) ?_
  refine lv_if_lt (tgt := 26) hx hb dX1_byteOf_1 (by decide) (fun c0 => ?_) (fun c0 => ?_)
  · refine lv_iconst (v := (-1)) hx hb dX1_byteOf_26 (by decide) ?_
    exact rb_top ((rn_bo_f (fun q9 => by rw [rn_kn_f1 c0] at q9; exact absurd q9.1 (by decide))).symm) (hret _ _ dX1_byteOf_27)
  · refine lv_iload_n hx hb dX1_byteOf_4 rfl (lv_at hl 1 rfl) ?_
    refine lv_aload_n hx hb dX1_byteOf_5 rfl (lv_at hl 0 rfl) ?_
    refine va_get (D := D) (ci := 1) (v := .int (nI k)) (C := RX1) (T := TX1) (N := 7) hx hb hts hin hown hK hP 0 rfl rfl 6 (by decide) (hts (.fieldLink RX1 31 "ReferredNamesModel" "known" "I") (by decide +kernel)) (fun _ h9 => h9) rfl dX1_byteOf_6 ?_
    refine lv_icmp_ge (tgt := 26) hx hb dX1_byteOf_9 (by decide) (fun c1 => ?_) (fun c1 => ?_)
    · refine lv_iconst (v := (-1)) hx hb dX1_byteOf_26 (by decide) ?_
      exact rb_top ((rn_bo_f (fun q9 => by rw [rn_kn_f2 c1] at q9; exact absurd q9.1 (by decide))).symm) (hret _ _ dX1_byteOf_27)
    · obtain ⟨j, hj, rfl⟩ := rn_kn_t (by omega) (rn_kn_tt c0 c1)
      refine lv_iload_n hx hb dX1_byteOf_12 rfl (lv_at hl 2 rfl) ?_
      refine lv_if_lt (tgt := 26) hx hb dX1_byteOf_13 (by decide) (fun c2 => ?_) (fun c2 => ?_)
      · refine lv_iconst (v := (-1)) hx hb dX1_byteOf_26 (by decide) ?_
        exact rb_top ((rn_bo_f (fun q9 => q9.2.1 c2)).symm) (hret _ _ dX1_byteOf_27)
      · refine lv_iload_n hx hb dX1_byteOf_16 rfl (lv_at hl 2 rfl) ?_
        refine lv_aload_n hx hb dX1_byteOf_17 rfl (lv_at hl 0 rfl) ?_
        refine va_get (D := D) (ci := 1) (v := .ref (q 3)) (C := RX1) (T := TX1) (N := 7) hx hb hts hin hown hK hP 0 rfl rfl 3 (by decide) (hts (.fieldLink RX1 16 "ReferredNamesModel" "sizes" "[I") (by decide +kernel)) (fun _ h9 => h9) rfl dX1_byteOf_18 ?_
        refine lv_iload_n hx hb dX1_byteOf_21 rfl (lv_at hl 1 rfl) ?_
        refine rb_ild hx hb hK hP 3 2 rfl rfl (i := j) (by omega) (by decide) dX1_byteOf_22 ?_
        refine lv_icmp_lt (tgt := 28) hx hb dX1_byteOf_23 (by decide) (fun c3 => ?_) (fun c3 => ?_)
        · obtain ⟨y, hy, ey⟩ := hln j hj
          obtain ⟨z, hz, rfl⟩ := nI_of c2
          have hzy : z < y := by rw [ey, nI_ltI hz (by omega)] at c3; exact c3
          refine lv_aload_n hx hb dX1_byteOf_28 rfl (lv_at hl 0 rfl) ?_
          refine va_get (D := D) (ci := 1) (v := .ref (q 2)) (C := RX1) (T := TX1) (N := 7) hx hb hts hin hown hK hP 0 rfl rfl 2 (by decide) (hts (.fieldLink RX1 13 "ReferredNamesModel" "bytes" "[I") (by decide +kernel)) (fun _ h9 => h9) rfl dX1_byteOf_29 ?_
          refine lv_bipush (v := nI 60) hx hb dX1_byteOf_32 (by decide) ?_
          refine lv_iload_n hx hb dX1_byteOf_34 rfl (lv_at hl 1 rfl) ?_
          refine lv_imul hx hb dX1_byteOf_35 ?_
          refine rb_top (y := nI (j * 60)) (by rw [pk_mul, Nat.mul_comm]) ?_
          refine lv_iload_n hx hb dX1_byteOf_36 rfl (lv_at hl 2 rfl) ?_
          refine lv_iadd hx hb dX1_byteOf_37 ?_
          refine rb_top (y := nI ((j * 60) + z)) (nI_add (j * 60) z) ?_
          refine rb_ild hx hb hK hP 2 1 rfl rfl (i := (j * 60) + z) (by omega) (by decide) dX1_byteOf_38 ?_
          exact rb_top ((rn_bo_t hj (by omega) hz c3).symm) (hret _ _ dX1_byteOf_39)
        · refine lv_iconst (v := (-1)) hx hb dX1_byteOf_26 (by decide) ?_
          exact rb_top ((rn_bo_f (fun q9 => c3 (by have q8 := q9.2.2; rw [nI_clamp (by omega)] at q8; exact q8))).symm) (hret _ _ dX1_byteOf_27)
abbrev rmX1_count : Room := { frames := 2, cells := 0, slots := 0, locals := 44 }
set_option maxHeartbeats 4000000 in
set_option maxRecDepth 100000 in
theorem kX1_count (l : Launch) (D : va_G) (h : Nat) (q : Nat → Nat) (cs : Nat → ClassId) (fh : Nat → Int32) (n : Nat) (fb fl fg fr : Nat → Int32) (k : Nat) (hn : n ≤ 60) (hk : k ≤ 200) (w : Int32) (hg0 : ∀ j, j < k → ∃ y : Nat, y < 2 ^ 30 ∧ fg j = nI y) (hr0 : ∀ j, j < k → ∃ y : Nat, y < 2 ^ 30 ∧ fr j = nI y) : Met l yX1_count wsX1_count rmX1_count (rd_P D vwCl (tM cs) [.ref h, .int w] (wM h q cs fh n fb fl fg fr k)) (QcRead (rn_cnt n fg fr k w)) 0 0 (fun _ => False) := by
  refine rd_of (cc := cX1_count) (maxL := 6) (ty := .int) (by decide) rfl rfl (Nat.le_of_ble_eq_true rfl) ?_
  intro p e s m args below meth c ls Q hx hb hml hown hts hK hP hl hret
  have hown : s.vm.findClass RX1 = some m.cls := hown
  have hin : ∀ w ∈ wsX10, w ∈ wsX1_count := by decide +kernel
  have hl : lv_has ls 6 [(0, .ref h), (1, .int w)] := hl
  have loop : ∀ (f : Nat) (j : Nat) (a1 a2 a3 : Int32) (ls : Array Slot), j + f = k → rn_fo (rn_g1 fg) f j a1 = rn_fo (rn_g1 fg) k 0 0 → rn_fo (rn_g2 fg fr) f j a2 = rn_fo (rn_g2 fg fr) k 0 0 → rn_fo (rn_g3 fg) f j a3 = rn_fo (rn_g3 fg) k 0 0 → lv_has ls 6 [(0, .ref h), (1, .int w), (2, .int a1), (3, .int a2), (4, .int a3), (5, .int (nI j))] → W p l e rmX1_count s m args below meth c s.heap [] 0 0 Q (F0 m 10 ls []) := by
    intro f
    induction f with
    | zero =>
      intro j a1 a2 a3 ls hj h1 h2 h3 hl
      refine lv_iload hx hb dX1_count_10 (lv_at hl 5 rfl) ?_
      refine lv_aload_n hx hb dX1_count_12 rfl (lv_at hl 0 rfl) ?_
      refine va_get (D := D) (ci := 1) (v := .int (nI k)) (C := RX1) (T := TX1) (N := 7) hx hb hts hin hown hK hP 0 rfl rfl 6 (by decide) (hts (.fieldLink RX1 31 "ReferredNamesModel" "known" "I") (by decide +kernel)) (fun _ h9 => h9) rfl dX1_count_13 ?_
      refine lv_icmp_ge (tgt := 90) hx hb dX1_count_16 (by decide) (fun c0 => ?_) (fun c0 => ?_)
      · rw [nI_leI (by omega) (by omega)] at c0
        have e1 : a1 = rn_fo (rn_g1 fg) k 0 0 := h1
        have e2 : a2 = rn_fo (rn_g2 fg fr) k 0 0 := h2
        have e3 : a3 = rn_fo (rn_g3 fg) k 0 0 := h3
        rw [e1, e2, e3] at hl
        have hl := lv_sub hl [0, 1, 2, 3, 4] rfl
        have hl : lv_has ls 6 [(0, .ref h), (1, .int w), (2, .int (rn_fo (rn_g1 fg) k 0 0)), (3, .int (rn_fo (rn_g2 fg fr) k 0 0)), (4, .int (rn_fo (rn_g3 fg) k 0 0))] := hl
        rcases rn_sw (x := w) (n := 6) (by decide) with ⟨y, hy, rfl⟩ | hd
        · rcases (show y = 0 ∨ y = 1 ∨ y = 2 ∨ y = 3 ∨ y = 4 ∨ y = 5 by omega) with rfl | rfl | rfl | rfl | rfl | rfl
          · refine lv_iload_n hx hb dX1_count_90 rfl (lv_at hl 1 rfl) ?_
            refine lv_if_ne (tgt := 101) hx hb dX1_count_91 (by decide) (fun c4 => ?_) (fun c4 => ?_)
            · rw [show (0 : Int32) = nI 0 from rfl] at c4
              rw [nI_eq (by omega) (by omega)] at c4
              exact absurd rfl c4
            · rw [show (0 : Int32) = nI 0 from rfl] at c4
              rw [nI_eq (by omega) (by omega)] at c4
              refine lv_aload_n hx hb dX1_count_94 rfl (lv_at hl 0 rfl) ?_
              refine va_get (D := D) (ci := 1) (v := .int (nI k)) (C := RX1) (T := TX1) (N := 7) hx hb hts hin hown hK hP 0 rfl rfl 6 (by decide) (hts (.fieldLink RX1 31 "ReferredNamesModel" "known" "I") (by decide +kernel)) (fun _ h9 => h9) rfl dX1_count_95 ?_
              refine lv_goto (tgt := 155) hx hb dX1_count_98 (by decide) ?_
              exact rb_top (rn_cnt_0.symm) (hret _ _ dX1_count_155)
          · refine lv_iload_n hx hb dX1_count_90 rfl (lv_at hl 1 rfl) ?_
            refine lv_if_ne (tgt := 101) hx hb dX1_count_91 (by decide) (fun c4 => ?_) (fun c4 => ?_)
            · rw [show (0 : Int32) = nI 0 from rfl] at c4
              rw [nI_eq (by omega) (by omega)] at c4
              refine lv_iload_n hx hb dX1_count_101 rfl (lv_at hl 1 rfl) ?_
              refine lv_iconst (v := nI 1) hx hb dX1_count_102 (by decide) ?_
              refine lv_icmp_ne (tgt := 110) hx hb dX1_count_103 (by decide) (fun c5 => ?_) (fun c5 => ?_)
              · rw [nI_eq (by omega) (by omega)] at c5
                exact absurd rfl c5
              · rw [nI_eq (by omega) (by omega)] at c5
                refine lv_iload_n hx hb dX1_count_106 rfl (lv_at hl 2 rfl) ?_
                refine lv_goto (tgt := 155) hx hb dX1_count_107 (by decide) ?_
                exact rb_top (rn_cnt_1.symm) (hret _ _ dX1_count_155)
            · rw [show (0 : Int32) = nI 0 from rfl] at c4
              rw [nI_eq (by omega) (by omega)] at c4
              exfalso; omega
          · refine lv_iload_n hx hb dX1_count_90 rfl (lv_at hl 1 rfl) ?_
            refine lv_if_ne (tgt := 101) hx hb dX1_count_91 (by decide) (fun c4 => ?_) (fun c4 => ?_)
            · rw [show (0 : Int32) = nI 0 from rfl] at c4
              rw [nI_eq (by omega) (by omega)] at c4
              refine lv_iload_n hx hb dX1_count_101 rfl (lv_at hl 1 rfl) ?_
              refine lv_iconst (v := nI 1) hx hb dX1_count_102 (by decide) ?_
              refine lv_icmp_ne (tgt := 110) hx hb dX1_count_103 (by decide) (fun c5 => ?_) (fun c5 => ?_)
              · rw [nI_eq (by omega) (by omega)] at c5
                refine lv_iload_n hx hb dX1_count_110 rfl (lv_at hl 1 rfl) ?_
                refine lv_iconst (v := nI 2) hx hb dX1_count_111 (by decide) ?_
                refine lv_icmp_ne (tgt := 119) hx hb dX1_count_112 (by decide) (fun c6 => ?_) (fun c6 => ?_)
                · rw [nI_eq (by omega) (by omega)] at c6
                  exact absurd rfl c6
                · rw [nI_eq (by omega) (by omega)] at c6
                  refine lv_iload_n hx hb dX1_count_115 rfl (lv_at hl 3 rfl) ?_
                  refine lv_goto (tgt := 155) hx hb dX1_count_116 (by decide) ?_
                  exact rb_top (rn_cnt_2.symm) (hret _ _ dX1_count_155)
              · rw [nI_eq (by omega) (by omega)] at c5
                exfalso; omega
            · rw [show (0 : Int32) = nI 0 from rfl] at c4
              rw [nI_eq (by omega) (by omega)] at c4
              exfalso; omega
          · refine lv_iload_n hx hb dX1_count_90 rfl (lv_at hl 1 rfl) ?_
            refine lv_if_ne (tgt := 101) hx hb dX1_count_91 (by decide) (fun c4 => ?_) (fun c4 => ?_)
            · rw [show (0 : Int32) = nI 0 from rfl] at c4
              rw [nI_eq (by omega) (by omega)] at c4
              refine lv_iload_n hx hb dX1_count_101 rfl (lv_at hl 1 rfl) ?_
              refine lv_iconst (v := nI 1) hx hb dX1_count_102 (by decide) ?_
              refine lv_icmp_ne (tgt := 110) hx hb dX1_count_103 (by decide) (fun c5 => ?_) (fun c5 => ?_)
              · rw [nI_eq (by omega) (by omega)] at c5
                refine lv_iload_n hx hb dX1_count_110 rfl (lv_at hl 1 rfl) ?_
                refine lv_iconst (v := nI 2) hx hb dX1_count_111 (by decide) ?_
                refine lv_icmp_ne (tgt := 119) hx hb dX1_count_112 (by decide) (fun c6 => ?_) (fun c6 => ?_)
                · rw [nI_eq (by omega) (by omega)] at c6
                  refine lv_iload_n hx hb dX1_count_119 rfl (lv_at hl 1 rfl) ?_
                  refine lv_iconst (v := nI 3) hx hb dX1_count_120 (by decide) ?_
                  refine lv_icmp_ne (tgt := 129) hx hb dX1_count_121 (by decide) (fun c7 => ?_) (fun c7 => ?_)
                  · rw [nI_eq (by omega) (by omega)] at c7
                    exact absurd rfl c7
                  · rw [nI_eq (by omega) (by omega)] at c7
                    refine lv_iload hx hb dX1_count_124 (lv_at hl 4 rfl) ?_
                    refine lv_goto (tgt := 155) hx hb dX1_count_126 (by decide) ?_
                    exact rb_top (rn_cnt_3.symm) (hret _ _ dX1_count_155)
                · rw [nI_eq (by omega) (by omega)] at c6
                  exfalso; omega
              · rw [nI_eq (by omega) (by omega)] at c5
                exfalso; omega
            · rw [show (0 : Int32) = nI 0 from rfl] at c4
              rw [nI_eq (by omega) (by omega)] at c4
              exfalso; omega
          · refine lv_iload_n hx hb dX1_count_90 rfl (lv_at hl 1 rfl) ?_
            refine lv_if_ne (tgt := 101) hx hb dX1_count_91 (by decide) (fun c4 => ?_) (fun c4 => ?_)
            · rw [show (0 : Int32) = nI 0 from rfl] at c4
              rw [nI_eq (by omega) (by omega)] at c4
              refine lv_iload_n hx hb dX1_count_101 rfl (lv_at hl 1 rfl) ?_
              refine lv_iconst (v := nI 1) hx hb dX1_count_102 (by decide) ?_
              refine lv_icmp_ne (tgt := 110) hx hb dX1_count_103 (by decide) (fun c5 => ?_) (fun c5 => ?_)
              · rw [nI_eq (by omega) (by omega)] at c5
                refine lv_iload_n hx hb dX1_count_110 rfl (lv_at hl 1 rfl) ?_
                refine lv_iconst (v := nI 2) hx hb dX1_count_111 (by decide) ?_
                refine lv_icmp_ne (tgt := 119) hx hb dX1_count_112 (by decide) (fun c6 => ?_) (fun c6 => ?_)
                · rw [nI_eq (by omega) (by omega)] at c6
                  refine lv_iload_n hx hb dX1_count_119 rfl (lv_at hl 1 rfl) ?_
                  refine lv_iconst (v := nI 3) hx hb dX1_count_120 (by decide) ?_
                  refine lv_icmp_ne (tgt := 129) hx hb dX1_count_121 (by decide) (fun c7 => ?_) (fun c7 => ?_)
                  · rw [nI_eq (by omega) (by omega)] at c7
                    refine lv_iload_n hx hb dX1_count_129 rfl (lv_at hl 1 rfl) ?_
                    refine lv_iconst (v := nI 4) hx hb dX1_count_130 (by decide) ?_
                    refine lv_icmp_ne (tgt := 141) hx hb dX1_count_131 (by decide) (fun c8 => ?_) (fun c8 => ?_)
                    · rw [nI_eq (by omega) (by omega)] at c8
                      exact absurd rfl c8
                    · rw [nI_eq (by omega) (by omega)] at c8
                      refine lv_aload_n hx hb dX1_count_134 rfl (lv_at hl 0 rfl) ?_
                      refine va_get (D := D) (ci := 1) (v := .int (nI n)) (C := RX1) (T := TX1) (N := 7) hx hb hts hin hown hK hP 0 rfl rfl 1 (by decide) (hts (.fieldLink RX1 25 "ReferredNamesModel" "inHand" "I") (by decide +kernel)) (fun _ h9 => h9) rfl dX1_count_135 ?_
                      refine lv_goto (tgt := 155) hx hb dX1_count_138 (by decide) ?_
                      exact rb_top (rn_cnt_4.symm) (hret _ _ dX1_count_155)
                  · rw [nI_eq (by omega) (by omega)] at c7
                    exfalso; omega
                · rw [nI_eq (by omega) (by omega)] at c6
                  exfalso; omega
              · rw [nI_eq (by omega) (by omega)] at c5
                exfalso; omega
            · rw [show (0 : Int32) = nI 0 from rfl] at c4
              rw [nI_eq (by omega) (by omega)] at c4
              exfalso; omega
          · refine lv_iload_n hx hb dX1_count_90 rfl (lv_at hl 1 rfl) ?_
            refine lv_if_ne (tgt := 101) hx hb dX1_count_91 (by decide) (fun c4 => ?_) (fun c4 => ?_)
            · rw [show (0 : Int32) = nI 0 from rfl] at c4
              rw [nI_eq (by omega) (by omega)] at c4
              refine lv_iload_n hx hb dX1_count_101 rfl (lv_at hl 1 rfl) ?_
              refine lv_iconst (v := nI 1) hx hb dX1_count_102 (by decide) ?_
              refine lv_icmp_ne (tgt := 110) hx hb dX1_count_103 (by decide) (fun c5 => ?_) (fun c5 => ?_)
              · rw [nI_eq (by omega) (by omega)] at c5
                refine lv_iload_n hx hb dX1_count_110 rfl (lv_at hl 1 rfl) ?_
                refine lv_iconst (v := nI 2) hx hb dX1_count_111 (by decide) ?_
                refine lv_icmp_ne (tgt := 119) hx hb dX1_count_112 (by decide) (fun c6 => ?_) (fun c6 => ?_)
                · rw [nI_eq (by omega) (by omega)] at c6
                  refine lv_iload_n hx hb dX1_count_119 rfl (lv_at hl 1 rfl) ?_
                  refine lv_iconst (v := nI 3) hx hb dX1_count_120 (by decide) ?_
                  refine lv_icmp_ne (tgt := 129) hx hb dX1_count_121 (by decide) (fun c7 => ?_) (fun c7 => ?_)
                  · rw [nI_eq (by omega) (by omega)] at c7
                    refine lv_iload_n hx hb dX1_count_129 rfl (lv_at hl 1 rfl) ?_
                    refine lv_iconst (v := nI 4) hx hb dX1_count_130 (by decide) ?_
                    refine lv_icmp_ne (tgt := 141) hx hb dX1_count_131 (by decide) (fun c8 => ?_) (fun c8 => ?_)
                    · rw [nI_eq (by omega) (by omega)] at c8
                      refine lv_iload_n hx hb dX1_count_141 rfl (lv_at hl 1 rfl) ?_
                      refine lv_iconst (v := nI 5) hx hb dX1_count_142 (by decide) ?_
                      refine lv_icmp_ne (tgt := 154) hx hb dX1_count_143 (by decide) (fun c9 => ?_) (fun c9 => ?_)
                      · rw [nI_eq (by omega) (by omega)] at c9
                        exact absurd rfl c9
                      · rw [nI_eq (by omega) (by omega)] at c9
                        refine lv_aload_n hx hb dX1_count_146 rfl (lv_at hl 0 rfl) ?_
                        refine lv_iconst (v := nI 0) hx hb dX1_count_147 (by decide) ?_
                        refine rd_call (ci := 1) (b := h) (As := [.int (nI 0)]) (rest := []) ⟨hx, hb, hml, hown, hts⟩ (kX1_missingFrom l D h q cs fh n fb fl fg fr k (by omega) (by omega) 0 (by omega) hr0) (cwV 1 hts gX1_count_X1_missingFrom rfl rfl rfl (by decide +kernel) ⟨Nat.le_of_ble_eq_true rfl, Nat.le_of_ble_eq_true rfl⟩) hK hP rfl rfl rfl rfl hl.1 rfl (Nat.le_of_ble_eq_true rfl) dX1_count_148 ⟨Nat.zero_le _, Nat.zero_le _⟩ ?_
                        refine lv_goto (tgt := 155) hx hb dX1_count_151 (by decide) ?_
                        exact rb_top (rn_cnt_5.symm) (hret _ _ dX1_count_155)
                    · rw [nI_eq (by omega) (by omega)] at c8
                      exfalso; omega
                  · rw [nI_eq (by omega) (by omega)] at c7
                    exfalso; omega
                · rw [nI_eq (by omega) (by omega)] at c6
                  exfalso; omega
              · rw [nI_eq (by omega) (by omega)] at c5
                exfalso; omega
            · rw [show (0 : Int32) = nI 0 from rfl] at c4
              rw [nI_eq (by omega) (by omega)] at c4
              exfalso; omega
        · refine lv_iload_n hx hb dX1_count_90 rfl (lv_at hl 1 rfl) ?_
          refine lv_if_ne (tgt := 101) hx hb dX1_count_91 (by decide) (fun c4 => ?_) (fun c4 => ?_)
          · refine lv_iload_n hx hb dX1_count_101 rfl (lv_at hl 1 rfl) ?_
            refine lv_iconst (v := nI 1) hx hb dX1_count_102 (by decide) ?_
            refine lv_icmp_ne (tgt := 110) hx hb dX1_count_103 (by decide) (fun c5 => ?_) (fun c5 => ?_)
            · refine lv_iload_n hx hb dX1_count_110 rfl (lv_at hl 1 rfl) ?_
              refine lv_iconst (v := nI 2) hx hb dX1_count_111 (by decide) ?_
              refine lv_icmp_ne (tgt := 119) hx hb dX1_count_112 (by decide) (fun c6 => ?_) (fun c6 => ?_)
              · refine lv_iload_n hx hb dX1_count_119 rfl (lv_at hl 1 rfl) ?_
                refine lv_iconst (v := nI 3) hx hb dX1_count_120 (by decide) ?_
                refine lv_icmp_ne (tgt := 129) hx hb dX1_count_121 (by decide) (fun c7 => ?_) (fun c7 => ?_)
                · refine lv_iload_n hx hb dX1_count_129 rfl (lv_at hl 1 rfl) ?_
                  refine lv_iconst (v := nI 4) hx hb dX1_count_130 (by decide) ?_
                  refine lv_icmp_ne (tgt := 141) hx hb dX1_count_131 (by decide) (fun c8 => ?_) (fun c8 => ?_)
                  · refine lv_iload_n hx hb dX1_count_141 rfl (lv_at hl 1 rfl) ?_
                    refine lv_iconst (v := nI 5) hx hb dX1_count_142 (by decide) ?_
                    refine lv_icmp_ne (tgt := 154) hx hb dX1_count_143 (by decide) (fun c9 => ?_) (fun c9 => ?_)
                    · refine lv_iconst (v := (-1)) hx hb dX1_count_154 (by decide) ?_
                      exact rb_top ((rn_cnt_d hd).symm) (hret _ _ dX1_count_155)
                    · exact absurd c9 (rn_out hd (by decide) (by decide))
                  · exact absurd c8 (rn_out hd (by decide) (by decide))
                · exact absurd c7 (rn_out hd (by decide) (by decide))
              · exact absurd c6 (rn_out hd (by decide) (by decide))
            · exact absurd c5 (rn_out hd (by decide) (by decide))
          · exact absurd c4 (rn_out hd (by decide) (by decide))
      · rw [nI_leI (by omega) (by omega)] at c0
        exfalso; omega
    | succ f ih =>
      intro j a1 a2 a3 ls hj h1 h2 h3 hl
      refine lv_iload hx hb dX1_count_10 (lv_at hl 5 rfl) ?_
      refine lv_aload_n hx hb dX1_count_12 rfl (lv_at hl 0 rfl) ?_
      refine va_get (D := D) (ci := 1) (v := .int (nI k)) (C := RX1) (T := TX1) (N := 7) hx hb hts hin hown hK hP 0 rfl rfl 6 (by decide) (hts (.fieldLink RX1 31 "ReferredNamesModel" "known" "I") (by decide +kernel)) (fun _ h9 => h9) rfl dX1_count_13 ?_
      refine lv_icmp_ge (tgt := 90) hx hb dX1_count_16 (by decide) (fun c0 => ?_) (fun c0 => ?_)
      · rw [nI_leI (by omega) (by omega)] at c0
        exfalso; omega
      · rw [nI_leI (by omega) (by omega)] at c0
        refine lv_aload_n hx hb dX1_count_19 rfl (lv_at hl 0 rfl) ?_
        refine va_get (D := D) (ci := 1) (v := .ref (q 4)) (C := RX1) (T := TX1) (N := 7) hx hb hts hin hown hK hP 0 rfl rfl 4 (by decide) (hts (.fieldLink RX1 19 "ReferredNamesModel" "given" "[I") (by decide +kernel)) (fun _ h9 => h9) rfl dX1_count_20 ?_
        refine lv_iload hx hb dX1_count_23 (lv_at hl 5 rfl) ?_
        refine rb_ild hx hb hK hP 4 3 rfl rfl (i := j) (by omega) (by decide) dX1_count_25 ?_
        refine lv_if_le (tgt := 35) hx hb dX1_count_26 (by decide) (fun c1 => ?_) (fun c1 => ?_)
        · refine lv_iload_n hx hb dX1_count_35 rfl (lv_at hl 2 rfl) ?_
          refine lv_istore_n (lv' := [(2, .int a1), (0, .ref h), (1, .int w), (3, .int a2), (4, .int a3), (5, .int (nI j))]) hx hb dX1_count_36 rfl hl (by decide) rfl (fun ls hl => ?_)
          refine lv_aload_n hx hb dX1_count_37 rfl (lv_at hl 1 rfl) ?_
          refine lv_iload hx hb dX1_count_38 (lv_at hl 5 rfl) ?_
          refine rd_call (ci := 1) (b := h) (As := [.int (nI j)]) (rest := []) ⟨hx, hb, hml, hown, hts⟩ (kX1_isMissing l D h q cs fh n fb fl fg fr k (by omega) (by omega) j (by omega) hr0) (cwV 1 hts gX1_count_X1_isMissing rfl rfl rfl (by decide +kernel) ⟨Nat.le_of_ble_eq_true rfl, Nat.le_of_ble_eq_true rfl⟩) hK hP rfl rfl rfl rfl hl.1 rfl (Nat.le_of_ble_eq_true rfl) dX1_count_40 ⟨Nat.zero_le _, Nat.zero_le _⟩ ?_
          refine lv_if_eq (tgt := 52) hx hb dX1_count_43 (by decide) (fun c2 => ?_) (fun c2 => ?_)
          · refine lv_iload_n hx hb dX1_count_52 rfl (lv_at hl 3 rfl) ?_
            refine lv_istore_n (lv' := [(3, .int a2), (2, .int a1), (0, .ref h), (1, .int w), (4, .int a3), (5, .int (nI j))]) hx hb dX1_count_53 rfl hl (by decide) rfl (fun ls hl => ?_)
            refine lv_aload_n hx hb dX1_count_54 rfl (lv_at hl 2 rfl) ?_
            refine va_get (D := D) (ci := 1) (v := .ref (q 4)) (C := RX1) (T := TX1) (N := 7) hx hb hts hin hown hK hP 0 rfl rfl 4 (by decide) (hts (.fieldLink RX1 19 "ReferredNamesModel" "given" "[I") (by decide +kernel)) (fun _ h9 => h9) rfl dX1_count_55 ?_
            refine lv_iload hx hb dX1_count_58 (lv_at hl 5 rfl) ?_
            refine rb_ild hx hb hK hP 4 3 rfl rfl (i := j) (by omega) (by decide) dX1_count_60 ?_
            refine lv_iconst (v := nI 1) hx hb dX1_count_61 (by decide) ?_
            refine lv_icmp_le (tgt := 80) hx hb dX1_count_62 (by decide) (fun c3 => ?_) (fun c3 => ?_)
            · refine lv_iload hx hb dX1_count_80 (lv_at hl 4 rfl) ?_
              refine lv_istore (lv' := [(4, .int a3), (3, .int a2), (2, .int a1), (0, .ref h), (1, .int w), (5, .int (nI j))]) hx hb dX1_count_82 hl (by decide) rfl (fun ls hl => ?_)
              refine lv_iinc (v := nI (j + 1)) (lv' := [(5, .int (nI (j + 1))), (4, .int a3), (3, .int a2), (2, .int a1), (0, .ref h), (1, .int w)]) hx hb dX1_count_84 hl (k := 5) rfl (nI_1 j) (by decide) rfl (fun ls hl => ?_)
              refine lv_goto (tgt := 10) hx hb dX1_count_87 (by decide) ?_
              exact ih (j + 1) (a1) (a2) (a3) ls (by omega) ((rn_fo_s (rn_g1_f (decide_eq_false (fun q9 => q9 (rn_le0 (hg0 j (by omega)) c1))))).symm.trans h1) ((rn_fo_s (rn_g2_f (rn_b_eq c2))).symm.trans h2) ((rn_fo_s (rn_g3_l (hg0 j (by omega)) c3)).symm.trans h3) (lv_sub hl [4, 5, 3, 2, 1, 0] rfl)
            · refine lv_iload hx hb dX1_count_65 (lv_at hl 4 rfl) ?_
              refine lv_aload_n hx hb dX1_count_67 rfl (lv_at hl 2 rfl) ?_
              refine va_get (D := D) (ci := 1) (v := .ref (q 4)) (C := RX1) (T := TX1) (N := 7) hx hb hts hin hown hK hP 0 rfl rfl 4 (by decide) (hts (.fieldLink RX1 19 "ReferredNamesModel" "given" "[I") (by decide +kernel)) (fun _ h9 => h9) rfl dX1_count_68 ?_
              refine lv_iload hx hb dX1_count_71 (lv_at hl 5 rfl) ?_
              refine rb_ild hx hb hK hP 4 3 rfl rfl (i := j) (by omega) (by decide) dX1_count_73 ?_
              refine lv_iadd hx hb dX1_count_74 ?_
              refine lv_iconst (v := nI 1) hx hb dX1_count_75 (by decide) ?_
              refine lv_isub hx hb dX1_count_76 ?_
              refine rb_top (y := a3 + (fg j - 1)) (rn_sub1 a3 (fg j)) ?_
              refine lv_goto (tgt := 82) hx hb dX1_count_77 (by decide) ?_
              refine lv_istore (lv' := [(4, .int (a3 + (fg j - 1))), (3, .int a2), (2, .int a1), (0, .ref h), (1, .int w), (5, .int (nI j))]) hx hb dX1_count_82 hl (by decide) rfl (fun ls hl => ?_)
              refine lv_iinc (v := nI (j + 1)) (lv' := [(5, .int (nI (j + 1))), (4, .int (a3 + (fg j - 1))), (3, .int a2), (2, .int a1), (0, .ref h), (1, .int w)]) hx hb dX1_count_84 hl (k := 5) rfl (nI_1 j) (by decide) rfl (fun ls hl => ?_)
              refine lv_goto (tgt := 10) hx hb dX1_count_87 (by decide) ?_
              exact ih (j + 1) (a1) (a2) (a3 + (fg j - 1)) ls (by omega) ((rn_fo_s (rn_g1_f (decide_eq_false (fun q9 => q9 (rn_le0 (hg0 j (by omega)) c1))))).symm.trans h1) ((rn_fo_s (rn_g2_f (rn_b_eq c2))).symm.trans h2) ((rn_fo_s (rn_g3_m (hg0 j (by omega)) c3)).symm.trans h3) (lv_sub hl [4, 5, 3, 2, 1, 0] rfl)
          · refine lv_iload_n hx hb dX1_count_46 rfl (lv_at hl 3 rfl) ?_
            refine lv_iconst (v := nI 1) hx hb dX1_count_47 (by decide) ?_
            refine lv_iadd hx hb dX1_count_48 ?_
            refine rb_top (y := a2 + 1) rfl ?_
            refine lv_goto (tgt := 53) hx hb dX1_count_49 (by decide) ?_
            refine lv_istore_n (lv' := [(3, .int (a2 + 1)), (2, .int a1), (0, .ref h), (1, .int w), (4, .int a3), (5, .int (nI j))]) hx hb dX1_count_53 rfl hl (by decide) rfl (fun ls hl => ?_)
            refine lv_aload_n hx hb dX1_count_54 rfl (lv_at hl 2 rfl) ?_
            refine va_get (D := D) (ci := 1) (v := .ref (q 4)) (C := RX1) (T := TX1) (N := 7) hx hb hts hin hown hK hP 0 rfl rfl 4 (by decide) (hts (.fieldLink RX1 19 "ReferredNamesModel" "given" "[I") (by decide +kernel)) (fun _ h9 => h9) rfl dX1_count_55 ?_
            refine lv_iload hx hb dX1_count_58 (lv_at hl 5 rfl) ?_
            refine rb_ild hx hb hK hP 4 3 rfl rfl (i := j) (by omega) (by decide) dX1_count_60 ?_
            refine lv_iconst (v := nI 1) hx hb dX1_count_61 (by decide) ?_
            refine lv_icmp_le (tgt := 80) hx hb dX1_count_62 (by decide) (fun c3 => ?_) (fun c3 => ?_)
            · refine lv_iload hx hb dX1_count_80 (lv_at hl 4 rfl) ?_
              refine lv_istore (lv' := [(4, .int a3), (3, .int (a2 + 1)), (2, .int a1), (0, .ref h), (1, .int w), (5, .int (nI j))]) hx hb dX1_count_82 hl (by decide) rfl (fun ls hl => ?_)
              refine lv_iinc (v := nI (j + 1)) (lv' := [(5, .int (nI (j + 1))), (4, .int a3), (3, .int (a2 + 1)), (2, .int a1), (0, .ref h), (1, .int w)]) hx hb dX1_count_84 hl (k := 5) rfl (nI_1 j) (by decide) rfl (fun ls hl => ?_)
              refine lv_goto (tgt := 10) hx hb dX1_count_87 (by decide) ?_
              exact ih (j + 1) (a1) (a2 + 1) (a3) ls (by omega) ((rn_fo_s (rn_g1_f (decide_eq_false (fun q9 => q9 (rn_le0 (hg0 j (by omega)) c1))))).symm.trans h1) ((rn_fo_s (rn_g2_t (rn_b_ne c2))).symm.trans h2) ((rn_fo_s (rn_g3_l (hg0 j (by omega)) c3)).symm.trans h3) (lv_sub hl [4, 5, 3, 2, 1, 0] rfl)
            · refine lv_iload hx hb dX1_count_65 (lv_at hl 4 rfl) ?_
              refine lv_aload_n hx hb dX1_count_67 rfl (lv_at hl 2 rfl) ?_
              refine va_get (D := D) (ci := 1) (v := .ref (q 4)) (C := RX1) (T := TX1) (N := 7) hx hb hts hin hown hK hP 0 rfl rfl 4 (by decide) (hts (.fieldLink RX1 19 "ReferredNamesModel" "given" "[I") (by decide +kernel)) (fun _ h9 => h9) rfl dX1_count_68 ?_
              refine lv_iload hx hb dX1_count_71 (lv_at hl 5 rfl) ?_
              refine rb_ild hx hb hK hP 4 3 rfl rfl (i := j) (by omega) (by decide) dX1_count_73 ?_
              refine lv_iadd hx hb dX1_count_74 ?_
              refine lv_iconst (v := nI 1) hx hb dX1_count_75 (by decide) ?_
              refine lv_isub hx hb dX1_count_76 ?_
              refine rb_top (y := a3 + (fg j - 1)) (rn_sub1 a3 (fg j)) ?_
              refine lv_goto (tgt := 82) hx hb dX1_count_77 (by decide) ?_
              refine lv_istore (lv' := [(4, .int (a3 + (fg j - 1))), (3, .int (a2 + 1)), (2, .int a1), (0, .ref h), (1, .int w), (5, .int (nI j))]) hx hb dX1_count_82 hl (by decide) rfl (fun ls hl => ?_)
              refine lv_iinc (v := nI (j + 1)) (lv' := [(5, .int (nI (j + 1))), (4, .int (a3 + (fg j - 1))), (3, .int (a2 + 1)), (2, .int a1), (0, .ref h), (1, .int w)]) hx hb dX1_count_84 hl (k := 5) rfl (nI_1 j) (by decide) rfl (fun ls hl => ?_)
              refine lv_goto (tgt := 10) hx hb dX1_count_87 (by decide) ?_
              exact ih (j + 1) (a1) (a2 + 1) (a3 + (fg j - 1)) ls (by omega) ((rn_fo_s (rn_g1_f (decide_eq_false (fun q9 => q9 (rn_le0 (hg0 j (by omega)) c1))))).symm.trans h1) ((rn_fo_s (rn_g2_t (rn_b_ne c2))).symm.trans h2) ((rn_fo_s (rn_g3_m (hg0 j (by omega)) c3)).symm.trans h3) (lv_sub hl [4, 5, 3, 2, 1, 0] rfl)
        · refine lv_iload_n hx hb dX1_count_29 rfl (lv_at hl 2 rfl) ?_
          refine lv_iconst (v := nI 1) hx hb dX1_count_30 (by decide) ?_
          refine lv_iadd hx hb dX1_count_31 ?_
          refine rb_top (y := a1 + 1) rfl ?_
          refine lv_goto (tgt := 36) hx hb dX1_count_32 (by decide) ?_
          refine lv_istore_n (lv' := [(2, .int (a1 + 1)), (0, .ref h), (1, .int w), (3, .int a2), (4, .int a3), (5, .int (nI j))]) hx hb dX1_count_36 rfl hl (by decide) rfl (fun ls hl => ?_)
          refine lv_aload_n hx hb dX1_count_37 rfl (lv_at hl 1 rfl) ?_
          refine lv_iload hx hb dX1_count_38 (lv_at hl 5 rfl) ?_
          refine rd_call (ci := 1) (b := h) (As := [.int (nI j)]) (rest := []) ⟨hx, hb, hml, hown, hts⟩ (kX1_isMissing l D h q cs fh n fb fl fg fr k (by omega) (by omega) j (by omega) hr0) (cwV 1 hts gX1_count_X1_isMissing rfl rfl rfl (by decide +kernel) ⟨Nat.le_of_ble_eq_true rfl, Nat.le_of_ble_eq_true rfl⟩) hK hP rfl rfl rfl rfl hl.1 rfl (Nat.le_of_ble_eq_true rfl) dX1_count_40 ⟨Nat.zero_le _, Nat.zero_le _⟩ ?_
          refine lv_if_eq (tgt := 52) hx hb dX1_count_43 (by decide) (fun c2 => ?_) (fun c2 => ?_)
          · refine lv_iload_n hx hb dX1_count_52 rfl (lv_at hl 3 rfl) ?_
            refine lv_istore_n (lv' := [(3, .int a2), (2, .int (a1 + 1)), (0, .ref h), (1, .int w), (4, .int a3), (5, .int (nI j))]) hx hb dX1_count_53 rfl hl (by decide) rfl (fun ls hl => ?_)
            refine lv_aload_n hx hb dX1_count_54 rfl (lv_at hl 2 rfl) ?_
            refine va_get (D := D) (ci := 1) (v := .ref (q 4)) (C := RX1) (T := TX1) (N := 7) hx hb hts hin hown hK hP 0 rfl rfl 4 (by decide) (hts (.fieldLink RX1 19 "ReferredNamesModel" "given" "[I") (by decide +kernel)) (fun _ h9 => h9) rfl dX1_count_55 ?_
            refine lv_iload hx hb dX1_count_58 (lv_at hl 5 rfl) ?_
            refine rb_ild hx hb hK hP 4 3 rfl rfl (i := j) (by omega) (by decide) dX1_count_60 ?_
            refine lv_iconst (v := nI 1) hx hb dX1_count_61 (by decide) ?_
            refine lv_icmp_le (tgt := 80) hx hb dX1_count_62 (by decide) (fun c3 => ?_) (fun c3 => ?_)
            · refine lv_iload hx hb dX1_count_80 (lv_at hl 4 rfl) ?_
              refine lv_istore (lv' := [(4, .int a3), (3, .int a2), (2, .int (a1 + 1)), (0, .ref h), (1, .int w), (5, .int (nI j))]) hx hb dX1_count_82 hl (by decide) rfl (fun ls hl => ?_)
              refine lv_iinc (v := nI (j + 1)) (lv' := [(5, .int (nI (j + 1))), (4, .int a3), (3, .int a2), (2, .int (a1 + 1)), (0, .ref h), (1, .int w)]) hx hb dX1_count_84 hl (k := 5) rfl (nI_1 j) (by decide) rfl (fun ls hl => ?_)
              refine lv_goto (tgt := 10) hx hb dX1_count_87 (by decide) ?_
              exact ih (j + 1) (a1 + 1) (a2) (a3) ls (by omega) ((rn_fo_s (rn_g1_t (decide_eq_true (rn_nle0 c1)))).symm.trans h1) ((rn_fo_s (rn_g2_f (rn_b_eq c2))).symm.trans h2) ((rn_fo_s (rn_g3_l (hg0 j (by omega)) c3)).symm.trans h3) (lv_sub hl [4, 5, 3, 2, 1, 0] rfl)
            · refine lv_iload hx hb dX1_count_65 (lv_at hl 4 rfl) ?_
              refine lv_aload_n hx hb dX1_count_67 rfl (lv_at hl 2 rfl) ?_
              refine va_get (D := D) (ci := 1) (v := .ref (q 4)) (C := RX1) (T := TX1) (N := 7) hx hb hts hin hown hK hP 0 rfl rfl 4 (by decide) (hts (.fieldLink RX1 19 "ReferredNamesModel" "given" "[I") (by decide +kernel)) (fun _ h9 => h9) rfl dX1_count_68 ?_
              refine lv_iload hx hb dX1_count_71 (lv_at hl 5 rfl) ?_
              refine rb_ild hx hb hK hP 4 3 rfl rfl (i := j) (by omega) (by decide) dX1_count_73 ?_
              refine lv_iadd hx hb dX1_count_74 ?_
              refine lv_iconst (v := nI 1) hx hb dX1_count_75 (by decide) ?_
              refine lv_isub hx hb dX1_count_76 ?_
              refine rb_top (y := a3 + (fg j - 1)) (rn_sub1 a3 (fg j)) ?_
              refine lv_goto (tgt := 82) hx hb dX1_count_77 (by decide) ?_
              refine lv_istore (lv' := [(4, .int (a3 + (fg j - 1))), (3, .int a2), (2, .int (a1 + 1)), (0, .ref h), (1, .int w), (5, .int (nI j))]) hx hb dX1_count_82 hl (by decide) rfl (fun ls hl => ?_)
              refine lv_iinc (v := nI (j + 1)) (lv' := [(5, .int (nI (j + 1))), (4, .int (a3 + (fg j - 1))), (3, .int a2), (2, .int (a1 + 1)), (0, .ref h), (1, .int w)]) hx hb dX1_count_84 hl (k := 5) rfl (nI_1 j) (by decide) rfl (fun ls hl => ?_)
              refine lv_goto (tgt := 10) hx hb dX1_count_87 (by decide) ?_
              exact ih (j + 1) (a1 + 1) (a2) (a3 + (fg j - 1)) ls (by omega) ((rn_fo_s (rn_g1_t (decide_eq_true (rn_nle0 c1)))).symm.trans h1) ((rn_fo_s (rn_g2_f (rn_b_eq c2))).symm.trans h2) ((rn_fo_s (rn_g3_m (hg0 j (by omega)) c3)).symm.trans h3) (lv_sub hl [4, 5, 3, 2, 1, 0] rfl)
          · refine lv_iload_n hx hb dX1_count_46 rfl (lv_at hl 3 rfl) ?_
            refine lv_iconst (v := nI 1) hx hb dX1_count_47 (by decide) ?_
            refine lv_iadd hx hb dX1_count_48 ?_
            refine rb_top (y := a2 + 1) rfl ?_
            refine lv_goto (tgt := 53) hx hb dX1_count_49 (by decide) ?_
            refine lv_istore_n (lv' := [(3, .int (a2 + 1)), (2, .int (a1 + 1)), (0, .ref h), (1, .int w), (4, .int a3), (5, .int (nI j))]) hx hb dX1_count_53 rfl hl (by decide) rfl (fun ls hl => ?_)
            refine lv_aload_n hx hb dX1_count_54 rfl (lv_at hl 2 rfl) ?_
            refine va_get (D := D) (ci := 1) (v := .ref (q 4)) (C := RX1) (T := TX1) (N := 7) hx hb hts hin hown hK hP 0 rfl rfl 4 (by decide) (hts (.fieldLink RX1 19 "ReferredNamesModel" "given" "[I") (by decide +kernel)) (fun _ h9 => h9) rfl dX1_count_55 ?_
            refine lv_iload hx hb dX1_count_58 (lv_at hl 5 rfl) ?_
            refine rb_ild hx hb hK hP 4 3 rfl rfl (i := j) (by omega) (by decide) dX1_count_60 ?_
            refine lv_iconst (v := nI 1) hx hb dX1_count_61 (by decide) ?_
            refine lv_icmp_le (tgt := 80) hx hb dX1_count_62 (by decide) (fun c3 => ?_) (fun c3 => ?_)
            · refine lv_iload hx hb dX1_count_80 (lv_at hl 4 rfl) ?_
              refine lv_istore (lv' := [(4, .int a3), (3, .int (a2 + 1)), (2, .int (a1 + 1)), (0, .ref h), (1, .int w), (5, .int (nI j))]) hx hb dX1_count_82 hl (by decide) rfl (fun ls hl => ?_)
              refine lv_iinc (v := nI (j + 1)) (lv' := [(5, .int (nI (j + 1))), (4, .int a3), (3, .int (a2 + 1)), (2, .int (a1 + 1)), (0, .ref h), (1, .int w)]) hx hb dX1_count_84 hl (k := 5) rfl (nI_1 j) (by decide) rfl (fun ls hl => ?_)
              refine lv_goto (tgt := 10) hx hb dX1_count_87 (by decide) ?_
              exact ih (j + 1) (a1 + 1) (a2 + 1) (a3) ls (by omega) ((rn_fo_s (rn_g1_t (decide_eq_true (rn_nle0 c1)))).symm.trans h1) ((rn_fo_s (rn_g2_t (rn_b_ne c2))).symm.trans h2) ((rn_fo_s (rn_g3_l (hg0 j (by omega)) c3)).symm.trans h3) (lv_sub hl [4, 5, 3, 2, 1, 0] rfl)
            · refine lv_iload hx hb dX1_count_65 (lv_at hl 4 rfl) ?_
              refine lv_aload_n hx hb dX1_count_67 rfl (lv_at hl 2 rfl) ?_
              refine va_get (D := D) (ci := 1) (v := .ref (q 4)) (C := RX1) (T := TX1) (N := 7) hx hb hts hin hown hK hP 0 rfl rfl 4 (by decide) (hts (.fieldLink RX1 19 "ReferredNamesModel" "given" "[I") (by decide +kernel)) (fun _ h9 => h9) rfl dX1_count_68 ?_
              refine lv_iload hx hb dX1_count_71 (lv_at hl 5 rfl) ?_
              refine rb_ild hx hb hK hP 4 3 rfl rfl (i := j) (by omega) (by decide) dX1_count_73 ?_
              refine lv_iadd hx hb dX1_count_74 ?_
              refine lv_iconst (v := nI 1) hx hb dX1_count_75 (by decide) ?_
              refine lv_isub hx hb dX1_count_76 ?_
              refine rb_top (y := a3 + (fg j - 1)) (rn_sub1 a3 (fg j)) ?_
              refine lv_goto (tgt := 82) hx hb dX1_count_77 (by decide) ?_
              refine lv_istore (lv' := [(4, .int (a3 + (fg j - 1))), (3, .int (a2 + 1)), (2, .int (a1 + 1)), (0, .ref h), (1, .int w), (5, .int (nI j))]) hx hb dX1_count_82 hl (by decide) rfl (fun ls hl => ?_)
              refine lv_iinc (v := nI (j + 1)) (lv' := [(5, .int (nI (j + 1))), (4, .int (a3 + (fg j - 1))), (3, .int (a2 + 1)), (2, .int (a1 + 1)), (0, .ref h), (1, .int w)]) hx hb dX1_count_84 hl (k := 5) rfl (nI_1 j) (by decide) rfl (fun ls hl => ?_)
              refine lv_goto (tgt := 10) hx hb dX1_count_87 (by decide) ?_
              exact ih (j + 1) (a1 + 1) (a2 + 1) (a3 + (fg j - 1)) ls (by omega) ((rn_fo_s (rn_g1_t (decide_eq_true (rn_nle0 c1)))).symm.trans h1) ((rn_fo_s (rn_g2_t (rn_b_ne c2))).symm.trans h2) ((rn_fo_s (rn_g3_m (hg0 j (by omega)) c3)).symm.trans h3) (lv_sub hl [4, 5, 3, 2, 1, 0] rfl)
  refine lv_iconst (v := nI 0) hx hb dX1_count_0 (by decide) ?_
  refine lv_istore_n (lv' := [(2, .int (nI 0)), (0, .ref h), (1, .int w)]) hx hb dX1_count_1 rfl hl (by decide) rfl (fun ls hl => ?_)
  refine lv_iconst (v := nI 0) hx hb dX1_count_2 (by decide) ?_
  refine lv_istore_n (lv' := [(3, .int (nI 0)), (2, .int (nI 0)), (0, .ref h), (1, .int w)]) hx hb dX1_count_3 rfl hl (by decide) rfl (fun ls hl => ?_)
  refine lv_iconst (v := nI 0) hx hb dX1_count_4 (by decide) ?_
  refine lv_istore (lv' := [(4, .int (nI 0)), (3, .int (nI 0)), (2, .int (nI 0)), (0, .ref h), (1, .int w)]) hx hb dX1_count_5 hl (by decide) rfl (fun ls hl => ?_)
  refine lv_iconst (v := nI 0) hx hb dX1_count_7 (by decide) ?_
  refine lv_istore (lv' := [(5, .int (nI 0)), (4, .int (nI 0)), (3, .int (nI 0)), (2, .int (nI 0)), (0, .ref h), (1, .int w)]) hx hb dX1_count_8 hl (by decide) rfl (fun ls hl => ?_)
  exact loop k 0 (nI 0) (nI 0) (nI 0) ls (by omega) rfl rfl rfl (lv_sub hl [4, 5, 3, 2, 1, 0] rfl)
